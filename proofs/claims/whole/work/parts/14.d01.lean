/-! X8_closeSum X8_closeClause X8_write X9_append X9_rewind X9_refuse X9_sign X9_takeSign X9_number X9_wordEnd X9_isHere X10_remember X10_takeBack X10_copyFrom X11_feed X11_end X11_force X11_thing X11_usual X11_person -/
theorem aX8_closeSum_0 : i_at mX8_closeSum.2.2.2.2.2 0 = some (.aload_n 0, 1, 0, 0, 0, 0) := by decide +kernel
theorem aX8_closeSum_1 : i_at mX8_closeSum.2.2.2.2.2 1 = some (.getfield 37, 3, 7, 6, 240, 0) := by decide +kernel
theorem aX8_closeSum_4 : i_at mX8_closeSum.2.2.2.2.2 4 = some (.bipush 12, 2, 0, 0, 0, 0) := by decide +kernel
theorem aX8_closeSum_6 : i_at mX8_closeSum.2.2.2.2.2 6 = some (.if_icmp .ge 16, 3, 22, 0, 0, 0) := by decide +kernel
theorem aX8_closeSum_9 : i_at mX8_closeSum.2.2.2.2.2 9 = some (.aload_n 0, 1, 0, 0, 0, 0) := by decide +kernel
theorem aX8_closeSum_10 : i_at mX8_closeSum.2.2.2.2.2 10 = some (.getfield 18, 3, 7, 3, 237, 0) := by decide +kernel
theorem aX8_closeSum_13 : i_at mX8_closeSum.2.2.2.2.2 13 = some (.aload_n 0, 1, 0, 0, 0, 0) := by decide +kernel
theorem aX8_closeSum_14 : i_at mX8_closeSum.2.2.2.2.2 14 = some (.getfield 37, 3, 7, 6, 240, 0) := by decide +kernel
theorem aX8_closeSum_17 : i_at mX8_closeSum.2.2.2.2.2 17 = some (.aload_n 0, 1, 0, 0, 0, 0) := by decide +kernel
theorem aX8_closeSum_18 : i_at mX8_closeSum.2.2.2.2.2 18 = some (.getfield 33, 3, 7, 5, 239, 0) := by decide +kernel
theorem aX8_closeSum_21 : i_at mX8_closeSum.2.2.2.2.2 21 = some (.iastore, 1, 0, 0, 0, 0) := by decide +kernel
theorem aX8_closeSum_22 : i_at mX8_closeSum.2.2.2.2.2 22 = some (.return_, 1, 0, 0, 0, 0) := by decide +kernel
noncomputable def fX8_closeSum_J22 (sh : List kd) (s51 : St) : Option (Unit × St) := some ((), s51)
noncomputable def fX8_closeSum (sh : List kd) (σ : St) : Option (Unit × St) := if 12 ≤ (σ.1 10 6) then fX8_closeSum_J22 sh σ else if i_ok (σ.1 10 6) 12 then fX8_closeSum_J22 sh (s_A σ 13 (σ.1 10 6).toNatClampNeg (σ.1 10 5)) else none
set_option maxRecDepth 20000 in
set_option maxHeartbeats 2000000 in
theorem tX8_closeSum_J22 {sh : List kd} {τ : St} {r : Unit} (hsh : cSh sh) {s51 : St} (hE : fX8_closeSum_J22 sh s51 = some (r, τ)) : g_R sh 0 mX8_closeSum none τ 22 [.ref 10] [] (s51) := by
  unfold fX8_closeSum_J22 at hE
  obtain ⟨rfl, rfl⟩ := i_some_inj hE
  exact g_vret aX8_closeSum_22 rfl
set_option maxRecDepth 20000 in
set_option maxHeartbeats 2000000 in
theorem tX8_closeSum {sh : List kd} {σ τ : St} {r : Unit} (hsh : cSh sh) (hE : fX8_closeSum sh σ = some (r, τ)) : i_X 1 65 [.ref 10] (s_h sh σ) 0 0 none (s_h sh τ) := by
  refine g_X (M := mX8_closeSum) (loc := [.ref 10]) rfl (Nat.le_of_ble_eq_true rfl) rfl ?_
  unfold fX8_closeSum at hE
  refine g_ldan aX8_closeSum_0 rfl ?_
  refine g_getI aX8_closeSum_1 (sC_10 hsh) rfl ?_
  refine g_bipush (x := 12) aX8_closeSum_4 rfl ?_
  by_cases hc52 : 12 ≤ (σ.1 10 6)
  · rw [if_pos hc52] at hE
    refine g_ic_ge_t aX8_closeSum_6 hc52 ?_
    exact tX8_closeSum_J22 hsh hE
  · rw [if_neg hc52] at hE
    refine g_ic_ge_f aX8_closeSum_6 hc52 ?_
    refine g_ldan aX8_closeSum_9 rfl ?_
    refine g_getR aX8_closeSum_10 (sC_10 hsh) rfl ?_
    refine g_ldan aX8_closeSum_13 rfl ?_
    refine g_getI aX8_closeSum_14 (sC_10 hsh) rfl ?_
    refine g_ldan aX8_closeSum_17 rfl ?_
    refine g_getI aX8_closeSum_18 (sC_10 hsh) rfl ?_
    obtain ⟨h53, hE⟩ := i_ifn hE
    refine g_ist aX8_closeSum_21 (sC_13 hsh) h53 ?_
    exact tX8_closeSum_J22 hsh hE
theorem aX8_closeClause_0 : i_at mX8_closeClause.2.2.2.2.2 0 = some (.aload_n 0, 1, 0, 0, 0, 0) := by decide +kernel
theorem aX8_closeClause_1 : i_at mX8_closeClause.2.2.2.2.2 1 = some (.getfield 37, 3, 7, 6, 240, 0) := by decide +kernel
theorem aX8_closeClause_4 : i_at mX8_closeClause.2.2.2.2.2 4 = some (.bipush 12, 2, 0, 0, 0, 0) := by decide +kernel
theorem aX8_closeClause_6 : i_at mX8_closeClause.2.2.2.2.2 6 = some (.if_icmp .ge 26, 3, 32, 0, 0, 0) := by decide +kernel
theorem aX8_closeClause_9 : i_at mX8_closeClause.2.2.2.2.2 9 = some (.aload_n 0, 1, 0, 0, 0, 0) := by decide +kernel
theorem aX8_closeClause_10 : i_at mX8_closeClause.2.2.2.2.2 10 = some (.getfield 21, 3, 7, 4, 238, 0) := by decide +kernel
theorem aX8_closeClause_13 : i_at mX8_closeClause.2.2.2.2.2 13 = some (.aload_n 0, 1, 0, 0, 0, 0) := by decide +kernel
theorem aX8_closeClause_14 : i_at mX8_closeClause.2.2.2.2.2 14 = some (.getfield 37, 3, 7, 6, 240, 0) := by decide +kernel
theorem aX8_closeClause_17 : i_at mX8_closeClause.2.2.2.2.2 17 = some (.aload_n 0, 1, 0, 0, 0, 0) := by decide +kernel
theorem aX8_closeClause_18 : i_at mX8_closeClause.2.2.2.2.2 18 = some (.getfield 33, 3, 7, 5, 239, 0) := by decide +kernel
theorem aX8_closeClause_21 : i_at mX8_closeClause.2.2.2.2.2 21 = some (.iastore, 1, 0, 0, 0, 0) := by decide +kernel
theorem aX8_closeClause_22 : i_at mX8_closeClause.2.2.2.2.2 22 = some (.aload_n 0, 1, 0, 0, 0, 0) := by decide +kernel
theorem aX8_closeClause_23 : i_at mX8_closeClause.2.2.2.2.2 23 = some (.dup, 1, 0, 0, 0, 0) := by decide +kernel
theorem aX8_closeClause_24 : i_at mX8_closeClause.2.2.2.2.2 24 = some (.getfield 37, 3, 7, 6, 240, 0) := by decide +kernel
theorem aX8_closeClause_27 : i_at mX8_closeClause.2.2.2.2.2 27 = some (.iconst 1, 1, 0, 0, 0, 0) := by decide +kernel
theorem aX8_closeClause_28 : i_at mX8_closeClause.2.2.2.2.2 28 = some (.iadd, 1, 0, 0, 0, 0) := by decide +kernel
theorem aX8_closeClause_29 : i_at mX8_closeClause.2.2.2.2.2 29 = some (.putfield 37, 3, 7, 6, 240, 0) := by decide +kernel
theorem aX8_closeClause_32 : i_at mX8_closeClause.2.2.2.2.2 32 = some (.return_, 1, 0, 0, 0, 0) := by decide +kernel
noncomputable def fX8_closeClause_J32 (sh : List kd) (s51 : St) : Option (Unit × St) := some ((), s51)
noncomputable def fX8_closeClause (sh : List kd) (σ : St) : Option (Unit × St) := if 12 ≤ (σ.1 10 6) then fX8_closeClause_J32 sh σ else if i_ok (σ.1 10 6) 12 then fX8_closeClause_J32 sh (s_F (s_A σ 14 (σ.1 10 6).toNatClampNeg (σ.1 10 5)) 10 6 (((s_A σ 14 (σ.1 10 6).toNatClampNeg (σ.1 10 5)).1 10 6) + 1)) else none
set_option maxRecDepth 20000 in
set_option maxHeartbeats 2000000 in
theorem tX8_closeClause_J32 {sh : List kd} {τ : St} {r : Unit} (hsh : cSh sh) {s51 : St} (hE : fX8_closeClause_J32 sh s51 = some (r, τ)) : g_R sh 0 mX8_closeClause none τ 32 [.ref 10] [] (s51) := by
  unfold fX8_closeClause_J32 at hE
  obtain ⟨rfl, rfl⟩ := i_some_inj hE
  exact g_vret aX8_closeClause_32 rfl
set_option maxRecDepth 20000 in
set_option maxHeartbeats 2000000 in
theorem tX8_closeClause {sh : List kd} {σ τ : St} {r : Unit} (hsh : cSh sh) (hE : fX8_closeClause sh σ = some (r, τ)) : i_X 1 66 [.ref 10] (s_h sh σ) 0 0 none (s_h sh τ) := by
  refine g_X (M := mX8_closeClause) (loc := [.ref 10]) rfl (Nat.le_of_ble_eq_true rfl) rfl ?_
  unfold fX8_closeClause at hE
  refine g_ldan aX8_closeClause_0 rfl ?_
  refine g_getI aX8_closeClause_1 (sC_10 hsh) rfl ?_
  refine g_bipush (x := 12) aX8_closeClause_4 rfl ?_
  by_cases hc52 : 12 ≤ (σ.1 10 6)
  · rw [if_pos hc52] at hE
    refine g_ic_ge_t aX8_closeClause_6 hc52 ?_
    exact tX8_closeClause_J32 hsh hE
  · rw [if_neg hc52] at hE
    refine g_ic_ge_f aX8_closeClause_6 hc52 ?_
    refine g_ldan aX8_closeClause_9 rfl ?_
    refine g_getR aX8_closeClause_10 (sC_10 hsh) rfl ?_
    refine g_ldan aX8_closeClause_13 rfl ?_
    refine g_getI aX8_closeClause_14 (sC_10 hsh) rfl ?_
    refine g_ldan aX8_closeClause_17 rfl ?_
    refine g_getI aX8_closeClause_18 (sC_10 hsh) rfl ?_
    obtain ⟨h53, hE⟩ := i_ifn hE
    refine g_ist aX8_closeClause_21 (sC_14 hsh) h53 ?_
    refine g_ldan aX8_closeClause_22 rfl ?_
    refine g_dupa aX8_closeClause_23 ?_
    refine g_getI aX8_closeClause_24 (sC_10 hsh) rfl ?_
    refine g_iconst (x := 1) aX8_closeClause_27 rfl ?_
    refine g_iadd aX8_closeClause_28 ?_
    refine g_putI aX8_closeClause_29 (sC_10 hsh) rfl rfl ?_
    exact tX8_closeClause_J32 hsh hE
theorem aX8_write_0 : i_at mX8_write.2.2.2.2.2 0 = some (.aload_n 0, 1, 0, 0, 0, 0) := by decide +kernel
theorem aX8_write_1 : i_at mX8_write.2.2.2.2.2 1 = some (.getfield 24, 3, 7, 0, 234, 0) := by decide +kernel
theorem aX8_write_4 : i_at mX8_write.2.2.2.2.2 4 = some (.getfield 65, 3, 8, 3, 135, 0) := by decide +kernel
theorem aX8_write_7 : i_at mX8_write.2.2.2.2.2 7 = some (.ifCond .ne 43, 3, 50, 0, 0, 0) := by decide +kernel
theorem aX8_write_10 : i_at mX8_write.2.2.2.2.2 10 = some (.aload_n 0, 1, 0, 0, 0, 0) := by decide +kernel
theorem aX8_write_11 : i_at mX8_write.2.2.2.2.2 11 = some (.getfield 33, 3, 7, 5, 239, 0) := by decide +kernel
theorem aX8_write_14 : i_at mX8_write.2.2.2.2.2 14 = some (.sipush 400, 3, 0, 0, 0, 0) := by decide +kernel
theorem aX8_write_17 : i_at mX8_write.2.2.2.2.2 17 = some (.if_icmp .ge 33, 3, 50, 0, 0, 0) := by decide +kernel
theorem aX8_write_20 : i_at mX8_write.2.2.2.2.2 20 = some (.aload_n 0, 1, 0, 0, 0, 0) := by decide +kernel
theorem aX8_write_21 : i_at mX8_write.2.2.2.2.2 21 = some (.getfield 9, 3, 7, 1, 235, 0) := by decide +kernel
theorem aX8_write_24 : i_at mX8_write.2.2.2.2.2 24 = some (.aload_n 0, 1, 0, 0, 0, 0) := by decide +kernel
theorem aX8_write_25 : i_at mX8_write.2.2.2.2.2 25 = some (.getfield 33, 3, 7, 5, 239, 0) := by decide +kernel
theorem aX8_write_28 : i_at mX8_write.2.2.2.2.2 28 = some (.iload_n 1, 1, 0, 0, 0, 0) := by decide +kernel
theorem aX8_write_29 : i_at mX8_write.2.2.2.2.2 29 = some (.iastore, 1, 0, 0, 0, 0) := by decide +kernel
theorem aX8_write_30 : i_at mX8_write.2.2.2.2.2 30 = some (.aload_n 0, 1, 0, 0, 0, 0) := by decide +kernel
theorem aX8_write_31 : i_at mX8_write.2.2.2.2.2 31 = some (.getfield 15, 3, 7, 2, 236, 0) := by decide +kernel
theorem aX8_write_34 : i_at mX8_write.2.2.2.2.2 34 = some (.aload_n 0, 1, 0, 0, 0, 0) := by decide +kernel
theorem aX8_write_35 : i_at mX8_write.2.2.2.2.2 35 = some (.getfield 33, 3, 7, 5, 239, 0) := by decide +kernel
theorem aX8_write_38 : i_at mX8_write.2.2.2.2.2 38 = some (.iload_n 2, 1, 0, 0, 0, 0) := by decide +kernel
theorem aX8_write_39 : i_at mX8_write.2.2.2.2.2 39 = some (.iastore, 1, 0, 0, 0, 0) := by decide +kernel
theorem aX8_write_40 : i_at mX8_write.2.2.2.2.2 40 = some (.aload_n 0, 1, 0, 0, 0, 0) := by decide +kernel
theorem aX8_write_41 : i_at mX8_write.2.2.2.2.2 41 = some (.dup, 1, 0, 0, 0, 0) := by decide +kernel
theorem aX8_write_42 : i_at mX8_write.2.2.2.2.2 42 = some (.getfield 33, 3, 7, 5, 239, 0) := by decide +kernel
theorem aX8_write_45 : i_at mX8_write.2.2.2.2.2 45 = some (.iconst 1, 1, 0, 0, 0, 0) := by decide +kernel
theorem aX8_write_46 : i_at mX8_write.2.2.2.2.2 46 = some (.iadd, 1, 0, 0, 0, 0) := by decide +kernel
theorem aX8_write_47 : i_at mX8_write.2.2.2.2.2 47 = some (.putfield 33, 3, 7, 5, 239, 0) := by decide +kernel
theorem aX8_write_50 : i_at mX8_write.2.2.2.2.2 50 = some (.return_, 1, 0, 0, 0, 0) := by decide +kernel
noncomputable def fX8_write_J50 (sh : List kd) (p1 : Int32) (p2 : Int32) (s51 : St) : Option (Unit × St) := some ((), s51)
noncomputable def fX8_write (sh : List kd) (σ : St) (p1 : Int32) (p2 : Int32) : Option (Unit × St) := if ¬ (σ.1 1 3) = 0 then fX8_write_J50 sh p1 p2 σ else if 400 ≤ (σ.1 10 5) then fX8_write_J50 sh p1 p2 σ else if i_ok (σ.1 10 5) 400 then if i_ok ((s_A σ 11 (σ.1 10 5).toNatClampNeg p1).1 10 5) 400 then i_jp (s_F (s_A (s_A σ 11 (σ.1 10 5).toNatClampNeg p1) 12 ((s_A σ 11 (σ.1 10 5).toNatClampNeg p1).1 10 5).toNatClampNeg p2) 10 5 (((s_A (s_A σ 11 (σ.1 10 5).toNatClampNeg p1) 12 ((s_A σ 11 (σ.1 10 5).toNatClampNeg p1).1 10 5).toNatClampNeg p2).1 10 5) + 1)) (fun (s56 : St) => fX8_write_J50 sh p1 p2 s56) else none else none
set_option maxRecDepth 20000 in
set_option maxHeartbeats 2000000 in
theorem tX8_write_J50 {sh : List kd} {τ : St} {r : Unit} (hsh : cSh sh) {p1 : Int32} {p2 : Int32} {s51 : St} (hE : fX8_write_J50 sh p1 p2 s51 = some (r, τ)) : g_R sh 0 mX8_write none τ 50 [.ref 10, .int p1, .int p2] [] (s51) := by
  unfold fX8_write_J50 at hE
  obtain ⟨rfl, rfl⟩ := i_some_inj hE
  exact g_vret aX8_write_50 rfl
set_option maxRecDepth 20000 in
set_option maxHeartbeats 2000000 in
theorem tX8_write {sh : List kd} {σ τ : St} {r : Unit} (hsh : cSh sh) {p1 : Int32} {p2 : Int32} (hE : fX8_write sh σ p1 p2 = some (r, τ)) : i_X 1 73 [.ref 10, .int p1, .int p2] (s_h sh σ) 0 0 none (s_h sh τ) := by
  refine g_X (M := mX8_write) (loc := [.ref 10, .int p1, .int p2]) rfl (Nat.le_of_ble_eq_true rfl) rfl ?_
  unfold fX8_write at hE
  refine g_ldan aX8_write_0 rfl ?_
  refine g_getR aX8_write_1 (sC_10 hsh) rfl ?_
  refine g_getI aX8_write_4 (sC_1 hsh) rfl ?_
  by_cases hc52 : ¬ (σ.1 1 3) = 0
  · rw [if_pos hc52] at hE
    refine g_if_ne_t aX8_write_7 hc52 ?_
    exact tX8_write_J50 hsh hE
  · rw [if_neg hc52] at hE
    refine g_if_ne_f aX8_write_7 hc52 ?_
    refine g_ldan aX8_write_10 rfl ?_
    refine g_getI aX8_write_11 (sC_10 hsh) rfl ?_
    refine g_sipush (x := 400) aX8_write_14 rfl ?_
    by_cases hc53 : 400 ≤ (σ.1 10 5)
    · rw [if_pos hc53] at hE
      refine g_ic_ge_t aX8_write_17 hc53 ?_
      exact tX8_write_J50 hsh hE
    · rw [if_neg hc53] at hE
      refine g_ic_ge_f aX8_write_17 hc53 ?_
      refine g_ldan aX8_write_20 rfl ?_
      refine g_getR aX8_write_21 (sC_10 hsh) rfl ?_
      refine g_ldan aX8_write_24 rfl ?_
      refine g_getI aX8_write_25 (sC_10 hsh) rfl ?_
      refine g_ldin aX8_write_28 rfl ?_
      obtain ⟨h54, hE⟩ := i_ifn hE
      refine g_ist aX8_write_29 (sC_11 hsh) h54 ?_
      refine g_ldan aX8_write_30 rfl ?_
      refine g_getR aX8_write_31 (sC_10 hsh) rfl ?_
      refine g_ldan aX8_write_34 rfl ?_
      refine g_getI aX8_write_35 (sC_10 hsh) rfl ?_
      refine g_ldin aX8_write_38 rfl ?_
      obtain ⟨h55, hE⟩ := i_ifn hE
      refine g_ist aX8_write_39 (sC_12 hsh) h55 ?_
      refine g_ldan aX8_write_40 rfl ?_
      refine g_dupa aX8_write_41 ?_
      refine g_getI aX8_write_42 (sC_10 hsh) rfl ?_
      refine g_iconst (x := 1) aX8_write_45 rfl ?_
      refine g_iadd aX8_write_46 ?_
      refine g_putI aX8_write_47 (sC_10 hsh) rfl rfl ?_
      obtain ⟨s56, h57, hE⟩ := i_jp_some hE
      rw [← h57]
      exact tX8_write_J50 hsh hE
theorem aX9_append_0 : i_at mX9_append.2.2.2.2.2 0 = some (.bipush 24, 2, 0, 0, 0, 0) := by decide +kernel
theorem aX9_append_2 : i_at mX9_append.2.2.2.2.2 2 = some (.istore_n 2, 1, 0, 0, 0, 0) := by decide +kernel
theorem aX9_append_3 : i_at mX9_append.2.2.2.2.2 3 = some (.iload_n 2, 1, 0, 0, 0, 0) := by decide +kernel
theorem aX9_append_4 : i_at mX9_append.2.2.2.2.2 4 = some (.ifCond .lt 45, 3, 49, 0, 0, 0) := by decide +kernel
theorem aX9_append_7 : i_at mX9_append.2.2.2.2.2 7 = some (.aload_n 0, 1, 0, 0, 0, 0) := by decide +kernel
theorem aX9_append_8 : i_at mX9_append.2.2.2.2.2 8 = some (.getfield 15, 3, 8, 1, 129, 0) := by decide +kernel
theorem aX9_append_11 : i_at mX9_append.2.2.2.2.2 11 = some (.sipush 400, 3, 0, 0, 0, 0) := by decide +kernel
theorem aX9_append_14 : i_at mX9_append.2.2.2.2.2 14 = some (.if_icmp .ge 35, 3, 49, 0, 0, 0) := by decide +kernel
theorem aX9_append_17 : i_at mX9_append.2.2.2.2.2 17 = some (.aload_n 0, 1, 0, 0, 0, 0) := by decide +kernel
theorem aX9_append_18 : i_at mX9_append.2.2.2.2.2 18 = some (.getfield 9, 3, 8, 0, 126, 0) := by decide +kernel
theorem aX9_append_21 : i_at mX9_append.2.2.2.2.2 21 = some (.aload_n 0, 1, 0, 0, 0, 0) := by decide +kernel
theorem aX9_append_22 : i_at mX9_append.2.2.2.2.2 22 = some (.getfield 15, 3, 8, 1, 129, 0) := by decide +kernel
theorem aX9_append_25 : i_at mX9_append.2.2.2.2.2 25 = some (.iload_n 1, 1, 0, 0, 0, 0) := by decide +kernel
theorem aX9_append_26 : i_at mX9_append.2.2.2.2.2 26 = some (.iload_n 2, 1, 0, 0, 0, 0) := by decide +kernel
theorem aX9_append_27 : i_at mX9_append.2.2.2.2.2 27 = some (.ishr, 1, 0, 0, 0, 0) := by decide +kernel
theorem aX9_append_28 : i_at mX9_append.2.2.2.2.2 28 = some (.sipush 255, 3, 0, 0, 0, 0) := by decide +kernel
theorem aX9_append_31 : i_at mX9_append.2.2.2.2.2 31 = some (.iand, 1, 0, 0, 0, 0) := by decide +kernel
theorem aX9_append_32 : i_at mX9_append.2.2.2.2.2 32 = some (.iastore, 1, 0, 0, 0, 0) := by decide +kernel
theorem aX9_append_33 : i_at mX9_append.2.2.2.2.2 33 = some (.aload_n 0, 1, 0, 0, 0, 0) := by decide +kernel
theorem aX9_append_34 : i_at mX9_append.2.2.2.2.2 34 = some (.dup, 1, 0, 0, 0, 0) := by decide +kernel
theorem aX9_append_35 : i_at mX9_append.2.2.2.2.2 35 = some (.getfield 15, 3, 8, 1, 129, 0) := by decide +kernel
theorem aX9_append_38 : i_at mX9_append.2.2.2.2.2 38 = some (.iconst 1, 1, 0, 0, 0, 0) := by decide +kernel
theorem aX9_append_39 : i_at mX9_append.2.2.2.2.2 39 = some (.iadd, 1, 0, 0, 0, 0) := by decide +kernel
theorem aX9_append_40 : i_at mX9_append.2.2.2.2.2 40 = some (.putfield 15, 3, 8, 1, 129, 0) := by decide +kernel
theorem aX9_append_43 : i_at mX9_append.2.2.2.2.2 43 = some (.iinc 2 (-8), 3, 0, 0, 0, 0) := by decide +kernel
theorem aX9_append_46 : i_at mX9_append.2.2.2.2.2 46 = some (.goto (-43), 3, 3, 0, 0, 0) := by decide +kernel
theorem aX9_append_49 : i_at mX9_append.2.2.2.2.2 49 = some (.return_, 1, 0, 0, 0, 0) := by decide +kernel
noncomputable def fX9_append_J49 (sh : List kd) (p1 : Int32) (x1 : Int32) (s2 : St) : Option (Unit × St) := some ((), s2)
noncomputable def fX9_append_L3 (sh : List kd) (p1 : Int32) : Nat → Int32 → St → Option (Unit × St)
  | 0, _, _ => none
  | n3 + 1, x1, s2 => if x1 < 0 then fX9_append_J49 sh p1 x1 s2 else if 400 ≤ (s2.1 1 1) then fX9_append_J49 sh p1 x1 s2 else if i_ok (s2.1 1 1) 400 then i_jp (s_F (s_A s2 2 (s2.1 1 1).toNatClampNeg ((p1 >>> (x1 &&& 31)) &&& 255)) 1 1 (((s_A s2 2 (s2.1 1 1).toNatClampNeg ((p1 >>> (x1 &&& 31)) &&& 255)).1 1 1) + 1)) (fun (s57 : St) => (fX9_append_L3 sh p1 n3 (x1 + (-8)) s57)) else none
noncomputable def fX9_append (sh : List kd) (σ : St) (p1 : Int32) : Option (Unit × St) := fX9_append_L3 sh p1 i_F 24 σ
set_option maxRecDepth 20000 in
set_option maxHeartbeats 2000000 in
theorem tX9_append_J49 {sh : List kd} {τ : St} {r : Unit} (hsh : cSh sh) {p1 : Int32} {x1 : Int32} {s2 : St} (hE : fX9_append_J49 sh p1 x1 s2 = some (r, τ)) : g_R sh 0 mX9_append none τ 49 [.ref 1, .int p1, .int x1] [] (s2) := by
  unfold fX9_append_J49 at hE
  obtain ⟨rfl, rfl⟩ := i_some_inj hE
  exact g_vret aX9_append_49 rfl
set_option maxRecDepth 20000 in
set_option maxHeartbeats 2000000 in
theorem tX9_append_L3 {sh : List kd} {τ : St} {r : Unit} (hsh : cSh sh) {p1 : Int32} : ∀ (n0 : Nat) (x1 : Int32) (s2 : St), fX9_append_L3 sh p1 n0 x1 s2 = some (r, τ) → g_R sh 0 mX9_append none τ 3 [.ref 1, .int p1, .int x1] [] (s2) := by
  intro n0
  induction n0 with
  | zero => intro _ _ hE; cases hE
  | succ n3 ih =>
    intro x1 s2 hE
    unfold fX9_append_L3 at hE
    refine g_ldin aX9_append_3 rfl ?_
    by_cases hc54 : x1 < 0
    · rw [if_pos hc54] at hE
      refine g_if_lt_t aX9_append_4 hc54 ?_
      exact tX9_append_J49 hsh hE
    · rw [if_neg hc54] at hE
      refine g_if_lt_f aX9_append_4 hc54 ?_
      refine g_ldan aX9_append_7 rfl ?_
      refine g_getI aX9_append_8 (sC_1 hsh) rfl ?_
      refine g_sipush (x := 400) aX9_append_11 rfl ?_
      by_cases hc55 : 400 ≤ (s2.1 1 1)
      · rw [if_pos hc55] at hE
        refine g_ic_ge_t aX9_append_14 hc55 ?_
        exact tX9_append_J49 hsh hE
      · rw [if_neg hc55] at hE
        refine g_ic_ge_f aX9_append_14 hc55 ?_
        refine g_ldan aX9_append_17 rfl ?_
        refine g_getR aX9_append_18 (sC_1 hsh) rfl ?_
        refine g_ldan aX9_append_21 rfl ?_
        refine g_getI aX9_append_22 (sC_1 hsh) rfl ?_
        refine g_ldin aX9_append_25 rfl ?_
        refine g_ldin aX9_append_26 rfl ?_
        refine g_ishr aX9_append_27 ?_
        refine g_sipush (x := 255) aX9_append_28 rfl ?_
        refine g_iand aX9_append_31 ?_
        obtain ⟨h56, hE⟩ := i_ifn hE
        refine g_ist aX9_append_32 (sC_2 hsh) h56 ?_
        refine g_ldan aX9_append_33 rfl ?_
        refine g_dupa aX9_append_34 ?_
        refine g_getI aX9_append_35 (sC_1 hsh) rfl ?_
        refine g_iconst (x := 1) aX9_append_38 rfl ?_
        refine g_iadd aX9_append_39 ?_
        refine g_putI aX9_append_40 (sC_1 hsh) rfl rfl ?_
        obtain ⟨s57, h58, hE⟩ := i_jp_some hE
        rw [← h58]
        refine g_iinc (y := (-8)) (loc2 := [.ref 1, .int p1, .int (x1 + (-8))]) aX9_append_43 rfl rfl rfl ?_
        refine g_goto aX9_append_46 ?_
        exact ih _ _ hE
set_option maxRecDepth 20000 in
set_option maxHeartbeats 2000000 in
theorem tX9_append {sh : List kd} {σ τ : St} {r : Unit} (hsh : cSh sh) {p1 : Int32} (hE : fX9_append sh σ p1 = some (r, τ)) : i_X 1 75 [.ref 1, .int p1] (s_h sh σ) 0 0 none (s_h sh τ) := by
  refine g_X (M := mX9_append) (loc := [.ref 1, .int p1, .retAddr 0]) rfl (Nat.le_of_ble_eq_true rfl) rfl ?_
  unfold fX9_append at hE
  refine g_bipush (x := 24) aX9_append_0 rfl ?_
  refine g_stin (loc2 := [.ref 1, .int p1, .int 24]) aX9_append_2 (Nat.le_of_ble_eq_true rfl) rfl ?_
  exact tX9_append_L3 hsh i_F _ _ hE
theorem aX9_rewind_0 : i_at mX9_rewind.2.2.2.2.2 0 = some (.aload_n 0, 1, 0, 0, 0, 0) := by decide +kernel
theorem aX9_rewind_1 : i_at mX9_rewind.2.2.2.2.2 1 = some (.iconst 0, 1, 0, 0, 0, 0) := by decide +kernel
theorem aX9_rewind_2 : i_at mX9_rewind.2.2.2.2.2 2 = some (.putfield 19, 3, 8, 2, 133, 0) := by decide +kernel
theorem aX9_rewind_5 : i_at mX9_rewind.2.2.2.2.2 5 = some (.aload_n 0, 1, 0, 0, 0, 0) := by decide +kernel
theorem aX9_rewind_6 : i_at mX9_rewind.2.2.2.2.2 6 = some (.iconst 0, 1, 0, 0, 0, 0) := by decide +kernel
theorem aX9_rewind_7 : i_at mX9_rewind.2.2.2.2.2 7 = some (.putfield 22, 3, 8, 3, 136, 0) := by decide +kernel
theorem aX9_rewind_10 : i_at mX9_rewind.2.2.2.2.2 10 = some (.return_, 1, 0, 0, 0, 0) := by decide +kernel
noncomputable def fX9_rewind (sh : List kd) (σ : St) : Option (Unit × St) := some ((), s_F (s_F σ 1 2 0) 1 3 0)
set_option maxRecDepth 20000 in
set_option maxHeartbeats 2000000 in
theorem tX9_rewind {sh : List kd} {σ τ : St} {r : Unit} (hsh : cSh sh) (hE : fX9_rewind sh σ = some (r, τ)) : i_X 1 76 [.ref 1] (s_h sh σ) 0 0 none (s_h sh τ) := by
  refine g_X (M := mX9_rewind) (loc := [.ref 1]) rfl (Nat.le_of_ble_eq_true rfl) rfl ?_
  unfold fX9_rewind at hE
  refine g_ldan aX9_rewind_0 rfl ?_
  refine g_iconst (x := 0) aX9_rewind_1 rfl ?_
  refine g_putI aX9_rewind_2 (sC_1 hsh) rfl rfl ?_
  refine g_ldan aX9_rewind_5 rfl ?_
  refine g_iconst (x := 0) aX9_rewind_6 rfl ?_
  refine g_putI aX9_rewind_7 (sC_1 hsh) rfl rfl ?_
  obtain ⟨rfl, rfl⟩ := i_some_inj hE
  exact g_vret aX9_rewind_10 rfl
theorem aX9_refuse_0 : i_at mX9_refuse.2.2.2.2.2 0 = some (.aload_n 0, 1, 0, 0, 0, 0) := by decide +kernel
theorem aX9_refuse_1 : i_at mX9_refuse.2.2.2.2.2 1 = some (.getfield 22, 3, 8, 3, 136, 0) := by decide +kernel
theorem aX9_refuse_4 : i_at mX9_refuse.2.2.2.2.2 4 = some (.ifCond .ne 15, 3, 19, 0, 0, 0) := by decide +kernel
theorem aX9_refuse_7 : i_at mX9_refuse.2.2.2.2.2 7 = some (.aload_n 0, 1, 0, 0, 0, 0) := by decide +kernel
theorem aX9_refuse_8 : i_at mX9_refuse.2.2.2.2.2 8 = some (.iconst 1, 1, 0, 0, 0, 0) := by decide +kernel
theorem aX9_refuse_9 : i_at mX9_refuse.2.2.2.2.2 9 = some (.bipush 8, 2, 0, 0, 0, 0) := by decide +kernel
theorem aX9_refuse_11 : i_at mX9_refuse.2.2.2.2.2 11 = some (.iload_n 1, 1, 0, 0, 0, 0) := by decide +kernel
theorem aX9_refuse_12 : i_at mX9_refuse.2.2.2.2.2 12 = some (.imul, 1, 0, 0, 0, 0) := by decide +kernel
theorem aX9_refuse_13 : i_at mX9_refuse.2.2.2.2.2 13 = some (.iadd, 1, 0, 0, 0, 0) := by decide +kernel
theorem aX9_refuse_14 : i_at mX9_refuse.2.2.2.2.2 14 = some (.iload_n 2, 1, 0, 0, 0, 0) := by decide +kernel
theorem aX9_refuse_15 : i_at mX9_refuse.2.2.2.2.2 15 = some (.iadd, 1, 0, 0, 0, 0) := by decide +kernel
theorem aX9_refuse_16 : i_at mX9_refuse.2.2.2.2.2 16 = some (.putfield 22, 3, 8, 3, 136, 0) := by decide +kernel
theorem aX9_refuse_19 : i_at mX9_refuse.2.2.2.2.2 19 = some (.return_, 1, 0, 0, 0, 0) := by decide +kernel
noncomputable def fX9_refuse_J19 (sh : List kd) (p1 : Int32) (p2 : Int32) (s51 : St) : Option (Unit × St) := some ((), s51)
noncomputable def fX9_refuse (sh : List kd) (σ : St) (p1 : Int32) (p2 : Int32) : Option (Unit × St) := if ¬ (σ.1 1 3) = 0 then fX9_refuse_J19 sh p1 p2 σ else fX9_refuse_J19 sh p1 p2 (s_F σ 1 3 ((1 + (8 * p1)) + p2))
set_option maxRecDepth 20000 in
set_option maxHeartbeats 2000000 in
theorem tX9_refuse_J19 {sh : List kd} {τ : St} {r : Unit} (hsh : cSh sh) {p1 : Int32} {p2 : Int32} {s51 : St} (hE : fX9_refuse_J19 sh p1 p2 s51 = some (r, τ)) : g_R sh 0 mX9_refuse none τ 19 [.ref 1, .int p1, .int p2] [] (s51) := by
  unfold fX9_refuse_J19 at hE
  obtain ⟨rfl, rfl⟩ := i_some_inj hE
  exact g_vret aX9_refuse_19 rfl
set_option maxRecDepth 20000 in
set_option maxHeartbeats 2000000 in
theorem tX9_refuse {sh : List kd} {σ τ : St} {r : Unit} (hsh : cSh sh) {p1 : Int32} {p2 : Int32} (hE : fX9_refuse sh σ p1 p2 = some (r, τ)) : i_X 1 77 [.ref 1, .int p1, .int p2] (s_h sh σ) 0 0 none (s_h sh τ) := by
  refine g_X (M := mX9_refuse) (loc := [.ref 1, .int p1, .int p2]) rfl (Nat.le_of_ble_eq_true rfl) rfl ?_
  unfold fX9_refuse at hE
  refine g_ldan aX9_refuse_0 rfl ?_
  refine g_getI aX9_refuse_1 (sC_1 hsh) rfl ?_
  by_cases hc52 : ¬ (σ.1 1 3) = 0
  · rw [if_pos hc52] at hE
    refine g_if_ne_t aX9_refuse_4 hc52 ?_
    exact tX9_refuse_J19 hsh hE
  · rw [if_neg hc52] at hE
    refine g_if_ne_f aX9_refuse_4 hc52 ?_
    refine g_ldan aX9_refuse_7 rfl ?_
    refine g_iconst (x := 1) aX9_refuse_8 rfl ?_
    refine g_bipush (x := 8) aX9_refuse_9 rfl ?_
    refine g_ldin aX9_refuse_11 rfl ?_
    refine g_imul aX9_refuse_12 ?_
    refine g_iadd aX9_refuse_13 ?_
    refine g_ldin aX9_refuse_14 rfl ?_
    refine g_iadd aX9_refuse_15 ?_
    refine g_putI aX9_refuse_16 (sC_1 hsh) rfl rfl ?_
    exact tX9_refuse_J19 hsh hE
theorem aX9_sign_0 : i_at mX9_sign.2.2.2.2.2 0 = some (.aload_n 0, 1, 0, 0, 0, 0) := by decide +kernel
theorem aX9_sign_1 : i_at mX9_sign.2.2.2.2.2 1 = some (.getfield 19, 3, 8, 2, 133, 0) := by decide +kernel
theorem aX9_sign_4 : i_at mX9_sign.2.2.2.2.2 4 = some (.aload_n 0, 1, 0, 0, 0, 0) := by decide +kernel
theorem aX9_sign_5 : i_at mX9_sign.2.2.2.2.2 5 = some (.getfield 15, 3, 8, 1, 129, 0) := by decide +kernel
theorem aX9_sign_8 : i_at mX9_sign.2.2.2.2.2 8 = some (.if_icmp .ge 30, 3, 38, 0, 0, 0) := by decide +kernel
theorem aX9_sign_11 : i_at mX9_sign.2.2.2.2.2 11 = some (.aload_n 0, 1, 0, 0, 0, 0) := by decide +kernel
theorem aX9_sign_12 : i_at mX9_sign.2.2.2.2.2 12 = some (.getfield 9, 3, 8, 0, 126, 0) := by decide +kernel
theorem aX9_sign_15 : i_at mX9_sign.2.2.2.2.2 15 = some (.aload_n 0, 1, 0, 0, 0, 0) := by decide +kernel
theorem aX9_sign_16 : i_at mX9_sign.2.2.2.2.2 16 = some (.getfield 19, 3, 8, 2, 133, 0) := by decide +kernel
theorem aX9_sign_19 : i_at mX9_sign.2.2.2.2.2 19 = some (.iaload, 1, 0, 0, 0, 0) := by decide +kernel
theorem aX9_sign_20 : i_at mX9_sign.2.2.2.2.2 20 = some (.bipush 32, 2, 0, 0, 0, 0) := by decide +kernel
theorem aX9_sign_22 : i_at mX9_sign.2.2.2.2.2 22 = some (.if_icmp .ne 16, 3, 38, 0, 0, 0) := by decide +kernel
theorem aX9_sign_25 : i_at mX9_sign.2.2.2.2.2 25 = some (.aload_n 0, 1, 0, 0, 0, 0) := by decide +kernel
theorem aX9_sign_26 : i_at mX9_sign.2.2.2.2.2 26 = some (.dup, 1, 0, 0, 0, 0) := by decide +kernel
theorem aX9_sign_27 : i_at mX9_sign.2.2.2.2.2 27 = some (.getfield 19, 3, 8, 2, 133, 0) := by decide +kernel
theorem aX9_sign_30 : i_at mX9_sign.2.2.2.2.2 30 = some (.iconst 1, 1, 0, 0, 0, 0) := by decide +kernel
theorem aX9_sign_31 : i_at mX9_sign.2.2.2.2.2 31 = some (.iadd, 1, 0, 0, 0, 0) := by decide +kernel
theorem aX9_sign_32 : i_at mX9_sign.2.2.2.2.2 32 = some (.putfield 19, 3, 8, 2, 133, 0) := by decide +kernel
theorem aX9_sign_35 : i_at mX9_sign.2.2.2.2.2 35 = some (.goto (-35), 3, 0, 0, 0, 0) := by decide +kernel
theorem aX9_sign_38 : i_at mX9_sign.2.2.2.2.2 38 = some (.aload_n 0, 1, 0, 0, 0, 0) := by decide +kernel
theorem aX9_sign_39 : i_at mX9_sign.2.2.2.2.2 39 = some (.getfield 19, 3, 8, 2, 133, 0) := by decide +kernel
theorem aX9_sign_42 : i_at mX9_sign.2.2.2.2.2 42 = some (.aload_n 0, 1, 0, 0, 0, 0) := by decide +kernel
theorem aX9_sign_43 : i_at mX9_sign.2.2.2.2.2 43 = some (.getfield 15, 3, 8, 1, 129, 0) := by decide +kernel
theorem aX9_sign_46 : i_at mX9_sign.2.2.2.2.2 46 = some (.if_icmp .ge 15, 3, 61, 0, 0, 0) := by decide +kernel
theorem aX9_sign_49 : i_at mX9_sign.2.2.2.2.2 49 = some (.aload_n 0, 1, 0, 0, 0, 0) := by decide +kernel
theorem aX9_sign_50 : i_at mX9_sign.2.2.2.2.2 50 = some (.getfield 9, 3, 8, 0, 126, 0) := by decide +kernel
theorem aX9_sign_53 : i_at mX9_sign.2.2.2.2.2 53 = some (.aload_n 0, 1, 0, 0, 0, 0) := by decide +kernel
theorem aX9_sign_54 : i_at mX9_sign.2.2.2.2.2 54 = some (.getfield 19, 3, 8, 2, 133, 0) := by decide +kernel
theorem aX9_sign_57 : i_at mX9_sign.2.2.2.2.2 57 = some (.iaload, 1, 0, 0, 0, 0) := by decide +kernel
theorem aX9_sign_58 : i_at mX9_sign.2.2.2.2.2 58 = some (.goto 4, 3, 62, 0, 0, 0) := by decide +kernel
theorem aX9_sign_61 : i_at mX9_sign.2.2.2.2.2 61 = some (.iconst (-1), 1, 0, 0, 0, 0) := by decide +kernel
theorem aX9_sign_62 : i_at mX9_sign.2.2.2.2.2 62 = some (.ireturn, 1, 0, 0, 0, 0) := by decide +kernel
noncomputable def fX9_sign_L0 (sh : List kd) (k38 : St → Option (Int32 × St)) : Nat → St → Option (Int32 × St)
  | 0, _ => none
  | n53 + 1, s1 => if (s1.1 1 1) ≤ (s1.1 1 2) then k38 s1 else if i_ok (s1.1 1 2) 400 then if ¬ (s1.2.1 2 (s1.1 1 2).toNatClampNeg) = 32 then k38 s1 else (fX9_sign_L0 sh k38 n53 (s_F s1 1 2 ((s1.1 1 2) + 1))) else none
noncomputable def fX9_sign_J62 (sh : List kd) (s52 : St) (x107 : Int32) : Option (Int32 × St) := some (x107, s52)
noncomputable def fX9_sign_X38 (sh : List kd) (s52 : St) : Option (Int32 × St) := if (s52.1 1 1) ≤ (s52.1 1 2) then fX9_sign_J62 sh s52 (-1) else if i_ok (s52.1 1 2) 400 then fX9_sign_J62 sh s52 (s52.2.1 2 (s52.1 1 2).toNatClampNeg) else none
noncomputable def fX9_sign (sh : List kd) (σ : St) : Option (Int32 × St) := fX9_sign_L0 sh (fun (s52 : St) => fX9_sign_X38 sh s52) i_F σ
set_option maxRecDepth 20000 in
set_option maxHeartbeats 2000000 in
theorem tX9_sign_L0 {sh : List kd} {τ : St} {r : Int32} (hsh : cSh sh) {k38 : St → Option (Int32 × St)} (hk38 : ∀ (s52 : St), k38 s52 = some (r, τ) → g_R sh 0 mX9_sign (some (.int r)) τ 38 [.ref 1] [] (s52)) : ∀ (n0 : Nat) (s1 : St), fX9_sign_L0 sh k38 n0 s1 = some (r, τ) → g_R sh 0 mX9_sign (some (.int r)) τ 0 [.ref 1] [] (s1) := by
  intro n0
  induction n0 with
  | zero => intro _ hE; cases hE
  | succ n53 ih =>
    intro s1 hE
    unfold fX9_sign_L0 at hE
    refine g_ldan aX9_sign_0 rfl ?_
    refine g_getI aX9_sign_1 (sC_1 hsh) rfl ?_
    refine g_ldan aX9_sign_4 rfl ?_
    refine g_getI aX9_sign_5 (sC_1 hsh) rfl ?_
    by_cases hc54 : (s1.1 1 1) ≤ (s1.1 1 2)
    · rw [if_pos hc54] at hE
      refine g_ic_ge_t aX9_sign_8 hc54 ?_
      exact hk38 _ hE
    · rw [if_neg hc54] at hE
      refine g_ic_ge_f aX9_sign_8 hc54 ?_
      refine g_ldan aX9_sign_11 rfl ?_
      refine g_getR aX9_sign_12 (sC_1 hsh) rfl ?_
      refine g_ldan aX9_sign_15 rfl ?_
      refine g_getI aX9_sign_16 (sC_1 hsh) rfl ?_
      obtain ⟨h55, hE⟩ := i_ifn hE
      refine g_ild aX9_sign_19 (sC_2 hsh) h55 ?_
      refine g_bipush (x := 32) aX9_sign_20 rfl ?_
      by_cases hc56 : ¬ (s1.2.1 2 (s1.1 1 2).toNatClampNeg) = 32
      · rw [if_pos hc56] at hE
        refine g_ic_ne_t aX9_sign_22 hc56 ?_
        exact hk38 _ hE
      · rw [if_neg hc56] at hE
        refine g_ic_ne_f aX9_sign_22 hc56 ?_
        refine g_ldan aX9_sign_25 rfl ?_
        refine g_dupa aX9_sign_26 ?_
        refine g_getI aX9_sign_27 (sC_1 hsh) rfl ?_
        refine g_iconst (x := 1) aX9_sign_30 rfl ?_
        refine g_iadd aX9_sign_31 ?_
        refine g_putI aX9_sign_32 (sC_1 hsh) rfl rfl ?_
        refine g_goto aX9_sign_35 ?_
        exact ih _ hE
set_option maxRecDepth 20000 in
set_option maxHeartbeats 2000000 in
theorem tX9_sign_J62 {sh : List kd} {τ : St} {r : Int32} (hsh : cSh sh) {s52 : St} {x107 : Int32} (hE : fX9_sign_J62 sh s52 x107 = some (r, τ)) : g_R sh 0 mX9_sign (some (.int r)) τ 62 [.ref 1] [.int x107] (s52) := by
  unfold fX9_sign_J62 at hE
  obtain ⟨rfl, rfl⟩ := i_some_inj hE
  exact g_iret aX9_sign_62 rfl rfl
set_option maxRecDepth 20000 in
set_option maxHeartbeats 2000000 in
theorem tX9_sign_X38 {sh : List kd} {τ : St} {r : Int32} (hsh : cSh sh) {s52 : St} (hE : fX9_sign_X38 sh s52 = some (r, τ)) : g_R sh 0 mX9_sign (some (.int r)) τ 38 [.ref 1] [] (s52) := by
  unfold fX9_sign_X38 at hE
  refine g_ldan aX9_sign_38 rfl ?_
  refine g_getI aX9_sign_39 (sC_1 hsh) rfl ?_
  refine g_ldan aX9_sign_42 rfl ?_
  refine g_getI aX9_sign_43 (sC_1 hsh) rfl ?_
  by_cases hc108 : (s52.1 1 1) ≤ (s52.1 1 2)
  · rw [if_pos hc108] at hE
    refine g_ic_ge_t aX9_sign_46 hc108 ?_
    refine g_iconst (x := (-1)) aX9_sign_61 rfl ?_
    exact tX9_sign_J62 hsh hE
  · rw [if_neg hc108] at hE
    refine g_ic_ge_f aX9_sign_46 hc108 ?_
    refine g_ldan aX9_sign_49 rfl ?_
    refine g_getR aX9_sign_50 (sC_1 hsh) rfl ?_
    refine g_ldan aX9_sign_53 rfl ?_
    refine g_getI aX9_sign_54 (sC_1 hsh) rfl ?_
    obtain ⟨h109, hE⟩ := i_ifn hE
    refine g_ild aX9_sign_57 (sC_2 hsh) h109 ?_
    refine g_goto aX9_sign_58 ?_
    exact tX9_sign_J62 hsh hE
set_option maxRecDepth 20000 in
set_option maxHeartbeats 2000000 in
theorem tX9_sign {sh : List kd} {σ τ : St} {r : Int32} (hsh : cSh sh) (hE : fX9_sign sh σ = some (r, τ)) : i_X 1 78 [.ref 1] (s_h sh σ) 0 0 (some (.int r)) (s_h sh τ) := by
  refine g_X (M := mX9_sign) (loc := [.ref 1]) rfl (Nat.le_of_ble_eq_true rfl) rfl ?_
  unfold fX9_sign at hE
  exact tX9_sign_L0 hsh (fun s52 hE => tX9_sign_X38 hsh hE) i_F _ hE
theorem aX9_takeSign_0 : i_at mX9_takeSign.2.2.2.2.2 0 = some (.aload_n 0, 1, 0, 0, 0, 0) := by decide +kernel
theorem aX9_takeSign_1 : i_at mX9_takeSign.2.2.2.2.2 1 = some (.getfield 22, 3, 8, 3, 136, 0) := by decide +kernel
theorem aX9_takeSign_4 : i_at mX9_takeSign.2.2.2.2.2 4 = some (.ifCond .ne 11, 3, 15, 0, 0, 0) := by decide +kernel
theorem aX9_takeSign_7 : i_at mX9_takeSign.2.2.2.2.2 7 = some (.aload_n 0, 1, 0, 0, 0, 0) := by decide +kernel
theorem aX9_takeSign_8 : i_at mX9_takeSign.2.2.2.2.2 8 = some (.invokevirtual 25, 3, 78, 0, 528, 0) := by decide +kernel
theorem aX9_takeSign_11 : i_at mX9_takeSign.2.2.2.2.2 11 = some (.iload_n 1, 1, 0, 0, 0, 0) := by decide +kernel
theorem aX9_takeSign_12 : i_at mX9_takeSign.2.2.2.2.2 12 = some (.if_icmp .eq 5, 3, 17, 0, 0, 0) := by decide +kernel
theorem aX9_takeSign_15 : i_at mX9_takeSign.2.2.2.2.2 15 = some (.iconst 0, 1, 0, 0, 0, 0) := by decide +kernel
theorem aX9_takeSign_16 : i_at mX9_takeSign.2.2.2.2.2 16 = some (.ireturn, 1, 0, 0, 0, 0) := by decide +kernel
theorem aX9_takeSign_17 : i_at mX9_takeSign.2.2.2.2.2 17 = some (.aload_n 0, 1, 0, 0, 0, 0) := by decide +kernel
theorem aX9_takeSign_18 : i_at mX9_takeSign.2.2.2.2.2 18 = some (.dup, 1, 0, 0, 0, 0) := by decide +kernel
theorem aX9_takeSign_19 : i_at mX9_takeSign.2.2.2.2.2 19 = some (.getfield 19, 3, 8, 2, 133, 0) := by decide +kernel
theorem aX9_takeSign_22 : i_at mX9_takeSign.2.2.2.2.2 22 = some (.iconst 1, 1, 0, 0, 0, 0) := by decide +kernel
theorem aX9_takeSign_23 : i_at mX9_takeSign.2.2.2.2.2 23 = some (.iadd, 1, 0, 0, 0, 0) := by decide +kernel
theorem aX9_takeSign_24 : i_at mX9_takeSign.2.2.2.2.2 24 = some (.putfield 19, 3, 8, 2, 133, 0) := by decide +kernel
theorem aX9_takeSign_27 : i_at mX9_takeSign.2.2.2.2.2 27 = some (.iconst 1, 1, 0, 0, 0, 0) := by decide +kernel
theorem aX9_takeSign_28 : i_at mX9_takeSign.2.2.2.2.2 28 = some (.ireturn, 1, 0, 0, 0, 0) := by decide +kernel
noncomputable def fX9_takeSign (sh : List kd) (σ : St) (p1 : Int32) : Option (Int32 × St) := if ¬ (σ.1 1 3) = 0 then some (0, σ) else i_bd (fX9_sign sh σ) (fun r2 s3 => if r2 = p1 then some (1, s_F s3 1 2 ((s3.1 1 2) + 1)) else some (0, s3))
set_option maxRecDepth 20000 in
set_option maxHeartbeats 2000000 in
theorem tX9_takeSign {sh : List kd} {σ τ : St} {r : Int32} (hsh : cSh sh) {p1 : Int32} (hE : fX9_takeSign sh σ p1 = some (r, τ)) : i_X 2 79 [.ref 1, .int p1] (s_h sh σ) 0 0 (some (.int r)) (s_h sh τ) := by
  refine g_X (M := mX9_takeSign) (loc := [.ref 1, .int p1]) rfl (Nat.le_of_ble_eq_true rfl) rfl ?_
  unfold fX9_takeSign at hE
  refine g_ldan aX9_takeSign_0 rfl ?_
  refine g_getI aX9_takeSign_1 (sC_1 hsh) rfl ?_
  by_cases hc1 : ¬ (σ.1 1 3) = 0
  · rw [if_pos hc1] at hE
    refine g_if_ne_t aX9_takeSign_4 hc1 ?_
    refine g_iconst (x := 0) aX9_takeSign_15 rfl ?_
    obtain ⟨rfl, rfl⟩ := i_some_inj hE
    exact g_iret aX9_takeSign_16 rfl rfl
  · rw [if_neg hc1] at hE
    refine g_if_ne_f aX9_takeSign_4 hc1 ?_
    refine g_ldan aX9_takeSign_7 rfl ?_
    obtain ⟨r2, s3, h4, hE⟩ := i_bd_some hE
    refine g_calV (As := []) (rest := []) aX9_takeSign_8 (i_X_mono (by omega) (tX9_sign hsh h4)) (sC_1 hsh) (by decide +kernel) rfl rfl (Nat.le_of_ble_eq_true rfl) rfl ?_
    refine g_ldin aX9_takeSign_11 rfl ?_
    by_cases hc5 : r2 = p1
    · rw [if_pos hc5] at hE
      refine g_ic_eq_t aX9_takeSign_12 hc5 ?_
      refine g_ldan aX9_takeSign_17 rfl ?_
      refine g_dupa aX9_takeSign_18 ?_
      refine g_getI aX9_takeSign_19 (sC_1 hsh) rfl ?_
      refine g_iconst (x := 1) aX9_takeSign_22 rfl ?_
      refine g_iadd aX9_takeSign_23 ?_
      refine g_putI aX9_takeSign_24 (sC_1 hsh) rfl rfl ?_
      refine g_iconst (x := 1) aX9_takeSign_27 rfl ?_
      obtain ⟨rfl, rfl⟩ := i_some_inj hE
      exact g_iret aX9_takeSign_28 rfl rfl
    · rw [if_neg hc5] at hE
      refine g_ic_eq_f aX9_takeSign_12 hc5 ?_
      refine g_iconst (x := 0) aX9_takeSign_15 rfl ?_
      obtain ⟨rfl, rfl⟩ := i_some_inj hE
      exact g_iret aX9_takeSign_16 rfl rfl
theorem aX9_number_0 : i_at mX9_number.2.2.2.2.2 0 = some (.aload_n 0, 1, 0, 0, 0, 0) := by decide +kernel
theorem aX9_number_1 : i_at mX9_number.2.2.2.2.2 1 = some (.invokevirtual 25, 3, 78, 0, 528, 0) := by decide +kernel
theorem aX9_number_4 : i_at mX9_number.2.2.2.2.2 4 = some (.pop, 1, 0, 0, 0, 0) := by decide +kernel
theorem aX9_number_5 : i_at mX9_number.2.2.2.2.2 5 = some (.aload_n 0, 1, 0, 0, 0, 0) := by decide +kernel
theorem aX9_number_6 : i_at mX9_number.2.2.2.2.2 6 = some (.getfield 19, 3, 8, 2, 133, 0) := by decide +kernel
theorem aX9_number_9 : i_at mX9_number.2.2.2.2.2 9 = some (.istore_n 3, 1, 0, 0, 0, 0) := by decide +kernel
theorem aX9_number_10 : i_at mX9_number.2.2.2.2.2 10 = some (.iconst 0, 1, 0, 0, 0, 0) := by decide +kernel
theorem aX9_number_11 : i_at mX9_number.2.2.2.2.2 11 = some (.istore 4, 2, 0, 0, 0, 0) := by decide +kernel
theorem aX9_number_13 : i_at mX9_number.2.2.2.2.2 13 = some (.aload_n 0, 1, 0, 0, 0, 0) := by decide +kernel
theorem aX9_number_14 : i_at mX9_number.2.2.2.2.2 14 = some (.getfield 19, 3, 8, 2, 133, 0) := by decide +kernel
theorem aX9_number_17 : i_at mX9_number.2.2.2.2.2 17 = some (.aload_n 0, 1, 0, 0, 0, 0) := by decide +kernel
theorem aX9_number_18 : i_at mX9_number.2.2.2.2.2 18 = some (.getfield 15, 3, 8, 1, 129, 0) := by decide +kernel
theorem aX9_number_21 : i_at mX9_number.2.2.2.2.2 21 = some (.if_icmp .ge 74, 3, 95, 0, 0, 0) := by decide +kernel
theorem aX9_number_24 : i_at mX9_number.2.2.2.2.2 24 = some (.aload_n 0, 1, 0, 0, 0, 0) := by decide +kernel
theorem aX9_number_25 : i_at mX9_number.2.2.2.2.2 25 = some (.getfield 9, 3, 8, 0, 126, 0) := by decide +kernel
theorem aX9_number_28 : i_at mX9_number.2.2.2.2.2 28 = some (.aload_n 0, 1, 0, 0, 0, 0) := by decide +kernel
theorem aX9_number_29 : i_at mX9_number.2.2.2.2.2 29 = some (.getfield 19, 3, 8, 2, 133, 0) := by decide +kernel
theorem aX9_number_32 : i_at mX9_number.2.2.2.2.2 32 = some (.iaload, 1, 0, 0, 0, 0) := by decide +kernel
theorem aX9_number_33 : i_at mX9_number.2.2.2.2.2 33 = some (.bipush 48, 2, 0, 0, 0, 0) := by decide +kernel
theorem aX9_number_35 : i_at mX9_number.2.2.2.2.2 35 = some (.if_icmp .lt 60, 3, 95, 0, 0, 0) := by decide +kernel
theorem aX9_number_38 : i_at mX9_number.2.2.2.2.2 38 = some (.aload_n 0, 1, 0, 0, 0, 0) := by decide +kernel
theorem aX9_number_39 : i_at mX9_number.2.2.2.2.2 39 = some (.getfield 9, 3, 8, 0, 126, 0) := by decide +kernel
theorem aX9_number_42 : i_at mX9_number.2.2.2.2.2 42 = some (.aload_n 0, 1, 0, 0, 0, 0) := by decide +kernel
theorem aX9_number_43 : i_at mX9_number.2.2.2.2.2 43 = some (.getfield 19, 3, 8, 2, 133, 0) := by decide +kernel
theorem aX9_number_46 : i_at mX9_number.2.2.2.2.2 46 = some (.iaload, 1, 0, 0, 0, 0) := by decide +kernel
theorem aX9_number_47 : i_at mX9_number.2.2.2.2.2 47 = some (.bipush 57, 2, 0, 0, 0, 0) := by decide +kernel
theorem aX9_number_49 : i_at mX9_number.2.2.2.2.2 49 = some (.if_icmp .gt 46, 3, 95, 0, 0, 0) := by decide +kernel
theorem aX9_number_52 : i_at mX9_number.2.2.2.2.2 52 = some (.aload_n 0, 1, 0, 0, 0, 0) := by decide +kernel
theorem aX9_number_53 : i_at mX9_number.2.2.2.2.2 53 = some (.getfield 19, 3, 8, 2, 133, 0) := by decide +kernel
theorem aX9_number_56 : i_at mX9_number.2.2.2.2.2 56 = some (.iload_n 3, 1, 0, 0, 0, 0) := by decide +kernel
theorem aX9_number_57 : i_at mX9_number.2.2.2.2.2 57 = some (.isub, 1, 0, 0, 0, 0) := by decide +kernel
theorem aX9_number_58 : i_at mX9_number.2.2.2.2.2 58 = some (.iconst 5, 1, 0, 0, 0, 0) := by decide +kernel
theorem aX9_number_59 : i_at mX9_number.2.2.2.2.2 59 = some (.if_icmp .ge 23, 3, 82, 0, 0, 0) := by decide +kernel
theorem aX9_number_62 : i_at mX9_number.2.2.2.2.2 62 = some (.iload 4, 2, 0, 0, 0, 0) := by decide +kernel
theorem aX9_number_64 : i_at mX9_number.2.2.2.2.2 64 = some (.bipush 10, 2, 0, 0, 0, 0) := by decide +kernel
theorem aX9_number_66 : i_at mX9_number.2.2.2.2.2 66 = some (.imul, 1, 0, 0, 0, 0) := by decide +kernel
theorem aX9_number_67 : i_at mX9_number.2.2.2.2.2 67 = some (.aload_n 0, 1, 0, 0, 0, 0) := by decide +kernel
theorem aX9_number_68 : i_at mX9_number.2.2.2.2.2 68 = some (.getfield 9, 3, 8, 0, 126, 0) := by decide +kernel
theorem aX9_number_71 : i_at mX9_number.2.2.2.2.2 71 = some (.aload_n 0, 1, 0, 0, 0, 0) := by decide +kernel
theorem aX9_number_72 : i_at mX9_number.2.2.2.2.2 72 = some (.getfield 19, 3, 8, 2, 133, 0) := by decide +kernel
theorem aX9_number_75 : i_at mX9_number.2.2.2.2.2 75 = some (.iaload, 1, 0, 0, 0, 0) := by decide +kernel
theorem aX9_number_76 : i_at mX9_number.2.2.2.2.2 76 = some (.iadd, 1, 0, 0, 0, 0) := by decide +kernel
theorem aX9_number_77 : i_at mX9_number.2.2.2.2.2 77 = some (.bipush 48, 2, 0, 0, 0, 0) := by decide +kernel
theorem aX9_number_79 : i_at mX9_number.2.2.2.2.2 79 = some (.isub, 1, 0, 0, 0, 0) := by decide +kernel
theorem aX9_number_80 : i_at mX9_number.2.2.2.2.2 80 = some (.istore 4, 2, 0, 0, 0, 0) := by decide +kernel
theorem aX9_number_82 : i_at mX9_number.2.2.2.2.2 82 = some (.aload_n 0, 1, 0, 0, 0, 0) := by decide +kernel
theorem aX9_number_83 : i_at mX9_number.2.2.2.2.2 83 = some (.dup, 1, 0, 0, 0, 0) := by decide +kernel
theorem aX9_number_84 : i_at mX9_number.2.2.2.2.2 84 = some (.getfield 19, 3, 8, 2, 133, 0) := by decide +kernel
theorem aX9_number_87 : i_at mX9_number.2.2.2.2.2 87 = some (.iconst 1, 1, 0, 0, 0, 0) := by decide +kernel
theorem aX9_number_88 : i_at mX9_number.2.2.2.2.2 88 = some (.iadd, 1, 0, 0, 0, 0) := by decide +kernel
theorem aX9_number_89 : i_at mX9_number.2.2.2.2.2 89 = some (.putfield 19, 3, 8, 2, 133, 0) := by decide +kernel
theorem aX9_number_92 : i_at mX9_number.2.2.2.2.2 92 = some (.goto (-79), 3, 13, 0, 0, 0) := by decide +kernel
theorem aX9_number_95 : i_at mX9_number.2.2.2.2.2 95 = some (.aload_n 0, 1, 0, 0, 0, 0) := by decide +kernel
theorem aX9_number_96 : i_at mX9_number.2.2.2.2.2 96 = some (.getfield 19, 3, 8, 2, 133, 0) := by decide +kernel
theorem aX9_number_99 : i_at mX9_number.2.2.2.2.2 99 = some (.iload_n 3, 1, 0, 0, 0, 0) := by decide +kernel
theorem aX9_number_100 : i_at mX9_number.2.2.2.2.2 100 = some (.if_icmp .ne 12, 3, 112, 0, 0, 0) := by decide +kernel
theorem aX9_number_103 : i_at mX9_number.2.2.2.2.2 103 = some (.aload_n 0, 1, 0, 0, 0, 0) := by decide +kernel
theorem aX9_number_104 : i_at mX9_number.2.2.2.2.2 104 = some (.iload_n 3, 1, 0, 0, 0, 0) := by decide +kernel
theorem aX9_number_105 : i_at mX9_number.2.2.2.2.2 105 = some (.iconst 0, 1, 0, 0, 0, 0) := by decide +kernel
theorem aX9_number_106 : i_at mX9_number.2.2.2.2.2 106 = some (.invokevirtual 29, 3, 77, 2, 608, 0) := by decide +kernel
theorem aX9_number_109 : i_at mX9_number.2.2.2.2.2 109 = some (.goto 31, 3, 140, 0, 0, 0) := by decide +kernel
theorem aX9_number_112 : i_at mX9_number.2.2.2.2.2 112 = some (.aload_n 0, 1, 0, 0, 0, 0) := by decide +kernel
theorem aX9_number_113 : i_at mX9_number.2.2.2.2.2 113 = some (.getfield 19, 3, 8, 2, 133, 0) := by decide +kernel
theorem aX9_number_116 : i_at mX9_number.2.2.2.2.2 116 = some (.iload_n 3, 1, 0, 0, 0, 0) := by decide +kernel
theorem aX9_number_117 : i_at mX9_number.2.2.2.2.2 117 = some (.isub, 1, 0, 0, 0, 0) := by decide +kernel
theorem aX9_number_118 : i_at mX9_number.2.2.2.2.2 118 = some (.iconst 5, 1, 0, 0, 0, 0) := by decide +kernel
theorem aX9_number_119 : i_at mX9_number.2.2.2.2.2 119 = some (.if_icmp .gt 15, 3, 134, 0, 0, 0) := by decide +kernel
theorem aX9_number_122 : i_at mX9_number.2.2.2.2.2 122 = some (.iload 4, 2, 0, 0, 0, 0) := by decide +kernel
theorem aX9_number_124 : i_at mX9_number.2.2.2.2.2 124 = some (.iload_n 1, 1, 0, 0, 0, 0) := by decide +kernel
theorem aX9_number_125 : i_at mX9_number.2.2.2.2.2 125 = some (.if_icmp .lt 9, 3, 134, 0, 0, 0) := by decide +kernel
theorem aX9_number_128 : i_at mX9_number.2.2.2.2.2 128 = some (.iload 4, 2, 0, 0, 0, 0) := by decide +kernel
theorem aX9_number_130 : i_at mX9_number.2.2.2.2.2 130 = some (.iload_n 2, 1, 0, 0, 0, 0) := by decide +kernel
theorem aX9_number_131 : i_at mX9_number.2.2.2.2.2 131 = some (.if_icmp .le 9, 3, 140, 0, 0, 0) := by decide +kernel
theorem aX9_number_134 : i_at mX9_number.2.2.2.2.2 134 = some (.aload_n 0, 1, 0, 0, 0, 0) := by decide +kernel
theorem aX9_number_135 : i_at mX9_number.2.2.2.2.2 135 = some (.iload_n 3, 1, 0, 0, 0, 0) := by decide +kernel
theorem aX9_number_136 : i_at mX9_number.2.2.2.2.2 136 = some (.iconst 1, 1, 0, 0, 0, 0) := by decide +kernel
theorem aX9_number_137 : i_at mX9_number.2.2.2.2.2 137 = some (.invokevirtual 29, 3, 77, 2, 608, 0) := by decide +kernel
theorem aX9_number_140 : i_at mX9_number.2.2.2.2.2 140 = some (.iload 4, 2, 0, 0, 0, 0) := by decide +kernel
theorem aX9_number_142 : i_at mX9_number.2.2.2.2.2 142 = some (.ireturn, 1, 0, 0, 0, 0) := by decide +kernel
noncomputable def fX9_number_J82 (sh : List kd) (p1 : Int32) (p2 : Int32) (s2 : St) (s5 : St) (k13 : Int32 → St → Option (Int32 × St)) (x114 : Int32) : Option (Int32 × St) := k13 x114 (s_F s5 1 2 ((s5.1 1 2) + 1))
noncomputable def fX9_number_L13 (sh : List kd) (p1 : Int32) (p2 : Int32) (s2 : St) (k95 : Int32 → St → Option (Int32 × St)) : Nat → Int32 → St → Option (Int32 × St)
  | 0, _, _ => none
  | n58 + 1, x4, s5 => if (s5.1 1 1) ≤ (s5.1 1 2) then k95 x4 s5 else if i_ok (s5.1 1 2) 400 then if (s5.2.1 2 (s5.1 1 2).toNatClampNeg) < 48 then k95 x4 s5 else if i_ok (s5.1 1 2) 400 then if 57 < (s5.2.1 2 (s5.1 1 2).toNatClampNeg) then k95 x4 s5 else if 5 ≤ ((s5.1 1 2) - (s2.1 1 2)) then fX9_number_J82 sh p1 p2 s2 s5 (fX9_number_L13 sh p1 p2 s2 k95 n58) x4 else if i_ok (s5.1 1 2) 400 then fX9_number_J82 sh p1 p2 s2 s5 (fX9_number_L13 sh p1 p2 s2 k95 n58) (((x4 * 10) + (s5.2.1 2 (s5.1 1 2).toNatClampNeg)) - 48) else none else none else none
noncomputable def fX9_number_J140 (sh : List kd) (p1 : Int32) (p2 : Int32) (s2 : St) (x56 : Int32) (s167 : St) : Option (Int32 × St) := some (x56, s167)
noncomputable def fX9_number_X95 (sh : List kd) (p1 : Int32) (p2 : Int32) (s2 : St) (x56 : Int32) (s57 : St) : Option (Int32 × St) := if ¬ (s57.1 1 2) = (s2.1 1 2) then if 5 < ((s57.1 1 2) - (s2.1 1 2)) then i_bd (fX9_refuse sh s57 (s2.1 1 2) 1) (fun r170 s171 => fX9_number_J140 sh p1 p2 s2 x56 s171) else if x56 < p1 then i_bd (fX9_refuse sh s57 (s2.1 1 2) 1) (fun r174 s175 => fX9_number_J140 sh p1 p2 s2 x56 s175) else if x56 ≤ p2 then fX9_number_J140 sh p1 p2 s2 x56 s57 else i_bd (fX9_refuse sh s57 (s2.1 1 2) 1) (fun r178 s179 => fX9_number_J140 sh p1 p2 s2 x56 s179) else i_bd (fX9_refuse sh s57 (s2.1 1 2) 0) (fun r181 s182 => fX9_number_J140 sh p1 p2 s2 x56 s182)
noncomputable def fX9_number (sh : List kd) (σ : St) (p1 : Int32) (p2 : Int32) : Option (Int32 × St) := i_bd (fX9_sign sh σ) (fun r1 s2 => fX9_number_L13 sh p1 p2 s2 (fun (x56 : Int32) (s57 : St) => fX9_number_X95 sh p1 p2 s2 x56 s57) i_F 0 s2)
set_option maxRecDepth 20000 in
set_option maxHeartbeats 2000000 in
theorem tX9_number_J82 {sh : List kd} {τ : St} {r : Int32} (hsh : cSh sh) {p1 : Int32} {p2 : Int32} {s2 : St} {s5 : St} {x114 : Int32} {k13 : Int32 → St → Option (Int32 × St)} (hk13 : ∀ (x4 : Int32) (s5 : St), k13 x4 s5 = some (r, τ) → g_R sh 1 mX9_number (some (.int r)) τ 13 [.ref 1, .int p1, .int p2, .int (s2.1 1 2), .int x4] [] (s5)) (hE : fX9_number_J82 sh p1 p2 s2 s5 k13 x114 = some (r, τ)) : g_R sh 1 mX9_number (some (.int r)) τ 82 [.ref 1, .int p1, .int p2, .int (s2.1 1 2), .int x114] [] (s5) := by
  unfold fX9_number_J82 at hE
  refine g_ldan aX9_number_82 rfl ?_
  refine g_dupa aX9_number_83 ?_
  refine g_getI aX9_number_84 (sC_1 hsh) rfl ?_
  refine g_iconst (x := 1) aX9_number_87 rfl ?_
  refine g_iadd aX9_number_88 ?_
  refine g_putI aX9_number_89 (sC_1 hsh) rfl rfl ?_
  refine g_goto aX9_number_92 ?_
  exact hk13 _ _ hE
set_option maxRecDepth 20000 in
set_option maxHeartbeats 2000000 in
theorem tX9_number_L13 {sh : List kd} {τ : St} {r : Int32} (hsh : cSh sh) {p1 : Int32} {p2 : Int32} {s2 : St} {k95 : Int32 → St → Option (Int32 × St)} (hk95 : ∀ (x56 : Int32) (s57 : St), k95 x56 s57 = some (r, τ) → g_R sh 1 mX9_number (some (.int r)) τ 95 [.ref 1, .int p1, .int p2, .int (s2.1 1 2), .int x56] [] (s57)) : ∀ (n0 : Nat) (x4 : Int32) (s5 : St), fX9_number_L13 sh p1 p2 s2 k95 n0 x4 s5 = some (r, τ) → g_R sh 1 mX9_number (some (.int r)) τ 13 [.ref 1, .int p1, .int p2, .int (s2.1 1 2), .int x4] [] (s5) := by
  intro n0
  induction n0 with
  | zero => intro _ _ hE; cases hE
  | succ n58 ih =>
    intro x4 s5 hE
    unfold fX9_number_L13 at hE
    refine g_ldan aX9_number_13 rfl ?_
    refine g_getI aX9_number_14 (sC_1 hsh) rfl ?_
    refine g_ldan aX9_number_17 rfl ?_
    refine g_getI aX9_number_18 (sC_1 hsh) rfl ?_
    by_cases hc59 : (s5.1 1 1) ≤ (s5.1 1 2)
    · rw [if_pos hc59] at hE
      refine g_ic_ge_t aX9_number_21 hc59 ?_
      exact hk95 _ _ hE
    · rw [if_neg hc59] at hE
      refine g_ic_ge_f aX9_number_21 hc59 ?_
      refine g_ldan aX9_number_24 rfl ?_
      refine g_getR aX9_number_25 (sC_1 hsh) rfl ?_
      refine g_ldan aX9_number_28 rfl ?_
      refine g_getI aX9_number_29 (sC_1 hsh) rfl ?_
      obtain ⟨h60, hE⟩ := i_ifn hE
      refine g_ild aX9_number_32 (sC_2 hsh) h60 ?_
      refine g_bipush (x := 48) aX9_number_33 rfl ?_
      by_cases hc61 : (s5.2.1 2 (s5.1 1 2).toNatClampNeg) < 48
      · rw [if_pos hc61] at hE
        refine g_ic_lt_t aX9_number_35 hc61 ?_
        exact hk95 _ _ hE
      · rw [if_neg hc61] at hE
        refine g_ic_lt_f aX9_number_35 hc61 ?_
        refine g_ldan aX9_number_38 rfl ?_
        refine g_getR aX9_number_39 (sC_1 hsh) rfl ?_
        refine g_ldan aX9_number_42 rfl ?_
        refine g_getI aX9_number_43 (sC_1 hsh) rfl ?_
        obtain ⟨h62, hE⟩ := i_ifn hE
        refine g_ild aX9_number_46 (sC_2 hsh) h62 ?_
        refine g_bipush (x := 57) aX9_number_47 rfl ?_
        by_cases hc63 : 57 < (s5.2.1 2 (s5.1 1 2).toNatClampNeg)
        · rw [if_pos hc63] at hE
          refine g_ic_gt_t aX9_number_49 hc63 ?_
          exact hk95 _ _ hE
        · rw [if_neg hc63] at hE
          refine g_ic_gt_f aX9_number_49 hc63 ?_
          refine g_ldan aX9_number_52 rfl ?_
          refine g_getI aX9_number_53 (sC_1 hsh) rfl ?_
          refine g_ldin aX9_number_56 rfl ?_
          refine g_isub aX9_number_57 ?_
          refine g_iconst (x := 5) aX9_number_58 rfl ?_
          by_cases hc115 : 5 ≤ ((s5.1 1 2) - (s2.1 1 2))
          · rw [if_pos hc115] at hE
            refine g_ic_ge_t aX9_number_59 hc115 ?_
            exact tX9_number_J82 hsh ih hE
          · rw [if_neg hc115] at hE
            refine g_ic_ge_f aX9_number_59 hc115 ?_
            refine g_ldi aX9_number_62 rfl ?_
            refine g_bipush (x := 10) aX9_number_64 rfl ?_
            refine g_imul aX9_number_66 ?_
            refine g_ldan aX9_number_67 rfl ?_
            refine g_getR aX9_number_68 (sC_1 hsh) rfl ?_
            refine g_ldan aX9_number_71 rfl ?_
            refine g_getI aX9_number_72 (sC_1 hsh) rfl ?_
            obtain ⟨h116, hE⟩ := i_ifn hE
            refine g_ild aX9_number_75 (sC_2 hsh) h116 ?_
            refine g_iadd aX9_number_76 ?_
            refine g_bipush (x := 48) aX9_number_77 rfl ?_
            refine g_isub aX9_number_79 ?_
            refine g_sti (loc2 := [.ref 1, .int p1, .int p2, .int (s2.1 1 2), .int (((x4 * 10) + (s5.2.1 2 (s5.1 1 2).toNatClampNeg)) - 48)]) aX9_number_80 (Nat.le_of_ble_eq_true rfl) rfl ?_
            exact tX9_number_J82 hsh ih hE
set_option maxRecDepth 20000 in
set_option maxHeartbeats 2000000 in
theorem tX9_number_J140 {sh : List kd} {τ : St} {r : Int32} (hsh : cSh sh) {p1 : Int32} {p2 : Int32} {s2 : St} {x56 : Int32} {s167 : St} (hE : fX9_number_J140 sh p1 p2 s2 x56 s167 = some (r, τ)) : g_R sh 1 mX9_number (some (.int r)) τ 140 [.ref 1, .int p1, .int p2, .int (s2.1 1 2), .int x56] [] (s167) := by
  unfold fX9_number_J140 at hE
  refine g_ldi aX9_number_140 rfl ?_
  obtain ⟨rfl, rfl⟩ := i_some_inj hE
  exact g_iret aX9_number_142 rfl rfl
set_option maxRecDepth 20000 in
set_option maxHeartbeats 2000000 in
theorem tX9_number_X95 {sh : List kd} {τ : St} {r : Int32} (hsh : cSh sh) {p1 : Int32} {p2 : Int32} {s2 : St} {x56 : Int32} {s57 : St} (hE : fX9_number_X95 sh p1 p2 s2 x56 s57 = some (r, τ)) : g_R sh 1 mX9_number (some (.int r)) τ 95 [.ref 1, .int p1, .int p2, .int (s2.1 1 2), .int x56] [] (s57) := by
  unfold fX9_number_X95 at hE
  refine g_ldan aX9_number_95 rfl ?_
  refine g_getI aX9_number_96 (sC_1 hsh) rfl ?_
  refine g_ldin aX9_number_99 rfl ?_
  by_cases hc168 : ¬ (s57.1 1 2) = (s2.1 1 2)
  · rw [if_pos hc168] at hE
    refine g_ic_ne_t aX9_number_100 hc168 ?_
    refine g_ldan aX9_number_112 rfl ?_
    refine g_getI aX9_number_113 (sC_1 hsh) rfl ?_
    refine g_ldin aX9_number_116 rfl ?_
    refine g_isub aX9_number_117 ?_
    refine g_iconst (x := 5) aX9_number_118 rfl ?_
    by_cases hc169 : 5 < ((s57.1 1 2) - (s2.1 1 2))
    · rw [if_pos hc169] at hE
      refine g_ic_gt_t aX9_number_119 hc169 ?_
      refine g_ldan aX9_number_134 rfl ?_
      refine g_ldin aX9_number_135 rfl ?_
      refine g_iconst (x := 1) aX9_number_136 rfl ?_
      obtain ⟨r170, s171, h172, hE⟩ := i_bd_some hE
      refine g_calV (As := [.int (s2.1 1 2), .int 1]) (rest := []) aX9_number_137 (i_X_mono (by omega) (tX9_refuse hsh h172)) (sC_1 hsh) (by decide +kernel) rfl rfl (Nat.le_of_ble_eq_true rfl) rfl ?_
      exact tX9_number_J140 hsh hE
    · rw [if_neg hc169] at hE
      refine g_ic_gt_f aX9_number_119 hc169 ?_
      refine g_ldi aX9_number_122 rfl ?_
      refine g_ldin aX9_number_124 rfl ?_
      by_cases hc173 : x56 < p1
      · rw [if_pos hc173] at hE
        refine g_ic_lt_t aX9_number_125 hc173 ?_
        refine g_ldan aX9_number_134 rfl ?_
        refine g_ldin aX9_number_135 rfl ?_
        refine g_iconst (x := 1) aX9_number_136 rfl ?_
        obtain ⟨r174, s175, h176, hE⟩ := i_bd_some hE
        refine g_calV (As := [.int (s2.1 1 2), .int 1]) (rest := []) aX9_number_137 (i_X_mono (by omega) (tX9_refuse hsh h176)) (sC_1 hsh) (by decide +kernel) rfl rfl (Nat.le_of_ble_eq_true rfl) rfl ?_
        exact tX9_number_J140 hsh hE
      · rw [if_neg hc173] at hE
        refine g_ic_lt_f aX9_number_125 hc173 ?_
        refine g_ldi aX9_number_128 rfl ?_
        refine g_ldin aX9_number_130 rfl ?_
        by_cases hc177 : x56 ≤ p2
        · rw [if_pos hc177] at hE
          refine g_ic_le_t aX9_number_131 hc177 ?_
          exact tX9_number_J140 hsh hE
        · rw [if_neg hc177] at hE
          refine g_ic_le_f aX9_number_131 hc177 ?_
          refine g_ldan aX9_number_134 rfl ?_
          refine g_ldin aX9_number_135 rfl ?_
          refine g_iconst (x := 1) aX9_number_136 rfl ?_
          obtain ⟨r178, s179, h180, hE⟩ := i_bd_some hE
          refine g_calV (As := [.int (s2.1 1 2), .int 1]) (rest := []) aX9_number_137 (i_X_mono (by omega) (tX9_refuse hsh h180)) (sC_1 hsh) (by decide +kernel) rfl rfl (Nat.le_of_ble_eq_true rfl) rfl ?_
          exact tX9_number_J140 hsh hE
  · rw [if_neg hc168] at hE
    refine g_ic_ne_f aX9_number_100 hc168 ?_
    refine g_ldan aX9_number_103 rfl ?_
    refine g_ldin aX9_number_104 rfl ?_
    refine g_iconst (x := 0) aX9_number_105 rfl ?_
    obtain ⟨r181, s182, h183, hE⟩ := i_bd_some hE
    refine g_calV (As := [.int (s2.1 1 2), .int 0]) (rest := []) aX9_number_106 (i_X_mono (by omega) (tX9_refuse hsh h183)) (sC_1 hsh) (by decide +kernel) rfl rfl (Nat.le_of_ble_eq_true rfl) rfl ?_
    refine g_goto aX9_number_109 ?_
    exact tX9_number_J140 hsh hE
set_option maxRecDepth 20000 in
set_option maxHeartbeats 2000000 in
theorem tX9_number {sh : List kd} {σ τ : St} {r : Int32} (hsh : cSh sh) {p1 : Int32} {p2 : Int32} (hE : fX9_number sh σ p1 p2 = some (r, τ)) : i_X 2 80 [.ref 1, .int p1, .int p2] (s_h sh σ) 0 0 (some (.int r)) (s_h sh τ) := by
  refine g_X (M := mX9_number) (loc := [.ref 1, .int p1, .int p2, .retAddr 0, .retAddr 0]) rfl (Nat.le_of_ble_eq_true rfl) rfl ?_
  unfold fX9_number at hE
  refine g_ldan aX9_number_0 rfl ?_
  obtain ⟨r1, s2, h3, hE⟩ := i_bd_some hE
  refine g_calV (As := []) (rest := []) aX9_number_1 (i_X_mono (by omega) (tX9_sign hsh h3)) (sC_1 hsh) (by decide +kernel) rfl rfl (Nat.le_of_ble_eq_true rfl) rfl ?_
  refine g_popi aX9_number_4 ?_
  refine g_ldan aX9_number_5 rfl ?_
  refine g_getI aX9_number_6 (sC_1 hsh) rfl ?_
  refine g_stin (loc2 := [.ref 1, .int p1, .int p2, .int (s2.1 1 2), .retAddr 0]) aX9_number_9 (Nat.le_of_ble_eq_true rfl) rfl ?_
  refine g_iconst (x := 0) aX9_number_10 rfl ?_
  refine g_sti (loc2 := [.ref 1, .int p1, .int p2, .int (s2.1 1 2), .int 0]) aX9_number_11 (Nat.le_of_ble_eq_true rfl) rfl ?_
  exact tX9_number_L13 hsh (fun x56 s57 hE => tX9_number_X95 hsh hE) i_F _ _ hE
theorem aX9_wordEnd_0 : i_at mX9_wordEnd.2.2.2.2.2 0 = some (.aload_n 0, 1, 0, 0, 0, 0) := by decide +kernel
theorem aX9_wordEnd_1 : i_at mX9_wordEnd.2.2.2.2.2 1 = some (.getfield 19, 3, 8, 2, 133, 0) := by decide +kernel
theorem aX9_wordEnd_4 : i_at mX9_wordEnd.2.2.2.2.2 4 = some (.istore_n 1, 1, 0, 0, 0, 0) := by decide +kernel
theorem aX9_wordEnd_5 : i_at mX9_wordEnd.2.2.2.2.2 5 = some (.iload_n 1, 1, 0, 0, 0, 0) := by decide +kernel
theorem aX9_wordEnd_6 : i_at mX9_wordEnd.2.2.2.2.2 6 = some (.aload_n 0, 1, 0, 0, 0, 0) := by decide +kernel
theorem aX9_wordEnd_7 : i_at mX9_wordEnd.2.2.2.2.2 7 = some (.getfield 15, 3, 8, 1, 129, 0) := by decide +kernel
theorem aX9_wordEnd_10 : i_at mX9_wordEnd.2.2.2.2.2 10 = some (.if_icmp .ge 31, 3, 41, 0, 0, 0) := by decide +kernel
theorem aX9_wordEnd_13 : i_at mX9_wordEnd.2.2.2.2.2 13 = some (.aload_n 0, 1, 0, 0, 0, 0) := by decide +kernel
theorem aX9_wordEnd_14 : i_at mX9_wordEnd.2.2.2.2.2 14 = some (.getfield 9, 3, 8, 0, 126, 0) := by decide +kernel
theorem aX9_wordEnd_17 : i_at mX9_wordEnd.2.2.2.2.2 17 = some (.iload_n 1, 1, 0, 0, 0, 0) := by decide +kernel
theorem aX9_wordEnd_18 : i_at mX9_wordEnd.2.2.2.2.2 18 = some (.iaload, 1, 0, 0, 0, 0) := by decide +kernel
theorem aX9_wordEnd_19 : i_at mX9_wordEnd.2.2.2.2.2 19 = some (.bipush 97, 2, 0, 0, 0, 0) := by decide +kernel
theorem aX9_wordEnd_21 : i_at mX9_wordEnd.2.2.2.2.2 21 = some (.if_icmp .lt 20, 3, 41, 0, 0, 0) := by decide +kernel
theorem aX9_wordEnd_24 : i_at mX9_wordEnd.2.2.2.2.2 24 = some (.aload_n 0, 1, 0, 0, 0, 0) := by decide +kernel
theorem aX9_wordEnd_25 : i_at mX9_wordEnd.2.2.2.2.2 25 = some (.getfield 9, 3, 8, 0, 126, 0) := by decide +kernel
theorem aX9_wordEnd_28 : i_at mX9_wordEnd.2.2.2.2.2 28 = some (.iload_n 1, 1, 0, 0, 0, 0) := by decide +kernel
theorem aX9_wordEnd_29 : i_at mX9_wordEnd.2.2.2.2.2 29 = some (.iaload, 1, 0, 0, 0, 0) := by decide +kernel
theorem aX9_wordEnd_30 : i_at mX9_wordEnd.2.2.2.2.2 30 = some (.bipush 122, 2, 0, 0, 0, 0) := by decide +kernel
theorem aX9_wordEnd_32 : i_at mX9_wordEnd.2.2.2.2.2 32 = some (.if_icmp .gt 9, 3, 41, 0, 0, 0) := by decide +kernel
theorem aX9_wordEnd_35 : i_at mX9_wordEnd.2.2.2.2.2 35 = some (.iinc 1 1, 3, 0, 0, 0, 0) := by decide +kernel
theorem aX9_wordEnd_38 : i_at mX9_wordEnd.2.2.2.2.2 38 = some (.goto (-33), 3, 5, 0, 0, 0) := by decide +kernel
theorem aX9_wordEnd_41 : i_at mX9_wordEnd.2.2.2.2.2 41 = some (.iload_n 1, 1, 0, 0, 0, 0) := by decide +kernel
theorem aX9_wordEnd_42 : i_at mX9_wordEnd.2.2.2.2.2 42 = some (.ireturn, 1, 0, 0, 0, 0) := by decide +kernel
noncomputable def fX9_wordEnd_J41 (sh : List kd) (σ : St) (x1 : Int32) : Option (Int32 × St) := some (x1, σ)
noncomputable def fX9_wordEnd_L5 (sh : List kd) (σ : St) : Nat → Int32 → Option (Int32 × St)
  | 0, _ => none
  | n2 + 1, x1 => if (σ.1 1 1) ≤ x1 then fX9_wordEnd_J41 sh σ x1 else if i_ok x1 400 then if (σ.2.1 2 x1.toNatClampNeg) < 97 then fX9_wordEnd_J41 sh σ x1 else if i_ok x1 400 then if 122 < (σ.2.1 2 x1.toNatClampNeg) then fX9_wordEnd_J41 sh σ x1 else (fX9_wordEnd_L5 sh σ n2 (x1 + 1)) else none else none
noncomputable def fX9_wordEnd (sh : List kd) (σ : St) : Option (Int32 × St) := fX9_wordEnd_L5 sh σ i_F (σ.1 1 2)
set_option maxRecDepth 20000 in
set_option maxHeartbeats 2000000 in
theorem tX9_wordEnd_J41 {sh : List kd} {τ : St} {r : Int32} (hsh : cSh sh) {σ : St} {x1 : Int32} (hE : fX9_wordEnd_J41 sh σ x1 = some (r, τ)) : g_R sh 0 mX9_wordEnd (some (.int r)) τ 41 [.ref 1, .int x1] [] (σ) := by
  unfold fX9_wordEnd_J41 at hE
  refine g_ldin aX9_wordEnd_41 rfl ?_
  obtain ⟨rfl, rfl⟩ := i_some_inj hE
  exact g_iret aX9_wordEnd_42 rfl rfl
set_option maxRecDepth 20000 in
set_option maxHeartbeats 2000000 in
theorem tX9_wordEnd_L5 {sh : List kd} {τ : St} {r : Int32} (hsh : cSh sh) {σ : St} : ∀ (n0 : Nat) (x1 : Int32), fX9_wordEnd_L5 sh σ n0 x1 = some (r, τ) → g_R sh 0 mX9_wordEnd (some (.int r)) τ 5 [.ref 1, .int x1] [] (σ) := by
  intro n0
  induction n0 with
  | zero => intro _ hE; cases hE
  | succ n2 ih =>
    intro x1 hE
    unfold fX9_wordEnd_L5 at hE
    refine g_ldin aX9_wordEnd_5 rfl ?_
    refine g_ldan aX9_wordEnd_6 rfl ?_
    refine g_getI aX9_wordEnd_7 (sC_1 hsh) rfl ?_
    by_cases hc53 : (σ.1 1 1) ≤ x1
    · rw [if_pos hc53] at hE
      refine g_ic_ge_t aX9_wordEnd_10 hc53 ?_
      exact tX9_wordEnd_J41 hsh hE
    · rw [if_neg hc53] at hE
      refine g_ic_ge_f aX9_wordEnd_10 hc53 ?_
      refine g_ldan aX9_wordEnd_13 rfl ?_
      refine g_getR aX9_wordEnd_14 (sC_1 hsh) rfl ?_
      refine g_ldin aX9_wordEnd_17 rfl ?_
      obtain ⟨h54, hE⟩ := i_ifn hE
      refine g_ild aX9_wordEnd_18 (sC_2 hsh) h54 ?_
      refine g_bipush (x := 97) aX9_wordEnd_19 rfl ?_
      by_cases hc55 : (σ.2.1 2 x1.toNatClampNeg) < 97
      · rw [if_pos hc55] at hE
        refine g_ic_lt_t aX9_wordEnd_21 hc55 ?_
        exact tX9_wordEnd_J41 hsh hE
      · rw [if_neg hc55] at hE
        refine g_ic_lt_f aX9_wordEnd_21 hc55 ?_
        refine g_ldan aX9_wordEnd_24 rfl ?_
        refine g_getR aX9_wordEnd_25 (sC_1 hsh) rfl ?_
        refine g_ldin aX9_wordEnd_28 rfl ?_
        obtain ⟨h56, hE⟩ := i_ifn hE
        refine g_ild aX9_wordEnd_29 (sC_2 hsh) h56 ?_
        refine g_bipush (x := 122) aX9_wordEnd_30 rfl ?_
        by_cases hc57 : 122 < (σ.2.1 2 x1.toNatClampNeg)
        · rw [if_pos hc57] at hE
          refine g_ic_gt_t aX9_wordEnd_32 hc57 ?_
          exact tX9_wordEnd_J41 hsh hE
        · rw [if_neg hc57] at hE
          refine g_ic_gt_f aX9_wordEnd_32 hc57 ?_
          refine g_iinc (y := 1) (loc2 := [.ref 1, .int (x1 + 1)]) aX9_wordEnd_35 rfl rfl rfl ?_
          refine g_goto aX9_wordEnd_38 ?_
          exact ih _ hE
set_option maxRecDepth 20000 in
set_option maxHeartbeats 2000000 in
theorem tX9_wordEnd {sh : List kd} {σ τ : St} {r : Int32} (hsh : cSh sh) (hE : fX9_wordEnd sh σ = some (r, τ)) : i_X 1 84 [.ref 1] (s_h sh σ) 0 0 (some (.int r)) (s_h sh τ) := by
  refine g_X (M := mX9_wordEnd) (loc := [.ref 1, .retAddr 0]) rfl (Nat.le_of_ble_eq_true rfl) rfl ?_
  unfold fX9_wordEnd at hE
  refine g_ldan aX9_wordEnd_0 rfl ?_
  refine g_getI aX9_wordEnd_1 (sC_1 hsh) rfl ?_
  refine g_stin (loc2 := [.ref 1, .int (σ.1 1 2)]) aX9_wordEnd_4 (Nat.le_of_ble_eq_true rfl) rfl ?_
  exact tX9_wordEnd_L5 hsh i_F _ hE
theorem aX9_isHere_0 : i_at mX9_isHere.2.2.2.2.2 0 = some (.iconst 0, 1, 0, 0, 0, 0) := by decide +kernel
theorem aX9_isHere_1 : i_at mX9_isHere.2.2.2.2.2 1 = some (.istore 4, 2, 0, 0, 0, 0) := by decide +kernel
theorem aX9_isHere_3 : i_at mX9_isHere.2.2.2.2.2 3 = some (.iload 4, 2, 0, 0, 0, 0) := by decide +kernel
theorem aX9_isHere_5 : i_at mX9_isHere.2.2.2.2.2 5 = some (.iload_n 3, 1, 0, 0, 0, 0) := by decide +kernel
theorem aX9_isHere_6 : i_at mX9_isHere.2.2.2.2.2 6 = some (.if_icmp .ge 34, 3, 40, 0, 0, 0) := by decide +kernel
theorem aX9_isHere_9 : i_at mX9_isHere.2.2.2.2.2 9 = some (.aload_n 0, 1, 0, 0, 0, 0) := by decide +kernel
theorem aX9_isHere_10 : i_at mX9_isHere.2.2.2.2.2 10 = some (.getfield 9, 3, 8, 0, 126, 0) := by decide +kernel
theorem aX9_isHere_13 : i_at mX9_isHere.2.2.2.2.2 13 = some (.aload_n 0, 1, 0, 0, 0, 0) := by decide +kernel
theorem aX9_isHere_14 : i_at mX9_isHere.2.2.2.2.2 14 = some (.getfield 19, 3, 8, 2, 133, 0) := by decide +kernel
theorem aX9_isHere_17 : i_at mX9_isHere.2.2.2.2.2 17 = some (.iload 4, 2, 0, 0, 0, 0) := by decide +kernel
theorem aX9_isHere_19 : i_at mX9_isHere.2.2.2.2.2 19 = some (.iadd, 1, 0, 0, 0, 0) := by decide +kernel
theorem aX9_isHere_20 : i_at mX9_isHere.2.2.2.2.2 20 = some (.iaload, 1, 0, 0, 0, 0) := by decide +kernel
theorem aX9_isHere_21 : i_at mX9_isHere.2.2.2.2.2 21 = some (.aload_n 1, 1, 0, 0, 0, 0) := by decide +kernel
theorem aX9_isHere_22 : i_at mX9_isHere.2.2.2.2.2 22 = some (.iload_n 2, 1, 0, 0, 0, 0) := by decide +kernel
theorem aX9_isHere_23 : i_at mX9_isHere.2.2.2.2.2 23 = some (.iload 4, 2, 0, 0, 0, 0) := by decide +kernel
theorem aX9_isHere_25 : i_at mX9_isHere.2.2.2.2.2 25 = some (.iadd, 1, 0, 0, 0, 0) := by decide +kernel
theorem aX9_isHere_26 : i_at mX9_isHere.2.2.2.2.2 26 = some (.invokevirtual 41, 3, 1005, 1, 546, 0) := by decide +kernel
theorem aX9_isHere_29 : i_at mX9_isHere.2.2.2.2.2 29 = some (.if_icmp .eq 5, 3, 34, 0, 0, 0) := by decide +kernel
theorem aX9_isHere_32 : i_at mX9_isHere.2.2.2.2.2 32 = some (.iconst 0, 1, 0, 0, 0, 0) := by decide +kernel
theorem aX9_isHere_33 : i_at mX9_isHere.2.2.2.2.2 33 = some (.ireturn, 1, 0, 0, 0, 0) := by decide +kernel
theorem aX9_isHere_34 : i_at mX9_isHere.2.2.2.2.2 34 = some (.iinc 4 1, 3, 0, 0, 0, 0) := by decide +kernel
theorem aX9_isHere_37 : i_at mX9_isHere.2.2.2.2.2 37 = some (.goto (-34), 3, 3, 0, 0, 0) := by decide +kernel
theorem aX9_isHere_40 : i_at mX9_isHere.2.2.2.2.2 40 = some (.iconst 1, 1, 0, 0, 0, 0) := by decide +kernel
theorem aX9_isHere_41 : i_at mX9_isHere.2.2.2.2.2 41 = some (.ireturn, 1, 0, 0, 0, 0) := by decide +kernel
noncomputable def fX9_isHere_L3 (sh : List kd) (p1 : Nat) (p2 : Int32) (p3 : Int32) (σ : St) : Nat → Int32 → Option (Int32 × St)
  | 0, _ => none
  | n2 + 1, x1 => if p3 ≤ x1 then some (1, σ) else if i_ok ((σ.1 1 2) + x1) 400 then if p1 < 28 then if i_ok (p2 + x1) (i_slen p1) then if (σ.2.1 2 ((σ.1 1 2) + x1).toNatClampNeg) = (i_schr p1 (p2 + x1).toNatClampNeg) then (fX9_isHere_L3 sh p1 p2 p3 σ n2 (x1 + 1)) else some (0, σ) else none else none else none
noncomputable def fX9_isHere (sh : List kd) (σ : St) (p1 : Nat) (p2 : Int32) (p3 : Int32) : Option (Int32 × St) := fX9_isHere_L3 sh p1 p2 p3 σ i_F 0
set_option maxRecDepth 20000 in
set_option maxHeartbeats 2000000 in
theorem tX9_isHere_L3 {sh : List kd} {τ : St} {r : Int32} (hsh : cSh sh) {p1 : Nat} {p2 : Int32} {p3 : Int32} {σ : St} : ∀ (n0 : Nat) (x1 : Int32), fX9_isHere_L3 sh p1 p2 p3 σ n0 x1 = some (r, τ) → g_R sh 0 mX9_isHere (some (.int r)) τ 3 [.ref 1, .ref (i_SB + p1), .int p2, .int p3, .int x1] [] (σ) := by
  intro n0
  induction n0 with
  | zero => intro _ hE; cases hE
  | succ n2 ih =>
    intro x1 hE
    unfold fX9_isHere_L3 at hE
    refine g_ldi aX9_isHere_3 rfl ?_
    refine g_ldin aX9_isHere_5 rfl ?_
    by_cases hc3 : p3 ≤ x1
    · rw [if_pos hc3] at hE
      refine g_ic_ge_t aX9_isHere_6 hc3 ?_
      refine g_iconst (x := 1) aX9_isHere_40 rfl ?_
      obtain ⟨rfl, rfl⟩ := i_some_inj hE
      exact g_iret aX9_isHere_41 rfl rfl
    · rw [if_neg hc3] at hE
      refine g_ic_ge_f aX9_isHere_6 hc3 ?_
      refine g_ldan aX9_isHere_9 rfl ?_
      refine g_getR aX9_isHere_10 (sC_1 hsh) rfl ?_
      refine g_ldan aX9_isHere_13 rfl ?_
      refine g_getI aX9_isHere_14 (sC_1 hsh) rfl ?_
      refine g_ldi aX9_isHere_17 rfl ?_
      refine g_iadd aX9_isHere_19 ?_
      obtain ⟨h4, hE⟩ := i_ifn hE
      refine g_ild aX9_isHere_20 (sC_2 hsh) h4 ?_
      refine g_ldan aX9_isHere_21 rfl ?_
      refine g_ldin aX9_isHere_22 rfl ?_
      refine g_ldi aX9_isHere_23 rfl ?_
      refine g_iadd aX9_isHere_25 ?_
      obtain ⟨h5, hE⟩ := i_ifn hE
      obtain ⟨h6, hE⟩ := i_ifn hE
      refine g_schr aX9_isHere_26 h5 h6 (Nat.le_of_ble_eq_true rfl) ?_
      by_cases hc7 : (σ.2.1 2 ((σ.1 1 2) + x1).toNatClampNeg) = (i_schr p1 (p2 + x1).toNatClampNeg)
      · rw [if_pos hc7] at hE
        refine g_ic_eq_t aX9_isHere_29 hc7 ?_
        refine g_iinc (y := 1) (loc2 := [.ref 1, .ref (i_SB + p1), .int p2, .int p3, .int (x1 + 1)]) aX9_isHere_34 rfl rfl rfl ?_
        refine g_goto aX9_isHere_37 ?_
        exact ih _ hE
      · rw [if_neg hc7] at hE
        refine g_ic_eq_f aX9_isHere_29 hc7 ?_
        refine g_iconst (x := 0) aX9_isHere_32 rfl ?_
        obtain ⟨rfl, rfl⟩ := i_some_inj hE
        exact g_iret aX9_isHere_33 rfl rfl
set_option maxRecDepth 20000 in
set_option maxHeartbeats 2000000 in
theorem tX9_isHere {sh : List kd} {σ τ : St} {r : Int32} (hsh : cSh sh) {p1 : Nat} {p2 : Int32} {p3 : Int32} (hE : fX9_isHere sh σ p1 p2 p3 = some (r, τ)) : i_X 1 85 [.ref 1, .ref (i_SB + p1), .int p2, .int p3] (s_h sh σ) 0 0 (some (.int r)) (s_h sh τ) := by
  refine g_X (M := mX9_isHere) (loc := [.ref 1, .ref (i_SB + p1), .int p2, .int p3, .retAddr 0]) rfl (Nat.le_of_ble_eq_true rfl) rfl ?_
  unfold fX9_isHere at hE
  refine g_iconst (x := 0) aX9_isHere_0 rfl ?_
  refine g_sti (loc2 := [.ref 1, .ref (i_SB + p1), .int p2, .int p3, .int 0]) aX9_isHere_1 (Nat.le_of_ble_eq_true rfl) rfl ?_
  exact tX9_isHere_L3 hsh i_F _ hE
theorem aX10_remember_0 : i_at mX10_remember.2.2.2.2.2 0 = some (.aload_n 0, 1, 0, 0, 0, 0) := by decide +kernel
theorem aX10_remember_1 : i_at mX10_remember.2.2.2.2.2 1 = some (.getfield 25, 3, 9, 2, 352, 0) := by decide +kernel
theorem aX10_remember_4 : i_at mX10_remember.2.2.2.2.2 4 = some (.aload_n 0, 1, 0, 0, 0, 0) := by decide +kernel
theorem aX10_remember_5 : i_at mX10_remember.2.2.2.2.2 5 = some (.getfield 40, 3, 9, 3, 353, 0) := by decide +kernel
theorem aX10_remember_8 : i_at mX10_remember.2.2.2.2.2 8 = some (.aload_n 0, 1, 0, 0, 0, 0) := by decide +kernel
theorem aX10_remember_9 : i_at mX10_remember.2.2.2.2.2 9 = some (.getfield 43, 3, 9, 4, 354, 0) := by decide +kernel
theorem aX10_remember_12 : i_at mX10_remember.2.2.2.2.2 12 = some (.iadd, 1, 0, 0, 0, 0) := by decide +kernel
theorem aX10_remember_13 : i_at mX10_remember.2.2.2.2.2 13 = some (.bipush 20, 2, 0, 0, 0, 0) := by decide +kernel
theorem aX10_remember_15 : i_at mX10_remember.2.2.2.2.2 15 = some (.irem, 1, 0, 0, 0, 0) := by decide +kernel
theorem aX10_remember_16 : i_at mX10_remember.2.2.2.2.2 16 = some (.aaload, 1, 0, 0, 0, 0) := by decide +kernel
theorem aX10_remember_17 : i_at mX10_remember.2.2.2.2.2 17 = some (.aload_n 0, 1, 0, 0, 0, 0) := by decide +kernel
theorem aX10_remember_18 : i_at mX10_remember.2.2.2.2.2 18 = some (.getfield 21, 3, 9, 1, 348, 0) := by decide +kernel
theorem aX10_remember_21 : i_at mX10_remember.2.2.2.2.2 21 = some (.invokevirtual 46, 3, 27, 1, 789, 0) := by decide +kernel
theorem aX10_remember_24 : i_at mX10_remember.2.2.2.2.2 24 = some (.aload_n 0, 1, 0, 0, 0, 0) := by decide +kernel
theorem aX10_remember_25 : i_at mX10_remember.2.2.2.2.2 25 = some (.getfield 43, 3, 9, 4, 354, 0) := by decide +kernel
theorem aX10_remember_28 : i_at mX10_remember.2.2.2.2.2 28 = some (.bipush 20, 2, 0, 0, 0, 0) := by decide +kernel
theorem aX10_remember_30 : i_at mX10_remember.2.2.2.2.2 30 = some (.if_icmp .ge 16, 3, 46, 0, 0, 0) := by decide +kernel
theorem aX10_remember_33 : i_at mX10_remember.2.2.2.2.2 33 = some (.aload_n 0, 1, 0, 0, 0, 0) := by decide +kernel
theorem aX10_remember_34 : i_at mX10_remember.2.2.2.2.2 34 = some (.dup, 1, 0, 0, 0, 0) := by decide +kernel
theorem aX10_remember_35 : i_at mX10_remember.2.2.2.2.2 35 = some (.getfield 43, 3, 9, 4, 354, 0) := by decide +kernel
theorem aX10_remember_38 : i_at mX10_remember.2.2.2.2.2 38 = some (.iconst 1, 1, 0, 0, 0, 0) := by decide +kernel
theorem aX10_remember_39 : i_at mX10_remember.2.2.2.2.2 39 = some (.iadd, 1, 0, 0, 0, 0) := by decide +kernel
theorem aX10_remember_40 : i_at mX10_remember.2.2.2.2.2 40 = some (.putfield 43, 3, 9, 4, 354, 0) := by decide +kernel
theorem aX10_remember_43 : i_at mX10_remember.2.2.2.2.2 43 = some (.goto 16, 3, 59, 0, 0, 0) := by decide +kernel
theorem aX10_remember_46 : i_at mX10_remember.2.2.2.2.2 46 = some (.aload_n 0, 1, 0, 0, 0, 0) := by decide +kernel
theorem aX10_remember_47 : i_at mX10_remember.2.2.2.2.2 47 = some (.aload_n 0, 1, 0, 0, 0, 0) := by decide +kernel
theorem aX10_remember_48 : i_at mX10_remember.2.2.2.2.2 48 = some (.getfield 40, 3, 9, 3, 353, 0) := by decide +kernel
theorem aX10_remember_51 : i_at mX10_remember.2.2.2.2.2 51 = some (.iconst 1, 1, 0, 0, 0, 0) := by decide +kernel
theorem aX10_remember_52 : i_at mX10_remember.2.2.2.2.2 52 = some (.iadd, 1, 0, 0, 0, 0) := by decide +kernel
theorem aX10_remember_53 : i_at mX10_remember.2.2.2.2.2 53 = some (.bipush 20, 2, 0, 0, 0, 0) := by decide +kernel
theorem aX10_remember_55 : i_at mX10_remember.2.2.2.2.2 55 = some (.irem, 1, 0, 0, 0, 0) := by decide +kernel
theorem aX10_remember_56 : i_at mX10_remember.2.2.2.2.2 56 = some (.putfield 40, 3, 9, 3, 353, 0) := by decide +kernel
theorem aX10_remember_59 : i_at mX10_remember.2.2.2.2.2 59 = some (.return_, 1, 0, 0, 0, 0) := by decide +kernel
noncomputable def fX10_remember_J59 (sh : List kd) (p0 : Nat) (s58 : St) : Option (Unit × St) := some ((), s58)
noncomputable def fX10_remember (sh : List kd) (σ : St) (p0 : Nat) : Option (Unit × St) := if i_ok (((σ.1 p0 3) + (σ.1 p0 4)) - ((σ.1 p0 3) + (σ.1 p0 4)) / 20 * 20) 20 then i_om (σ.2.2.2 (p0 + 12) (((σ.1 p0 3) + (σ.1 p0 4)) - ((σ.1 p0 3) + (σ.1 p0 4)) / 20 * 20).toNatClampNeg) (fun q2 => i_ck (lSh sh q2) (i_bd (fX4_copyFrom sh σ q2 (p0 + 7)) (fun r5 s6 => if 20 ≤ (s6.1 p0 4) then fX10_remember_J59 sh p0 (s_F s6 p0 3 (((s6.1 p0 3) + 1) - ((s6.1 p0 3) + 1) / 20 * 20)) else fX10_remember_J59 sh p0 (s_F s6 p0 4 ((s6.1 p0 4) + 1))))) else none
set_option maxRecDepth 20000 in
set_option maxHeartbeats 2000000 in
theorem tX10_remember_J59 {sh : List kd} {τ : St} {r : Unit} (hsh : cSh sh) {p0 : Nat} {s58 : St} (hp0 : wSh sh p0) (hE : fX10_remember_J59 sh p0 s58 = some (r, τ)) : g_R sh 1 mX10_remember none τ 59 [.ref p0] [] (s58) := by
  unfold fX10_remember_J59 at hE
  obtain ⟨rfl, rfl⟩ := i_some_inj hE
  exact g_vret aX10_remember_59 rfl
set_option maxRecDepth 20000 in
set_option maxHeartbeats 2000000 in
theorem tX10_remember {sh : List kd} {σ τ : St} {r : Unit} (hsh : cSh sh) {p0 : Nat} (hp0 : wSh sh p0) (hE : fX10_remember sh σ p0 = some (r, τ)) : i_X 2 87 [.ref p0] (s_h sh σ) 0 0 none (s_h sh τ) := by
  refine g_X (M := mX10_remember) (loc := [.ref p0]) rfl (Nat.le_of_ble_eq_true rfl) rfl ?_
  unfold fX10_remember at hE
  refine g_ldan aX10_remember_0 rfl ?_
  refine g_getR aX10_remember_1 (hp0.1) rfl ?_
  refine g_ldan aX10_remember_4 rfl ?_
  refine g_getI aX10_remember_5 (hp0.1) rfl ?_
  refine g_ldan aX10_remember_8 rfl ?_
  refine g_getI aX10_remember_9 (hp0.1) rfl ?_
  refine g_iadd aX10_remember_12 ?_
  refine g_bipush (x := 20) aX10_remember_13 rfl ?_
  refine g_irem aX10_remember_15 (by decide) ?_
  obtain ⟨h1, hE⟩ := i_ifn hE
  refine g_ald aX10_remember_16 (hp0.2.2.2.1) h1 ?_
  refine g_ldan aX10_remember_17 rfl ?_
  refine g_getR aX10_remember_18 (hp0.1) rfl ?_
  obtain ⟨q2, h3, hE⟩ := i_om_some hE
  rw [h3]
  obtain ⟨h4, hE⟩ := i_ck_some hE
  obtain ⟨r5, s6, h7, hE⟩ := i_bd_some hE
  refine g_calV (As := [.ref (p0 + 7)]) (rest := []) aX10_remember_21 (i_X_mono (by omega) (tX4_copyFrom hsh h4 hp0.2.2.1 h7)) (h4.1) (by decide +kernel) rfl rfl (Nat.le_of_ble_eq_true rfl) rfl ?_
  refine g_ldan aX10_remember_24 rfl ?_
  refine g_getI aX10_remember_25 (hp0.1) rfl ?_
  refine g_bipush (x := 20) aX10_remember_28 rfl ?_
  by_cases hc59 : 20 ≤ (s6.1 p0 4)
  · rw [if_pos hc59] at hE
    refine g_ic_ge_t aX10_remember_30 hc59 ?_
    refine g_ldan aX10_remember_46 rfl ?_
    refine g_ldan aX10_remember_47 rfl ?_
    refine g_getI aX10_remember_48 (hp0.1) rfl ?_
    refine g_iconst (x := 1) aX10_remember_51 rfl ?_
    refine g_iadd aX10_remember_52 ?_
    refine g_bipush (x := 20) aX10_remember_53 rfl ?_
    refine g_irem aX10_remember_55 (by decide) ?_
    refine g_putI aX10_remember_56 (hp0.1) rfl rfl ?_
    exact tX10_remember_J59 hsh hp0 hE
  · rw [if_neg hc59] at hE
    refine g_ic_ge_f aX10_remember_30 hc59 ?_
    refine g_ldan aX10_remember_33 rfl ?_
    refine g_dupa aX10_remember_34 ?_
    refine g_getI aX10_remember_35 (hp0.1) rfl ?_
    refine g_iconst (x := 1) aX10_remember_38 rfl ?_
    refine g_iadd aX10_remember_39 ?_
    refine g_putI aX10_remember_40 (hp0.1) rfl rfl ?_
    refine g_goto aX10_remember_43 ?_
    exact tX10_remember_J59 hsh hp0 hE
theorem aX10_takeBack_0 : i_at mX10_takeBack.2.2.2.2.2 0 = some (.aload_n 0, 1, 0, 0, 0, 0) := by decide +kernel
theorem aX10_takeBack_1 : i_at mX10_takeBack.2.2.2.2.2 1 = some (.dup, 1, 0, 0, 0, 0) := by decide +kernel
theorem aX10_takeBack_2 : i_at mX10_takeBack.2.2.2.2.2 2 = some (.getfield 43, 3, 9, 4, 354, 0) := by decide +kernel
theorem aX10_takeBack_5 : i_at mX10_takeBack.2.2.2.2.2 5 = some (.iconst 1, 1, 0, 0, 0, 0) := by decide +kernel
theorem aX10_takeBack_6 : i_at mX10_takeBack.2.2.2.2.2 6 = some (.isub, 1, 0, 0, 0, 0) := by decide +kernel
theorem aX10_takeBack_7 : i_at mX10_takeBack.2.2.2.2.2 7 = some (.putfield 43, 3, 9, 4, 354, 0) := by decide +kernel
theorem aX10_takeBack_10 : i_at mX10_takeBack.2.2.2.2.2 10 = some (.aload_n 0, 1, 0, 0, 0, 0) := by decide +kernel
theorem aX10_takeBack_11 : i_at mX10_takeBack.2.2.2.2.2 11 = some (.getfield 21, 3, 9, 1, 348, 0) := by decide +kernel
theorem aX10_takeBack_14 : i_at mX10_takeBack.2.2.2.2.2 14 = some (.aload_n 0, 1, 0, 0, 0, 0) := by decide +kernel
theorem aX10_takeBack_15 : i_at mX10_takeBack.2.2.2.2.2 15 = some (.getfield 25, 3, 9, 2, 352, 0) := by decide +kernel
theorem aX10_takeBack_18 : i_at mX10_takeBack.2.2.2.2.2 18 = some (.aload_n 0, 1, 0, 0, 0, 0) := by decide +kernel
theorem aX10_takeBack_19 : i_at mX10_takeBack.2.2.2.2.2 19 = some (.getfield 40, 3, 9, 3, 353, 0) := by decide +kernel
theorem aX10_takeBack_22 : i_at mX10_takeBack.2.2.2.2.2 22 = some (.aload_n 0, 1, 0, 0, 0, 0) := by decide +kernel
theorem aX10_takeBack_23 : i_at mX10_takeBack.2.2.2.2.2 23 = some (.getfield 43, 3, 9, 4, 354, 0) := by decide +kernel
theorem aX10_takeBack_26 : i_at mX10_takeBack.2.2.2.2.2 26 = some (.iadd, 1, 0, 0, 0, 0) := by decide +kernel
theorem aX10_takeBack_27 : i_at mX10_takeBack.2.2.2.2.2 27 = some (.bipush 20, 2, 0, 0, 0, 0) := by decide +kernel
theorem aX10_takeBack_29 : i_at mX10_takeBack.2.2.2.2.2 29 = some (.irem, 1, 0, 0, 0, 0) := by decide +kernel
theorem aX10_takeBack_30 : i_at mX10_takeBack.2.2.2.2.2 30 = some (.aaload, 1, 0, 0, 0, 0) := by decide +kernel
theorem aX10_takeBack_31 : i_at mX10_takeBack.2.2.2.2.2 31 = some (.invokevirtual 46, 3, 27, 1, 789, 0) := by decide +kernel
theorem aX10_takeBack_34 : i_at mX10_takeBack.2.2.2.2.2 34 = some (.return_, 1, 0, 0, 0, 0) := by decide +kernel
noncomputable def fX10_takeBack (sh : List kd) (σ : St) (p0 : Nat) : Option (Unit × St) := if i_ok ((((s_F σ p0 4 ((σ.1 p0 4) - 1)).1 p0 3) + ((s_F σ p0 4 ((σ.1 p0 4) - 1)).1 p0 4)) - (((s_F σ p0 4 ((σ.1 p0 4) - 1)).1 p0 3) + ((s_F σ p0 4 ((σ.1 p0 4) - 1)).1 p0 4)) / 20 * 20) 20 then i_om ((s_F σ p0 4 ((σ.1 p0 4) - 1)).2.2.2 (p0 + 12) ((((s_F σ p0 4 ((σ.1 p0 4) - 1)).1 p0 3) + ((s_F σ p0 4 ((σ.1 p0 4) - 1)).1 p0 4)) - (((s_F σ p0 4 ((σ.1 p0 4) - 1)).1 p0 3) + ((s_F σ p0 4 ((σ.1 p0 4) - 1)).1 p0 4)) / 20 * 20).toNatClampNeg) (fun q2 => i_ck (lSh sh q2) (i_bd (fX4_copyFrom sh (s_F σ p0 4 ((σ.1 p0 4) - 1)) (p0 + 7) q2) (fun r5 s6 => some ((), s6)))) else none
set_option maxRecDepth 20000 in
set_option maxHeartbeats 2000000 in
theorem tX10_takeBack {sh : List kd} {σ τ : St} {r : Unit} (hsh : cSh sh) {p0 : Nat} (hp0 : wSh sh p0) (hE : fX10_takeBack sh σ p0 = some (r, τ)) : i_X 2 88 [.ref p0] (s_h sh σ) 0 0 none (s_h sh τ) := by
  refine g_X (M := mX10_takeBack) (loc := [.ref p0]) rfl (Nat.le_of_ble_eq_true rfl) rfl ?_
  unfold fX10_takeBack at hE
  refine g_ldan aX10_takeBack_0 rfl ?_
  refine g_dupa aX10_takeBack_1 ?_
  refine g_getI aX10_takeBack_2 (hp0.1) rfl ?_
  refine g_iconst (x := 1) aX10_takeBack_5 rfl ?_
  refine g_isub aX10_takeBack_6 ?_
  refine g_putI aX10_takeBack_7 (hp0.1) rfl rfl ?_
  refine g_ldan aX10_takeBack_10 rfl ?_
  refine g_getR aX10_takeBack_11 (hp0.1) rfl ?_
  refine g_ldan aX10_takeBack_14 rfl ?_
  refine g_getR aX10_takeBack_15 (hp0.1) rfl ?_
  refine g_ldan aX10_takeBack_18 rfl ?_
  refine g_getI aX10_takeBack_19 (hp0.1) rfl ?_
  refine g_ldan aX10_takeBack_22 rfl ?_
  refine g_getI aX10_takeBack_23 (hp0.1) rfl ?_
  refine g_iadd aX10_takeBack_26 ?_
  refine g_bipush (x := 20) aX10_takeBack_27 rfl ?_
  refine g_irem aX10_takeBack_29 (by decide) ?_
  obtain ⟨h1, hE⟩ := i_ifn hE
  refine g_ald aX10_takeBack_30 (hp0.2.2.2.1) h1 ?_
  obtain ⟨q2, h3, hE⟩ := i_om_some hE
  rw [h3]
  obtain ⟨h4, hE⟩ := i_ck_some hE
  obtain ⟨r5, s6, h7, hE⟩ := i_bd_some hE
  refine g_calV (As := [.ref q2]) (rest := []) aX10_takeBack_31 (i_X_mono (by omega) (tX4_copyFrom hsh hp0.2.2.1 h4 h7)) (hp0.2.2.1.1) (by decide +kernel) rfl rfl (Nat.le_of_ble_eq_true rfl) rfl ?_
  obtain ⟨rfl, rfl⟩ := i_some_inj hE
  exact g_vret aX10_takeBack_34 rfl
theorem aX10_copyFrom_0 : i_at mX10_copyFrom.2.2.2.2.2 0 = some (.aload_n 0, 1, 0, 0, 0, 0) := by decide +kernel
theorem aX10_copyFrom_1 : i_at mX10_copyFrom.2.2.2.2.2 1 = some (.getfield 12, 3, 9, 0, 343, 0) := by decide +kernel
theorem aX10_copyFrom_4 : i_at mX10_copyFrom.2.2.2.2.2 4 = some (.aload_n 1, 1, 0, 0, 0, 0) := by decide +kernel
theorem aX10_copyFrom_5 : i_at mX10_copyFrom.2.2.2.2.2 5 = some (.getfield 12, 3, 9, 0, 343, 0) := by decide +kernel
theorem aX10_copyFrom_8 : i_at mX10_copyFrom.2.2.2.2.2 8 = some (.invokevirtual 50, 3, 52, 1, 1076, 0) := by decide +kernel
theorem aX10_copyFrom_11 : i_at mX10_copyFrom.2.2.2.2.2 11 = some (.aload_n 0, 1, 0, 0, 0, 0) := by decide +kernel
theorem aX10_copyFrom_12 : i_at mX10_copyFrom.2.2.2.2.2 12 = some (.getfield 21, 3, 9, 1, 348, 0) := by decide +kernel
theorem aX10_copyFrom_15 : i_at mX10_copyFrom.2.2.2.2.2 15 = some (.aload_n 1, 1, 0, 0, 0, 0) := by decide +kernel
theorem aX10_copyFrom_16 : i_at mX10_copyFrom.2.2.2.2.2 16 = some (.getfield 21, 3, 9, 1, 348, 0) := by decide +kernel
theorem aX10_copyFrom_19 : i_at mX10_copyFrom.2.2.2.2.2 19 = some (.invokevirtual 46, 3, 27, 1, 789, 0) := by decide +kernel
theorem aX10_copyFrom_22 : i_at mX10_copyFrom.2.2.2.2.2 22 = some (.aload_n 0, 1, 0, 0, 0, 0) := by decide +kernel
theorem aX10_copyFrom_23 : i_at mX10_copyFrom.2.2.2.2.2 23 = some (.aload_n 1, 1, 0, 0, 0, 0) := by decide +kernel
theorem aX10_copyFrom_24 : i_at mX10_copyFrom.2.2.2.2.2 24 = some (.getfield 40, 3, 9, 3, 353, 0) := by decide +kernel
theorem aX10_copyFrom_27 : i_at mX10_copyFrom.2.2.2.2.2 27 = some (.putfield 40, 3, 9, 3, 353, 0) := by decide +kernel
theorem aX10_copyFrom_30 : i_at mX10_copyFrom.2.2.2.2.2 30 = some (.aload_n 0, 1, 0, 0, 0, 0) := by decide +kernel
theorem aX10_copyFrom_31 : i_at mX10_copyFrom.2.2.2.2.2 31 = some (.aload_n 1, 1, 0, 0, 0, 0) := by decide +kernel
theorem aX10_copyFrom_32 : i_at mX10_copyFrom.2.2.2.2.2 32 = some (.getfield 43, 3, 9, 4, 354, 0) := by decide +kernel
theorem aX10_copyFrom_35 : i_at mX10_copyFrom.2.2.2.2.2 35 = some (.putfield 43, 3, 9, 4, 354, 0) := by decide +kernel
theorem aX10_copyFrom_38 : i_at mX10_copyFrom.2.2.2.2.2 38 = some (.iconst 0, 1, 0, 0, 0, 0) := by decide +kernel
theorem aX10_copyFrom_39 : i_at mX10_copyFrom.2.2.2.2.2 39 = some (.istore_n 2, 1, 0, 0, 0, 0) := by decide +kernel
theorem aX10_copyFrom_40 : i_at mX10_copyFrom.2.2.2.2.2 40 = some (.iload_n 2, 1, 0, 0, 0, 0) := by decide +kernel
theorem aX10_copyFrom_41 : i_at mX10_copyFrom.2.2.2.2.2 41 = some (.aload_n 0, 1, 0, 0, 0, 0) := by decide +kernel
theorem aX10_copyFrom_42 : i_at mX10_copyFrom.2.2.2.2.2 42 = some (.getfield 43, 3, 9, 4, 354, 0) := by decide +kernel
theorem aX10_copyFrom_45 : i_at mX10_copyFrom.2.2.2.2.2 45 = some (.if_icmp .ge 34, 3, 79, 0, 0, 0) := by decide +kernel
theorem aX10_copyFrom_48 : i_at mX10_copyFrom.2.2.2.2.2 48 = some (.aload_n 0, 1, 0, 0, 0, 0) := by decide +kernel
theorem aX10_copyFrom_49 : i_at mX10_copyFrom.2.2.2.2.2 49 = some (.getfield 40, 3, 9, 3, 353, 0) := by decide +kernel
theorem aX10_copyFrom_52 : i_at mX10_copyFrom.2.2.2.2.2 52 = some (.iload_n 2, 1, 0, 0, 0, 0) := by decide +kernel
theorem aX10_copyFrom_53 : i_at mX10_copyFrom.2.2.2.2.2 53 = some (.iadd, 1, 0, 0, 0, 0) := by decide +kernel
theorem aX10_copyFrom_54 : i_at mX10_copyFrom.2.2.2.2.2 54 = some (.bipush 20, 2, 0, 0, 0, 0) := by decide +kernel
theorem aX10_copyFrom_56 : i_at mX10_copyFrom.2.2.2.2.2 56 = some (.irem, 1, 0, 0, 0, 0) := by decide +kernel
theorem aX10_copyFrom_57 : i_at mX10_copyFrom.2.2.2.2.2 57 = some (.istore_n 3, 1, 0, 0, 0, 0) := by decide +kernel
theorem aX10_copyFrom_58 : i_at mX10_copyFrom.2.2.2.2.2 58 = some (.aload_n 0, 1, 0, 0, 0, 0) := by decide +kernel
theorem aX10_copyFrom_59 : i_at mX10_copyFrom.2.2.2.2.2 59 = some (.getfield 25, 3, 9, 2, 352, 0) := by decide +kernel
theorem aX10_copyFrom_62 : i_at mX10_copyFrom.2.2.2.2.2 62 = some (.iload_n 3, 1, 0, 0, 0, 0) := by decide +kernel
theorem aX10_copyFrom_63 : i_at mX10_copyFrom.2.2.2.2.2 63 = some (.aaload, 1, 0, 0, 0, 0) := by decide +kernel
theorem aX10_copyFrom_64 : i_at mX10_copyFrom.2.2.2.2.2 64 = some (.aload_n 1, 1, 0, 0, 0, 0) := by decide +kernel
theorem aX10_copyFrom_65 : i_at mX10_copyFrom.2.2.2.2.2 65 = some (.getfield 25, 3, 9, 2, 352, 0) := by decide +kernel
theorem aX10_copyFrom_68 : i_at mX10_copyFrom.2.2.2.2.2 68 = some (.iload_n 3, 1, 0, 0, 0, 0) := by decide +kernel
theorem aX10_copyFrom_69 : i_at mX10_copyFrom.2.2.2.2.2 69 = some (.aaload, 1, 0, 0, 0, 0) := by decide +kernel
theorem aX10_copyFrom_70 : i_at mX10_copyFrom.2.2.2.2.2 70 = some (.invokevirtual 46, 3, 27, 1, 789, 0) := by decide +kernel
theorem aX10_copyFrom_73 : i_at mX10_copyFrom.2.2.2.2.2 73 = some (.iinc 2 1, 3, 0, 0, 0, 0) := by decide +kernel
theorem aX10_copyFrom_76 : i_at mX10_copyFrom.2.2.2.2.2 76 = some (.goto (-36), 3, 40, 0, 0, 0) := by decide +kernel
theorem aX10_copyFrom_79 : i_at mX10_copyFrom.2.2.2.2.2 79 = some (.aload_n 1, 1, 0, 0, 0, 0) := by decide +kernel
theorem aX10_copyFrom_80 : i_at mX10_copyFrom.2.2.2.2.2 80 = some (.getfield 29, 3, 9, 5, 356, 0) := by decide +kernel
theorem aX10_copyFrom_83 : i_at mX10_copyFrom.2.2.2.2.2 83 = some (.iconst 0, 1, 0, 0, 0, 0) := by decide +kernel
theorem aX10_copyFrom_84 : i_at mX10_copyFrom.2.2.2.2.2 84 = some (.aload_n 0, 1, 0, 0, 0, 0) := by decide +kernel
theorem aX10_copyFrom_85 : i_at mX10_copyFrom.2.2.2.2.2 85 = some (.getfield 29, 3, 9, 5, 356, 0) := by decide +kernel
theorem aX10_copyFrom_88 : i_at mX10_copyFrom.2.2.2.2.2 88 = some (.iconst 0, 1, 0, 0, 0, 0) := by decide +kernel
theorem aX10_copyFrom_89 : i_at mX10_copyFrom.2.2.2.2.2 89 = some (.bipush 10, 2, 0, 0, 0, 0) := by decide +kernel
theorem aX10_copyFrom_91 : i_at mX10_copyFrom.2.2.2.2.2 91 = some (.invokestatic 53, 3, 1003, 5, 1077, 0) := by decide +kernel
theorem aX10_copyFrom_94 : i_at mX10_copyFrom.2.2.2.2.2 94 = some (.aload_n 1, 1, 0, 0, 0, 0) := by decide +kernel
theorem aX10_copyFrom_95 : i_at mX10_copyFrom.2.2.2.2.2 95 = some (.getfield 33, 3, 9, 6, 359, 0) := by decide +kernel
theorem aX10_copyFrom_98 : i_at mX10_copyFrom.2.2.2.2.2 98 = some (.iconst 0, 1, 0, 0, 0, 0) := by decide +kernel
theorem aX10_copyFrom_99 : i_at mX10_copyFrom.2.2.2.2.2 99 = some (.aload_n 0, 1, 0, 0, 0, 0) := by decide +kernel
theorem aX10_copyFrom_100 : i_at mX10_copyFrom.2.2.2.2.2 100 = some (.getfield 33, 3, 9, 6, 359, 0) := by decide +kernel
theorem aX10_copyFrom_103 : i_at mX10_copyFrom.2.2.2.2.2 103 = some (.iconst 0, 1, 0, 0, 0, 0) := by decide +kernel
theorem aX10_copyFrom_104 : i_at mX10_copyFrom.2.2.2.2.2 104 = some (.bipush 10, 2, 0, 0, 0, 0) := by decide +kernel
theorem aX10_copyFrom_106 : i_at mX10_copyFrom.2.2.2.2.2 106 = some (.invokestatic 53, 3, 1003, 5, 1077, 0) := by decide +kernel
theorem aX10_copyFrom_109 : i_at mX10_copyFrom.2.2.2.2.2 109 = some (.aload_n 0, 1, 0, 0, 0, 0) := by decide +kernel
theorem aX10_copyFrom_110 : i_at mX10_copyFrom.2.2.2.2.2 110 = some (.aload_n 1, 1, 0, 0, 0, 0) := by decide +kernel
theorem aX10_copyFrom_111 : i_at mX10_copyFrom.2.2.2.2.2 111 = some (.getfield 59, 3, 9, 7, 364, 0) := by decide +kernel
theorem aX10_copyFrom_114 : i_at mX10_copyFrom.2.2.2.2.2 114 = some (.putfield 59, 3, 9, 7, 364, 0) := by decide +kernel
theorem aX10_copyFrom_117 : i_at mX10_copyFrom.2.2.2.2.2 117 = some (.aload_n 0, 1, 0, 0, 0, 0) := by decide +kernel
theorem aX10_copyFrom_118 : i_at mX10_copyFrom.2.2.2.2.2 118 = some (.aload_n 1, 1, 0, 0, 0, 0) := by decide +kernel
theorem aX10_copyFrom_119 : i_at mX10_copyFrom.2.2.2.2.2 119 = some (.getfield 36, 3, 9, 8, 365, 0) := by decide +kernel
theorem aX10_copyFrom_122 : i_at mX10_copyFrom.2.2.2.2.2 122 = some (.putfield 36, 3, 9, 8, 365, 0) := by decide +kernel
theorem aX10_copyFrom_125 : i_at mX10_copyFrom.2.2.2.2.2 125 = some (.aload_n 0, 1, 0, 0, 0, 0) := by decide +kernel
theorem aX10_copyFrom_126 : i_at mX10_copyFrom.2.2.2.2.2 126 = some (.aload_n 1, 1, 0, 0, 0, 0) := by decide +kernel
theorem aX10_copyFrom_127 : i_at mX10_copyFrom.2.2.2.2.2 127 = some (.getfield 62, 3, 9, 9, 368, 0) := by decide +kernel
theorem aX10_copyFrom_130 : i_at mX10_copyFrom.2.2.2.2.2 130 = some (.putfield 62, 3, 9, 9, 368, 0) := by decide +kernel
theorem aX10_copyFrom_133 : i_at mX10_copyFrom.2.2.2.2.2 133 = some (.return_, 1, 0, 0, 0, 0) := by decide +kernel
noncomputable def fX10_copyFrom_L40 (sh : List kd) (p0 : Nat) (p1 : Nat) (k79 : Int32 → Value → St → Option (Unit × St)) : Nat → Int32 → Value → St → Option (Unit × St)
  | 0, _, _, _ => none
  | n63 + 1, x7, x8, s9 => if (s9.1 p0 4) ≤ x7 then k79 x7 x8 s9 else if i_ok (((s9.1 p0 3) + x7) - ((s9.1 p0 3) + x7) / 20 * 20) 20 then if i_ok (((s9.1 p0 3) + x7) - ((s9.1 p0 3) + x7) / 20 * 20) 20 then i_om (s9.2.2.2 (p0 + 12) (((s9.1 p0 3) + x7) - ((s9.1 p0 3) + x7) / 20 * 20).toNatClampNeg) (fun q67 => i_ck (lSh sh q67) (i_om (s9.2.2.2 (p1 + 12) (((s9.1 p0 3) + x7) - ((s9.1 p0 3) + x7) / 20 * 20).toNatClampNeg) (fun q70 => i_ck (lSh sh q70) (i_bd (fX4_copyFrom sh s9 q67 q70) (fun r73 s74 => (fX10_copyFrom_L40 sh p0 p1 k79 n63 (x7 + 1) (.int (((s9.1 p0 3) + x7) - ((s9.1 p0 3) + x7) / 20 * 20)) s74)))))) else none else none
noncomputable def fX10_copyFrom_X79 (sh : List kd) (p0 : Nat) (p1 : Nat) (x60 : Int32) (x61 : Value) (s62 : St) : Option (Unit × St) := if i_cok 0 0 10 10 10 then if i_cok 0 0 10 10 10 then i_jp (s_C (s_C s62 (p1 + 13) (p0 + 13) (0 : Int32).toNatClampNeg (0 : Int32).toNatClampNeg (10 : Int32).toNatClampNeg) (p1 + 14) (p0 + 14) (0 : Int32).toNatClampNeg (0 : Int32).toNatClampNeg (10 : Int32).toNatClampNeg) (fun (s78 : St) => i_jp (s_F (s_F (s_F s78 p0 7 (s78.1 p1 7)) p0 8 ((s_F s78 p0 7 (s78.1 p1 7)).1 p1 8)) p0 9 ((s_F (s_F s78 p0 7 (s78.1 p1 7)) p0 8 ((s_F s78 p0 7 (s78.1 p1 7)).1 p1 8)).1 p1 9)) (fun (s80 : St) => some ((), s80))) else none else none
noncomputable def fX10_copyFrom (sh : List kd) (σ : St) (p0 : Nat) (p1 : Nat) : Option (Unit × St) := i_bd (fX6_copyFrom sh σ (p0 + 1) (p1 + 1)) (fun r1 s2 => i_bd (fX4_copyFrom sh s2 (p0 + 7) (p1 + 7)) (fun r4 s5 => fX10_copyFrom_L40 sh p0 p1 (fun (x60 : Int32) (x61 : Value) (s62 : St) => fX10_copyFrom_X79 sh p0 p1 x60 x61 s62) i_F 0 (.retAddr 0) (s_F (s_F s5 p0 3 (s5.1 p1 3)) p0 4 ((s_F s5 p0 3 (s5.1 p1 3)).1 p1 4))))
set_option maxRecDepth 20000 in
set_option maxHeartbeats 2000000 in
theorem tX10_copyFrom_L40 {sh : List kd} {τ : St} {r : Unit} (hsh : cSh sh) {p0 : Nat} {p1 : Nat} {k79 : Int32 → Value → St → Option (Unit × St)} (hp0 : wSh sh p0) (hp1 : wSh sh p1) (hk79 : ∀ (x60 : Int32) (x61 : Value) (s62 : St), k79 x60 x61 s62 = some (r, τ) → g_R sh 1 mX10_copyFrom none τ 79 [.ref p0, .ref p1, .int x60, x61] [] (s62)) : ∀ (n0 : Nat) (x7 : Int32) (x8 : Value) (s9 : St), fX10_copyFrom_L40 sh p0 p1 k79 n0 x7 x8 s9 = some (r, τ) → g_R sh 1 mX10_copyFrom none τ 40 [.ref p0, .ref p1, .int x7, x8] [] (s9) := by
  intro n0
  induction n0 with
  | zero => intro _ _ _ hE; cases hE
  | succ n63 ih =>
    intro x7 x8 s9 hE
    unfold fX10_copyFrom_L40 at hE
    refine g_ldin aX10_copyFrom_40 rfl ?_
    refine g_ldan aX10_copyFrom_41 rfl ?_
    refine g_getI aX10_copyFrom_42 (hp0.1) rfl ?_
    by_cases hc64 : (s9.1 p0 4) ≤ x7
    · rw [if_pos hc64] at hE
      refine g_ic_ge_t aX10_copyFrom_45 hc64 ?_
      exact hk79 _ _ _ hE
    · rw [if_neg hc64] at hE
      refine g_ic_ge_f aX10_copyFrom_45 hc64 ?_
      refine g_ldan aX10_copyFrom_48 rfl ?_
      refine g_getI aX10_copyFrom_49 (hp0.1) rfl ?_
      refine g_ldin aX10_copyFrom_52 rfl ?_
      refine g_iadd aX10_copyFrom_53 ?_
      refine g_bipush (x := 20) aX10_copyFrom_54 rfl ?_
      refine g_irem aX10_copyFrom_56 (by decide) ?_
      refine g_stin (loc2 := [.ref p0, .ref p1, .int x7, .int (((s9.1 p0 3) + x7) - ((s9.1 p0 3) + x7) / 20 * 20)]) aX10_copyFrom_57 (Nat.le_of_ble_eq_true rfl) rfl ?_
      refine g_ldan aX10_copyFrom_58 rfl ?_
      refine g_getR aX10_copyFrom_59 (hp0.1) rfl ?_
      refine g_ldin aX10_copyFrom_62 rfl ?_
      obtain ⟨h65, hE⟩ := i_ifn hE
      refine g_ald aX10_copyFrom_63 (hp0.2.2.2.1) h65 ?_
      refine g_ldan aX10_copyFrom_64 rfl ?_
      refine g_getR aX10_copyFrom_65 (hp1.1) rfl ?_
      refine g_ldin aX10_copyFrom_68 rfl ?_
      obtain ⟨h66, hE⟩ := i_ifn hE
      refine g_ald aX10_copyFrom_69 (hp1.2.2.2.1) h66 ?_
      obtain ⟨q67, h68, hE⟩ := i_om_some hE
      rw [h68]
      obtain ⟨h69, hE⟩ := i_ck_some hE
      obtain ⟨q70, h71, hE⟩ := i_om_some hE
      rw [h71]
      obtain ⟨h72, hE⟩ := i_ck_some hE
      obtain ⟨r73, s74, h75, hE⟩ := i_bd_some hE
      refine g_calV (As := [.ref q70]) (rest := []) aX10_copyFrom_70 (i_X_mono (by omega) (tX4_copyFrom hsh h69 h72 h75)) (h69.1) (by decide +kernel) rfl rfl (Nat.le_of_ble_eq_true rfl) rfl ?_
      refine g_iinc (y := 1) (loc2 := [.ref p0, .ref p1, .int (x7 + 1), .int (((s9.1 p0 3) + x7) - ((s9.1 p0 3) + x7) / 20 * 20)]) aX10_copyFrom_73 rfl rfl rfl ?_
      refine g_goto aX10_copyFrom_76 ?_
      exact ih _ _ _ hE
set_option maxRecDepth 20000 in
set_option maxHeartbeats 2000000 in
theorem tX10_copyFrom_X79 {sh : List kd} {τ : St} {r : Unit} (hsh : cSh sh) {p0 : Nat} {p1 : Nat} {x60 : Int32} {x61 : Value} {s62 : St} (hp0 : wSh sh p0) (hp1 : wSh sh p1) (hE : fX10_copyFrom_X79 sh p0 p1 x60 x61 s62 = some (r, τ)) : g_R sh 1 mX10_copyFrom none τ 79 [.ref p0, .ref p1, .int x60, x61] [] (s62) := by
  unfold fX10_copyFrom_X79 at hE
  refine g_ldan aX10_copyFrom_79 rfl ?_
  refine g_getR aX10_copyFrom_80 (hp1.1) rfl ?_
  refine g_iconst (x := 0) aX10_copyFrom_83 rfl ?_
  refine g_ldan aX10_copyFrom_84 rfl ?_
  refine g_getR aX10_copyFrom_85 (hp0.1) rfl ?_
  refine g_iconst (x := 0) aX10_copyFrom_88 rfl ?_
  refine g_bipush (x := 10) aX10_copyFrom_89 rfl ?_
  obtain ⟨h76, hE⟩ := i_ifn hE
  refine g_cpy aX10_copyFrom_91 (hp1.2.2.2.2.1) (hp0.2.2.2.2.1) h76 (Nat.le_of_ble_eq_true rfl) ?_
  refine g_ldan aX10_copyFrom_94 rfl ?_
  refine g_getR aX10_copyFrom_95 (hp1.1) rfl ?_
  refine g_iconst (x := 0) aX10_copyFrom_98 rfl ?_
  refine g_ldan aX10_copyFrom_99 rfl ?_
  refine g_getR aX10_copyFrom_100 (hp0.1) rfl ?_
  refine g_iconst (x := 0) aX10_copyFrom_103 rfl ?_
  refine g_bipush (x := 10) aX10_copyFrom_104 rfl ?_
  obtain ⟨h77, hE⟩ := i_ifn hE
  refine g_cpy aX10_copyFrom_106 (hp1.2.2.2.2.2) (hp0.2.2.2.2.2) h77 (Nat.le_of_ble_eq_true rfl) ?_
  obtain ⟨s78, h79, hE⟩ := i_jp_some hE
  rw [← h79]
  refine g_ldan aX10_copyFrom_109 rfl ?_
  refine g_ldan aX10_copyFrom_110 rfl ?_
  refine g_getI aX10_copyFrom_111 (hp1.1) rfl ?_
  refine g_putI aX10_copyFrom_114 (hp0.1) rfl rfl ?_
  refine g_ldan aX10_copyFrom_117 rfl ?_
  refine g_ldan aX10_copyFrom_118 rfl ?_
  refine g_getI aX10_copyFrom_119 (hp1.1) rfl ?_
  refine g_putI aX10_copyFrom_122 (hp0.1) rfl rfl ?_
  refine g_ldan aX10_copyFrom_125 rfl ?_
  refine g_ldan aX10_copyFrom_126 rfl ?_
  refine g_getI aX10_copyFrom_127 (hp1.1) rfl ?_
  refine g_putI aX10_copyFrom_130 (hp0.1) rfl rfl ?_
  obtain ⟨s80, h81, hE⟩ := i_jp_some hE
  rw [← h81]
  obtain ⟨rfl, rfl⟩ := i_some_inj hE
  exact g_vret aX10_copyFrom_133 rfl
set_option maxRecDepth 20000 in
set_option maxHeartbeats 2000000 in
theorem tX10_copyFrom {sh : List kd} {σ τ : St} {r : Unit} (hsh : cSh sh) {p0 : Nat} {p1 : Nat} (hp0 : wSh sh p0) (hp1 : wSh sh p1) (hE : fX10_copyFrom sh σ p0 p1 = some (r, τ)) : i_X 2 89 [.ref p0, .ref p1] (s_h sh σ) 0 0 none (s_h sh τ) := by
  refine g_X (M := mX10_copyFrom) (loc := [.ref p0, .ref p1, .retAddr 0, .retAddr 0]) rfl (Nat.le_of_ble_eq_true rfl) rfl ?_
  unfold fX10_copyFrom at hE
  refine g_ldan aX10_copyFrom_0 rfl ?_
  refine g_getR aX10_copyFrom_1 (hp0.1) rfl ?_
  refine g_ldan aX10_copyFrom_4 rfl ?_
  refine g_getR aX10_copyFrom_5 (hp1.1) rfl ?_
  obtain ⟨r1, s2, h3, hE⟩ := i_bd_some hE
  refine g_calV (As := [.ref (p1 + 1)]) (rest := []) aX10_copyFrom_8 (i_X_mono (by omega) (tX6_copyFrom hsh hp0.2.1 hp1.2.1 h3)) (hp0.2.1.1) (by decide +kernel) rfl rfl (Nat.le_of_ble_eq_true rfl) rfl ?_
  refine g_ldan aX10_copyFrom_11 rfl ?_
  refine g_getR aX10_copyFrom_12 (hp0.1) rfl ?_
  refine g_ldan aX10_copyFrom_15 rfl ?_
  refine g_getR aX10_copyFrom_16 (hp1.1) rfl ?_
  obtain ⟨r4, s5, h6, hE⟩ := i_bd_some hE
  refine g_calV (As := [.ref (p1 + 7)]) (rest := []) aX10_copyFrom_19 (i_X_mono (by omega) (tX4_copyFrom hsh hp0.2.2.1 hp1.2.2.1 h6)) (hp0.2.2.1.1) (by decide +kernel) rfl rfl (Nat.le_of_ble_eq_true rfl) rfl ?_
  refine g_ldan aX10_copyFrom_22 rfl ?_
  refine g_ldan aX10_copyFrom_23 rfl ?_
  refine g_getI aX10_copyFrom_24 (hp1.1) rfl ?_
  refine g_putI aX10_copyFrom_27 (hp0.1) rfl rfl ?_
  refine g_ldan aX10_copyFrom_30 rfl ?_
  refine g_ldan aX10_copyFrom_31 rfl ?_
  refine g_getI aX10_copyFrom_32 (hp1.1) rfl ?_
  refine g_putI aX10_copyFrom_35 (hp0.1) rfl rfl ?_
  refine g_iconst (x := 0) aX10_copyFrom_38 rfl ?_
  refine g_stin (loc2 := [.ref p0, .ref p1, .int 0, .retAddr 0]) aX10_copyFrom_39 (Nat.le_of_ble_eq_true rfl) rfl ?_
  exact tX10_copyFrom_L40 hsh hp0 hp1 (fun x60 x61 s62 hE => tX10_copyFrom_X79 hsh hp0 hp1 hE) i_F _ _ _ hE
theorem aX11_feed_0 : i_at mX11_feed.2.2.2.2.2 0 = some (.aload_n 0, 1, 0, 0, 0, 0) := by decide +kernel
theorem aX11_feed_1 : i_at mX11_feed.2.2.2.2.2 1 = some (.getfield 10, 3, 10, 0, 454, 0) := by decide +kernel
theorem aX11_feed_4 : i_at mX11_feed.2.2.2.2.2 4 = some (.getfield 83, 3, 8, 1, 128, 0) := by decide +kernel
theorem aX11_feed_7 : i_at mX11_feed.2.2.2.2.2 7 = some (.bipush 20, 2, 0, 0, 0, 0) := by decide +kernel
theorem aX11_feed_9 : i_at mX11_feed.2.2.2.2.2 9 = some (.iadd, 1, 0, 0, 0, 0) := by decide +kernel
theorem aX11_feed_10 : i_at mX11_feed.2.2.2.2.2 10 = some (.sipush 400, 3, 0, 0, 0, 0) := by decide +kernel
theorem aX11_feed_13 : i_at mX11_feed.2.2.2.2.2 13 = some (.if_icmp .le 5, 3, 18, 0, 0, 0) := by decide +kernel
theorem aX11_feed_16 : i_at mX11_feed.2.2.2.2.2 16 = some (.iconst (-1), 1, 0, 0, 0, 0) := by decide +kernel
theorem aX11_feed_17 : i_at mX11_feed.2.2.2.2.2 17 = some (.ireturn, 1, 0, 0, 0, 0) := by decide +kernel
theorem aX11_feed_18 : i_at mX11_feed.2.2.2.2.2 18 = some (.aload_n 0, 1, 0, 0, 0, 0) := by decide +kernel
theorem aX11_feed_19 : i_at mX11_feed.2.2.2.2.2 19 = some (.getfield 10, 3, 10, 0, 454, 0) := by decide +kernel
theorem aX11_feed_22 : i_at mX11_feed.2.2.2.2.2 22 = some (.iload_n 1, 1, 0, 0, 0, 0) := by decide +kernel
theorem aX11_feed_23 : i_at mX11_feed.2.2.2.2.2 23 = some (.invokevirtual 87, 3, 75, 1, 492, 0) := by decide +kernel
theorem aX11_feed_26 : i_at mX11_feed.2.2.2.2.2 26 = some (.aload_n 0, 1, 0, 0, 0, 0) := by decide +kernel
theorem aX11_feed_27 : i_at mX11_feed.2.2.2.2.2 27 = some (.getfield 10, 3, 10, 0, 454, 0) := by decide +kernel
theorem aX11_feed_30 : i_at mX11_feed.2.2.2.2.2 30 = some (.iload_n 2, 1, 0, 0, 0, 0) := by decide +kernel
theorem aX11_feed_31 : i_at mX11_feed.2.2.2.2.2 31 = some (.invokevirtual 87, 3, 75, 1, 492, 0) := by decide +kernel
theorem aX11_feed_34 : i_at mX11_feed.2.2.2.2.2 34 = some (.aload_n 0, 1, 0, 0, 0, 0) := by decide +kernel
theorem aX11_feed_35 : i_at mX11_feed.2.2.2.2.2 35 = some (.getfield 10, 3, 10, 0, 454, 0) := by decide +kernel
theorem aX11_feed_38 : i_at mX11_feed.2.2.2.2.2 38 = some (.iload_n 3, 1, 0, 0, 0, 0) := by decide +kernel
theorem aX11_feed_39 : i_at mX11_feed.2.2.2.2.2 39 = some (.invokevirtual 87, 3, 75, 1, 492, 0) := by decide +kernel
theorem aX11_feed_42 : i_at mX11_feed.2.2.2.2.2 42 = some (.aload_n 0, 1, 0, 0, 0, 0) := by decide +kernel
theorem aX11_feed_43 : i_at mX11_feed.2.2.2.2.2 43 = some (.getfield 10, 3, 10, 0, 454, 0) := by decide +kernel
theorem aX11_feed_46 : i_at mX11_feed.2.2.2.2.2 46 = some (.iload 4, 2, 0, 0, 0, 0) := by decide +kernel
theorem aX11_feed_48 : i_at mX11_feed.2.2.2.2.2 48 = some (.invokevirtual 87, 3, 75, 1, 492, 0) := by decide +kernel
theorem aX11_feed_51 : i_at mX11_feed.2.2.2.2.2 51 = some (.aload_n 0, 1, 0, 0, 0, 0) := by decide +kernel
theorem aX11_feed_52 : i_at mX11_feed.2.2.2.2.2 52 = some (.getfield 10, 3, 10, 0, 454, 0) := by decide +kernel
theorem aX11_feed_55 : i_at mX11_feed.2.2.2.2.2 55 = some (.iload 5, 2, 0, 0, 0, 0) := by decide +kernel
theorem aX11_feed_57 : i_at mX11_feed.2.2.2.2.2 57 = some (.invokevirtual 87, 3, 75, 1, 492, 0) := by decide +kernel
theorem aX11_feed_60 : i_at mX11_feed.2.2.2.2.2 60 = some (.aload_n 0, 1, 0, 0, 0, 0) := by decide +kernel
theorem aX11_feed_61 : i_at mX11_feed.2.2.2.2.2 61 = some (.getfield 10, 3, 10, 0, 454, 0) := by decide +kernel
theorem aX11_feed_64 : i_at mX11_feed.2.2.2.2.2 64 = some (.getfield 83, 3, 8, 1, 128, 0) := by decide +kernel
theorem aX11_feed_67 : i_at mX11_feed.2.2.2.2.2 67 = some (.ireturn, 1, 0, 0, 0, 0) := by decide +kernel
noncomputable def fX11_feed (sh : List kd) (σ : St) (p1 : Int32) (p2 : Int32) (p3 : Int32) (p4 : Int32) (p5 : Int32) : Option (Int32 × St) := if ((σ.1 1 1) + 20) ≤ 400 then i_bd (fX9_append sh σ p1) (fun r2 s3 => i_bd (fX9_append sh s3 p2) (fun r5 s6 => i_bd (fX9_append sh s6 p3) (fun r8 s9 => i_bd (fX9_append sh s9 p4) (fun r11 s12 => i_bd (fX9_append sh s12 p5) (fun r14 s15 => some ((s15.1 1 1), s15)))))) else some ((-1), σ)
set_option maxRecDepth 20000 in
set_option maxHeartbeats 2000000 in
theorem tX11_feed {sh : List kd} {σ τ : St} {r : Int32} (hsh : cSh sh) {p1 : Int32} {p2 : Int32} {p3 : Int32} {p4 : Int32} {p5 : Int32} (hE : fX11_feed sh σ p1 p2 p3 p4 p5 = some (r, τ)) : i_X 2 91 [.ref 0, .int p1, .int p2, .int p3, .int p4, .int p5] (s_h sh σ) 0 0 (some (.int r)) (s_h sh τ) := by
  refine g_X (M := mX11_feed) (loc := [.ref 0, .int p1, .int p2, .int p3, .int p4, .int p5]) rfl (Nat.le_of_ble_eq_true rfl) rfl ?_
  unfold fX11_feed at hE
  refine g_ldan aX11_feed_0 rfl ?_
  refine g_getR aX11_feed_1 (sC_0 hsh) rfl ?_
  refine g_getI aX11_feed_4 (sC_1 hsh) rfl ?_
  refine g_bipush (x := 20) aX11_feed_7 rfl ?_
  refine g_iadd aX11_feed_9 ?_
  refine g_sipush (x := 400) aX11_feed_10 rfl ?_
  by_cases hc1 : ((σ.1 1 1) + 20) ≤ 400
  · rw [if_pos hc1] at hE
    refine g_ic_le_t aX11_feed_13 hc1 ?_
    refine g_ldan aX11_feed_18 rfl ?_
    refine g_getR aX11_feed_19 (sC_0 hsh) rfl ?_
    refine g_ldin aX11_feed_22 rfl ?_
    obtain ⟨r2, s3, h4, hE⟩ := i_bd_some hE
    refine g_calV (As := [.int p1]) (rest := []) aX11_feed_23 (i_X_mono (by omega) (tX9_append hsh h4)) (sC_1 hsh) (by decide +kernel) rfl rfl (Nat.le_of_ble_eq_true rfl) rfl ?_
    refine g_ldan aX11_feed_26 rfl ?_
    refine g_getR aX11_feed_27 (sC_0 hsh) rfl ?_
    refine g_ldin aX11_feed_30 rfl ?_
    obtain ⟨r5, s6, h7, hE⟩ := i_bd_some hE
    refine g_calV (As := [.int p2]) (rest := []) aX11_feed_31 (i_X_mono (by omega) (tX9_append hsh h7)) (sC_1 hsh) (by decide +kernel) rfl rfl (Nat.le_of_ble_eq_true rfl) rfl ?_
    refine g_ldan aX11_feed_34 rfl ?_
    refine g_getR aX11_feed_35 (sC_0 hsh) rfl ?_
    refine g_ldin aX11_feed_38 rfl ?_
    obtain ⟨r8, s9, h10, hE⟩ := i_bd_some hE
    refine g_calV (As := [.int p3]) (rest := []) aX11_feed_39 (i_X_mono (by omega) (tX9_append hsh h10)) (sC_1 hsh) (by decide +kernel) rfl rfl (Nat.le_of_ble_eq_true rfl) rfl ?_
    refine g_ldan aX11_feed_42 rfl ?_
    refine g_getR aX11_feed_43 (sC_0 hsh) rfl ?_
    refine g_ldi aX11_feed_46 rfl ?_
    obtain ⟨r11, s12, h13, hE⟩ := i_bd_some hE
    refine g_calV (As := [.int p4]) (rest := []) aX11_feed_48 (i_X_mono (by omega) (tX9_append hsh h13)) (sC_1 hsh) (by decide +kernel) rfl rfl (Nat.le_of_ble_eq_true rfl) rfl ?_
    refine g_ldan aX11_feed_51 rfl ?_
    refine g_getR aX11_feed_52 (sC_0 hsh) rfl ?_
    refine g_ldi aX11_feed_55 rfl ?_
    obtain ⟨r14, s15, h16, hE⟩ := i_bd_some hE
    refine g_calV (As := [.int p5]) (rest := []) aX11_feed_57 (i_X_mono (by omega) (tX9_append hsh h16)) (sC_1 hsh) (by decide +kernel) rfl rfl (Nat.le_of_ble_eq_true rfl) rfl ?_
    refine g_ldan aX11_feed_60 rfl ?_
    refine g_getR aX11_feed_61 (sC_0 hsh) rfl ?_
    refine g_getI aX11_feed_64 (sC_1 hsh) rfl ?_
    obtain ⟨rfl, rfl⟩ := i_some_inj hE
    exact g_iret aX11_feed_67 rfl rfl
  · rw [if_neg hc1] at hE
    refine g_ic_le_f aX11_feed_13 hc1 ?_
    refine g_iconst (x := (-1)) aX11_feed_16 rfl ?_
    obtain ⟨rfl, rfl⟩ := i_some_inj hE
    exact g_iret aX11_feed_17 rfl rfl
theorem aX11_end_0 : i_at mX11_end.2.2.2.2.2 0 = some (.iload_n 1, 1, 0, 0, 0, 0) := by decide +kernel
theorem aX11_end_1 : i_at mX11_end.2.2.2.2.2 1 = some (.ifCond .lt 14, 3, 15, 0, 0, 0) := by decide +kernel
theorem aX11_end_4 : i_at mX11_end.2.2.2.2.2 4 = some (.iload_n 1, 1, 0, 0, 0, 0) := by decide +kernel
theorem aX11_end_5 : i_at mX11_end.2.2.2.2.2 5 = some (.aload_n 0, 1, 0, 0, 0, 0) := by decide +kernel
theorem aX11_end_6 : i_at mX11_end.2.2.2.2.2 6 = some (.getfield 10, 3, 10, 0, 454, 0) := by decide +kernel
theorem aX11_end_9 : i_at mX11_end.2.2.2.2.2 9 = some (.getfield 83, 3, 8, 1, 128, 0) := by decide +kernel
theorem aX11_end_12 : i_at mX11_end.2.2.2.2.2 12 = some (.if_icmp .le 5, 3, 17, 0, 0, 0) := by decide +kernel
theorem aX11_end_15 : i_at mX11_end.2.2.2.2.2 15 = some (.iconst (-1), 1, 0, 0, 0, 0) := by decide +kernel
theorem aX11_end_16 : i_at mX11_end.2.2.2.2.2 16 = some (.ireturn, 1, 0, 0, 0, 0) := by decide +kernel
theorem aX11_end_17 : i_at mX11_end.2.2.2.2.2 17 = some (.aload_n 0, 1, 0, 0, 0, 0) := by decide +kernel
theorem aX11_end_18 : i_at mX11_end.2.2.2.2.2 18 = some (.getfield 10, 3, 10, 0, 454, 0) := by decide +kernel
theorem aX11_end_21 : i_at mX11_end.2.2.2.2.2 21 = some (.iload_n 1, 1, 0, 0, 0, 0) := by decide +kernel
theorem aX11_end_22 : i_at mX11_end.2.2.2.2.2 22 = some (.putfield 83, 3, 8, 1, 128, 0) := by decide +kernel
theorem aX11_end_25 : i_at mX11_end.2.2.2.2.2 25 = some (.iload_n 1, 1, 0, 0, 0, 0) := by decide +kernel
theorem aX11_end_26 : i_at mX11_end.2.2.2.2.2 26 = some (.ireturn, 1, 0, 0, 0, 0) := by decide +kernel
noncomputable def fX11_end (sh : List kd) (σ : St) (p1 : Int32) : Option (Int32 × St) := if p1 < 0 then some ((-1), σ) else if p1 ≤ (σ.1 1 1) then some (p1, s_F σ 1 1 p1) else some ((-1), σ)
set_option maxRecDepth 20000 in
set_option maxHeartbeats 2000000 in
theorem tX11_end {sh : List kd} {σ τ : St} {r : Int32} (hsh : cSh sh) {p1 : Int32} (hE : fX11_end sh σ p1 = some (r, τ)) : i_X 1 92 [.ref 0, .int p1] (s_h sh σ) 0 0 (some (.int r)) (s_h sh τ) := by
  refine g_X (M := mX11_end) (loc := [.ref 0, .int p1]) rfl (Nat.le_of_ble_eq_true rfl) rfl ?_
  unfold fX11_end at hE
  refine g_ldin aX11_end_0 rfl ?_
  by_cases hc1 : p1 < 0
  · rw [if_pos hc1] at hE
    refine g_if_lt_t aX11_end_1 hc1 ?_
    refine g_iconst (x := (-1)) aX11_end_15 rfl ?_
    obtain ⟨rfl, rfl⟩ := i_some_inj hE
    exact g_iret aX11_end_16 rfl rfl
  · rw [if_neg hc1] at hE
    refine g_if_lt_f aX11_end_1 hc1 ?_
    refine g_ldin aX11_end_4 rfl ?_
    refine g_ldan aX11_end_5 rfl ?_
    refine g_getR aX11_end_6 (sC_0 hsh) rfl ?_
    refine g_getI aX11_end_9 (sC_1 hsh) rfl ?_
    by_cases hc2 : p1 ≤ (σ.1 1 1)
    · rw [if_pos hc2] at hE
      refine g_ic_le_t aX11_end_12 hc2 ?_
      refine g_ldan aX11_end_17 rfl ?_
      refine g_getR aX11_end_18 (sC_0 hsh) rfl ?_
      refine g_ldin aX11_end_21 rfl ?_
      refine g_putI aX11_end_22 (sC_1 hsh) rfl rfl ?_
      refine g_ldin aX11_end_25 rfl ?_
      obtain ⟨rfl, rfl⟩ := i_some_inj hE
      exact g_iret aX11_end_26 rfl rfl
    · rw [if_neg hc2] at hE
      refine g_ic_le_f aX11_end_12 hc2 ?_
      refine g_iconst (x := (-1)) aX11_end_15 rfl ?_
      obtain ⟨rfl, rfl⟩ := i_some_inj hE
      exact g_iret aX11_end_16 rfl rfl
theorem aX11_force_0 : i_at mX11_force.2.2.2.2.2 0 = some (.iload_n 1, 1, 0, 0, 0, 0) := by decide +kernel
theorem aX11_force_1 : i_at mX11_force.2.2.2.2.2 1 = some (.iconst (-1), 1, 0, 0, 0, 0) := by decide +kernel
theorem aX11_force_2 : i_at mX11_force.2.2.2.2.2 2 = some (.if_icmp .lt 11, 3, 13, 0, 0, 0) := by decide +kernel
theorem aX11_force_5 : i_at mX11_force.2.2.2.2.2 5 = some (.iload_n 1, 1, 0, 0, 0, 0) := by decide +kernel
theorem aX11_force_6 : i_at mX11_force.2.2.2.2.2 6 = some (.aload_n 0, 1, 0, 0, 0, 0) := by decide +kernel
theorem aX11_force_7 : i_at mX11_force.2.2.2.2.2 7 = some (.getfield 120, 3, 10, 10, 464, 0) := by decide +kernel
theorem aX11_force_10 : i_at mX11_force.2.2.2.2.2 10 = some (.if_icmp .lt 6, 3, 16, 0, 0, 0) := by decide +kernel
theorem aX11_force_13 : i_at mX11_force.2.2.2.2.2 13 = some (.bipush (-2), 2, 0, 0, 0, 0) := by decide +kernel
theorem aX11_force_15 : i_at mX11_force.2.2.2.2.2 15 = some (.ireturn, 1, 0, 0, 0, 0) := by decide +kernel
theorem aX11_force_16 : i_at mX11_force.2.2.2.2.2 16 = some (.aload_n 0, 1, 0, 0, 0, 0) := by decide +kernel
theorem aX11_force_17 : i_at mX11_force.2.2.2.2.2 17 = some (.getfield 59, 3, 10, 6, 460, 0) := by decide +kernel
theorem aX11_force_20 : i_at mX11_force.2.2.2.2.2 20 = some (.getfield 128, 3, 9, 8, 367, 0) := by decide +kernel
theorem aX11_force_23 : i_at mX11_force.2.2.2.2.2 23 = some (.istore_n 2, 1, 0, 0, 0, 0) := by decide +kernel
theorem aX11_force_24 : i_at mX11_force.2.2.2.2.2 24 = some (.aload_n 0, 1, 0, 0, 0, 0) := by decide +kernel
theorem aX11_force_25 : i_at mX11_force.2.2.2.2.2 25 = some (.getfield 59, 3, 10, 6, 460, 0) := by decide +kernel
theorem aX11_force_28 : i_at mX11_force.2.2.2.2.2 28 = some (.iload_n 1, 1, 0, 0, 0, 0) := by decide +kernel
theorem aX11_force_29 : i_at mX11_force.2.2.2.2.2 29 = some (.putfield 128, 3, 9, 8, 367, 0) := by decide +kernel
theorem aX11_force_32 : i_at mX11_force.2.2.2.2.2 32 = some (.iload_n 2, 1, 0, 0, 0, 0) := by decide +kernel
theorem aX11_force_33 : i_at mX11_force.2.2.2.2.2 33 = some (.ireturn, 1, 0, 0, 0, 0) := by decide +kernel
noncomputable def fX11_force (sh : List kd) (σ : St) (p1 : Int32) : Option (Int32 × St) := if p1 < (-1) then some ((-2), σ) else if p1 < (σ.1 0 10) then some ((σ.1 19 8), s_F σ 19 8 p1) else some ((-2), σ)
set_option maxRecDepth 20000 in
set_option maxHeartbeats 2000000 in
theorem tX11_force {sh : List kd} {σ τ : St} {r : Int32} (hsh : cSh sh) {p1 : Int32} (hE : fX11_force sh σ p1 = some (r, τ)) : i_X 1 95 [.ref 0, .int p1] (s_h sh σ) 0 0 (some (.int r)) (s_h sh τ) := by
  refine g_X (M := mX11_force) (loc := [.ref 0, .int p1, .retAddr 0]) rfl (Nat.le_of_ble_eq_true rfl) rfl ?_
  unfold fX11_force at hE
  refine g_ldin aX11_force_0 rfl ?_
  refine g_iconst (x := (-1)) aX11_force_1 rfl ?_
  by_cases hc1 : p1 < (-1)
  · rw [if_pos hc1] at hE
    refine g_ic_lt_t aX11_force_2 hc1 ?_
    refine g_bipush (x := (-2)) aX11_force_13 rfl ?_
    obtain ⟨rfl, rfl⟩ := i_some_inj hE
    exact g_iret aX11_force_15 rfl rfl
  · rw [if_neg hc1] at hE
    refine g_ic_lt_f aX11_force_2 hc1 ?_
    refine g_ldin aX11_force_5 rfl ?_
    refine g_ldan aX11_force_6 rfl ?_
    refine g_getI aX11_force_7 (sC_0 hsh) rfl ?_
    by_cases hc2 : p1 < (σ.1 0 10)
    · rw [if_pos hc2] at hE
      refine g_ic_lt_t aX11_force_10 hc2 ?_
      refine g_ldan aX11_force_16 rfl ?_
      refine g_getR aX11_force_17 (sC_0 hsh) rfl ?_
      refine g_getI aX11_force_20 ((wShB_19 hsh).1) rfl ?_
      refine g_stin (loc2 := [.ref 0, .int p1, .int (σ.1 19 8)]) aX11_force_23 (Nat.le_of_ble_eq_true rfl) rfl ?_
      refine g_ldan aX11_force_24 rfl ?_
      refine g_getR aX11_force_25 (sC_0 hsh) rfl ?_
      refine g_ldin aX11_force_28 rfl ?_
      refine g_putI aX11_force_29 ((wShB_19 hsh).1) rfl rfl ?_
      refine g_ldin aX11_force_32 rfl ?_
      obtain ⟨rfl, rfl⟩ := i_some_inj hE
      exact g_iret aX11_force_33 rfl rfl
    · rw [if_neg hc2] at hE
      refine g_ic_lt_f aX11_force_10 hc2 ?_
      refine g_bipush (x := (-2)) aX11_force_13 rfl ?_
      obtain ⟨rfl, rfl⟩ := i_some_inj hE
      exact g_iret aX11_force_15 rfl rfl
theorem aX11_thing_0 : i_at mX11_thing.2.2.2.2.2 0 = some (.aload_n 0, 1, 0, 0, 0, 0) := by decide +kernel
theorem aX11_thing_1 : i_at mX11_thing.2.2.2.2.2 1 = some (.getfield 59, 3, 10, 6, 460, 0) := by decide +kernel
theorem aX11_thing_4 : i_at mX11_thing.2.2.2.2.2 4 = some (.getfield 95, 3, 9, 0, 347, 0) := by decide +kernel
theorem aX11_thing_7 : i_at mX11_thing.2.2.2.2.2 7 = some (.iload_n 1, 1, 0, 0, 0, 0) := by decide +kernel
theorem aX11_thing_8 : i_at mX11_thing.2.2.2.2.2 8 = some (.invokevirtual 131, 3, 53, 1, 757, 0) := by decide +kernel
theorem aX11_thing_11 : i_at mX11_thing.2.2.2.2.2 11 = some (.ifCond .ne 5, 3, 16, 0, 0, 0) := by decide +kernel
theorem aX11_thing_14 : i_at mX11_thing.2.2.2.2.2 14 = some (.iconst (-1), 1, 0, 0, 0, 0) := by decide +kernel
theorem aX11_thing_15 : i_at mX11_thing.2.2.2.2.2 15 = some (.ireturn, 1, 0, 0, 0, 0) := by decide +kernel
theorem aX11_thing_16 : i_at mX11_thing.2.2.2.2.2 16 = some (.iload_n 2, 1, 0, 0, 0, 0) := by decide +kernel
theorem aX11_thing_17 : i_at mX11_thing.2.2.2.2.2 17 = some (.tableswitch 82 0 3 #[31, 44, 57, 69], 31, 0, 0, 0, 0) := by decide +kernel
theorem aX11_thing_48 : i_at mX11_thing.2.2.2.2.2 48 = some (.aload_n 0, 1, 0, 0, 0, 0) := by decide +kernel
theorem aX11_thing_49 : i_at mX11_thing.2.2.2.2.2 49 = some (.getfield 59, 3, 10, 6, 460, 0) := by decide +kernel
theorem aX11_thing_52 : i_at mX11_thing.2.2.2.2.2 52 = some (.getfield 95, 3, 9, 0, 347, 0) := by decide +kernel
theorem aX11_thing_55 : i_at mX11_thing.2.2.2.2.2 55 = some (.getfield 135, 3, 5, 5, 178, 0) := by decide +kernel
theorem aX11_thing_58 : i_at mX11_thing.2.2.2.2.2 58 = some (.iload_n 1, 1, 0, 0, 0, 0) := by decide +kernel
theorem aX11_thing_59 : i_at mX11_thing.2.2.2.2.2 59 = some (.iaload, 1, 0, 0, 0, 0) := by decide +kernel
theorem aX11_thing_60 : i_at mX11_thing.2.2.2.2.2 60 = some (.ireturn, 1, 0, 0, 0, 0) := by decide +kernel
theorem aX11_thing_61 : i_at mX11_thing.2.2.2.2.2 61 = some (.aload_n 0, 1, 0, 0, 0, 0) := by decide +kernel
theorem aX11_thing_62 : i_at mX11_thing.2.2.2.2.2 62 = some (.getfield 59, 3, 10, 6, 460, 0) := by decide +kernel
theorem aX11_thing_65 : i_at mX11_thing.2.2.2.2.2 65 = some (.getfield 102, 3, 9, 1, 351, 0) := by decide +kernel
theorem aX11_thing_68 : i_at mX11_thing.2.2.2.2.2 68 = some (.getfield 139, 3, 3, 7, 323, 0) := by decide +kernel
theorem aX11_thing_71 : i_at mX11_thing.2.2.2.2.2 71 = some (.iload_n 1, 1, 0, 0, 0, 0) := by decide +kernel
theorem aX11_thing_72 : i_at mX11_thing.2.2.2.2.2 72 = some (.iaload, 1, 0, 0, 0, 0) := by decide +kernel
theorem aX11_thing_73 : i_at mX11_thing.2.2.2.2.2 73 = some (.ireturn, 1, 0, 0, 0, 0) := by decide +kernel
theorem aX11_thing_74 : i_at mX11_thing.2.2.2.2.2 74 = some (.aload_n 0, 1, 0, 0, 0, 0) := by decide +kernel
theorem aX11_thing_75 : i_at mX11_thing.2.2.2.2.2 75 = some (.getfield 59, 3, 10, 6, 460, 0) := by decide +kernel
theorem aX11_thing_78 : i_at mX11_thing.2.2.2.2.2 78 = some (.getfield 102, 3, 9, 1, 351, 0) := by decide +kernel
theorem aX11_thing_81 : i_at mX11_thing.2.2.2.2.2 81 = some (.iload_n 1, 1, 0, 0, 0, 0) := by decide +kernel
theorem aX11_thing_82 : i_at mX11_thing.2.2.2.2.2 82 = some (.invokevirtual 142, 3, 30, 1, 761, 0) := by decide +kernel
theorem aX11_thing_85 : i_at mX11_thing.2.2.2.2.2 85 = some (.ireturn, 1, 0, 0, 0, 0) := by decide +kernel
theorem aX11_thing_86 : i_at mX11_thing.2.2.2.2.2 86 = some (.aload_n 0, 1, 0, 0, 0, 0) := by decide +kernel
theorem aX11_thing_87 : i_at mX11_thing.2.2.2.2.2 87 = some (.getfield 59, 3, 10, 6, 460, 0) := by decide +kernel
theorem aX11_thing_90 : i_at mX11_thing.2.2.2.2.2 90 = some (.getfield 95, 3, 9, 0, 347, 0) := by decide +kernel
theorem aX11_thing_93 : i_at mX11_thing.2.2.2.2.2 93 = some (.getfield 146, 3, 5, 6, 181, 0) := by decide +kernel
theorem aX11_thing_96 : i_at mX11_thing.2.2.2.2.2 96 = some (.iload_n 1, 1, 0, 0, 0, 0) := by decide +kernel
theorem aX11_thing_97 : i_at mX11_thing.2.2.2.2.2 97 = some (.iaload, 1, 0, 0, 0, 0) := by decide +kernel
theorem aX11_thing_98 : i_at mX11_thing.2.2.2.2.2 98 = some (.ireturn, 1, 0, 0, 0, 0) := by decide +kernel
theorem aX11_thing_99 : i_at mX11_thing.2.2.2.2.2 99 = some (.iconst (-1), 1, 0, 0, 0, 0) := by decide +kernel
theorem aX11_thing_100 : i_at mX11_thing.2.2.2.2.2 100 = some (.ireturn, 1, 0, 0, 0, 0) := by decide +kernel
noncomputable def fX11_thing (sh : List kd) (σ : St) (p1 : Int32) (p2 : Int32) : Option (Int32 × St) := i_bd (fX6_hasThing sh σ 20 p1) (fun r1 s2 => if ¬ r1 = 0 then if p2 = 0 then if i_ok p1 6 then some ((s2.2.1 21 p1.toNatClampNeg), s2) else none else if p2 = 1 then if i_ok p1 6 then some ((s2.2.1 30 p1.toNatClampNeg), s2) else none else if p2 = 2 then i_bd (fX4_bearers sh s2 26 p1) (fun r10 s11 => some (r10, s11)) else if p2 = 3 then if i_ok p1 6 then some ((s2.2.1 22 p1.toNatClampNeg), s2) else none else some ((-1), s2) else some ((-1), s2))
set_option maxRecDepth 20000 in
set_option maxHeartbeats 2000000 in
theorem tX11_thing {sh : List kd} {σ τ : St} {r : Int32} (hsh : cSh sh) {p1 : Int32} {p2 : Int32} (hE : fX11_thing sh σ p1 p2 = some (r, τ)) : i_X 2 96 [.ref 0, .int p1, .int p2] (s_h sh σ) 0 0 (some (.int r)) (s_h sh τ) := by
  refine g_X (M := mX11_thing) (loc := [.ref 0, .int p1, .int p2]) rfl (Nat.le_of_ble_eq_true rfl) rfl ?_
  unfold fX11_thing at hE
  refine g_ldan aX11_thing_0 rfl ?_
  refine g_getR aX11_thing_1 (sC_0 hsh) rfl ?_
  refine g_getR aX11_thing_4 ((wShB_19 hsh).1) rfl ?_
  refine g_ldin aX11_thing_7 rfl ?_
  obtain ⟨r1, s2, h3, hE⟩ := i_bd_some hE
  refine g_calV (As := [.int p1]) (rest := []) aX11_thing_8 (i_X_mono (by omega) (tX6_hasThing hsh (rShB_20 hsh) h3)) ((rShB_20 hsh).1) (by decide +kernel) rfl rfl (Nat.le_of_ble_eq_true rfl) rfl ?_
  by_cases hc4 : ¬ r1 = 0
  · rw [if_pos hc4] at hE
    refine g_if_ne_t aX11_thing_11 hc4 ?_
    refine g_ldin aX11_thing_16 rfl ?_
    by_cases hc5 : p2 = 0
    · rw [if_pos hc5] at hE
      refine g_tabIn (i := 0) aX11_thing_17 (by rw [hc5]; decide) (by decide) rfl rfl ?_
      refine g_ldan aX11_thing_48 rfl ?_
      refine g_getR aX11_thing_49 (sC_0 hsh) rfl ?_
      refine g_getR aX11_thing_52 ((wShB_19 hsh).1) rfl ?_
      refine g_getR aX11_thing_55 ((rShB_20 hsh).1) rfl ?_
      refine g_ldin aX11_thing_58 rfl ?_
      obtain ⟨h6, hE⟩ := i_ifn hE
      refine g_ild aX11_thing_59 (sC_21 hsh) h6 ?_
      obtain ⟨rfl, rfl⟩ := i_some_inj hE
      exact g_iret aX11_thing_60 rfl rfl
    · rw [if_neg hc5] at hE
      by_cases hc7 : p2 = 1
      · rw [if_pos hc7] at hE
        refine g_tabIn (i := 1) aX11_thing_17 (by rw [hc7]; decide) (by decide) rfl rfl ?_
        refine g_ldan aX11_thing_61 rfl ?_
        refine g_getR aX11_thing_62 (sC_0 hsh) rfl ?_
        refine g_getR aX11_thing_65 ((wShB_19 hsh).1) rfl ?_
        refine g_getR aX11_thing_68 ((lShB_26 hsh).1) rfl ?_
        refine g_ldin aX11_thing_71 rfl ?_
        obtain ⟨h8, hE⟩ := i_ifn hE
        refine g_ild aX11_thing_72 (sC_30 hsh) h8 ?_
        obtain ⟨rfl, rfl⟩ := i_some_inj hE
        exact g_iret aX11_thing_73 rfl rfl
      · rw [if_neg hc7] at hE
        by_cases hc9 : p2 = 2
        · rw [if_pos hc9] at hE
          refine g_tabIn (i := 2) aX11_thing_17 (by rw [hc9]; decide) (by decide) rfl rfl ?_
          refine g_ldan aX11_thing_74 rfl ?_
          refine g_getR aX11_thing_75 (sC_0 hsh) rfl ?_
          refine g_getR aX11_thing_78 ((wShB_19 hsh).1) rfl ?_
          refine g_ldin aX11_thing_81 rfl ?_
          obtain ⟨r10, s11, h12, hE⟩ := i_bd_some hE
          refine g_calV (As := [.int p1]) (rest := []) aX11_thing_82 (i_X_mono (by omega) (tX4_bearers hsh (lShB_26 hsh) h12)) ((lShB_26 hsh).1) (by decide +kernel) rfl rfl (Nat.le_of_ble_eq_true rfl) rfl ?_
          obtain ⟨rfl, rfl⟩ := i_some_inj hE
          exact g_iret aX11_thing_85 rfl rfl
        · rw [if_neg hc9] at hE
          by_cases hc13 : p2 = 3
          · rw [if_pos hc13] at hE
            refine g_tabIn (i := 3) aX11_thing_17 (by rw [hc13]; decide) (by decide) rfl rfl ?_
            refine g_ldan aX11_thing_86 rfl ?_
            refine g_getR aX11_thing_87 (sC_0 hsh) rfl ?_
            refine g_getR aX11_thing_90 ((wShB_19 hsh).1) rfl ?_
            refine g_getR aX11_thing_93 ((rShB_20 hsh).1) rfl ?_
            refine g_ldin aX11_thing_96 rfl ?_
            obtain ⟨h14, hE⟩ := i_ifn hE
            refine g_ild aX11_thing_97 (sC_22 hsh) h14 ?_
            obtain ⟨rfl, rfl⟩ := i_some_inj hE
            exact g_iret aX11_thing_98 rfl rfl
          · rw [if_neg hc13] at hE
            have hto15 : p2.toInt < ((0 : Nat) : Int) ∨ ((3 : Nat) : Int) < p2.toInt := by
              refine i_tabo (x := p2) 0 3 (by decide) (fun k k1 k2 => ?_)
              rcases (show k = 0 ∨ k = 1 ∨ k = 2 ∨ k = 3 by omega) with rfl | rfl | rfl | rfl
              · exact fun hz => hc5 hz
              · exact fun hz => hc7 hz
              · exact fun hz => hc9 hz
              · exact fun hz => hc13 hz
            refine g_tabOut aX11_thing_17 hto15 rfl ?_
            refine g_iconst (x := (-1)) aX11_thing_99 rfl ?_
            obtain ⟨rfl, rfl⟩ := i_some_inj hE
            exact g_iret aX11_thing_100 rfl rfl
  · rw [if_neg hc4] at hE
    refine g_if_ne_f aX11_thing_11 hc4 ?_
    refine g_iconst (x := (-1)) aX11_thing_14 rfl ?_
    obtain ⟨rfl, rfl⟩ := i_some_inj hE
    exact g_iret aX11_thing_15 rfl rfl
theorem aX11_usual_0 : i_at mX11_usual.2.2.2.2.2 0 = some (.iload_n 1, 1, 0, 0, 0, 0) := by decide +kernel
theorem aX11_usual_1 : i_at mX11_usual.2.2.2.2.2 1 = some (.ifCond .lt 17, 3, 18, 0, 0, 0) := by decide +kernel
theorem aX11_usual_4 : i_at mX11_usual.2.2.2.2.2 4 = some (.iload_n 1, 1, 0, 0, 0, 0) := by decide +kernel
theorem aX11_usual_5 : i_at mX11_usual.2.2.2.2.2 5 = some (.aload_n 0, 1, 0, 0, 0, 0) := by decide +kernel
theorem aX11_usual_6 : i_at mX11_usual.2.2.2.2.2 6 = some (.getfield 59, 3, 10, 6, 460, 0) := by decide +kernel
theorem aX11_usual_9 : i_at mX11_usual.2.2.2.2.2 9 = some (.getfield 95, 3, 9, 0, 347, 0) := by decide +kernel
theorem aX11_usual_12 : i_at mX11_usual.2.2.2.2.2 12 = some (.getfield 149, 3, 5, 1, 158, 0) := by decide +kernel
theorem aX11_usual_15 : i_at mX11_usual.2.2.2.2.2 15 = some (.if_icmp .lt 6, 3, 21, 0, 0, 0) := by decide +kernel
theorem aX11_usual_18 : i_at mX11_usual.2.2.2.2.2 18 = some (.bipush (-2), 2, 0, 0, 0, 0) := by decide +kernel
theorem aX11_usual_20 : i_at mX11_usual.2.2.2.2.2 20 = some (.ireturn, 1, 0, 0, 0, 0) := by decide +kernel
theorem aX11_usual_21 : i_at mX11_usual.2.2.2.2.2 21 = some (.aload_n 0, 1, 0, 0, 0, 0) := by decide +kernel
theorem aX11_usual_22 : i_at mX11_usual.2.2.2.2.2 22 = some (.getfield 59, 3, 10, 6, 460, 0) := by decide +kernel
theorem aX11_usual_25 : i_at mX11_usual.2.2.2.2.2 25 = some (.getfield 95, 3, 9, 0, 347, 0) := by decide +kernel
theorem aX11_usual_28 : i_at mX11_usual.2.2.2.2.2 28 = some (.getfield 152, 3, 5, 7, 186, 0) := by decide +kernel
theorem aX11_usual_31 : i_at mX11_usual.2.2.2.2.2 31 = some (.iload_n 1, 1, 0, 0, 0, 0) := by decide +kernel
theorem aX11_usual_32 : i_at mX11_usual.2.2.2.2.2 32 = some (.iaload, 1, 0, 0, 0, 0) := by decide +kernel
theorem aX11_usual_33 : i_at mX11_usual.2.2.2.2.2 33 = some (.ireturn, 1, 0, 0, 0, 0) := by decide +kernel
noncomputable def fX11_usual (sh : List kd) (σ : St) (p1 : Int32) : Option (Int32 × St) := if p1 < 0 then some ((-2), σ) else if p1 < (σ.1 20 1) then if i_ok p1 12 then some ((σ.2.1 23 p1.toNatClampNeg), σ) else none else some ((-2), σ)
set_option maxRecDepth 20000 in
set_option maxHeartbeats 2000000 in
theorem tX11_usual {sh : List kd} {σ τ : St} {r : Int32} (hsh : cSh sh) {p1 : Int32} (hE : fX11_usual sh σ p1 = some (r, τ)) : i_X 1 97 [.ref 0, .int p1] (s_h sh σ) 0 0 (some (.int r)) (s_h sh τ) := by
  refine g_X (M := mX11_usual) (loc := [.ref 0, .int p1]) rfl (Nat.le_of_ble_eq_true rfl) rfl ?_
  unfold fX11_usual at hE
  refine g_ldin aX11_usual_0 rfl ?_
  by_cases hc1 : p1 < 0
  · rw [if_pos hc1] at hE
    refine g_if_lt_t aX11_usual_1 hc1 ?_
    refine g_bipush (x := (-2)) aX11_usual_18 rfl ?_
    obtain ⟨rfl, rfl⟩ := i_some_inj hE
    exact g_iret aX11_usual_20 rfl rfl
  · rw [if_neg hc1] at hE
    refine g_if_lt_f aX11_usual_1 hc1 ?_
    refine g_ldin aX11_usual_4 rfl ?_
    refine g_ldan aX11_usual_5 rfl ?_
    refine g_getR aX11_usual_6 (sC_0 hsh) rfl ?_
    refine g_getR aX11_usual_9 ((wShB_19 hsh).1) rfl ?_
    refine g_getI aX11_usual_12 ((rShB_20 hsh).1) rfl ?_
    by_cases hc2 : p1 < (σ.1 20 1)
    · rw [if_pos hc2] at hE
      refine g_ic_lt_t aX11_usual_15 hc2 ?_
      refine g_ldan aX11_usual_21 rfl ?_
      refine g_getR aX11_usual_22 (sC_0 hsh) rfl ?_
      refine g_getR aX11_usual_25 ((wShB_19 hsh).1) rfl ?_
      refine g_getR aX11_usual_28 ((rShB_20 hsh).1) rfl ?_
      refine g_ldin aX11_usual_31 rfl ?_
      obtain ⟨h3, hE⟩ := i_ifn hE
      refine g_ild aX11_usual_32 (sC_23 hsh) h3 ?_
      obtain ⟨rfl, rfl⟩ := i_some_inj hE
      exact g_iret aX11_usual_33 rfl rfl
    · rw [if_neg hc2] at hE
      refine g_ic_lt_f aX11_usual_15 hc2 ?_
      refine g_bipush (x := (-2)) aX11_usual_18 rfl ?_
      obtain ⟨rfl, rfl⟩ := i_some_inj hE
      exact g_iret aX11_usual_20 rfl rfl
theorem aX11_person_0 : i_at mX11_person.2.2.2.2.2 0 = some (.aload_n 0, 1, 0, 0, 0, 0) := by decide +kernel
theorem aX11_person_1 : i_at mX11_person.2.2.2.2.2 1 = some (.getfield 59, 3, 10, 6, 460, 0) := by decide +kernel
theorem aX11_person_4 : i_at mX11_person.2.2.2.2.2 4 = some (.getfield 95, 3, 9, 0, 347, 0) := by decide +kernel
theorem aX11_person_7 : i_at mX11_person.2.2.2.2.2 7 = some (.iload_n 1, 1, 0, 0, 0, 0) := by decide +kernel
theorem aX11_person_8 : i_at mX11_person.2.2.2.2.2 8 = some (.invokevirtual 155, 3, 54, 1, 773, 0) := by decide +kernel
theorem aX11_person_11 : i_at mX11_person.2.2.2.2.2 11 = some (.ifCond .ne 5, 3, 16, 0, 0, 0) := by decide +kernel
theorem aX11_person_14 : i_at mX11_person.2.2.2.2.2 14 = some (.iconst (-1), 1, 0, 0, 0, 0) := by decide +kernel
theorem aX11_person_15 : i_at mX11_person.2.2.2.2.2 15 = some (.ireturn, 1, 0, 0, 0, 0) := by decide +kernel
theorem aX11_person_16 : i_at mX11_person.2.2.2.2.2 16 = some (.iload_n 2, 1, 0, 0, 0, 0) := by decide +kernel
theorem aX11_person_17 : i_at mX11_person.2.2.2.2.2 17 = some (.tableswitch 110 0 4 #[35, 48, 61, 74, 97], 35, 0, 0, 0, 0) := by decide +kernel
theorem aX11_person_52 : i_at mX11_person.2.2.2.2.2 52 = some (.aload_n 0, 1, 0, 0, 0, 0) := by decide +kernel
theorem aX11_person_53 : i_at mX11_person.2.2.2.2.2 53 = some (.getfield 59, 3, 10, 6, 460, 0) := by decide +kernel
theorem aX11_person_56 : i_at mX11_person.2.2.2.2.2 56 = some (.getfield 102, 3, 9, 1, 351, 0) := by decide +kernel
theorem aX11_person_59 : i_at mX11_person.2.2.2.2.2 59 = some (.getfield 158, 3, 3, 4, 312, 0) := by decide +kernel
theorem aX11_person_62 : i_at mX11_person.2.2.2.2.2 62 = some (.iload_n 1, 1, 0, 0, 0, 0) := by decide +kernel
theorem aX11_person_63 : i_at mX11_person.2.2.2.2.2 63 = some (.iaload, 1, 0, 0, 0, 0) := by decide +kernel
theorem aX11_person_64 : i_at mX11_person.2.2.2.2.2 64 = some (.ireturn, 1, 0, 0, 0, 0) := by decide +kernel
theorem aX11_person_65 : i_at mX11_person.2.2.2.2.2 65 = some (.aload_n 0, 1, 0, 0, 0, 0) := by decide +kernel
theorem aX11_person_66 : i_at mX11_person.2.2.2.2.2 66 = some (.getfield 59, 3, 10, 6, 460, 0) := by decide +kernel
theorem aX11_person_69 : i_at mX11_person.2.2.2.2.2 69 = some (.getfield 95, 3, 9, 0, 347, 0) := by decide +kernel
theorem aX11_person_72 : i_at mX11_person.2.2.2.2.2 72 = some (.getfield 161, 3, 5, 9, 193, 0) := by decide +kernel
theorem aX11_person_75 : i_at mX11_person.2.2.2.2.2 75 = some (.iload_n 1, 1, 0, 0, 0, 0) := by decide +kernel
theorem aX11_person_76 : i_at mX11_person.2.2.2.2.2 76 = some (.iaload, 1, 0, 0, 0, 0) := by decide +kernel
theorem aX11_person_77 : i_at mX11_person.2.2.2.2.2 77 = some (.ireturn, 1, 0, 0, 0, 0) := by decide +kernel
theorem aX11_person_78 : i_at mX11_person.2.2.2.2.2 78 = some (.aload_n 0, 1, 0, 0, 0, 0) := by decide +kernel
theorem aX11_person_79 : i_at mX11_person.2.2.2.2.2 79 = some (.getfield 59, 3, 10, 6, 460, 0) := by decide +kernel
theorem aX11_person_82 : i_at mX11_person.2.2.2.2.2 82 = some (.getfield 102, 3, 9, 1, 351, 0) := by decide +kernel
theorem aX11_person_85 : i_at mX11_person.2.2.2.2.2 85 = some (.getfield 164, 3, 3, 5, 317, 0) := by decide +kernel
theorem aX11_person_88 : i_at mX11_person.2.2.2.2.2 88 = some (.iload_n 1, 1, 0, 0, 0, 0) := by decide +kernel
theorem aX11_person_89 : i_at mX11_person.2.2.2.2.2 89 = some (.iaload, 1, 0, 0, 0, 0) := by decide +kernel
theorem aX11_person_90 : i_at mX11_person.2.2.2.2.2 90 = some (.ireturn, 1, 0, 0, 0, 0) := by decide +kernel
theorem aX11_person_91 : i_at mX11_person.2.2.2.2.2 91 = some (.aload_n 0, 1, 0, 0, 0, 0) := by decide +kernel
theorem aX11_person_92 : i_at mX11_person.2.2.2.2.2 92 = some (.getfield 59, 3, 10, 6, 460, 0) := by decide +kernel
theorem aX11_person_95 : i_at mX11_person.2.2.2.2.2 95 = some (.getfield 95, 3, 9, 0, 347, 0) := by decide +kernel
theorem aX11_person_98 : i_at mX11_person.2.2.2.2.2 98 = some (.aload_n 0, 1, 0, 0, 0, 0) := by decide +kernel
theorem aX11_person_99 : i_at mX11_person.2.2.2.2.2 99 = some (.getfield 59, 3, 10, 6, 460, 0) := by decide +kernel
theorem aX11_person_102 : i_at mX11_person.2.2.2.2.2 102 = some (.getfield 102, 3, 9, 1, 351, 0) := by decide +kernel
theorem aX11_person_105 : i_at mX11_person.2.2.2.2.2 105 = some (.getfield 164, 3, 3, 5, 317, 0) := by decide +kernel
theorem aX11_person_108 : i_at mX11_person.2.2.2.2.2 108 = some (.iload_n 1, 1, 0, 0, 0, 0) := by decide +kernel
theorem aX11_person_109 : i_at mX11_person.2.2.2.2.2 109 = some (.iaload, 1, 0, 0, 0, 0) := by decide +kernel
theorem aX11_person_110 : i_at mX11_person.2.2.2.2.2 110 = some (.invokevirtual 167, 3, 56, 1, 777, 0) := by decide +kernel
theorem aX11_person_113 : i_at mX11_person.2.2.2.2.2 113 = some (.ireturn, 1, 0, 0, 0, 0) := by decide +kernel
theorem aX11_person_114 : i_at mX11_person.2.2.2.2.2 114 = some (.aload_n 0, 1, 0, 0, 0, 0) := by decide +kernel
theorem aX11_person_115 : i_at mX11_person.2.2.2.2.2 115 = some (.getfield 59, 3, 10, 6, 460, 0) := by decide +kernel
theorem aX11_person_118 : i_at mX11_person.2.2.2.2.2 118 = some (.getfield 102, 3, 9, 1, 351, 0) := by decide +kernel
theorem aX11_person_121 : i_at mX11_person.2.2.2.2.2 121 = some (.getfield 170, 3, 3, 6, 320, 0) := by decide +kernel
theorem aX11_person_124 : i_at mX11_person.2.2.2.2.2 124 = some (.iload_n 1, 1, 0, 0, 0, 0) := by decide +kernel
theorem aX11_person_125 : i_at mX11_person.2.2.2.2.2 125 = some (.iaload, 1, 0, 0, 0, 0) := by decide +kernel
theorem aX11_person_126 : i_at mX11_person.2.2.2.2.2 126 = some (.ireturn, 1, 0, 0, 0, 0) := by decide +kernel
theorem aX11_person_127 : i_at mX11_person.2.2.2.2.2 127 = some (.iconst (-1), 1, 0, 0, 0, 0) := by decide +kernel
theorem aX11_person_128 : i_at mX11_person.2.2.2.2.2 128 = some (.ireturn, 1, 0, 0, 0, 0) := by decide +kernel
noncomputable def fX11_person (sh : List kd) (σ : St) (p1 : Int32) (p2 : Int32) : Option (Int32 × St) := i_bd (fX6_hasPerson sh σ 20 p1) (fun r1 s2 => if ¬ r1 = 0 then if p2 = 0 then if i_ok p1 6 then some ((s2.2.1 27 p1.toNatClampNeg), s2) else none else if p2 = 1 then if i_ok p1 6 then some ((s2.2.1 25 p1.toNatClampNeg), s2) else none else if p2 = 2 then if i_ok p1 6 then some ((s2.2.1 28 p1.toNatClampNeg), s2) else none else if p2 = 3 then if i_ok p1 6 then i_bd (fX6_rankOf sh s2 20 (s2.2.1 28 p1.toNatClampNeg)) (fun r13 s14 => some (r13, s14)) else none else if p2 = 4 then if i_ok p1 6 then some ((s2.2.1 29 p1.toNatClampNeg), s2) else none else some ((-1), s2) else some ((-1), s2))
set_option maxRecDepth 20000 in
set_option maxHeartbeats 2000000 in
theorem tX11_person {sh : List kd} {σ τ : St} {r : Int32} (hsh : cSh sh) {p1 : Int32} {p2 : Int32} (hE : fX11_person sh σ p1 p2 = some (r, τ)) : i_X 2 98 [.ref 0, .int p1, .int p2] (s_h sh σ) 0 0 (some (.int r)) (s_h sh τ) := by
  refine g_X (M := mX11_person) (loc := [.ref 0, .int p1, .int p2]) rfl (Nat.le_of_ble_eq_true rfl) rfl ?_
  unfold fX11_person at hE
  refine g_ldan aX11_person_0 rfl ?_
  refine g_getR aX11_person_1 (sC_0 hsh) rfl ?_
  refine g_getR aX11_person_4 ((wShB_19 hsh).1) rfl ?_
  refine g_ldin aX11_person_7 rfl ?_
  obtain ⟨r1, s2, h3, hE⟩ := i_bd_some hE
  refine g_calV (As := [.int p1]) (rest := []) aX11_person_8 (i_X_mono (by omega) (tX6_hasPerson hsh (rShB_20 hsh) h3)) ((rShB_20 hsh).1) (by decide +kernel) rfl rfl (Nat.le_of_ble_eq_true rfl) rfl ?_
  by_cases hc4 : ¬ r1 = 0
  · rw [if_pos hc4] at hE
    refine g_if_ne_t aX11_person_11 hc4 ?_
    refine g_ldin aX11_person_16 rfl ?_
    by_cases hc5 : p2 = 0
    · rw [if_pos hc5] at hE
      refine g_tabIn (i := 0) aX11_person_17 (by rw [hc5]; decide) (by decide) rfl rfl ?_
      refine g_ldan aX11_person_52 rfl ?_
      refine g_getR aX11_person_53 (sC_0 hsh) rfl ?_
      refine g_getR aX11_person_56 ((wShB_19 hsh).1) rfl ?_
      refine g_getR aX11_person_59 ((lShB_26 hsh).1) rfl ?_
      refine g_ldin aX11_person_62 rfl ?_
      obtain ⟨h6, hE⟩ := i_ifn hE
      refine g_ild aX11_person_63 (sC_27 hsh) h6 ?_
      obtain ⟨rfl, rfl⟩ := i_some_inj hE
      exact g_iret aX11_person_64 rfl rfl
    · rw [if_neg hc5] at hE
      by_cases hc7 : p2 = 1
      · rw [if_pos hc7] at hE
        refine g_tabIn (i := 1) aX11_person_17 (by rw [hc7]; decide) (by decide) rfl rfl ?_
        refine g_ldan aX11_person_65 rfl ?_
        refine g_getR aX11_person_66 (sC_0 hsh) rfl ?_
        refine g_getR aX11_person_69 ((wShB_19 hsh).1) rfl ?_
        refine g_getR aX11_person_72 ((rShB_20 hsh).1) rfl ?_
        refine g_ldin aX11_person_75 rfl ?_
        obtain ⟨h8, hE⟩ := i_ifn hE
        refine g_ild aX11_person_76 (sC_25 hsh) h8 ?_
        obtain ⟨rfl, rfl⟩ := i_some_inj hE
        exact g_iret aX11_person_77 rfl rfl
      · rw [if_neg hc7] at hE
        by_cases hc9 : p2 = 2
        · rw [if_pos hc9] at hE
          refine g_tabIn (i := 2) aX11_person_17 (by rw [hc9]; decide) (by decide) rfl rfl ?_
          refine g_ldan aX11_person_78 rfl ?_
          refine g_getR aX11_person_79 (sC_0 hsh) rfl ?_
          refine g_getR aX11_person_82 ((wShB_19 hsh).1) rfl ?_
          refine g_getR aX11_person_85 ((lShB_26 hsh).1) rfl ?_
          refine g_ldin aX11_person_88 rfl ?_
          obtain ⟨h10, hE⟩ := i_ifn hE
          refine g_ild aX11_person_89 (sC_28 hsh) h10 ?_
          obtain ⟨rfl, rfl⟩ := i_some_inj hE
          exact g_iret aX11_person_90 rfl rfl
        · rw [if_neg hc9] at hE
          by_cases hc11 : p2 = 3
          · rw [if_pos hc11] at hE
            refine g_tabIn (i := 3) aX11_person_17 (by rw [hc11]; decide) (by decide) rfl rfl ?_
            refine g_ldan aX11_person_91 rfl ?_
            refine g_getR aX11_person_92 (sC_0 hsh) rfl ?_
            refine g_getR aX11_person_95 ((wShB_19 hsh).1) rfl ?_
            refine g_ldan aX11_person_98 rfl ?_
            refine g_getR aX11_person_99 (sC_0 hsh) rfl ?_
            refine g_getR aX11_person_102 ((wShB_19 hsh).1) rfl ?_
            refine g_getR aX11_person_105 ((lShB_26 hsh).1) rfl ?_
            refine g_ldin aX11_person_108 rfl ?_
            obtain ⟨h12, hE⟩ := i_ifn hE
            refine g_ild aX11_person_109 (sC_28 hsh) h12 ?_
            obtain ⟨r13, s14, h15, hE⟩ := i_bd_some hE
            refine g_calV (As := [.int (s2.2.1 28 p1.toNatClampNeg)]) (rest := []) aX11_person_110 (i_X_mono (by omega) (tX6_rankOf hsh (rShB_20 hsh) h15)) ((rShB_20 hsh).1) (by decide +kernel) rfl rfl (Nat.le_of_ble_eq_true rfl) rfl ?_
            obtain ⟨rfl, rfl⟩ := i_some_inj hE
            exact g_iret aX11_person_113 rfl rfl
          · rw [if_neg hc11] at hE
            by_cases hc16 : p2 = 4
            · rw [if_pos hc16] at hE
              refine g_tabIn (i := 4) aX11_person_17 (by rw [hc16]; decide) (by decide) rfl rfl ?_
              refine g_ldan aX11_person_114 rfl ?_
              refine g_getR aX11_person_115 (sC_0 hsh) rfl ?_
              refine g_getR aX11_person_118 ((wShB_19 hsh).1) rfl ?_
              refine g_getR aX11_person_121 ((lShB_26 hsh).1) rfl ?_
              refine g_ldin aX11_person_124 rfl ?_
              obtain ⟨h17, hE⟩ := i_ifn hE
              refine g_ild aX11_person_125 (sC_29 hsh) h17 ?_
              obtain ⟨rfl, rfl⟩ := i_some_inj hE
              exact g_iret aX11_person_126 rfl rfl
            · rw [if_neg hc16] at hE
              have hto18 : p2.toInt < ((0 : Nat) : Int) ∨ ((4 : Nat) : Int) < p2.toInt := by
                refine i_tabo (x := p2) 0 4 (by decide) (fun k k1 k2 => ?_)
                rcases (show k = 0 ∨ k = 1 ∨ k = 2 ∨ k = 3 ∨ k = 4 by omega) with rfl | rfl | rfl | rfl | rfl
                · exact fun hz => hc5 hz
                · exact fun hz => hc7 hz
                · exact fun hz => hc9 hz
                · exact fun hz => hc11 hz
                · exact fun hz => hc16 hz
              refine g_tabOut aX11_person_17 hto18 rfl ?_
              refine g_iconst (x := (-1)) aX11_person_127 rfl ?_
              obtain ⟨rfl, rfl⟩ := i_some_inj hE
              exact g_iret aX11_person_128 rfl rfl
  · rw [if_neg hc4] at hE
    refine g_if_ne_f aX11_person_11 hc4 ?_
    refine g_iconst (x := (-1)) aX11_person_14 rfl ?_
    obtain ⟨rfl, rfl⟩ := i_some_inj hE
    exact g_iret aX11_person_15 rfl rfl
