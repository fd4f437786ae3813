/-! X1_isOutOfPlace X2_isPeaceWithout X3_areNotesSo X3_first X4_copyFrom X4_thank X4_hasTitle X4_bearers X4_knights X5_begin X5_isAtRest X5_isAlike X5_nextDrawn X6_copyFrom X6_hasThing X6_hasPerson X6_clockAt X6_rankOf X7_joined -/
theorem aX1_isOutOfPlace_0 : i_at mX1_isOutOfPlace.2.2.2.2.2 0 = some (.iload_n 2, 1, 0, 0, 0, 0) := by decide +kernel
theorem aX1_isOutOfPlace_1 : i_at mX1_isOutOfPlace.2.2.2.2.2 1 = some (.bipush 40, 2, 0, 0, 0, 0) := by decide +kernel
theorem aX1_isOutOfPlace_3 : i_at mX1_isOutOfPlace.2.2.2.2.2 3 = some (.if_icmp .ge 58, 3, 61, 0, 0, 0) := by decide +kernel
theorem aX1_isOutOfPlace_6 : i_at mX1_isOutOfPlace.2.2.2.2.2 6 = some (.iload_n 1, 1, 0, 0, 0, 0) := by decide +kernel
theorem aX1_isOutOfPlace_7 : i_at mX1_isOutOfPlace.2.2.2.2.2 7 = some (.ifCond .ne 7, 3, 14, 0, 0, 0) := by decide +kernel
theorem aX1_isOutOfPlace_10 : i_at mX1_isOutOfPlace.2.2.2.2.2 10 = some (.iconst 1, 1, 0, 0, 0, 0) := by decide +kernel
theorem aX1_isOutOfPlace_11 : i_at mX1_isOutOfPlace.2.2.2.2.2 11 = some (.goto 4, 3, 15, 0, 0, 0) := by decide +kernel
theorem aX1_isOutOfPlace_14 : i_at mX1_isOutOfPlace.2.2.2.2.2 14 = some (.iconst 0, 1, 0, 0, 0, 0) := by decide +kernel
theorem aX1_isOutOfPlace_15 : i_at mX1_isOutOfPlace.2.2.2.2.2 15 = some (.iload_n 2, 1, 0, 0, 0, 0) := by decide +kernel
theorem aX1_isOutOfPlace_16 : i_at mX1_isOutOfPlace.2.2.2.2.2 16 = some (.ifCond .ne 7, 3, 23, 0, 0, 0) := by decide +kernel
theorem aX1_isOutOfPlace_19 : i_at mX1_isOutOfPlace.2.2.2.2.2 19 = some (.iconst 1, 1, 0, 0, 0, 0) := by decide +kernel
theorem aX1_isOutOfPlace_20 : i_at mX1_isOutOfPlace.2.2.2.2.2 20 = some (.goto 4, 3, 24, 0, 0, 0) := by decide +kernel
theorem aX1_isOutOfPlace_23 : i_at mX1_isOutOfPlace.2.2.2.2.2 23 = some (.iconst 0, 1, 0, 0, 0, 0) := by decide +kernel
theorem aX1_isOutOfPlace_24 : i_at mX1_isOutOfPlace.2.2.2.2.2 24 = some (.if_icmp .ne 37, 3, 61, 0, 0, 0) := by decide +kernel
theorem aX1_isOutOfPlace_27 : i_at mX1_isOutOfPlace.2.2.2.2.2 27 = some (.iload_n 1, 1, 0, 0, 0, 0) := by decide +kernel
theorem aX1_isOutOfPlace_28 : i_at mX1_isOutOfPlace.2.2.2.2.2 28 = some (.iconst 1, 1, 0, 0, 0, 0) := by decide +kernel
theorem aX1_isOutOfPlace_29 : i_at mX1_isOutOfPlace.2.2.2.2.2 29 = some (.if_icmp .ne 15, 3, 44, 0, 0, 0) := by decide +kernel
theorem aX1_isOutOfPlace_32 : i_at mX1_isOutOfPlace.2.2.2.2.2 32 = some (.aload_n 0, 1, 0, 0, 0, 0) := by decide +kernel
theorem aX1_isOutOfPlace_33 : i_at mX1_isOutOfPlace.2.2.2.2.2 33 = some (.getfield 15, 3, 1, 1, 222, 0) := by decide +kernel
theorem aX1_isOutOfPlace_36 : i_at mX1_isOutOfPlace.2.2.2.2.2 36 = some (.getfield 80, 3, 5, 3, 165, 0) := by decide +kernel
theorem aX1_isOutOfPlace_39 : i_at mX1_isOutOfPlace.2.2.2.2.2 39 = some (.bipush 6, 2, 0, 0, 0, 0) := by decide +kernel
theorem aX1_isOutOfPlace_41 : i_at mX1_isOutOfPlace.2.2.2.2.2 41 = some (.if_icmp .ge 20, 3, 61, 0, 0, 0) := by decide +kernel
theorem aX1_isOutOfPlace_44 : i_at mX1_isOutOfPlace.2.2.2.2.2 44 = some (.iload_n 1, 1, 0, 0, 0, 0) := by decide +kernel
theorem aX1_isOutOfPlace_45 : i_at mX1_isOutOfPlace.2.2.2.2.2 45 = some (.iconst 3, 1, 0, 0, 0, 0) := by decide +kernel
theorem aX1_isOutOfPlace_46 : i_at mX1_isOutOfPlace.2.2.2.2.2 46 = some (.if_icmp .ne 19, 3, 65, 0, 0, 0) := by decide +kernel
theorem aX1_isOutOfPlace_49 : i_at mX1_isOutOfPlace.2.2.2.2.2 49 = some (.aload_n 0, 1, 0, 0, 0, 0) := by decide +kernel
theorem aX1_isOutOfPlace_50 : i_at mX1_isOutOfPlace.2.2.2.2.2 50 = some (.getfield 15, 3, 1, 1, 222, 0) := by decide +kernel
theorem aX1_isOutOfPlace_53 : i_at mX1_isOutOfPlace.2.2.2.2.2 53 = some (.getfield 83, 3, 5, 4, 172, 0) := by decide +kernel
theorem aX1_isOutOfPlace_56 : i_at mX1_isOutOfPlace.2.2.2.2.2 56 = some (.bipush 6, 2, 0, 0, 0, 0) := by decide +kernel
theorem aX1_isOutOfPlace_58 : i_at mX1_isOutOfPlace.2.2.2.2.2 58 = some (.if_icmp .lt 7, 3, 65, 0, 0, 0) := by decide +kernel
theorem aX1_isOutOfPlace_61 : i_at mX1_isOutOfPlace.2.2.2.2.2 61 = some (.iconst 1, 1, 0, 0, 0, 0) := by decide +kernel
theorem aX1_isOutOfPlace_62 : i_at mX1_isOutOfPlace.2.2.2.2.2 62 = some (.goto 4, 3, 66, 0, 0, 0) := by decide +kernel
theorem aX1_isOutOfPlace_65 : i_at mX1_isOutOfPlace.2.2.2.2.2 65 = some (.iconst 0, 1, 0, 0, 0, 0) := by decide +kernel
theorem aX1_isOutOfPlace_66 : i_at mX1_isOutOfPlace.2.2.2.2.2 66 = some (.ireturn, 1, 0, 0, 0, 0) := by decide +kernel
noncomputable def fX1_isOutOfPlace_J66 (sh : List kd) (p1 : Int32) (p2 : Int32) (σ : St) (x51 : Int32) : Option (Int32 × St) := if (x51 : Int32) &&& 1 = x51 then some (x51, σ) else none
noncomputable def fX1_isOutOfPlace (sh : List kd) (σ : St) (p1 : Int32) (p2 : Int32) : Option (Int32 × St) := if 40 ≤ p2 then fX1_isOutOfPlace_J66 sh p1 p2 σ 1 else if ¬ ((if ¬ p1 = 0 then 0 else 1) : Int32) = ((if ¬ p2 = 0 then 0 else 1) : Int32) then fX1_isOutOfPlace_J66 sh p1 p2 σ 1 else fX1_isOutOfPlace_J66 sh p1 p2 σ ((if ¬ p1 = 1 then (if ¬ p1 = 3 then 0 else (if (σ.1 3 4) < 6 then 0 else 1)) else (if 6 ≤ (σ.1 3 3) then 1 else (if ¬ p1 = 3 then 0 else (if (σ.1 3 4) < 6 then 0 else 1)))) : Int32)
set_option maxRecDepth 20000 in
set_option maxHeartbeats 2000000 in
theorem tX1_isOutOfPlace_J66 {sh : List kd} {τ : St} {r : Int32} (hsh : cSh sh) {p1 : Int32} {p2 : Int32} {σ : St} {x51 : Int32} (hE : fX1_isOutOfPlace_J66 sh p1 p2 σ x51 = some (r, τ)) : g_R sh 0 mX1_isOutOfPlace (some (.int r)) τ 66 [.ref 9, .int p1, .int p2] [.int x51] (σ) := by
  unfold fX1_isOutOfPlace_J66 at hE
  obtain ⟨h52, hE⟩ := i_ifn hE
  obtain ⟨rfl, rfl⟩ := i_some_inj hE
  exact g_iret aX1_isOutOfPlace_66 rfl (congrArg Value.int h52)
set_option maxRecDepth 20000 in
set_option maxHeartbeats 2000000 in
theorem tX1_isOutOfPlace {sh : List kd} {σ τ : St} {r : Int32} (hsh : cSh sh) {p1 : Int32} {p2 : Int32} (hE : fX1_isOutOfPlace sh σ p1 p2 = some (r, τ)) : i_X 1 8 [.ref 9, .int p1, .int p2] (s_h sh σ) 0 0 (some (.int r)) (s_h sh τ) := by
  refine g_X (M := mX1_isOutOfPlace) (loc := [.ref 9, .int p1, .int p2]) rfl (Nat.le_of_ble_eq_true rfl) rfl ?_
  unfold fX1_isOutOfPlace at hE
  refine g_ldin aX1_isOutOfPlace_0 rfl ?_
  refine g_bipush (x := 40) aX1_isOutOfPlace_1 rfl ?_
  by_cases hc53 : 40 ≤ p2
  · rw [if_pos hc53] at hE
    refine g_ic_ge_t aX1_isOutOfPlace_3 hc53 ?_
    refine g_iconst (x := 1) aX1_isOutOfPlace_61 rfl ?_
    refine g_goto aX1_isOutOfPlace_62 ?_
    exact tX1_isOutOfPlace_J66 hsh hE
  · rw [if_neg hc53] at hE
    refine g_ic_ge_f aX1_isOutOfPlace_3 hc53 ?_
    refine g_ldin aX1_isOutOfPlace_6 rfl ?_
    have hJ : g_R sh 0 mX1_isOutOfPlace (some (.int r)) τ 15 [.ref 9, .int p1, .int p2] [.int ((if ¬ p1 = 0 then 0 else 1) : Int32)] (σ) := by
      refine g_ldin aX1_isOutOfPlace_15 rfl ?_
      have hJ : g_R sh 0 mX1_isOutOfPlace (some (.int r)) τ 24 [.ref 9, .int p1, .int p2] [.int ((if ¬ p2 = 0 then 0 else 1) : Int32), .int ((if ¬ p1 = 0 then 0 else 1) : Int32)] (σ) := by
        by_cases hc54 : ¬ ((if ¬ p1 = 0 then 0 else 1) : Int32) = ((if ¬ p2 = 0 then 0 else 1) : Int32)
        · rw [if_pos hc54] at hE
          refine g_ic_ne_t aX1_isOutOfPlace_24 hc54 ?_
          refine g_iconst (x := 1) aX1_isOutOfPlace_61 rfl ?_
          refine g_goto aX1_isOutOfPlace_62 ?_
          exact tX1_isOutOfPlace_J66 hsh hE
        · rw [if_neg hc54] at hE
          refine g_ic_ne_f aX1_isOutOfPlace_24 hc54 ?_
          refine g_ldin aX1_isOutOfPlace_27 rfl ?_
          refine g_iconst (x := 1) aX1_isOutOfPlace_28 rfl ?_
          have hJ : g_R sh 0 mX1_isOutOfPlace (some (.int r)) τ 66 [.ref 9, .int p1, .int p2] [.int ((if ¬ p1 = 1 then (if ¬ p1 = 3 then 0 else (if (σ.1 3 4) < 6 then 0 else 1)) else (if 6 ≤ (σ.1 3 3) then 1 else (if ¬ p1 = 3 then 0 else (if (σ.1 3 4) < 6 then 0 else 1)))) : Int32)] (σ) := by
            exact tX1_isOutOfPlace_J66 hsh hE
          clear hE
          by_cases hc54 : ¬ p1 = 1
          · (try rw [if_pos hc54] at hJ)
            refine g_ic_ne_t aX1_isOutOfPlace_29 hc54 ?_
            refine g_ldin aX1_isOutOfPlace_44 rfl ?_
            refine g_iconst (x := 3) aX1_isOutOfPlace_45 rfl ?_
            by_cases hc55 : ¬ p1 = 3
            · (try rw [if_pos hc55] at hJ)
              refine g_ic_ne_t aX1_isOutOfPlace_46 hc55 ?_
              refine g_iconst (x := 0) aX1_isOutOfPlace_65 rfl ?_
              exact hJ
            · (try rw [if_neg hc55] at hJ)
              refine g_ic_ne_f aX1_isOutOfPlace_46 hc55 ?_
              refine g_ldan aX1_isOutOfPlace_49 rfl ?_
              refine g_getR aX1_isOutOfPlace_50 (sC_9 hsh) rfl ?_
              refine g_getI aX1_isOutOfPlace_53 ((rShB_3 hsh).1) rfl ?_
              refine g_bipush (x := 6) aX1_isOutOfPlace_56 rfl ?_
              by_cases hc56 : (σ.1 3 4) < 6
              · (try rw [if_pos hc56] at hJ)
                refine g_ic_lt_t aX1_isOutOfPlace_58 hc56 ?_
                refine g_iconst (x := 0) aX1_isOutOfPlace_65 rfl ?_
                exact hJ
              · (try rw [if_neg hc56] at hJ)
                refine g_ic_lt_f aX1_isOutOfPlace_58 hc56 ?_
                refine g_iconst (x := 1) aX1_isOutOfPlace_61 rfl ?_
                refine g_goto aX1_isOutOfPlace_62 ?_
                exact hJ
          · (try rw [if_neg hc54] at hJ)
            refine g_ic_ne_f aX1_isOutOfPlace_29 hc54 ?_
            refine g_ldan aX1_isOutOfPlace_32 rfl ?_
            refine g_getR aX1_isOutOfPlace_33 (sC_9 hsh) rfl ?_
            refine g_getI aX1_isOutOfPlace_36 ((rShB_3 hsh).1) rfl ?_
            refine g_bipush (x := 6) aX1_isOutOfPlace_39 rfl ?_
            by_cases hc57 : 6 ≤ (σ.1 3 3)
            · (try rw [if_pos hc57] at hJ)
              refine g_ic_ge_t aX1_isOutOfPlace_41 hc57 ?_
              refine g_iconst (x := 1) aX1_isOutOfPlace_61 rfl ?_
              refine g_goto aX1_isOutOfPlace_62 ?_
              exact hJ
            · (try rw [if_neg hc57] at hJ)
              refine g_ic_ge_f aX1_isOutOfPlace_41 hc57 ?_
              refine g_ldin aX1_isOutOfPlace_44 rfl ?_
              refine g_iconst (x := 3) aX1_isOutOfPlace_45 rfl ?_
              by_cases hc58 : ¬ p1 = 3
              · (try rw [if_pos hc58] at hJ)
                refine g_ic_ne_t aX1_isOutOfPlace_46 hc58 ?_
                refine g_iconst (x := 0) aX1_isOutOfPlace_65 rfl ?_
                exact hJ
              · (try rw [if_neg hc58] at hJ)
                refine g_ic_ne_f aX1_isOutOfPlace_46 hc58 ?_
                refine g_ldan aX1_isOutOfPlace_49 rfl ?_
                refine g_getR aX1_isOutOfPlace_50 (sC_9 hsh) rfl ?_
                refine g_getI aX1_isOutOfPlace_53 ((rShB_3 hsh).1) rfl ?_
                refine g_bipush (x := 6) aX1_isOutOfPlace_56 rfl ?_
                by_cases hc59 : (σ.1 3 4) < 6
                · (try rw [if_pos hc59] at hJ)
                  refine g_ic_lt_t aX1_isOutOfPlace_58 hc59 ?_
                  refine g_iconst (x := 0) aX1_isOutOfPlace_65 rfl ?_
                  exact hJ
                · (try rw [if_neg hc59] at hJ)
                  refine g_ic_lt_f aX1_isOutOfPlace_58 hc59 ?_
                  refine g_iconst (x := 1) aX1_isOutOfPlace_61 rfl ?_
                  refine g_goto aX1_isOutOfPlace_62 ?_
                  exact hJ
      clear hE
      by_cases hc60 : ¬ p2 = 0
      · (try rw [if_pos hc60] at hJ)
        refine g_if_ne_t aX1_isOutOfPlace_16 hc60 ?_
        refine g_iconst (x := 0) aX1_isOutOfPlace_23 rfl ?_
        exact hJ
      · (try rw [if_neg hc60] at hJ)
        refine g_if_ne_f aX1_isOutOfPlace_16 hc60 ?_
        refine g_iconst (x := 1) aX1_isOutOfPlace_19 rfl ?_
        refine g_goto aX1_isOutOfPlace_20 ?_
        exact hJ
    clear hE
    by_cases hc61 : ¬ p1 = 0
    · (try rw [if_pos hc61] at hJ)
      refine g_if_ne_t aX1_isOutOfPlace_7 hc61 ?_
      refine g_iconst (x := 0) aX1_isOutOfPlace_14 rfl ?_
      exact hJ
    · (try rw [if_neg hc61] at hJ)
      refine g_if_ne_f aX1_isOutOfPlace_7 hc61 ?_
      refine g_iconst (x := 1) aX1_isOutOfPlace_10 rfl ?_
      refine g_goto aX1_isOutOfPlace_11 ?_
      exact hJ
theorem aX2_isPeaceWithout_0 : i_at mX2_isPeaceWithout.2.2.2.2.2 0 = some (.iconst 0, 1, 0, 0, 0, 0) := by decide +kernel
theorem aX2_isPeaceWithout_1 : i_at mX2_isPeaceWithout.2.2.2.2.2 1 = some (.istore_n 2, 1, 0, 0, 0, 0) := by decide +kernel
theorem aX2_isPeaceWithout_2 : i_at mX2_isPeaceWithout.2.2.2.2.2 2 = some (.iconst 0, 1, 0, 0, 0, 0) := by decide +kernel
theorem aX2_isPeaceWithout_3 : i_at mX2_isPeaceWithout.2.2.2.2.2 3 = some (.istore_n 3, 1, 0, 0, 0, 0) := by decide +kernel
theorem aX2_isPeaceWithout_4 : i_at mX2_isPeaceWithout.2.2.2.2.2 4 = some (.iload_n 3, 1, 0, 0, 0, 0) := by decide +kernel
theorem aX2_isPeaceWithout_5 : i_at mX2_isPeaceWithout.2.2.2.2.2 5 = some (.aload_n 0, 1, 0, 0, 0, 0) := by decide +kernel
theorem aX2_isPeaceWithout_6 : i_at mX2_isPeaceWithout.2.2.2.2.2 6 = some (.getfield 7, 3, 9, 0, 344, 0) := by decide +kernel
theorem aX2_isPeaceWithout_9 : i_at mX2_isPeaceWithout.2.2.2.2.2 9 = some (.getfield 29, 3, 5, 4, 170, 0) := by decide +kernel
theorem aX2_isPeaceWithout_12 : i_at mX2_isPeaceWithout.2.2.2.2.2 12 = some (.if_icmp .ge 29, 3, 41, 0, 0, 0) := by decide +kernel
theorem aX2_isPeaceWithout_15 : i_at mX2_isPeaceWithout.2.2.2.2.2 15 = some (.iload_n 1, 1, 0, 0, 0, 0) := by decide +kernel
theorem aX2_isPeaceWithout_16 : i_at mX2_isPeaceWithout.2.2.2.2.2 16 = some (.iload_n 3, 1, 0, 0, 0, 0) := by decide +kernel
theorem aX2_isPeaceWithout_17 : i_at mX2_isPeaceWithout.2.2.2.2.2 17 = some (.ishr, 1, 0, 0, 0, 0) := by decide +kernel
theorem aX2_isPeaceWithout_18 : i_at mX2_isPeaceWithout.2.2.2.2.2 18 = some (.iconst 1, 1, 0, 0, 0, 0) := by decide +kernel
theorem aX2_isPeaceWithout_19 : i_at mX2_isPeaceWithout.2.2.2.2.2 19 = some (.iand, 1, 0, 0, 0, 0) := by decide +kernel
theorem aX2_isPeaceWithout_20 : i_at mX2_isPeaceWithout.2.2.2.2.2 20 = some (.ifCond .ne 15, 3, 35, 0, 0, 0) := by decide +kernel
theorem aX2_isPeaceWithout_23 : i_at mX2_isPeaceWithout.2.2.2.2.2 23 = some (.iload_n 2, 1, 0, 0, 0, 0) := by decide +kernel
theorem aX2_isPeaceWithout_24 : i_at mX2_isPeaceWithout.2.2.2.2.2 24 = some (.aload_n 0, 1, 0, 0, 0, 0) := by decide +kernel
theorem aX2_isPeaceWithout_25 : i_at mX2_isPeaceWithout.2.2.2.2.2 25 = some (.getfield 13, 3, 9, 1, 349, 0) := by decide +kernel
theorem aX2_isPeaceWithout_28 : i_at mX2_isPeaceWithout.2.2.2.2.2 28 = some (.getfield 17, 3, 3, 5, 314, 0) := by decide +kernel
theorem aX2_isPeaceWithout_31 : i_at mX2_isPeaceWithout.2.2.2.2.2 31 = some (.iload_n 3, 1, 0, 0, 0, 0) := by decide +kernel
theorem aX2_isPeaceWithout_32 : i_at mX2_isPeaceWithout.2.2.2.2.2 32 = some (.iaload, 1, 0, 0, 0, 0) := by decide +kernel
theorem aX2_isPeaceWithout_33 : i_at mX2_isPeaceWithout.2.2.2.2.2 33 = some (.ior, 1, 0, 0, 0, 0) := by decide +kernel
theorem aX2_isPeaceWithout_34 : i_at mX2_isPeaceWithout.2.2.2.2.2 34 = some (.istore_n 2, 1, 0, 0, 0, 0) := by decide +kernel
theorem aX2_isPeaceWithout_35 : i_at mX2_isPeaceWithout.2.2.2.2.2 35 = some (.iinc 3 1, 3, 0, 0, 0, 0) := by decide +kernel
theorem aX2_isPeaceWithout_38 : i_at mX2_isPeaceWithout.2.2.2.2.2 38 = some (.goto (-34), 3, 4, 0, 0, 0) := by decide +kernel
theorem aX2_isPeaceWithout_41 : i_at mX2_isPeaceWithout.2.2.2.2.2 41 = some (.iconst 0, 1, 0, 0, 0, 0) := by decide +kernel
theorem aX2_isPeaceWithout_42 : i_at mX2_isPeaceWithout.2.2.2.2.2 42 = some (.istore_n 3, 1, 0, 0, 0, 0) := by decide +kernel
theorem aX2_isPeaceWithout_43 : i_at mX2_isPeaceWithout.2.2.2.2.2 43 = some (.iload_n 3, 1, 0, 0, 0, 0) := by decide +kernel
theorem aX2_isPeaceWithout_44 : i_at mX2_isPeaceWithout.2.2.2.2.2 44 = some (.aload_n 0, 1, 0, 0, 0, 0) := by decide +kernel
theorem aX2_isPeaceWithout_45 : i_at mX2_isPeaceWithout.2.2.2.2.2 45 = some (.getfield 7, 3, 9, 0, 344, 0) := by decide +kernel
theorem aX2_isPeaceWithout_48 : i_at mX2_isPeaceWithout.2.2.2.2.2 48 = some (.getfield 44, 3, 5, 3, 166, 0) := by decide +kernel
theorem aX2_isPeaceWithout_51 : i_at mX2_isPeaceWithout.2.2.2.2.2 51 = some (.if_icmp .ge 33, 3, 84, 0, 0, 0) := by decide +kernel
theorem aX2_isPeaceWithout_54 : i_at mX2_isPeaceWithout.2.2.2.2.2 54 = some (.iload_n 2, 1, 0, 0, 0, 0) := by decide +kernel
theorem aX2_isPeaceWithout_55 : i_at mX2_isPeaceWithout.2.2.2.2.2 55 = some (.iload_n 3, 1, 0, 0, 0, 0) := by decide +kernel
theorem aX2_isPeaceWithout_56 : i_at mX2_isPeaceWithout.2.2.2.2.2 56 = some (.ishr, 1, 0, 0, 0, 0) := by decide +kernel
theorem aX2_isPeaceWithout_57 : i_at mX2_isPeaceWithout.2.2.2.2.2 57 = some (.iconst 1, 1, 0, 0, 0, 0) := by decide +kernel
theorem aX2_isPeaceWithout_58 : i_at mX2_isPeaceWithout.2.2.2.2.2 58 = some (.iand, 1, 0, 0, 0, 0) := by decide +kernel
theorem aX2_isPeaceWithout_59 : i_at mX2_isPeaceWithout.2.2.2.2.2 59 = some (.ifCond .eq 19, 3, 78, 0, 0, 0) := by decide +kernel
theorem aX2_isPeaceWithout_62 : i_at mX2_isPeaceWithout.2.2.2.2.2 62 = some (.iload_n 2, 1, 0, 0, 0, 0) := by decide +kernel
theorem aX2_isPeaceWithout_63 : i_at mX2_isPeaceWithout.2.2.2.2.2 63 = some (.aload_n 0, 1, 0, 0, 0, 0) := by decide +kernel
theorem aX2_isPeaceWithout_64 : i_at mX2_isPeaceWithout.2.2.2.2.2 64 = some (.getfield 7, 3, 9, 0, 344, 0) := by decide +kernel
theorem aX2_isPeaceWithout_67 : i_at mX2_isPeaceWithout.2.2.2.2.2 67 = some (.getfield 47, 3, 5, 6, 180, 0) := by decide +kernel
theorem aX2_isPeaceWithout_70 : i_at mX2_isPeaceWithout.2.2.2.2.2 70 = some (.iload_n 3, 1, 0, 0, 0, 0) := by decide +kernel
theorem aX2_isPeaceWithout_71 : i_at mX2_isPeaceWithout.2.2.2.2.2 71 = some (.iaload, 1, 0, 0, 0, 0) := by decide +kernel
theorem aX2_isPeaceWithout_72 : i_at mX2_isPeaceWithout.2.2.2.2.2 72 = some (.iand, 1, 0, 0, 0, 0) := by decide +kernel
theorem aX2_isPeaceWithout_73 : i_at mX2_isPeaceWithout.2.2.2.2.2 73 = some (.ifCond .eq 5, 3, 78, 0, 0, 0) := by decide +kernel
theorem aX2_isPeaceWithout_76 : i_at mX2_isPeaceWithout.2.2.2.2.2 76 = some (.iconst 0, 1, 0, 0, 0, 0) := by decide +kernel
theorem aX2_isPeaceWithout_77 : i_at mX2_isPeaceWithout.2.2.2.2.2 77 = some (.ireturn, 1, 0, 0, 0, 0) := by decide +kernel
theorem aX2_isPeaceWithout_78 : i_at mX2_isPeaceWithout.2.2.2.2.2 78 = some (.iinc 3 1, 3, 0, 0, 0, 0) := by decide +kernel
theorem aX2_isPeaceWithout_81 : i_at mX2_isPeaceWithout.2.2.2.2.2 81 = some (.goto (-38), 3, 43, 0, 0, 0) := by decide +kernel
theorem aX2_isPeaceWithout_84 : i_at mX2_isPeaceWithout.2.2.2.2.2 84 = some (.iconst 1, 1, 0, 0, 0, 0) := by decide +kernel
theorem aX2_isPeaceWithout_85 : i_at mX2_isPeaceWithout.2.2.2.2.2 85 = some (.ireturn, 1, 0, 0, 0, 0) := by decide +kernel
noncomputable def fX2_isPeaceWithout_J35 (sh : List kd) (p0 : Nat) (p1 : Int32) (σ : St) (x2 : Int32) (k4 : Int32 → Int32 → Option (Int32 × St)) (x107 : Int32) : Option (Int32 × St) := k4 x107 (x2 + 1)
noncomputable def fX2_isPeaceWithout_L4 (sh : List kd) (p0 : Nat) (p1 : Int32) (σ : St) (k41 : Int32 → Int32 → Option (Int32 × St)) : Nat → Int32 → Int32 → Option (Int32 × St)
  | 0, _, _ => none
  | n55 + 1, x1, x2 => if (σ.1 (p0 + 1) 4) ≤ x2 then k41 x1 x2 else if ¬ ((p1 >>> (x2 &&& 31)) &&& 1) = 0 then fX2_isPeaceWithout_J35 sh p0 p1 σ x2 (fX2_isPeaceWithout_L4 sh p0 p1 σ k41 n55) x1 else if i_ok x2 6 then fX2_isPeaceWithout_J35 sh p0 p1 σ x2 (fX2_isPeaceWithout_L4 sh p0 p1 σ k41 n55) (x1 ||| (σ.2.1 ((p0 + 7) + 2) x2.toNatClampNeg)) else none
noncomputable def fX2_isPeaceWithout_L43 (sh : List kd) (p0 : Nat) (p1 : Int32) (σ : St) (x53 : Int32) : Nat → Int32 → Option (Int32 × St)
  | 0, _ => none
  | n111 + 1, x110 => if (σ.1 (p0 + 1) 3) ≤ x110 then some (1, σ) else if ((x53 >>> (x110 &&& 31)) &&& 1) = 0 then (fX2_isPeaceWithout_L43 sh p0 p1 σ x53 n111 (x110 + 1)) else if i_ok x110 6 then if (x53 &&& (σ.2.1 ((p0 + 1) + 2) x110.toNatClampNeg)) = 0 then (fX2_isPeaceWithout_L43 sh p0 p1 σ x53 n111 (x110 + 1)) else some (0, σ) else none
noncomputable def fX2_isPeaceWithout_X41 (sh : List kd) (p0 : Nat) (p1 : Int32) (σ : St) (x53 : Int32) (x54 : Int32) : Option (Int32 × St) := fX2_isPeaceWithout_L43 sh p0 p1 σ x53 i_F 0
noncomputable def fX2_isPeaceWithout (sh : List kd) (σ : St) (p0 : Nat) (p1 : Int32) : Option (Int32 × St) := fX2_isPeaceWithout_L4 sh p0 p1 σ (fun (x53 : Int32) (x54 : Int32) => fX2_isPeaceWithout_X41 sh p0 p1 σ x53 x54) i_F 0 0
set_option maxRecDepth 20000 in
set_option maxHeartbeats 2000000 in
theorem tX2_isPeaceWithout_J35 {sh : List kd} {τ : St} {r : Int32} (hsh : cSh sh) {p0 : Nat} {p1 : Int32} {σ : St} {x2 : Int32} {x107 : Int32} {k4 : Int32 → Int32 → Option (Int32 × St)} (hp0 : wSh sh p0) (hk4 : ∀ (x1 : Int32) (x2 : Int32), k4 x1 x2 = some (r, τ) → g_R sh 0 mX2_isPeaceWithout (some (.int r)) τ 4 [.ref p0, .int p1, .int x1, .int x2] [] (σ)) (hE : fX2_isPeaceWithout_J35 sh p0 p1 σ x2 k4 x107 = some (r, τ)) : g_R sh 0 mX2_isPeaceWithout (some (.int r)) τ 35 [.ref p0, .int p1, .int x107, .int x2] [] (σ) := by
  unfold fX2_isPeaceWithout_J35 at hE
  refine g_iinc (y := 1) (loc2 := [.ref p0, .int p1, .int x107, .int (x2 + 1)]) aX2_isPeaceWithout_35 rfl rfl rfl ?_
  refine g_goto aX2_isPeaceWithout_38 ?_
  exact hk4 _ _ hE
set_option maxRecDepth 20000 in
set_option maxHeartbeats 2000000 in
theorem tX2_isPeaceWithout_L4 {sh : List kd} {τ : St} {r : Int32} (hsh : cSh sh) {p0 : Nat} {p1 : Int32} {σ : St} {k41 : Int32 → Int32 → Option (Int32 × St)} (hp0 : wSh sh p0) (hk41 : ∀ (x53 : Int32) (x54 : Int32), k41 x53 x54 = some (r, τ) → g_R sh 0 mX2_isPeaceWithout (some (.int r)) τ 41 [.ref p0, .int p1, .int x53, .int x54] [] (σ)) : ∀ (n0 : Nat) (x1 : Int32) (x2 : Int32), fX2_isPeaceWithout_L4 sh p0 p1 σ k41 n0 x1 x2 = some (r, τ) → g_R sh 0 mX2_isPeaceWithout (some (.int r)) τ 4 [.ref p0, .int p1, .int x1, .int x2] [] (σ) := by
  intro n0
  induction n0 with
  | zero => intro _ _ hE; cases hE
  | succ n55 ih =>
    intro x1 x2 hE
    unfold fX2_isPeaceWithout_L4 at hE
    refine g_ldin aX2_isPeaceWithout_4 rfl ?_
    refine g_ldan aX2_isPeaceWithout_5 rfl ?_
    refine g_getR aX2_isPeaceWithout_6 (hp0.1) rfl ?_
    refine g_getI aX2_isPeaceWithout_9 (hp0.2.1.1) rfl ?_
    by_cases hc56 : (σ.1 (p0 + 1) 4) ≤ x2
    · rw [if_pos hc56] at hE
      refine g_ic_ge_t aX2_isPeaceWithout_12 hc56 ?_
      exact hk41 _ _ hE
    · rw [if_neg hc56] at hE
      refine g_ic_ge_f aX2_isPeaceWithout_12 hc56 ?_
      refine g_ldin aX2_isPeaceWithout_15 rfl ?_
      refine g_ldin aX2_isPeaceWithout_16 rfl ?_
      refine g_ishr aX2_isPeaceWithout_17 ?_
      refine g_iconst (x := 1) aX2_isPeaceWithout_18 rfl ?_
      refine g_iand aX2_isPeaceWithout_19 ?_
      by_cases hc108 : ¬ ((p1 >>> (x2 &&& 31)) &&& 1) = 0
      · rw [if_pos hc108] at hE
        refine g_if_ne_t aX2_isPeaceWithout_20 hc108 ?_
        exact tX2_isPeaceWithout_J35 hsh hp0 ih hE
      · rw [if_neg hc108] at hE
        refine g_if_ne_f aX2_isPeaceWithout_20 hc108 ?_
        refine g_ldin aX2_isPeaceWithout_23 rfl ?_
        refine g_ldan aX2_isPeaceWithout_24 rfl ?_
        refine g_getR aX2_isPeaceWithout_25 (hp0.1) rfl ?_
        refine g_getR aX2_isPeaceWithout_28 (hp0.2.2.1.1) rfl ?_
        refine g_ldin aX2_isPeaceWithout_31 rfl ?_
        obtain ⟨h109, hE⟩ := i_ifn hE
        refine g_ild aX2_isPeaceWithout_32 (hp0.2.2.1.2.2.1) h109 ?_
        refine g_ior aX2_isPeaceWithout_33 ?_
        refine g_stin (loc2 := [.ref p0, .int p1, .int (x1 ||| (σ.2.1 ((p0 + 7) + 2) x2.toNatClampNeg)), .int x2]) aX2_isPeaceWithout_34 (Nat.le_of_ble_eq_true rfl) rfl ?_
        exact tX2_isPeaceWithout_J35 hsh hp0 ih hE
set_option maxRecDepth 20000 in
set_option maxHeartbeats 2000000 in
theorem tX2_isPeaceWithout_L43 {sh : List kd} {τ : St} {r : Int32} (hsh : cSh sh) {p0 : Nat} {p1 : Int32} {σ : St} {x53 : Int32} (hp0 : wSh sh p0) : ∀ (n0 : Nat) (x110 : Int32), fX2_isPeaceWithout_L43 sh p0 p1 σ x53 n0 x110 = some (r, τ) → g_R sh 0 mX2_isPeaceWithout (some (.int r)) τ 43 [.ref p0, .int p1, .int x53, .int x110] [] (σ) := by
  intro n0
  induction n0 with
  | zero => intro _ hE; cases hE
  | succ n111 ih =>
    intro x110 hE
    unfold fX2_isPeaceWithout_L43 at hE
    refine g_ldin aX2_isPeaceWithout_43 rfl ?_
    refine g_ldan aX2_isPeaceWithout_44 rfl ?_
    refine g_getR aX2_isPeaceWithout_45 (hp0.1) rfl ?_
    refine g_getI aX2_isPeaceWithout_48 (hp0.2.1.1) rfl ?_
    by_cases hc112 : (σ.1 (p0 + 1) 3) ≤ x110
    · rw [if_pos hc112] at hE
      refine g_ic_ge_t aX2_isPeaceWithout_51 hc112 ?_
      refine g_iconst (x := 1) aX2_isPeaceWithout_84 rfl ?_
      obtain ⟨rfl, rfl⟩ := i_some_inj hE
      exact g_iret aX2_isPeaceWithout_85 rfl rfl
    · rw [if_neg hc112] at hE
      refine g_ic_ge_f aX2_isPeaceWithout_51 hc112 ?_
      refine g_ldin aX2_isPeaceWithout_54 rfl ?_
      refine g_ldin aX2_isPeaceWithout_55 rfl ?_
      refine g_ishr aX2_isPeaceWithout_56 ?_
      refine g_iconst (x := 1) aX2_isPeaceWithout_57 rfl ?_
      refine g_iand aX2_isPeaceWithout_58 ?_
      by_cases hc113 : ((x53 >>> (x110 &&& 31)) &&& 1) = 0
      · rw [if_pos hc113] at hE
        refine g_if_eq_t aX2_isPeaceWithout_59 hc113 ?_
        refine g_iinc (y := 1) (loc2 := [.ref p0, .int p1, .int x53, .int (x110 + 1)]) aX2_isPeaceWithout_78 rfl rfl rfl ?_
        refine g_goto aX2_isPeaceWithout_81 ?_
        exact ih _ hE
      · rw [if_neg hc113] at hE
        refine g_if_eq_f aX2_isPeaceWithout_59 hc113 ?_
        refine g_ldin aX2_isPeaceWithout_62 rfl ?_
        refine g_ldan aX2_isPeaceWithout_63 rfl ?_
        refine g_getR aX2_isPeaceWithout_64 (hp0.1) rfl ?_
        refine g_getR aX2_isPeaceWithout_67 (hp0.2.1.1) rfl ?_
        refine g_ldin aX2_isPeaceWithout_70 rfl ?_
        obtain ⟨h114, hE⟩ := i_ifn hE
        refine g_ild aX2_isPeaceWithout_71 (hp0.2.1.2.2.1) h114 ?_
        refine g_iand aX2_isPeaceWithout_72 ?_
        by_cases hc115 : (x53 &&& (σ.2.1 ((p0 + 1) + 2) x110.toNatClampNeg)) = 0
        · rw [if_pos hc115] at hE
          refine g_if_eq_t aX2_isPeaceWithout_73 hc115 ?_
          refine g_iinc (y := 1) (loc2 := [.ref p0, .int p1, .int x53, .int (x110 + 1)]) aX2_isPeaceWithout_78 rfl rfl rfl ?_
          refine g_goto aX2_isPeaceWithout_81 ?_
          exact ih _ hE
        · rw [if_neg hc115] at hE
          refine g_if_eq_f aX2_isPeaceWithout_73 hc115 ?_
          refine g_iconst (x := 0) aX2_isPeaceWithout_76 rfl ?_
          obtain ⟨rfl, rfl⟩ := i_some_inj hE
          exact g_iret aX2_isPeaceWithout_77 rfl rfl
set_option maxRecDepth 20000 in
set_option maxHeartbeats 2000000 in
theorem tX2_isPeaceWithout_X41 {sh : List kd} {τ : St} {r : Int32} (hsh : cSh sh) {p0 : Nat} {p1 : Int32} {σ : St} {x53 : Int32} {x54 : Int32} (hp0 : wSh sh p0) (hE : fX2_isPeaceWithout_X41 sh p0 p1 σ x53 x54 = some (r, τ)) : g_R sh 0 mX2_isPeaceWithout (some (.int r)) τ 41 [.ref p0, .int p1, .int x53, .int x54] [] (σ) := by
  unfold fX2_isPeaceWithout_X41 at hE
  refine g_iconst (x := 0) aX2_isPeaceWithout_41 rfl ?_
  refine g_stin (loc2 := [.ref p0, .int p1, .int x53, .int 0]) aX2_isPeaceWithout_42 (Nat.le_of_ble_eq_true rfl) rfl ?_
  exact tX2_isPeaceWithout_L43 hsh hp0 i_F _ hE
set_option maxRecDepth 20000 in
set_option maxHeartbeats 2000000 in
theorem tX2_isPeaceWithout {sh : List kd} {σ τ : St} {r : Int32} (hsh : cSh sh) {p0 : Nat} {p1 : Int32} (hp0 : wSh sh p0) (hE : fX2_isPeaceWithout sh σ p0 p1 = some (r, τ)) : i_X 1 16 [.ref p0, .int p1] (s_h sh σ) 0 0 (some (.int r)) (s_h sh τ) := by
  refine g_X (M := mX2_isPeaceWithout) (loc := [.ref p0, .int p1, .retAddr 0, .retAddr 0]) rfl (Nat.le_of_ble_eq_true rfl) rfl ?_
  unfold fX2_isPeaceWithout at hE
  refine g_iconst (x := 0) aX2_isPeaceWithout_0 rfl ?_
  refine g_stin (loc2 := [.ref p0, .int p1, .int 0, .retAddr 0]) aX2_isPeaceWithout_1 (Nat.le_of_ble_eq_true rfl) rfl ?_
  refine g_iconst (x := 0) aX2_isPeaceWithout_2 rfl ?_
  refine g_stin (loc2 := [.ref p0, .int p1, .int 0, .int 0]) aX2_isPeaceWithout_3 (Nat.le_of_ble_eq_true rfl) rfl ?_
  exact tX2_isPeaceWithout_L4 hsh hp0 (fun x53 x54 hE => tX2_isPeaceWithout_X41 hsh hp0 hE) i_F _ _ hE
theorem aX3_areNotesSo_0 : i_at mX3_areNotesSo.2.2.2.2.2 0 = some (.iconst 0, 1, 0, 0, 0, 0) := by decide +kernel
theorem aX3_areNotesSo_1 : i_at mX3_areNotesSo.2.2.2.2.2 1 = some (.istore_n 2, 1, 0, 0, 0, 0) := by decide +kernel
theorem aX3_areNotesSo_2 : i_at mX3_areNotesSo.2.2.2.2.2 2 = some (.iload_n 2, 1, 0, 0, 0, 0) := by decide +kernel
theorem aX3_areNotesSo_3 : i_at mX3_areNotesSo.2.2.2.2.2 3 = some (.aload_n 0, 1, 0, 0, 0, 0) := by decide +kernel
theorem aX3_areNotesSo_4 : i_at mX3_areNotesSo.2.2.2.2.2 4 = some (.getfield 31, 3, 2, 0, 429, 0) := by decide +kernel
theorem aX3_areNotesSo_7 : i_at mX3_areNotesSo.2.2.2.2.2 7 = some (.getfield 70, 3, 9, 7, 362, 0) := by decide +kernel
theorem aX3_areNotesSo_10 : i_at mX3_areNotesSo.2.2.2.2.2 10 = some (.if_icmp .ge 39, 3, 49, 0, 0, 0) := by decide +kernel
theorem aX3_areNotesSo_13 : i_at mX3_areNotesSo.2.2.2.2.2 13 = some (.aload_n 0, 1, 0, 0, 0, 0) := by decide +kernel
theorem aX3_areNotesSo_14 : i_at mX3_areNotesSo.2.2.2.2.2 14 = some (.getfield 20, 3, 2, 3, 432, 0) := by decide +kernel
theorem aX3_areNotesSo_17 : i_at mX3_areNotesSo.2.2.2.2.2 17 = some (.iload_n 1, 1, 0, 0, 0, 0) := by decide +kernel
theorem aX3_areNotesSo_18 : i_at mX3_areNotesSo.2.2.2.2.2 18 = some (.aaload, 1, 0, 0, 0, 0) := by decide +kernel
theorem aX3_areNotesSo_19 : i_at mX3_areNotesSo.2.2.2.2.2 19 = some (.aload_n 0, 1, 0, 0, 0, 0) := by decide +kernel
theorem aX3_areNotesSo_20 : i_at mX3_areNotesSo.2.2.2.2.2 20 = some (.getfield 31, 3, 2, 0, 429, 0) := by decide +kernel
theorem aX3_areNotesSo_23 : i_at mX3_areNotesSo.2.2.2.2.2 23 = some (.getfield 73, 3, 9, 5, 357, 0) := by decide +kernel
theorem aX3_areNotesSo_26 : i_at mX3_areNotesSo.2.2.2.2.2 26 = some (.iload_n 2, 1, 0, 0, 0, 0) := by decide +kernel
theorem aX3_areNotesSo_27 : i_at mX3_areNotesSo.2.2.2.2.2 27 = some (.iaload, 1, 0, 0, 0, 0) := by decide +kernel
theorem aX3_areNotesSo_28 : i_at mX3_areNotesSo.2.2.2.2.2 28 = some (.iaload, 1, 0, 0, 0, 0) := by decide +kernel
theorem aX3_areNotesSo_29 : i_at mX3_areNotesSo.2.2.2.2.2 29 = some (.aload_n 0, 1, 0, 0, 0, 0) := by decide +kernel
theorem aX3_areNotesSo_30 : i_at mX3_areNotesSo.2.2.2.2.2 30 = some (.getfield 31, 3, 2, 0, 429, 0) := by decide +kernel
theorem aX3_areNotesSo_33 : i_at mX3_areNotesSo.2.2.2.2.2 33 = some (.getfield 76, 3, 9, 6, 360, 0) := by decide +kernel
theorem aX3_areNotesSo_36 : i_at mX3_areNotesSo.2.2.2.2.2 36 = some (.iload_n 2, 1, 0, 0, 0, 0) := by decide +kernel
theorem aX3_areNotesSo_37 : i_at mX3_areNotesSo.2.2.2.2.2 37 = some (.iaload, 1, 0, 0, 0, 0) := by decide +kernel
theorem aX3_areNotesSo_38 : i_at mX3_areNotesSo.2.2.2.2.2 38 = some (.if_icmp .eq 5, 3, 43, 0, 0, 0) := by decide +kernel
theorem aX3_areNotesSo_41 : i_at mX3_areNotesSo.2.2.2.2.2 41 = some (.iconst 0, 1, 0, 0, 0, 0) := by decide +kernel
theorem aX3_areNotesSo_42 : i_at mX3_areNotesSo.2.2.2.2.2 42 = some (.ireturn, 1, 0, 0, 0, 0) := by decide +kernel
theorem aX3_areNotesSo_43 : i_at mX3_areNotesSo.2.2.2.2.2 43 = some (.iinc 2 1, 3, 0, 0, 0, 0) := by decide +kernel
theorem aX3_areNotesSo_46 : i_at mX3_areNotesSo.2.2.2.2.2 46 = some (.goto (-44), 3, 2, 0, 0, 0) := by decide +kernel
theorem aX3_areNotesSo_49 : i_at mX3_areNotesSo.2.2.2.2.2 49 = some (.iconst 1, 1, 0, 0, 0, 0) := by decide +kernel
theorem aX3_areNotesSo_50 : i_at mX3_areNotesSo.2.2.2.2.2 50 = some (.ireturn, 1, 0, 0, 0, 0) := by decide +kernel
noncomputable def fX3_areNotesSo_L2 (sh : List kd) (p1 : Int32) (σ : St) : Nat → Int32 → Option (Int32 × St)
  | 0, _ => none
  | n2 + 1, x1 => if (σ.1 19 7) ≤ x1 then some (1, σ) else if i_ok p1 7 then if i_ok x1 10 then i_om (σ.2.2.2 149 p1.toNatClampNeg) (fun q6 => i_al sh .int q6 (fun n8 => if i_ok (σ.2.1 32 x1.toNatClampNeg) n8 then if i_ok x1 10 then if (σ.2.1 q6 (σ.2.1 32 x1.toNatClampNeg).toNatClampNeg) = (σ.2.1 33 x1.toNatClampNeg) then (fX3_areNotesSo_L2 sh p1 σ n2 (x1 + 1)) else some (0, σ) else none else none)) else none else none
noncomputable def fX3_areNotesSo (sh : List kd) (σ : St) (p1 : Int32) : Option (Int32 × St) := fX3_areNotesSo_L2 sh p1 σ i_F 0
set_option maxRecDepth 20000 in
set_option maxHeartbeats 2000000 in
theorem tX3_areNotesSo_L2 {sh : List kd} {τ : St} {r : Int32} (hsh : cSh sh) {p1 : Int32} {σ : St} : ∀ (n0 : Nat) (x1 : Int32), fX3_areNotesSo_L2 sh p1 σ n0 x1 = some (r, τ) → g_R sh 0 mX3_areNotesSo (some (.int r)) τ 2 [.ref 143, .int p1, .int x1] [] (σ) := by
  intro n0
  induction n0 with
  | zero => intro _ hE; cases hE
  | succ n2 ih =>
    intro x1 hE
    unfold fX3_areNotesSo_L2 at hE
    refine g_ldin aX3_areNotesSo_2 rfl ?_
    refine g_ldan aX3_areNotesSo_3 rfl ?_
    refine g_getR aX3_areNotesSo_4 (sC_143 hsh) rfl ?_
    refine g_getI aX3_areNotesSo_7 ((wShB_19 hsh).1) rfl ?_
    by_cases hc3 : (σ.1 19 7) ≤ x1
    · rw [if_pos hc3] at hE
      refine g_ic_ge_t aX3_areNotesSo_10 hc3 ?_
      refine g_iconst (x := 1) aX3_areNotesSo_49 rfl ?_
      obtain ⟨rfl, rfl⟩ := i_some_inj hE
      exact g_iret aX3_areNotesSo_50 rfl rfl
    · rw [if_neg hc3] at hE
      refine g_ic_ge_f aX3_areNotesSo_10 hc3 ?_
      refine g_ldan aX3_areNotesSo_13 rfl ?_
      refine g_getR aX3_areNotesSo_14 (sC_143 hsh) rfl ?_
      refine g_ldin aX3_areNotesSo_17 rfl ?_
      obtain ⟨h4, hE⟩ := i_ifn hE
      refine g_aldA aX3_areNotesSo_18 (sC_149 hsh) h4 ?_
      refine g_ldan aX3_areNotesSo_19 rfl ?_
      refine g_getR aX3_areNotesSo_20 (sC_143 hsh) rfl ?_
      refine g_getR aX3_areNotesSo_23 ((wShB_19 hsh).1) rfl ?_
      refine g_ldin aX3_areNotesSo_26 rfl ?_
      obtain ⟨h5, hE⟩ := i_ifn hE
      refine g_ild aX3_areNotesSo_27 (sC_32 hsh) h5 ?_
      obtain ⟨q6, h7, hE⟩ := i_om_some hE
      rw [h7]
      obtain ⟨n8, h9, hE⟩ := i_al_some hE
      obtain ⟨h10, hE⟩ := i_ifn hE
      refine g_ild aX3_areNotesSo_28 (h9) h10 ?_
      refine g_ldan aX3_areNotesSo_29 rfl ?_
      refine g_getR aX3_areNotesSo_30 (sC_143 hsh) rfl ?_
      refine g_getR aX3_areNotesSo_33 ((wShB_19 hsh).1) rfl ?_
      refine g_ldin aX3_areNotesSo_36 rfl ?_
      obtain ⟨h11, hE⟩ := i_ifn hE
      refine g_ild aX3_areNotesSo_37 (sC_33 hsh) h11 ?_
      by_cases hc12 : (σ.2.1 q6 (σ.2.1 32 x1.toNatClampNeg).toNatClampNeg) = (σ.2.1 33 x1.toNatClampNeg)
      · rw [if_pos hc12] at hE
        refine g_ic_eq_t aX3_areNotesSo_38 hc12 ?_
        refine g_iinc (y := 1) (loc2 := [.ref 143, .int p1, .int (x1 + 1)]) aX3_areNotesSo_43 rfl rfl rfl ?_
        refine g_goto aX3_areNotesSo_46 ?_
        exact ih _ hE
      · rw [if_neg hc12] at hE
        refine g_ic_eq_f aX3_areNotesSo_38 hc12 ?_
        refine g_iconst (x := 0) aX3_areNotesSo_41 rfl ?_
        obtain ⟨rfl, rfl⟩ := i_some_inj hE
        exact g_iret aX3_areNotesSo_42 rfl rfl
set_option maxRecDepth 20000 in
set_option maxHeartbeats 2000000 in
theorem tX3_areNotesSo {sh : List kd} {σ τ : St} {r : Int32} (hsh : cSh sh) {p1 : Int32} (hE : fX3_areNotesSo sh σ p1 = some (r, τ)) : i_X 1 21 [.ref 143, .int p1] (s_h sh σ) 0 0 (some (.int r)) (s_h sh τ) := by
  refine g_X (M := mX3_areNotesSo) (loc := [.ref 143, .int p1, .retAddr 0]) rfl (Nat.le_of_ble_eq_true rfl) rfl ?_
  unfold fX3_areNotesSo at hE
  refine g_iconst (x := 0) aX3_areNotesSo_0 rfl ?_
  refine g_stin (loc2 := [.ref 143, .int p1, .int 0]) aX3_areNotesSo_1 (Nat.le_of_ble_eq_true rfl) rfl ?_
  exact tX3_areNotesSo_L2 hsh i_F _ hE
theorem aX3_first_0 : i_at mX3_first.2.2.2.2.2 0 = some (.iconst 0, 1, 0, 0, 0, 0) := by decide +kernel
theorem aX3_first_1 : i_at mX3_first.2.2.2.2.2 1 = some (.istore_n 1, 1, 0, 0, 0, 0) := by decide +kernel
theorem aX3_first_2 : i_at mX3_first.2.2.2.2.2 2 = some (.iload_n 1, 1, 0, 0, 0, 0) := by decide +kernel
theorem aX3_first_3 : i_at mX3_first.2.2.2.2.2 3 = some (.bipush 7, 2, 0, 0, 0, 0) := by decide +kernel
theorem aX3_first_5 : i_at mX3_first.2.2.2.2.2 5 = some (.if_icmp .ge 22, 3, 27, 0, 0, 0) := by decide +kernel
theorem aX3_first_8 : i_at mX3_first.2.2.2.2.2 8 = some (.aload_n 0, 1, 0, 0, 0, 0) := by decide +kernel
theorem aX3_first_9 : i_at mX3_first.2.2.2.2.2 9 = some (.getfield 23, 3, 2, 4, 433, 0) := by decide +kernel
theorem aX3_first_12 : i_at mX3_first.2.2.2.2.2 12 = some (.iload_n 1, 1, 0, 0, 0, 0) := by decide +kernel
theorem aX3_first_13 : i_at mX3_first.2.2.2.2.2 13 = some (.baload, 1, 0, 0, 0, 0) := by decide +kernel
theorem aX3_first_14 : i_at mX3_first.2.2.2.2.2 14 = some (.ifCond .eq 7, 3, 21, 0, 0, 0) := by decide +kernel
theorem aX3_first_17 : i_at mX3_first.2.2.2.2.2 17 = some (.iload_n 1, 1, 0, 0, 0, 0) := by decide +kernel
theorem aX3_first_18 : i_at mX3_first.2.2.2.2.2 18 = some (.iconst 1, 1, 0, 0, 0, 0) := by decide +kernel
theorem aX3_first_19 : i_at mX3_first.2.2.2.2.2 19 = some (.isub, 1, 0, 0, 0, 0) := by decide +kernel
theorem aX3_first_20 : i_at mX3_first.2.2.2.2.2 20 = some (.ireturn, 1, 0, 0, 0, 0) := by decide +kernel
theorem aX3_first_21 : i_at mX3_first.2.2.2.2.2 21 = some (.iinc 1 1, 3, 0, 0, 0, 0) := by decide +kernel
theorem aX3_first_24 : i_at mX3_first.2.2.2.2.2 24 = some (.goto (-22), 3, 2, 0, 0, 0) := by decide +kernel
theorem aX3_first_27 : i_at mX3_first.2.2.2.2.2 27 = some (.bipush (-2), 2, 0, 0, 0, 0) := by decide +kernel
theorem aX3_first_29 : i_at mX3_first.2.2.2.2.2 29 = some (.ireturn, 1, 0, 0, 0, 0) := by decide +kernel
noncomputable def fX3_first_L2 (sh : List kd) (σ : St) (k17 : Int32 → Option (Int32 × St)) : Nat → Int32 → Option (Int32 × St)
  | 0, _ => none
  | n53 + 1, x1 => if 7 ≤ x1 then some ((-2), σ) else if i_ok x1 7 then if (σ.2.1 157 x1.toNatClampNeg) = 0 then (fX3_first_L2 sh σ k17 n53 (x1 + 1)) else k17 x1 else none
noncomputable def fX3_first_X17 (sh : List kd) (σ : St) (x52 : Int32) : Option (Int32 × St) := some ((x52 - 1), σ)
noncomputable def fX3_first (sh : List kd) (σ : St) : Option (Int32 × St) := fX3_first_L2 sh σ (fun (x52 : Int32) => fX3_first_X17 sh σ x52) i_F 0
set_option maxRecDepth 20000 in
set_option maxHeartbeats 2000000 in
theorem tX3_first_L2 {sh : List kd} {τ : St} {r : Int32} (hsh : cSh sh) {σ : St} {k17 : Int32 → Option (Int32 × St)} (hk17 : ∀ (x52 : Int32), k17 x52 = some (r, τ) → g_R sh 0 mX3_first (some (.int r)) τ 17 [.ref 143, .int x52] [] (σ)) : ∀ (n0 : Nat) (x1 : Int32), fX3_first_L2 sh σ k17 n0 x1 = some (r, τ) → g_R sh 0 mX3_first (some (.int r)) τ 2 [.ref 143, .int x1] [] (σ) := by
  intro n0
  induction n0 with
  | zero => intro _ hE; cases hE
  | succ n53 ih =>
    intro x1 hE
    unfold fX3_first_L2 at hE
    refine g_ldin aX3_first_2 rfl ?_
    refine g_bipush (x := 7) aX3_first_3 rfl ?_
    by_cases hc54 : 7 ≤ x1
    · rw [if_pos hc54] at hE
      refine g_ic_ge_t aX3_first_5 hc54 ?_
      refine g_bipush (x := (-2)) aX3_first_27 rfl ?_
      obtain ⟨rfl, rfl⟩ := i_some_inj hE
      exact g_iret aX3_first_29 rfl rfl
    · rw [if_neg hc54] at hE
      refine g_ic_ge_f aX3_first_5 hc54 ?_
      refine g_ldan aX3_first_8 rfl ?_
      refine g_getR aX3_first_9 (sC_143 hsh) rfl ?_
      refine g_ldin aX3_first_12 rfl ?_
      obtain ⟨h55, hE⟩ := i_ifn hE
      refine g_zld aX3_first_13 (sC_157 hsh) h55 ?_
      by_cases hc56 : (σ.2.1 157 x1.toNatClampNeg) = 0
      · rw [if_pos hc56] at hE
        refine g_if_eq_t aX3_first_14 hc56 ?_
        refine g_iinc (y := 1) (loc2 := [.ref 143, .int (x1 + 1)]) aX3_first_21 rfl rfl rfl ?_
        refine g_goto aX3_first_24 ?_
        exact ih _ hE
      · rw [if_neg hc56] at hE
        refine g_if_eq_f aX3_first_14 hc56 ?_
        exact hk17 _ hE
set_option maxRecDepth 20000 in
set_option maxHeartbeats 2000000 in
theorem tX3_first_X17 {sh : List kd} {τ : St} {r : Int32} (hsh : cSh sh) {σ : St} {x52 : Int32} (hE : fX3_first_X17 sh σ x52 = some (r, τ)) : g_R sh 0 mX3_first (some (.int r)) τ 17 [.ref 143, .int x52] [] (σ) := by
  unfold fX3_first_X17 at hE
  refine g_ldin aX3_first_17 rfl ?_
  refine g_iconst (x := 1) aX3_first_18 rfl ?_
  refine g_isub aX3_first_19 ?_
  obtain ⟨rfl, rfl⟩ := i_some_inj hE
  exact g_iret aX3_first_20 rfl rfl
set_option maxRecDepth 20000 in
set_option maxHeartbeats 2000000 in
theorem tX3_first {sh : List kd} {σ τ : St} {r : Int32} (hsh : cSh sh) (hE : fX3_first sh σ = some (r, τ)) : i_X 1 22 [.ref 143] (s_h sh σ) 0 0 (some (.int r)) (s_h sh τ) := by
  refine g_X (M := mX3_first) (loc := [.ref 143, .retAddr 0]) rfl (Nat.le_of_ble_eq_true rfl) rfl ?_
  unfold fX3_first at hE
  refine g_iconst (x := 0) aX3_first_0 rfl ?_
  refine g_stin (loc2 := [.ref 143, .int 0]) aX3_first_1 (Nat.le_of_ble_eq_true rfl) rfl ?_
  exact tX3_first_L2 hsh (fun x52 hE => tX3_first_X17 hsh hE) i_F _ hE
theorem aX4_copyFrom_0 : i_at mX4_copyFrom.2.2.2.2.2 0 = some (.aload_n 0, 1, 0, 0, 0, 0) := by decide +kernel
theorem aX4_copyFrom_1 : i_at mX4_copyFrom.2.2.2.2.2 1 = some (.aload_n 1, 1, 0, 0, 0, 0) := by decide +kernel
theorem aX4_copyFrom_2 : i_at mX4_copyFrom.2.2.2.2.2 2 = some (.getfield 31, 3, 3, 0, 292, 0) := by decide +kernel
theorem aX4_copyFrom_5 : i_at mX4_copyFrom.2.2.2.2.2 5 = some (.putfield 31, 3, 3, 0, 292, 0) := by decide +kernel
theorem aX4_copyFrom_8 : i_at mX4_copyFrom.2.2.2.2.2 8 = some (.aload_n 0, 1, 0, 0, 0, 0) := by decide +kernel
theorem aX4_copyFrom_9 : i_at mX4_copyFrom.2.2.2.2.2 9 = some (.aload_n 1, 1, 0, 0, 0, 0) := by decide +kernel
theorem aX4_copyFrom_10 : i_at mX4_copyFrom.2.2.2.2.2 10 = some (.getfield 9, 3, 3, 1, 296, 0) := by decide +kernel
theorem aX4_copyFrom_13 : i_at mX4_copyFrom.2.2.2.2.2 13 = some (.putfield 9, 3, 3, 1, 296, 0) := by decide +kernel
theorem aX4_copyFrom_16 : i_at mX4_copyFrom.2.2.2.2.2 16 = some (.aload_n 0, 1, 0, 0, 0, 0) := by decide +kernel
theorem aX4_copyFrom_17 : i_at mX4_copyFrom.2.2.2.2.2 17 = some (.aload_n 1, 1, 0, 0, 0, 0) := by decide +kernel
theorem aX4_copyFrom_18 : i_at mX4_copyFrom.2.2.2.2.2 18 = some (.getfield 15, 3, 3, 2, 301, 0) := by decide +kernel
theorem aX4_copyFrom_21 : i_at mX4_copyFrom.2.2.2.2.2 21 = some (.putfield 15, 3, 3, 2, 301, 0) := by decide +kernel
theorem aX4_copyFrom_24 : i_at mX4_copyFrom.2.2.2.2.2 24 = some (.aload_n 0, 1, 0, 0, 0, 0) := by decide +kernel
theorem aX4_copyFrom_25 : i_at mX4_copyFrom.2.2.2.2.2 25 = some (.aload_n 1, 1, 0, 0, 0, 0) := by decide +kernel
theorem aX4_copyFrom_26 : i_at mX4_copyFrom.2.2.2.2.2 26 = some (.getfield 34, 3, 3, 3, 306, 0) := by decide +kernel
theorem aX4_copyFrom_29 : i_at mX4_copyFrom.2.2.2.2.2 29 = some (.putfield 34, 3, 3, 3, 306, 0) := by decide +kernel
theorem aX4_copyFrom_32 : i_at mX4_copyFrom.2.2.2.2.2 32 = some (.aload_n 1, 1, 0, 0, 0, 0) := by decide +kernel
theorem aX4_copyFrom_33 : i_at mX4_copyFrom.2.2.2.2.2 33 = some (.getfield 18, 3, 3, 4, 309, 0) := by decide +kernel
theorem aX4_copyFrom_36 : i_at mX4_copyFrom.2.2.2.2.2 36 = some (.iconst 0, 1, 0, 0, 0, 0) := by decide +kernel
theorem aX4_copyFrom_37 : i_at mX4_copyFrom.2.2.2.2.2 37 = some (.aload_n 0, 1, 0, 0, 0, 0) := by decide +kernel
theorem aX4_copyFrom_38 : i_at mX4_copyFrom.2.2.2.2.2 38 = some (.getfield 18, 3, 3, 4, 309, 0) := by decide +kernel
theorem aX4_copyFrom_41 : i_at mX4_copyFrom.2.2.2.2.2 41 = some (.iconst 0, 1, 0, 0, 0, 0) := by decide +kernel
theorem aX4_copyFrom_42 : i_at mX4_copyFrom.2.2.2.2.2 42 = some (.bipush 6, 2, 0, 0, 0, 0) := by decide +kernel
theorem aX4_copyFrom_44 : i_at mX4_copyFrom.2.2.2.2.2 44 = some (.invokestatic 40, 3, 1003, 5, 641, 0) := by decide +kernel
theorem aX4_copyFrom_47 : i_at mX4_copyFrom.2.2.2.2.2 47 = some (.aload_n 1, 1, 0, 0, 0, 0) := by decide +kernel
theorem aX4_copyFrom_48 : i_at mX4_copyFrom.2.2.2.2.2 48 = some (.getfield 22, 3, 3, 5, 313, 0) := by decide +kernel
theorem aX4_copyFrom_51 : i_at mX4_copyFrom.2.2.2.2.2 51 = some (.iconst 0, 1, 0, 0, 0, 0) := by decide +kernel
theorem aX4_copyFrom_52 : i_at mX4_copyFrom.2.2.2.2.2 52 = some (.aload_n 0, 1, 0, 0, 0, 0) := by decide +kernel
theorem aX4_copyFrom_53 : i_at mX4_copyFrom.2.2.2.2.2 53 = some (.getfield 22, 3, 3, 5, 313, 0) := by decide +kernel
theorem aX4_copyFrom_56 : i_at mX4_copyFrom.2.2.2.2.2 56 = some (.iconst 0, 1, 0, 0, 0, 0) := by decide +kernel
theorem aX4_copyFrom_57 : i_at mX4_copyFrom.2.2.2.2.2 57 = some (.bipush 6, 2, 0, 0, 0, 0) := by decide +kernel
theorem aX4_copyFrom_59 : i_at mX4_copyFrom.2.2.2.2.2 59 = some (.invokestatic 40, 3, 1003, 5, 641, 0) := by decide +kernel
theorem aX4_copyFrom_62 : i_at mX4_copyFrom.2.2.2.2.2 62 = some (.aload_n 1, 1, 0, 0, 0, 0) := by decide +kernel
theorem aX4_copyFrom_63 : i_at mX4_copyFrom.2.2.2.2.2 63 = some (.getfield 25, 3, 3, 6, 318, 0) := by decide +kernel
theorem aX4_copyFrom_66 : i_at mX4_copyFrom.2.2.2.2.2 66 = some (.iconst 0, 1, 0, 0, 0, 0) := by decide +kernel
theorem aX4_copyFrom_67 : i_at mX4_copyFrom.2.2.2.2.2 67 = some (.aload_n 0, 1, 0, 0, 0, 0) := by decide +kernel
theorem aX4_copyFrom_68 : i_at mX4_copyFrom.2.2.2.2.2 68 = some (.getfield 25, 3, 3, 6, 318, 0) := by decide +kernel
theorem aX4_copyFrom_71 : i_at mX4_copyFrom.2.2.2.2.2 71 = some (.iconst 0, 1, 0, 0, 0, 0) := by decide +kernel
theorem aX4_copyFrom_72 : i_at mX4_copyFrom.2.2.2.2.2 72 = some (.bipush 6, 2, 0, 0, 0, 0) := by decide +kernel
theorem aX4_copyFrom_74 : i_at mX4_copyFrom.2.2.2.2.2 74 = some (.invokestatic 40, 3, 1003, 5, 641, 0) := by decide +kernel
theorem aX4_copyFrom_77 : i_at mX4_copyFrom.2.2.2.2.2 77 = some (.aload_n 1, 1, 0, 0, 0, 0) := by decide +kernel
theorem aX4_copyFrom_78 : i_at mX4_copyFrom.2.2.2.2.2 78 = some (.getfield 28, 3, 3, 7, 321, 0) := by decide +kernel
theorem aX4_copyFrom_81 : i_at mX4_copyFrom.2.2.2.2.2 81 = some (.iconst 0, 1, 0, 0, 0, 0) := by decide +kernel
theorem aX4_copyFrom_82 : i_at mX4_copyFrom.2.2.2.2.2 82 = some (.aload_n 0, 1, 0, 0, 0, 0) := by decide +kernel
theorem aX4_copyFrom_83 : i_at mX4_copyFrom.2.2.2.2.2 83 = some (.getfield 28, 3, 3, 7, 321, 0) := by decide +kernel
theorem aX4_copyFrom_86 : i_at mX4_copyFrom.2.2.2.2.2 86 = some (.iconst 0, 1, 0, 0, 0, 0) := by decide +kernel
theorem aX4_copyFrom_87 : i_at mX4_copyFrom.2.2.2.2.2 87 = some (.bipush 6, 2, 0, 0, 0, 0) := by decide +kernel
theorem aX4_copyFrom_89 : i_at mX4_copyFrom.2.2.2.2.2 89 = some (.invokestatic 40, 3, 1003, 5, 641, 0) := by decide +kernel
theorem aX4_copyFrom_92 : i_at mX4_copyFrom.2.2.2.2.2 92 = some (.return_, 1, 0, 0, 0, 0) := by decide +kernel
noncomputable def fX4_copyFrom (sh : List kd) (σ : St) (p0 : Nat) (p1 : Nat) : Option (Unit × St) := i_jp (s_F (s_F (s_F σ p0 0 (σ.1 p1 0)) p0 1 ((s_F σ p0 0 (σ.1 p1 0)).1 p1 1)) p0 2 ((s_F (s_F σ p0 0 (σ.1 p1 0)) p0 1 ((s_F σ p0 0 (σ.1 p1 0)).1 p1 1)).1 p1 2)) (fun (s1 : St) => if i_cok 0 0 6 6 6 then i_jp (s_C (s_F s1 p0 3 (s1.1 p1 3)) (p1 + 1) (p0 + 1) (0 : Int32).toNatClampNeg (0 : Int32).toNatClampNeg (6 : Int32).toNatClampNeg) (fun (s4 : St) => if i_cok 0 0 6 6 6 then if i_cok 0 0 6 6 6 then i_jp (s_C (s_C s4 (p1 + 2) (p0 + 2) (0 : Int32).toNatClampNeg (0 : Int32).toNatClampNeg (6 : Int32).toNatClampNeg) (p1 + 3) (p0 + 3) (0 : Int32).toNatClampNeg (0 : Int32).toNatClampNeg (6 : Int32).toNatClampNeg) (fun (s8 : St) => if i_cok 0 0 6 6 6 then some ((), s_C s8 (p1 + 4) (p0 + 4) (0 : Int32).toNatClampNeg (0 : Int32).toNatClampNeg (6 : Int32).toNatClampNeg) else none) else none else none) else none)
set_option maxRecDepth 20000 in
set_option maxHeartbeats 2000000 in
theorem tX4_copyFrom {sh : List kd} {σ τ : St} {r : Unit} (hsh : cSh sh) {p0 : Nat} {p1 : Nat} (hp0 : lSh sh p0) (hp1 : lSh sh p1) (hE : fX4_copyFrom sh σ p0 p1 = some (r, τ)) : i_X 1 27 [.ref p0, .ref p1] (s_h sh σ) 0 0 none (s_h sh τ) := by
  refine g_X (M := mX4_copyFrom) (loc := [.ref p0, .ref p1]) rfl (Nat.le_of_ble_eq_true rfl) rfl ?_
  unfold fX4_copyFrom at hE
  refine g_ldan aX4_copyFrom_0 rfl ?_
  refine g_ldan aX4_copyFrom_1 rfl ?_
  refine g_getI aX4_copyFrom_2 (hp1.1) rfl ?_
  refine g_putI aX4_copyFrom_5 (hp0.1) rfl rfl ?_
  refine g_ldan aX4_copyFrom_8 rfl ?_
  refine g_ldan aX4_copyFrom_9 rfl ?_
  refine g_getI aX4_copyFrom_10 (hp1.1) rfl ?_
  refine g_putI aX4_copyFrom_13 (hp0.1) rfl rfl ?_
  refine g_ldan aX4_copyFrom_16 rfl ?_
  refine g_ldan aX4_copyFrom_17 rfl ?_
  refine g_getI aX4_copyFrom_18 (hp1.1) rfl ?_
  refine g_putI aX4_copyFrom_21 (hp0.1) rfl rfl ?_
  obtain ⟨s1, h2, hE⟩ := i_jp_some hE
  rw [← h2]
  refine g_ldan aX4_copyFrom_24 rfl ?_
  refine g_ldan aX4_copyFrom_25 rfl ?_
  refine g_getI aX4_copyFrom_26 (hp1.1) rfl ?_
  refine g_putI aX4_copyFrom_29 (hp0.1) rfl rfl ?_
  refine g_ldan aX4_copyFrom_32 rfl ?_
  refine g_getR aX4_copyFrom_33 (hp1.1) rfl ?_
  refine g_iconst (x := 0) aX4_copyFrom_36 rfl ?_
  refine g_ldan aX4_copyFrom_37 rfl ?_
  refine g_getR aX4_copyFrom_38 (hp0.1) rfl ?_
  refine g_iconst (x := 0) aX4_copyFrom_41 rfl ?_
  refine g_bipush (x := 6) aX4_copyFrom_42 rfl ?_
  obtain ⟨h3, hE⟩ := i_ifn hE
  refine g_cpy aX4_copyFrom_44 (hp1.2.1) (hp0.2.1) h3 (Nat.le_of_ble_eq_true rfl) ?_
  obtain ⟨s4, h5, hE⟩ := i_jp_some hE
  rw [← h5]
  refine g_ldan aX4_copyFrom_47 rfl ?_
  refine g_getR aX4_copyFrom_48 (hp1.1) rfl ?_
  refine g_iconst (x := 0) aX4_copyFrom_51 rfl ?_
  refine g_ldan aX4_copyFrom_52 rfl ?_
  refine g_getR aX4_copyFrom_53 (hp0.1) rfl ?_
  refine g_iconst (x := 0) aX4_copyFrom_56 rfl ?_
  refine g_bipush (x := 6) aX4_copyFrom_57 rfl ?_
  obtain ⟨h6, hE⟩ := i_ifn hE
  refine g_cpy aX4_copyFrom_59 (hp1.2.2.1) (hp0.2.2.1) h6 (Nat.le_of_ble_eq_true rfl) ?_
  refine g_ldan aX4_copyFrom_62 rfl ?_
  refine g_getR aX4_copyFrom_63 (hp1.1) rfl ?_
  refine g_iconst (x := 0) aX4_copyFrom_66 rfl ?_
  refine g_ldan aX4_copyFrom_67 rfl ?_
  refine g_getR aX4_copyFrom_68 (hp0.1) rfl ?_
  refine g_iconst (x := 0) aX4_copyFrom_71 rfl ?_
  refine g_bipush (x := 6) aX4_copyFrom_72 rfl ?_
  obtain ⟨h7, hE⟩ := i_ifn hE
  refine g_cpy aX4_copyFrom_74 (hp1.2.2.2.1) (hp0.2.2.2.1) h7 (Nat.le_of_ble_eq_true rfl) ?_
  obtain ⟨s8, h9, hE⟩ := i_jp_some hE
  rw [← h9]
  refine g_ldan aX4_copyFrom_77 rfl ?_
  refine g_getR aX4_copyFrom_78 (hp1.1) rfl ?_
  refine g_iconst (x := 0) aX4_copyFrom_81 rfl ?_
  refine g_ldan aX4_copyFrom_82 rfl ?_
  refine g_getR aX4_copyFrom_83 (hp0.1) rfl ?_
  refine g_iconst (x := 0) aX4_copyFrom_86 rfl ?_
  refine g_bipush (x := 6) aX4_copyFrom_87 rfl ?_
  obtain ⟨h10, hE⟩ := i_ifn hE
  refine g_cpy aX4_copyFrom_89 (hp1.2.2.2.2) (hp0.2.2.2.2) h10 (Nat.le_of_ble_eq_true rfl) ?_
  obtain ⟨rfl, rfl⟩ := i_some_inj hE
  exact g_vret aX4_copyFrom_92 rfl
theorem aX4_thank_0 : i_at mX4_thank.2.2.2.2.2 0 = some (.aload_n 0, 1, 0, 0, 0, 0) := by decide +kernel
theorem aX4_thank_1 : i_at mX4_thank.2.2.2.2.2 1 = some (.getfield 18, 3, 3, 4, 309, 0) := by decide +kernel
theorem aX4_thank_4 : i_at mX4_thank.2.2.2.2.2 4 = some (.iload_n 1, 1, 0, 0, 0, 0) := by decide +kernel
theorem aX4_thank_5 : i_at mX4_thank.2.2.2.2.2 5 = some (.sipush 999, 3, 0, 0, 0, 0) := by decide +kernel
theorem aX4_thank_8 : i_at mX4_thank.2.2.2.2.2 8 = some (.aload_n 0, 1, 0, 0, 0, 0) := by decide +kernel
theorem aX4_thank_9 : i_at mX4_thank.2.2.2.2.2 9 = some (.getfield 18, 3, 3, 4, 309, 0) := by decide +kernel
theorem aX4_thank_12 : i_at mX4_thank.2.2.2.2.2 12 = some (.iload_n 1, 1, 0, 0, 0, 0) := by decide +kernel
theorem aX4_thank_13 : i_at mX4_thank.2.2.2.2.2 13 = some (.iaload, 1, 0, 0, 0, 0) := by decide +kernel
theorem aX4_thank_14 : i_at mX4_thank.2.2.2.2.2 14 = some (.iload_n 2, 1, 0, 0, 0, 0) := by decide +kernel
theorem aX4_thank_15 : i_at mX4_thank.2.2.2.2.2 15 = some (.iadd, 1, 0, 0, 0, 0) := by decide +kernel
theorem aX4_thank_16 : i_at mX4_thank.2.2.2.2.2 16 = some (.invokestatic 52, 3, 1002, 2, 842, 0) := by decide +kernel
theorem aX4_thank_19 : i_at mX4_thank.2.2.2.2.2 19 = some (.iastore, 1, 0, 0, 0, 0) := by decide +kernel
theorem aX4_thank_20 : i_at mX4_thank.2.2.2.2.2 20 = some (.return_, 1, 0, 0, 0, 0) := by decide +kernel
noncomputable def fX4_thank (sh : List kd) (σ : St) (p0 : Nat) (p1 : Int32) (p2 : Int32) : Option (Unit × St) := if i_ok p1 6 then if i_ok p1 6 then i_jp (s_A σ (p0 + 1) p1.toNatClampNeg (if ((σ.2.1 (p0 + 1) p1.toNatClampNeg) + p2) < 999 then ((σ.2.1 (p0 + 1) p1.toNatClampNeg) + p2) else 999)) (fun (s3 : St) => some ((), s3)) else none else none
set_option maxRecDepth 20000 in
set_option maxHeartbeats 2000000 in
theorem tX4_thank {sh : List kd} {σ τ : St} {r : Unit} (hsh : cSh sh) {p0 : Nat} {p1 : Int32} {p2 : Int32} (hp0 : lSh sh p0) (hE : fX4_thank sh σ p0 p1 p2 = some (r, τ)) : i_X 1 28 [.ref p0, .int p1, .int p2] (s_h sh σ) 0 0 none (s_h sh τ) := by
  refine g_X (M := mX4_thank) (loc := [.ref p0, .int p1, .int p2]) rfl (Nat.le_of_ble_eq_true rfl) rfl ?_
  unfold fX4_thank at hE
  refine g_ldan aX4_thank_0 rfl ?_
  refine g_getR aX4_thank_1 (hp0.1) rfl ?_
  refine g_ldin aX4_thank_4 rfl ?_
  refine g_sipush (x := 999) aX4_thank_5 rfl ?_
  refine g_ldan aX4_thank_8 rfl ?_
  refine g_getR aX4_thank_9 (hp0.1) rfl ?_
  refine g_ldin aX4_thank_12 rfl ?_
  obtain ⟨h1, hE⟩ := i_ifn hE
  refine g_ild aX4_thank_13 (hp0.2.1) h1 ?_
  refine g_ldin aX4_thank_14 rfl ?_
  refine g_iadd aX4_thank_15 ?_
  refine g_min aX4_thank_16 (Nat.le_of_ble_eq_true rfl) ?_
  obtain ⟨h2, hE⟩ := i_ifn hE
  refine g_ist aX4_thank_19 (hp0.2.1) h2 ?_
  obtain ⟨s3, h4, hE⟩ := i_jp_some hE
  rw [← h4]
  obtain ⟨rfl, rfl⟩ := i_some_inj hE
  exact g_vret aX4_thank_20 rfl
theorem aX4_hasTitle_0 : i_at mX4_hasTitle.2.2.2.2.2 0 = some (.aload_n 0, 1, 0, 0, 0, 0) := by decide +kernel
theorem aX4_hasTitle_1 : i_at mX4_hasTitle.2.2.2.2.2 1 = some (.getfield 22, 3, 3, 5, 313, 0) := by decide +kernel
theorem aX4_hasTitle_4 : i_at mX4_hasTitle.2.2.2.2.2 4 = some (.iload_n 1, 1, 0, 0, 0, 0) := by decide +kernel
theorem aX4_hasTitle_5 : i_at mX4_hasTitle.2.2.2.2.2 5 = some (.iaload, 1, 0, 0, 0, 0) := by decide +kernel
theorem aX4_hasTitle_6 : i_at mX4_hasTitle.2.2.2.2.2 6 = some (.iload_n 2, 1, 0, 0, 0, 0) := by decide +kernel
theorem aX4_hasTitle_7 : i_at mX4_hasTitle.2.2.2.2.2 7 = some (.ishr, 1, 0, 0, 0, 0) := by decide +kernel
theorem aX4_hasTitle_8 : i_at mX4_hasTitle.2.2.2.2.2 8 = some (.iconst 1, 1, 0, 0, 0, 0) := by decide +kernel
theorem aX4_hasTitle_9 : i_at mX4_hasTitle.2.2.2.2.2 9 = some (.iand, 1, 0, 0, 0, 0) := by decide +kernel
theorem aX4_hasTitle_10 : i_at mX4_hasTitle.2.2.2.2.2 10 = some (.ifCond .eq 7, 3, 17, 0, 0, 0) := by decide +kernel
theorem aX4_hasTitle_13 : i_at mX4_hasTitle.2.2.2.2.2 13 = some (.iconst 1, 1, 0, 0, 0, 0) := by decide +kernel
theorem aX4_hasTitle_14 : i_at mX4_hasTitle.2.2.2.2.2 14 = some (.goto 4, 3, 18, 0, 0, 0) := by decide +kernel
theorem aX4_hasTitle_17 : i_at mX4_hasTitle.2.2.2.2.2 17 = some (.iconst 0, 1, 0, 0, 0, 0) := by decide +kernel
theorem aX4_hasTitle_18 : i_at mX4_hasTitle.2.2.2.2.2 18 = some (.ireturn, 1, 0, 0, 0, 0) := by decide +kernel
noncomputable def fX4_hasTitle (sh : List kd) (σ : St) (p0 : Nat) (p1 : Int32) (p2 : Int32) : Option (Int32 × St) := if i_ok p1 6 then if (((if (((σ.2.1 (p0 + 2) p1.toNatClampNeg) >>> (p2 &&& 31)) &&& 1) = 0 then 0 else 1) : Int32) : Int32) &&& 1 = ((if (((σ.2.1 (p0 + 2) p1.toNatClampNeg) >>> (p2 &&& 31)) &&& 1) = 0 then 0 else 1) : Int32) then some (((if (((σ.2.1 (p0 + 2) p1.toNatClampNeg) >>> (p2 &&& 31)) &&& 1) = 0 then 0 else 1) : Int32), σ) else none else none
set_option maxRecDepth 20000 in
set_option maxHeartbeats 2000000 in
theorem tX4_hasTitle {sh : List kd} {σ τ : St} {r : Int32} (hsh : cSh sh) {p0 : Nat} {p1 : Int32} {p2 : Int32} (hp0 : lSh sh p0) (hE : fX4_hasTitle sh σ p0 p1 p2 = some (r, τ)) : i_X 1 29 [.ref p0, .int p1, .int p2] (s_h sh σ) 0 0 (some (.int r)) (s_h sh τ) := by
  refine g_X (M := mX4_hasTitle) (loc := [.ref p0, .int p1, .int p2]) rfl (Nat.le_of_ble_eq_true rfl) rfl ?_
  unfold fX4_hasTitle at hE
  refine g_ldan aX4_hasTitle_0 rfl ?_
  refine g_getR aX4_hasTitle_1 (hp0.1) rfl ?_
  refine g_ldin aX4_hasTitle_4 rfl ?_
  obtain ⟨h1, hE⟩ := i_ifn hE
  refine g_ild aX4_hasTitle_5 (hp0.2.2.1) h1 ?_
  refine g_ldin aX4_hasTitle_6 rfl ?_
  refine g_ishr aX4_hasTitle_7 ?_
  refine g_iconst (x := 1) aX4_hasTitle_8 rfl ?_
  refine g_iand aX4_hasTitle_9 ?_
  have hJ : g_R sh 0 mX4_hasTitle (some (.int r)) τ 18 [.ref p0, .int p1, .int p2] [.int ((if (((σ.2.1 (p0 + 2) p1.toNatClampNeg) >>> (p2 &&& 31)) &&& 1) = 0 then 0 else 1) : Int32)] (σ) := by
    obtain ⟨h2, hE⟩ := i_ifn hE
    obtain ⟨rfl, rfl⟩ := i_some_inj hE
    exact g_iret aX4_hasTitle_18 rfl (congrArg Value.int h2)
  clear hE
  by_cases hc2 : (((σ.2.1 (p0 + 2) p1.toNatClampNeg) >>> (p2 &&& 31)) &&& 1) = 0
  · (try rw [if_pos hc2] at hJ)
    refine g_if_eq_t aX4_hasTitle_10 hc2 ?_
    refine g_iconst (x := 0) aX4_hasTitle_17 rfl ?_
    exact hJ
  · (try rw [if_neg hc2] at hJ)
    refine g_if_eq_f aX4_hasTitle_10 hc2 ?_
    refine g_iconst (x := 1) aX4_hasTitle_13 rfl ?_
    refine g_goto aX4_hasTitle_14 ?_
    exact hJ
theorem aX4_bearers_0 : i_at mX4_bearers.2.2.2.2.2 0 = some (.iconst 0, 1, 0, 0, 0, 0) := by decide +kernel
theorem aX4_bearers_1 : i_at mX4_bearers.2.2.2.2.2 1 = some (.istore_n 2, 1, 0, 0, 0, 0) := by decide +kernel
theorem aX4_bearers_2 : i_at mX4_bearers.2.2.2.2.2 2 = some (.iconst 0, 1, 0, 0, 0, 0) := by decide +kernel
theorem aX4_bearers_3 : i_at mX4_bearers.2.2.2.2.2 3 = some (.istore_n 3, 1, 0, 0, 0, 0) := by decide +kernel
theorem aX4_bearers_4 : i_at mX4_bearers.2.2.2.2.2 4 = some (.iload_n 3, 1, 0, 0, 0, 0) := by decide +kernel
theorem aX4_bearers_5 : i_at mX4_bearers.2.2.2.2.2 5 = some (.bipush 6, 2, 0, 0, 0, 0) := by decide +kernel
theorem aX4_bearers_7 : i_at mX4_bearers.2.2.2.2.2 7 = some (.if_icmp .ge 22, 3, 29, 0, 0, 0) := by decide +kernel
theorem aX4_bearers_10 : i_at mX4_bearers.2.2.2.2.2 10 = some (.iload_n 2, 1, 0, 0, 0, 0) := by decide +kernel
theorem aX4_bearers_11 : i_at mX4_bearers.2.2.2.2.2 11 = some (.aload_n 0, 1, 0, 0, 0, 0) := by decide +kernel
theorem aX4_bearers_12 : i_at mX4_bearers.2.2.2.2.2 12 = some (.getfield 22, 3, 3, 5, 313, 0) := by decide +kernel
theorem aX4_bearers_15 : i_at mX4_bearers.2.2.2.2.2 15 = some (.iload_n 3, 1, 0, 0, 0, 0) := by decide +kernel
theorem aX4_bearers_16 : i_at mX4_bearers.2.2.2.2.2 16 = some (.iaload, 1, 0, 0, 0, 0) := by decide +kernel
theorem aX4_bearers_17 : i_at mX4_bearers.2.2.2.2.2 17 = some (.iload_n 1, 1, 0, 0, 0, 0) := by decide +kernel
theorem aX4_bearers_18 : i_at mX4_bearers.2.2.2.2.2 18 = some (.ishr, 1, 0, 0, 0, 0) := by decide +kernel
theorem aX4_bearers_19 : i_at mX4_bearers.2.2.2.2.2 19 = some (.iconst 1, 1, 0, 0, 0, 0) := by decide +kernel
theorem aX4_bearers_20 : i_at mX4_bearers.2.2.2.2.2 20 = some (.iand, 1, 0, 0, 0, 0) := by decide +kernel
theorem aX4_bearers_21 : i_at mX4_bearers.2.2.2.2.2 21 = some (.iadd, 1, 0, 0, 0, 0) := by decide +kernel
theorem aX4_bearers_22 : i_at mX4_bearers.2.2.2.2.2 22 = some (.istore_n 2, 1, 0, 0, 0, 0) := by decide +kernel
theorem aX4_bearers_23 : i_at mX4_bearers.2.2.2.2.2 23 = some (.iinc 3 1, 3, 0, 0, 0, 0) := by decide +kernel
theorem aX4_bearers_26 : i_at mX4_bearers.2.2.2.2.2 26 = some (.goto (-22), 3, 4, 0, 0, 0) := by decide +kernel
theorem aX4_bearers_29 : i_at mX4_bearers.2.2.2.2.2 29 = some (.iload_n 2, 1, 0, 0, 0, 0) := by decide +kernel
theorem aX4_bearers_30 : i_at mX4_bearers.2.2.2.2.2 30 = some (.ireturn, 1, 0, 0, 0, 0) := by decide +kernel
noncomputable def fX4_bearers_L4 (sh : List kd) (p0 : Nat) (p1 : Int32) (σ : St) : Nat → Int32 → Int32 → Option (Int32 × St)
  | 0, _, _ => none
  | n3 + 1, x1, x2 => if 6 ≤ x2 then some (x1, σ) else if i_ok x2 6 then (fX4_bearers_L4 sh p0 p1 σ n3 (x1 + (((σ.2.1 (p0 + 2) x2.toNatClampNeg) >>> (p1 &&& 31)) &&& 1)) (x2 + 1)) else none
noncomputable def fX4_bearers (sh : List kd) (σ : St) (p0 : Nat) (p1 : Int32) : Option (Int32 × St) := fX4_bearers_L4 sh p0 p1 σ i_F 0 0
set_option maxRecDepth 20000 in
set_option maxHeartbeats 2000000 in
theorem tX4_bearers_L4 {sh : List kd} {τ : St} {r : Int32} (hsh : cSh sh) {p0 : Nat} {p1 : Int32} {σ : St} (hp0 : lSh sh p0) : ∀ (n0 : Nat) (x1 : Int32) (x2 : Int32), fX4_bearers_L4 sh p0 p1 σ n0 x1 x2 = some (r, τ) → g_R sh 0 mX4_bearers (some (.int r)) τ 4 [.ref p0, .int p1, .int x1, .int x2] [] (σ) := by
  intro n0
  induction n0 with
  | zero => intro _ _ hE; cases hE
  | succ n3 ih =>
    intro x1 x2 hE
    unfold fX4_bearers_L4 at hE
    refine g_ldin aX4_bearers_4 rfl ?_
    refine g_bipush (x := 6) aX4_bearers_5 rfl ?_
    by_cases hc54 : 6 ≤ x2
    · rw [if_pos hc54] at hE
      refine g_ic_ge_t aX4_bearers_7 hc54 ?_
      refine g_ldin aX4_bearers_29 rfl ?_
      obtain ⟨rfl, rfl⟩ := i_some_inj hE
      exact g_iret aX4_bearers_30 rfl rfl
    · rw [if_neg hc54] at hE
      refine g_ic_ge_f aX4_bearers_7 hc54 ?_
      refine g_ldin aX4_bearers_10 rfl ?_
      refine g_ldan aX4_bearers_11 rfl ?_
      refine g_getR aX4_bearers_12 (hp0.1) rfl ?_
      refine g_ldin aX4_bearers_15 rfl ?_
      obtain ⟨h55, hE⟩ := i_ifn hE
      refine g_ild aX4_bearers_16 (hp0.2.2.1) h55 ?_
      refine g_ldin aX4_bearers_17 rfl ?_
      refine g_ishr aX4_bearers_18 ?_
      refine g_iconst (x := 1) aX4_bearers_19 rfl ?_
      refine g_iand aX4_bearers_20 ?_
      refine g_iadd aX4_bearers_21 ?_
      refine g_stin (loc2 := [.ref p0, .int p1, .int (x1 + (((σ.2.1 (p0 + 2) x2.toNatClampNeg) >>> (p1 &&& 31)) &&& 1)), .int x2]) aX4_bearers_22 (Nat.le_of_ble_eq_true rfl) rfl ?_
      refine g_iinc (y := 1) (loc2 := [.ref p0, .int p1, .int (x1 + (((σ.2.1 (p0 + 2) x2.toNatClampNeg) >>> (p1 &&& 31)) &&& 1)), .int (x2 + 1)]) aX4_bearers_23 rfl rfl rfl ?_
      refine g_goto aX4_bearers_26 ?_
      exact ih _ _ hE
set_option maxRecDepth 20000 in
set_option maxHeartbeats 2000000 in
theorem tX4_bearers {sh : List kd} {σ τ : St} {r : Int32} (hsh : cSh sh) {p0 : Nat} {p1 : Int32} (hp0 : lSh sh p0) (hE : fX4_bearers sh σ p0 p1 = some (r, τ)) : i_X 1 30 [.ref p0, .int p1] (s_h sh σ) 0 0 (some (.int r)) (s_h sh τ) := by
  refine g_X (M := mX4_bearers) (loc := [.ref p0, .int p1, .retAddr 0, .retAddr 0]) rfl (Nat.le_of_ble_eq_true rfl) rfl ?_
  unfold fX4_bearers at hE
  refine g_iconst (x := 0) aX4_bearers_0 rfl ?_
  refine g_stin (loc2 := [.ref p0, .int p1, .int 0, .retAddr 0]) aX4_bearers_1 (Nat.le_of_ble_eq_true rfl) rfl ?_
  refine g_iconst (x := 0) aX4_bearers_2 rfl ?_
  refine g_stin (loc2 := [.ref p0, .int p1, .int 0, .int 0]) aX4_bearers_3 (Nat.le_of_ble_eq_true rfl) rfl ?_
  exact tX4_bearers_L4 hsh hp0 i_F _ _ hE
theorem aX4_knights_0 : i_at mX4_knights.2.2.2.2.2 0 = some (.iconst 0, 1, 0, 0, 0, 0) := by decide +kernel
theorem aX4_knights_1 : i_at mX4_knights.2.2.2.2.2 1 = some (.istore_n 1, 1, 0, 0, 0, 0) := by decide +kernel
theorem aX4_knights_2 : i_at mX4_knights.2.2.2.2.2 2 = some (.iconst 0, 1, 0, 0, 0, 0) := by decide +kernel
theorem aX4_knights_3 : i_at mX4_knights.2.2.2.2.2 3 = some (.istore_n 2, 1, 0, 0, 0, 0) := by decide +kernel
theorem aX4_knights_4 : i_at mX4_knights.2.2.2.2.2 4 = some (.iload_n 2, 1, 0, 0, 0, 0) := by decide +kernel
theorem aX4_knights_5 : i_at mX4_knights.2.2.2.2.2 5 = some (.bipush 6, 2, 0, 0, 0, 0) := by decide +kernel
theorem aX4_knights_7 : i_at mX4_knights.2.2.2.2.2 7 = some (.if_icmp .ge 24, 3, 31, 0, 0, 0) := by decide +kernel
theorem aX4_knights_10 : i_at mX4_knights.2.2.2.2.2 10 = some (.aload_n 0, 1, 0, 0, 0, 0) := by decide +kernel
theorem aX4_knights_11 : i_at mX4_knights.2.2.2.2.2 11 = some (.getfield 22, 3, 3, 5, 313, 0) := by decide +kernel
theorem aX4_knights_14 : i_at mX4_knights.2.2.2.2.2 14 = some (.iload_n 2, 1, 0, 0, 0, 0) := by decide +kernel
theorem aX4_knights_15 : i_at mX4_knights.2.2.2.2.2 15 = some (.iaload, 1, 0, 0, 0, 0) := by decide +kernel
theorem aX4_knights_16 : i_at mX4_knights.2.2.2.2.2 16 = some (.ifCond .eq 9, 3, 25, 0, 0, 0) := by decide +kernel
theorem aX4_knights_19 : i_at mX4_knights.2.2.2.2.2 19 = some (.iload_n 1, 1, 0, 0, 0, 0) := by decide +kernel
theorem aX4_knights_20 : i_at mX4_knights.2.2.2.2.2 20 = some (.iconst 1, 1, 0, 0, 0, 0) := by decide +kernel
theorem aX4_knights_21 : i_at mX4_knights.2.2.2.2.2 21 = some (.iload_n 2, 1, 0, 0, 0, 0) := by decide +kernel
theorem aX4_knights_22 : i_at mX4_knights.2.2.2.2.2 22 = some (.ishl, 1, 0, 0, 0, 0) := by decide +kernel
theorem aX4_knights_23 : i_at mX4_knights.2.2.2.2.2 23 = some (.ior, 1, 0, 0, 0, 0) := by decide +kernel
theorem aX4_knights_24 : i_at mX4_knights.2.2.2.2.2 24 = some (.istore_n 1, 1, 0, 0, 0, 0) := by decide +kernel
theorem aX4_knights_25 : i_at mX4_knights.2.2.2.2.2 25 = some (.iinc 2 1, 3, 0, 0, 0, 0) := by decide +kernel
theorem aX4_knights_28 : i_at mX4_knights.2.2.2.2.2 28 = some (.goto (-24), 3, 4, 0, 0, 0) := by decide +kernel
theorem aX4_knights_31 : i_at mX4_knights.2.2.2.2.2 31 = some (.iload_n 1, 1, 0, 0, 0, 0) := by decide +kernel
theorem aX4_knights_32 : i_at mX4_knights.2.2.2.2.2 32 = some (.ireturn, 1, 0, 0, 0, 0) := by decide +kernel
noncomputable def fX4_knights_L4 (sh : List kd) (p0 : Nat) (σ : St) : Nat → Int32 → Int32 → Option (Int32 × St)
  | 0, _, _ => none
  | n3 + 1, x1, x2 => if 6 ≤ x2 then some (x1, σ) else if i_ok x2 6 then (fX4_knights_L4 sh p0 σ n3 ((if (σ.2.1 (p0 + 2) x2.toNatClampNeg) = 0 then x1 else (x1 ||| (1 <<< (x2 &&& 31)))) : Int32) (x2 + 1)) else none
noncomputable def fX4_knights (sh : List kd) (σ : St) (p0 : Nat) : Option (Int32 × St) := fX4_knights_L4 sh p0 σ i_F 0 0
set_option maxRecDepth 20000 in
set_option maxHeartbeats 2000000 in
theorem tX4_knights_L4 {sh : List kd} {τ : St} {r : Int32} (hsh : cSh sh) {p0 : Nat} {σ : St} (hp0 : lSh sh p0) : ∀ (n0 : Nat) (x1 : Int32) (x2 : Int32), fX4_knights_L4 sh p0 σ n0 x1 x2 = some (r, τ) → g_R sh 0 mX4_knights (some (.int r)) τ 4 [.ref p0, .int x1, .int x2] [] (σ) := by
  intro n0
  induction n0 with
  | zero => intro _ _ hE; cases hE
  | succ n3 ih =>
    intro x1 x2 hE
    unfold fX4_knights_L4 at hE
    refine g_ldin aX4_knights_4 rfl ?_
    refine g_bipush (x := 6) aX4_knights_5 rfl ?_
    by_cases hc54 : 6 ≤ x2
    · rw [if_pos hc54] at hE
      refine g_ic_ge_t aX4_knights_7 hc54 ?_
      refine g_ldin aX4_knights_31 rfl ?_
      obtain ⟨rfl, rfl⟩ := i_some_inj hE
      exact g_iret aX4_knights_32 rfl rfl
    · rw [if_neg hc54] at hE
      refine g_ic_ge_f aX4_knights_7 hc54 ?_
      refine g_ldan aX4_knights_10 rfl ?_
      refine g_getR aX4_knights_11 (hp0.1) rfl ?_
      refine g_ldin aX4_knights_14 rfl ?_
      obtain ⟨h55, hE⟩ := i_ifn hE
      refine g_ild aX4_knights_15 (hp0.2.2.1) h55 ?_
      have hJ : g_R sh 0 mX4_knights (some (.int r)) τ 25 [.ref p0, .int ((if (σ.2.1 (p0 + 2) x2.toNatClampNeg) = 0 then x1 else (x1 ||| (1 <<< (x2 &&& 31)))) : Int32), .int x2] [] (σ) := by
        refine g_iinc (y := 1) (loc2 := [.ref p0, .int ((if (σ.2.1 (p0 + 2) x2.toNatClampNeg) = 0 then x1 else (x1 ||| (1 <<< (x2 &&& 31)))) : Int32), .int (x2 + 1)]) aX4_knights_25 rfl rfl rfl ?_
        refine g_goto aX4_knights_28 ?_
        exact ih _ _ hE
      clear hE
      by_cases hc55 : (σ.2.1 (p0 + 2) x2.toNatClampNeg) = 0
      · (try rw [if_pos hc55] at hJ)
        refine g_if_eq_t aX4_knights_16 hc55 ?_
        exact hJ
      · (try rw [if_neg hc55] at hJ)
        refine g_if_eq_f aX4_knights_16 hc55 ?_
        refine g_ldin aX4_knights_19 rfl ?_
        refine g_iconst (x := 1) aX4_knights_20 rfl ?_
        refine g_ldin aX4_knights_21 rfl ?_
        refine g_ishl aX4_knights_22 ?_
        refine g_ior aX4_knights_23 ?_
        refine g_stin (loc2 := [.ref p0, .int (x1 ||| (1 <<< (x2 &&& 31))), .int x2]) aX4_knights_24 (Nat.le_of_ble_eq_true rfl) rfl ?_
        exact hJ
set_option maxRecDepth 20000 in
set_option maxHeartbeats 2000000 in
theorem tX4_knights {sh : List kd} {σ τ : St} {r : Int32} (hsh : cSh sh) {p0 : Nat} (hp0 : lSh sh p0) (hE : fX4_knights sh σ p0 = some (r, τ)) : i_X 1 31 [.ref p0] (s_h sh σ) 0 0 (some (.int r)) (s_h sh τ) := by
  refine g_X (M := mX4_knights) (loc := [.ref p0, .retAddr 0, .retAddr 0]) rfl (Nat.le_of_ble_eq_true rfl) rfl ?_
  unfold fX4_knights at hE
  refine g_iconst (x := 0) aX4_knights_0 rfl ?_
  refine g_stin (loc2 := [.ref p0, .int 0, .retAddr 0]) aX4_knights_1 (Nat.le_of_ble_eq_true rfl) rfl ?_
  refine g_iconst (x := 0) aX4_knights_2 rfl ?_
  refine g_stin (loc2 := [.ref p0, .int 0, .int 0]) aX4_knights_3 (Nat.le_of_ble_eq_true rfl) rfl ?_
  exact tX4_knights_L4 hsh hp0 i_F _ _ hE
theorem aX5_begin_0 : i_at mX5_begin.2.2.2.2.2 0 = some (.aload_n 0, 1, 0, 0, 0, 0) := by decide +kernel
theorem aX5_begin_1 : i_at mX5_begin.2.2.2.2.2 1 = some (.getfield 12, 3, 4, 2, 402, 0) := by decide +kernel
theorem aX5_begin_4 : i_at mX5_begin.2.2.2.2.2 4 = some (.aload_n 0, 1, 0, 0, 0, 0) := by decide +kernel
theorem aX5_begin_5 : i_at mX5_begin.2.2.2.2.2 5 = some (.getfield 28, 3, 4, 0, 400, 0) := by decide +kernel
theorem aX5_begin_8 : i_at mX5_begin.2.2.2.2.2 8 = some (.getfield 36, 3, 9, 1, 350, 0) := by decide +kernel
theorem aX5_begin_11 : i_at mX5_begin.2.2.2.2.2 11 = some (.invokevirtual 41, 3, 27, 1, 891, 0) := by decide +kernel
theorem aX5_begin_14 : i_at mX5_begin.2.2.2.2.2 14 = some (.return_, 1, 0, 0, 0, 0) := by decide +kernel
noncomputable def fX5_begin (sh : List kd) (σ : St) : Option (Unit × St) := i_bd (fX4_copyFrom sh σ 135 26) (fun r1 s2 => some ((), s2))
set_option maxRecDepth 20000 in
set_option maxHeartbeats 2000000 in
theorem tX5_begin {sh : List kd} {σ τ : St} {r : Unit} (hsh : cSh sh) (hE : fX5_begin sh σ = some (r, τ)) : i_X 2 33 [.ref 134] (s_h sh σ) 0 0 none (s_h sh τ) := by
  refine g_X (M := mX5_begin) (loc := [.ref 134]) rfl (Nat.le_of_ble_eq_true rfl) rfl ?_
  unfold fX5_begin at hE
  refine g_ldan aX5_begin_0 rfl ?_
  refine g_getR aX5_begin_1 (sC_134 hsh) rfl ?_
  refine g_ldan aX5_begin_4 rfl ?_
  refine g_getR aX5_begin_5 (sC_134 hsh) rfl ?_
  refine g_getR aX5_begin_8 ((wShB_19 hsh).1) rfl ?_
  obtain ⟨r1, s2, h3, hE⟩ := i_bd_some hE
  refine g_calV (As := [.ref 26]) (rest := []) aX5_begin_11 (i_X_mono (by omega) (tX4_copyFrom hsh (lShB_135 hsh) (lShB_26 hsh) h3)) ((lShB_135 hsh).1) (by decide +kernel) rfl rfl (Nat.le_of_ble_eq_true rfl) rfl ?_
  obtain ⟨rfl, rfl⟩ := i_some_inj hE
  exact g_vret aX5_begin_14 rfl
theorem aX5_isAtRest_0 : i_at mX5_isAtRest.2.2.2.2.2 0 = some (.iload_n 1, 1, 0, 0, 0, 0) := by decide +kernel
theorem aX5_isAtRest_1 : i_at mX5_isAtRest.2.2.2.2.2 1 = some (.iconst 5, 1, 0, 0, 0, 0) := by decide +kernel
theorem aX5_isAtRest_2 : i_at mX5_isAtRest.2.2.2.2.2 2 = some (.imul, 1, 0, 0, 0, 0) := by decide +kernel
theorem aX5_isAtRest_3 : i_at mX5_isAtRest.2.2.2.2.2 3 = some (.iload_n 2, 1, 0, 0, 0, 0) := by decide +kernel
theorem aX5_isAtRest_4 : i_at mX5_isAtRest.2.2.2.2.2 4 = some (.iadd, 1, 0, 0, 0, 0) := by decide +kernel
theorem aX5_isAtRest_5 : i_at mX5_isAtRest.2.2.2.2.2 5 = some (.istore_n 3, 1, 0, 0, 0, 0) := by decide +kernel
theorem aX5_isAtRest_6 : i_at mX5_isAtRest.2.2.2.2.2 6 = some (.iconst 0, 1, 0, 0, 0, 0) := by decide +kernel
theorem aX5_isAtRest_7 : i_at mX5_isAtRest.2.2.2.2.2 7 = some (.istore 4, 2, 0, 0, 0, 0) := by decide +kernel
theorem aX5_isAtRest_9 : i_at mX5_isAtRest.2.2.2.2.2 9 = some (.iload 4, 2, 0, 0, 0, 0) := by decide +kernel
theorem aX5_isAtRest_11 : i_at mX5_isAtRest.2.2.2.2.2 11 = some (.iconst 5, 1, 0, 0, 0, 0) := by decide +kernel
theorem aX5_isAtRest_12 : i_at mX5_isAtRest.2.2.2.2.2 12 = some (.if_icmp .ge 51, 3, 63, 0, 0, 0) := by decide +kernel
theorem aX5_isAtRest_15 : i_at mX5_isAtRest.2.2.2.2.2 15 = some (.aload_n 0, 1, 0, 0, 0, 0) := by decide +kernel
theorem aX5_isAtRest_16 : i_at mX5_isAtRest.2.2.2.2.2 16 = some (.getfield 22, 3, 4, 4, 404, 0) := by decide +kernel
theorem aX5_isAtRest_19 : i_at mX5_isAtRest.2.2.2.2.2 19 = some (.iload 4, 2, 0, 0, 0, 0) := by decide +kernel
theorem aX5_isAtRest_21 : i_at mX5_isAtRest.2.2.2.2.2 21 = some (.iconst 5, 1, 0, 0, 0, 0) := by decide +kernel
theorem aX5_isAtRest_22 : i_at mX5_isAtRest.2.2.2.2.2 22 = some (.imul, 1, 0, 0, 0, 0) := by decide +kernel
theorem aX5_isAtRest_23 : i_at mX5_isAtRest.2.2.2.2.2 23 = some (.iload_n 2, 1, 0, 0, 0, 0) := by decide +kernel
theorem aX5_isAtRest_24 : i_at mX5_isAtRest.2.2.2.2.2 24 = some (.iadd, 1, 0, 0, 0, 0) := by decide +kernel
theorem aX5_isAtRest_25 : i_at mX5_isAtRest.2.2.2.2.2 25 = some (.iaload, 1, 0, 0, 0, 0) := by decide +kernel
theorem aX5_isAtRest_26 : i_at mX5_isAtRest.2.2.2.2.2 26 = some (.aload_n 0, 1, 0, 0, 0, 0) := by decide +kernel
theorem aX5_isAtRest_27 : i_at mX5_isAtRest.2.2.2.2.2 27 = some (.getfield 22, 3, 4, 4, 404, 0) := by decide +kernel
theorem aX5_isAtRest_30 : i_at mX5_isAtRest.2.2.2.2.2 30 = some (.iload_n 3, 1, 0, 0, 0, 0) := by decide +kernel
theorem aX5_isAtRest_31 : i_at mX5_isAtRest.2.2.2.2.2 31 = some (.iaload, 1, 0, 0, 0, 0) := by decide +kernel
theorem aX5_isAtRest_32 : i_at mX5_isAtRest.2.2.2.2.2 32 = some (.if_icmp .gt 23, 3, 55, 0, 0, 0) := by decide +kernel
theorem aX5_isAtRest_35 : i_at mX5_isAtRest.2.2.2.2.2 35 = some (.aload_n 0, 1, 0, 0, 0, 0) := by decide +kernel
theorem aX5_isAtRest_36 : i_at mX5_isAtRest.2.2.2.2.2 36 = some (.getfield 25, 3, 4, 5, 405, 0) := by decide +kernel
theorem aX5_isAtRest_39 : i_at mX5_isAtRest.2.2.2.2.2 39 = some (.iload_n 1, 1, 0, 0, 0, 0) := by decide +kernel
theorem aX5_isAtRest_40 : i_at mX5_isAtRest.2.2.2.2.2 40 = some (.iconst 5, 1, 0, 0, 0, 0) := by decide +kernel
theorem aX5_isAtRest_41 : i_at mX5_isAtRest.2.2.2.2.2 41 = some (.imul, 1, 0, 0, 0, 0) := by decide +kernel
theorem aX5_isAtRest_42 : i_at mX5_isAtRest.2.2.2.2.2 42 = some (.iload 4, 2, 0, 0, 0, 0) := by decide +kernel
theorem aX5_isAtRest_44 : i_at mX5_isAtRest.2.2.2.2.2 44 = some (.iadd, 1, 0, 0, 0, 0) := by decide +kernel
theorem aX5_isAtRest_45 : i_at mX5_isAtRest.2.2.2.2.2 45 = some (.iaload, 1, 0, 0, 0, 0) := by decide +kernel
theorem aX5_isAtRest_46 : i_at mX5_isAtRest.2.2.2.2.2 46 = some (.aload_n 0, 1, 0, 0, 0, 0) := by decide +kernel
theorem aX5_isAtRest_47 : i_at mX5_isAtRest.2.2.2.2.2 47 = some (.getfield 25, 3, 4, 5, 405, 0) := by decide +kernel
theorem aX5_isAtRest_50 : i_at mX5_isAtRest.2.2.2.2.2 50 = some (.iload_n 3, 1, 0, 0, 0, 0) := by decide +kernel
theorem aX5_isAtRest_51 : i_at mX5_isAtRest.2.2.2.2.2 51 = some (.iaload, 1, 0, 0, 0, 0) := by decide +kernel
theorem aX5_isAtRest_52 : i_at mX5_isAtRest.2.2.2.2.2 52 = some (.if_icmp .le 5, 3, 57, 0, 0, 0) := by decide +kernel
theorem aX5_isAtRest_55 : i_at mX5_isAtRest.2.2.2.2.2 55 = some (.iconst 0, 1, 0, 0, 0, 0) := by decide +kernel
theorem aX5_isAtRest_56 : i_at mX5_isAtRest.2.2.2.2.2 56 = some (.ireturn, 1, 0, 0, 0, 0) := by decide +kernel
theorem aX5_isAtRest_57 : i_at mX5_isAtRest.2.2.2.2.2 57 = some (.iinc 4 1, 3, 0, 0, 0, 0) := by decide +kernel
theorem aX5_isAtRest_60 : i_at mX5_isAtRest.2.2.2.2.2 60 = some (.goto (-51), 3, 9, 0, 0, 0) := by decide +kernel
theorem aX5_isAtRest_63 : i_at mX5_isAtRest.2.2.2.2.2 63 = some (.iconst 1, 1, 0, 0, 0, 0) := by decide +kernel
theorem aX5_isAtRest_64 : i_at mX5_isAtRest.2.2.2.2.2 64 = some (.ireturn, 1, 0, 0, 0, 0) := by decide +kernel
noncomputable def fX5_isAtRest_L9 (sh : List kd) (p1 : Int32) (p2 : Int32) (σ : St) : Nat → Int32 → Option (Int32 × St)
  | 0, _ => none
  | n2 + 1, x1 => if 5 ≤ x1 then some (1, σ) else if i_ok ((x1 * 5) + p2) 25 then if i_ok ((p1 * 5) + p2) 25 then if (σ.2.1 141 ((p1 * 5) + p2).toNatClampNeg) < (σ.2.1 141 ((x1 * 5) + p2).toNatClampNeg) then some (0, σ) else if i_ok ((p1 * 5) + x1) 25 then if i_ok ((p1 * 5) + p2) 25 then if (σ.2.1 142 ((p1 * 5) + x1).toNatClampNeg) ≤ (σ.2.1 142 ((p1 * 5) + p2).toNatClampNeg) then (fX5_isAtRest_L9 sh p1 p2 σ n2 (x1 + 1)) else some (0, σ) else none else none else none else none
noncomputable def fX5_isAtRest (sh : List kd) (σ : St) (p1 : Int32) (p2 : Int32) : Option (Int32 × St) := fX5_isAtRest_L9 sh p1 p2 σ i_F 0
set_option maxRecDepth 20000 in
set_option maxHeartbeats 2000000 in
theorem tX5_isAtRest_L9 {sh : List kd} {τ : St} {r : Int32} (hsh : cSh sh) {p1 : Int32} {p2 : Int32} {σ : St} : ∀ (n0 : Nat) (x1 : Int32), fX5_isAtRest_L9 sh p1 p2 σ n0 x1 = some (r, τ) → g_R sh 0 mX5_isAtRest (some (.int r)) τ 9 [.ref 134, .int p1, .int p2, .int ((p1 * 5) + p2), .int x1] [] (σ) := by
  intro n0
  induction n0 with
  | zero => intro _ hE; cases hE
  | succ n2 ih =>
    intro x1 hE
    unfold fX5_isAtRest_L9 at hE
    refine g_ldi aX5_isAtRest_9 rfl ?_
    refine g_iconst (x := 5) aX5_isAtRest_11 rfl ?_
    by_cases hc3 : 5 ≤ x1
    · rw [if_pos hc3] at hE
      refine g_ic_ge_t aX5_isAtRest_12 hc3 ?_
      refine g_iconst (x := 1) aX5_isAtRest_63 rfl ?_
      obtain ⟨rfl, rfl⟩ := i_some_inj hE
      exact g_iret aX5_isAtRest_64 rfl rfl
    · rw [if_neg hc3] at hE
      refine g_ic_ge_f aX5_isAtRest_12 hc3 ?_
      refine g_ldan aX5_isAtRest_15 rfl ?_
      refine g_getR aX5_isAtRest_16 (sC_134 hsh) rfl ?_
      refine g_ldi aX5_isAtRest_19 rfl ?_
      refine g_iconst (x := 5) aX5_isAtRest_21 rfl ?_
      refine g_imul aX5_isAtRest_22 ?_
      refine g_ldin aX5_isAtRest_23 rfl ?_
      refine g_iadd aX5_isAtRest_24 ?_
      obtain ⟨h4, hE⟩ := i_ifn hE
      refine g_ild aX5_isAtRest_25 (sC_141 hsh) h4 ?_
      refine g_ldan aX5_isAtRest_26 rfl ?_
      refine g_getR aX5_isAtRest_27 (sC_134 hsh) rfl ?_
      refine g_ldin aX5_isAtRest_30 rfl ?_
      obtain ⟨h5, hE⟩ := i_ifn hE
      refine g_ild aX5_isAtRest_31 (sC_141 hsh) h5 ?_
      by_cases hc6 : (σ.2.1 141 ((p1 * 5) + p2).toNatClampNeg) < (σ.2.1 141 ((x1 * 5) + p2).toNatClampNeg)
      · rw [if_pos hc6] at hE
        refine g_ic_gt_t aX5_isAtRest_32 hc6 ?_
        refine g_iconst (x := 0) aX5_isAtRest_55 rfl ?_
        obtain ⟨rfl, rfl⟩ := i_some_inj hE
        exact g_iret aX5_isAtRest_56 rfl rfl
      · rw [if_neg hc6] at hE
        refine g_ic_gt_f aX5_isAtRest_32 hc6 ?_
        refine g_ldan aX5_isAtRest_35 rfl ?_
        refine g_getR aX5_isAtRest_36 (sC_134 hsh) rfl ?_
        refine g_ldin aX5_isAtRest_39 rfl ?_
        refine g_iconst (x := 5) aX5_isAtRest_40 rfl ?_
        refine g_imul aX5_isAtRest_41 ?_
        refine g_ldi aX5_isAtRest_42 rfl ?_
        refine g_iadd aX5_isAtRest_44 ?_
        obtain ⟨h7, hE⟩ := i_ifn hE
        refine g_ild aX5_isAtRest_45 (sC_142 hsh) h7 ?_
        refine g_ldan aX5_isAtRest_46 rfl ?_
        refine g_getR aX5_isAtRest_47 (sC_134 hsh) rfl ?_
        refine g_ldin aX5_isAtRest_50 rfl ?_
        obtain ⟨h8, hE⟩ := i_ifn hE
        refine g_ild aX5_isAtRest_51 (sC_142 hsh) h8 ?_
        by_cases hc9 : (σ.2.1 142 ((p1 * 5) + x1).toNatClampNeg) ≤ (σ.2.1 142 ((p1 * 5) + p2).toNatClampNeg)
        · rw [if_pos hc9] at hE
          refine g_ic_le_t aX5_isAtRest_52 hc9 ?_
          refine g_iinc (y := 1) (loc2 := [.ref 134, .int p1, .int p2, .int ((p1 * 5) + p2), .int (x1 + 1)]) aX5_isAtRest_57 rfl rfl rfl ?_
          refine g_goto aX5_isAtRest_60 ?_
          exact ih _ hE
        · rw [if_neg hc9] at hE
          refine g_ic_le_f aX5_isAtRest_52 hc9 ?_
          refine g_iconst (x := 0) aX5_isAtRest_55 rfl ?_
          obtain ⟨rfl, rfl⟩ := i_some_inj hE
          exact g_iret aX5_isAtRest_56 rfl rfl
set_option maxRecDepth 20000 in
set_option maxHeartbeats 2000000 in
theorem tX5_isAtRest {sh : List kd} {σ τ : St} {r : Int32} (hsh : cSh sh) {p1 : Int32} {p2 : Int32} (hE : fX5_isAtRest sh σ p1 p2 = some (r, τ)) : i_X 1 45 [.ref 134, .int p1, .int p2] (s_h sh σ) 0 0 (some (.int r)) (s_h sh τ) := by
  refine g_X (M := mX5_isAtRest) (loc := [.ref 134, .int p1, .int p2, .retAddr 0, .retAddr 0]) rfl (Nat.le_of_ble_eq_true rfl) rfl ?_
  unfold fX5_isAtRest at hE
  refine g_ldin aX5_isAtRest_0 rfl ?_
  refine g_iconst (x := 5) aX5_isAtRest_1 rfl ?_
  refine g_imul aX5_isAtRest_2 ?_
  refine g_ldin aX5_isAtRest_3 rfl ?_
  refine g_iadd aX5_isAtRest_4 ?_
  refine g_stin (loc2 := [.ref 134, .int p1, .int p2, .int ((p1 * 5) + p2), .retAddr 0]) aX5_isAtRest_5 (Nat.le_of_ble_eq_true rfl) rfl ?_
  refine g_iconst (x := 0) aX5_isAtRest_6 rfl ?_
  refine g_sti (loc2 := [.ref 134, .int p1, .int p2, .int ((p1 * 5) + p2), .int 0]) aX5_isAtRest_7 (Nat.le_of_ble_eq_true rfl) rfl ?_
  exact tX5_isAtRest_L9 hsh i_F _ hE
theorem aX5_isAlike_0 : i_at mX5_isAlike.2.2.2.2.2 0 = some (.iconst 0, 1, 0, 0, 0, 0) := by decide +kernel
theorem aX5_isAlike_1 : i_at mX5_isAlike.2.2.2.2.2 1 = some (.istore_n 3, 1, 0, 0, 0, 0) := by decide +kernel
theorem aX5_isAlike_2 : i_at mX5_isAlike.2.2.2.2.2 2 = some (.iload_n 3, 1, 0, 0, 0, 0) := by decide +kernel
theorem aX5_isAlike_3 : i_at mX5_isAlike.2.2.2.2.2 3 = some (.bipush 6, 2, 0, 0, 0, 0) := by decide +kernel
theorem aX5_isAlike_5 : i_at mX5_isAlike.2.2.2.2.2 5 = some (.if_icmp .ge 41, 3, 46, 0, 0, 0) := by decide +kernel
theorem aX5_isAlike_8 : i_at mX5_isAlike.2.2.2.2.2 8 = some (.iload_n 2, 1, 0, 0, 0, 0) := by decide +kernel
theorem aX5_isAlike_9 : i_at mX5_isAlike.2.2.2.2.2 9 = some (.iload_n 3, 1, 0, 0, 0, 0) := by decide +kernel
theorem aX5_isAlike_10 : i_at mX5_isAlike.2.2.2.2.2 10 = some (.iadd, 1, 0, 0, 0, 0) := by decide +kernel
theorem aX5_isAlike_11 : i_at mX5_isAlike.2.2.2.2.2 11 = some (.aload_n 0, 1, 0, 0, 0, 0) := by decide +kernel
theorem aX5_isAlike_12 : i_at mX5_isAlike.2.2.2.2.2 12 = some (.getfield 18, 3, 4, 3, 403, 0) := by decide +kernel
theorem aX5_isAlike_15 : i_at mX5_isAlike.2.2.2.2.2 15 = some (.arraylength, 1, 0, 0, 0, 0) := by decide +kernel
theorem aX5_isAlike_16 : i_at mX5_isAlike.2.2.2.2.2 16 = some (.if_icmp .ge 30, 3, 46, 0, 0, 0) := by decide +kernel
theorem aX5_isAlike_19 : i_at mX5_isAlike.2.2.2.2.2 19 = some (.aload_n 0, 1, 0, 0, 0, 0) := by decide +kernel
theorem aX5_isAlike_20 : i_at mX5_isAlike.2.2.2.2.2 20 = some (.getfield 18, 3, 4, 3, 403, 0) := by decide +kernel
theorem aX5_isAlike_23 : i_at mX5_isAlike.2.2.2.2.2 23 = some (.iload_n 1, 1, 0, 0, 0, 0) := by decide +kernel
theorem aX5_isAlike_24 : i_at mX5_isAlike.2.2.2.2.2 24 = some (.iload_n 3, 1, 0, 0, 0, 0) := by decide +kernel
theorem aX5_isAlike_25 : i_at mX5_isAlike.2.2.2.2.2 25 = some (.iadd, 1, 0, 0, 0, 0) := by decide +kernel
theorem aX5_isAlike_26 : i_at mX5_isAlike.2.2.2.2.2 26 = some (.iaload, 1, 0, 0, 0, 0) := by decide +kernel
theorem aX5_isAlike_27 : i_at mX5_isAlike.2.2.2.2.2 27 = some (.aload_n 0, 1, 0, 0, 0, 0) := by decide +kernel
theorem aX5_isAlike_28 : i_at mX5_isAlike.2.2.2.2.2 28 = some (.getfield 18, 3, 4, 3, 403, 0) := by decide +kernel
theorem aX5_isAlike_31 : i_at mX5_isAlike.2.2.2.2.2 31 = some (.iload_n 2, 1, 0, 0, 0, 0) := by decide +kernel
theorem aX5_isAlike_32 : i_at mX5_isAlike.2.2.2.2.2 32 = some (.iload_n 3, 1, 0, 0, 0, 0) := by decide +kernel
theorem aX5_isAlike_33 : i_at mX5_isAlike.2.2.2.2.2 33 = some (.iadd, 1, 0, 0, 0, 0) := by decide +kernel
theorem aX5_isAlike_34 : i_at mX5_isAlike.2.2.2.2.2 34 = some (.iaload, 1, 0, 0, 0, 0) := by decide +kernel
theorem aX5_isAlike_35 : i_at mX5_isAlike.2.2.2.2.2 35 = some (.if_icmp .eq 5, 3, 40, 0, 0, 0) := by decide +kernel
theorem aX5_isAlike_38 : i_at mX5_isAlike.2.2.2.2.2 38 = some (.iconst 0, 1, 0, 0, 0, 0) := by decide +kernel
theorem aX5_isAlike_39 : i_at mX5_isAlike.2.2.2.2.2 39 = some (.ireturn, 1, 0, 0, 0, 0) := by decide +kernel
theorem aX5_isAlike_40 : i_at mX5_isAlike.2.2.2.2.2 40 = some (.iinc 3 1, 3, 0, 0, 0, 0) := by decide +kernel
theorem aX5_isAlike_43 : i_at mX5_isAlike.2.2.2.2.2 43 = some (.goto (-41), 3, 2, 0, 0, 0) := by decide +kernel
theorem aX5_isAlike_46 : i_at mX5_isAlike.2.2.2.2.2 46 = some (.iconst 1, 1, 0, 0, 0, 0) := by decide +kernel
theorem aX5_isAlike_47 : i_at mX5_isAlike.2.2.2.2.2 47 = some (.ireturn, 1, 0, 0, 0, 0) := by decide +kernel
noncomputable def fX5_isAlike_L2 (sh : List kd) (p1 : Int32) (p2 : Int32) (σ : St) : Nat → Int32 → Option (Int32 × St)
  | 0, _ => none
  | n2 + 1, x1 => if 6 ≤ x1 then some (1, σ) else if 66 ≤ (p2 + x1) then some (1, σ) else if i_ok (p1 + x1) 66 then if i_ok (p2 + x1) 66 then if (σ.2.1 140 (p1 + x1).toNatClampNeg) = (σ.2.1 140 (p2 + x1).toNatClampNeg) then (fX5_isAlike_L2 sh p1 p2 σ n2 (x1 + 1)) else some (0, σ) else none else none
noncomputable def fX5_isAlike (sh : List kd) (σ : St) (p1 : Int32) (p2 : Int32) : Option (Int32 × St) := fX5_isAlike_L2 sh p1 p2 σ i_F 0
set_option maxRecDepth 20000 in
set_option maxHeartbeats 2000000 in
theorem tX5_isAlike_L2 {sh : List kd} {τ : St} {r : Int32} (hsh : cSh sh) {p1 : Int32} {p2 : Int32} {σ : St} : ∀ (n0 : Nat) (x1 : Int32), fX5_isAlike_L2 sh p1 p2 σ n0 x1 = some (r, τ) → g_R sh 0 mX5_isAlike (some (.int r)) τ 2 [.ref 134, .int p1, .int p2, .int x1] [] (σ) := by
  intro n0
  induction n0 with
  | zero => intro _ hE; cases hE
  | succ n2 ih =>
    intro x1 hE
    unfold fX5_isAlike_L2 at hE
    refine g_ldin aX5_isAlike_2 rfl ?_
    refine g_bipush (x := 6) aX5_isAlike_3 rfl ?_
    by_cases hc3 : 6 ≤ x1
    · rw [if_pos hc3] at hE
      refine g_ic_ge_t aX5_isAlike_5 hc3 ?_
      refine g_iconst (x := 1) aX5_isAlike_46 rfl ?_
      obtain ⟨rfl, rfl⟩ := i_some_inj hE
      exact g_iret aX5_isAlike_47 rfl rfl
    · rw [if_neg hc3] at hE
      refine g_ic_ge_f aX5_isAlike_5 hc3 ?_
      refine g_ldin aX5_isAlike_8 rfl ?_
      refine g_ldin aX5_isAlike_9 rfl ?_
      refine g_iadd aX5_isAlike_10 ?_
      refine g_ldan aX5_isAlike_11 rfl ?_
      refine g_getR aX5_isAlike_12 (sC_134 hsh) rfl ?_
      refine g_len aX5_isAlike_15 (sC_140 hsh) ?_
      by_cases hc4 : 66 ≤ (p2 + x1)
      · rw [if_pos hc4] at hE
        refine g_ic_ge_t aX5_isAlike_16 hc4 ?_
        refine g_iconst (x := 1) aX5_isAlike_46 rfl ?_
        obtain ⟨rfl, rfl⟩ := i_some_inj hE
        exact g_iret aX5_isAlike_47 rfl rfl
      · rw [if_neg hc4] at hE
        refine g_ic_ge_f aX5_isAlike_16 hc4 ?_
        refine g_ldan aX5_isAlike_19 rfl ?_
        refine g_getR aX5_isAlike_20 (sC_134 hsh) rfl ?_
        refine g_ldin aX5_isAlike_23 rfl ?_
        refine g_ldin aX5_isAlike_24 rfl ?_
        refine g_iadd aX5_isAlike_25 ?_
        obtain ⟨h5, hE⟩ := i_ifn hE
        refine g_ild aX5_isAlike_26 (sC_140 hsh) h5 ?_
        refine g_ldan aX5_isAlike_27 rfl ?_
        refine g_getR aX5_isAlike_28 (sC_134 hsh) rfl ?_
        refine g_ldin aX5_isAlike_31 rfl ?_
        refine g_ldin aX5_isAlike_32 rfl ?_
        refine g_iadd aX5_isAlike_33 ?_
        obtain ⟨h6, hE⟩ := i_ifn hE
        refine g_ild aX5_isAlike_34 (sC_140 hsh) h6 ?_
        by_cases hc7 : (σ.2.1 140 (p1 + x1).toNatClampNeg) = (σ.2.1 140 (p2 + x1).toNatClampNeg)
        · rw [if_pos hc7] at hE
          refine g_ic_eq_t aX5_isAlike_35 hc7 ?_
          refine g_iinc (y := 1) (loc2 := [.ref 134, .int p1, .int p2, .int (x1 + 1)]) aX5_isAlike_40 rfl rfl rfl ?_
          refine g_goto aX5_isAlike_43 ?_
          exact ih _ hE
        · rw [if_neg hc7] at hE
          refine g_ic_eq_f aX5_isAlike_35 hc7 ?_
          refine g_iconst (x := 0) aX5_isAlike_38 rfl ?_
          obtain ⟨rfl, rfl⟩ := i_some_inj hE
          exact g_iret aX5_isAlike_39 rfl rfl
set_option maxRecDepth 20000 in
set_option maxHeartbeats 2000000 in
theorem tX5_isAlike {sh : List kd} {σ τ : St} {r : Int32} (hsh : cSh sh) {p1 : Int32} {p2 : Int32} (hE : fX5_isAlike sh σ p1 p2 = some (r, τ)) : i_X 1 47 [.ref 134, .int p1, .int p2] (s_h sh σ) 0 0 (some (.int r)) (s_h sh τ) := by
  refine g_X (M := mX5_isAlike) (loc := [.ref 134, .int p1, .int p2, .retAddr 0]) rfl (Nat.le_of_ble_eq_true rfl) rfl ?_
  unfold fX5_isAlike at hE
  refine g_iconst (x := 0) aX5_isAlike_0 rfl ?_
  refine g_stin (loc2 := [.ref 134, .int p1, .int p2, .int 0]) aX5_isAlike_1 (Nat.le_of_ble_eq_true rfl) rfl ?_
  exact tX5_isAlike_L2 hsh i_F _ hE
theorem aX5_nextDrawn_0 : i_at mX5_nextDrawn.2.2.2.2.2 0 = some (.iload_n 0, 1, 0, 0, 0, 0) := by decide +kernel
theorem aX5_nextDrawn_1 : i_at mX5_nextDrawn.2.2.2.2.2 1 = some (.ldc 132, 2, 0, 0, 1060, 1103515245) := by decide +kernel
theorem aX5_nextDrawn_3 : i_at mX5_nextDrawn.2.2.2.2.2 3 = some (.imul, 1, 0, 0, 0, 0) := by decide +kernel
theorem aX5_nextDrawn_4 : i_at mX5_nextDrawn.2.2.2.2.2 4 = some (.sipush 12345, 3, 0, 0, 0, 0) := by decide +kernel
theorem aX5_nextDrawn_7 : i_at mX5_nextDrawn.2.2.2.2.2 7 = some (.iadd, 1, 0, 0, 0, 0) := by decide +kernel
theorem aX5_nextDrawn_8 : i_at mX5_nextDrawn.2.2.2.2.2 8 = some (.ldc 133, 2, 0, 0, 1061, 2147483647) := by decide +kernel
theorem aX5_nextDrawn_10 : i_at mX5_nextDrawn.2.2.2.2.2 10 = some (.iand, 1, 0, 0, 0, 0) := by decide +kernel
theorem aX5_nextDrawn_11 : i_at mX5_nextDrawn.2.2.2.2.2 11 = some (.ireturn, 1, 0, 0, 0, 0) := by decide +kernel
noncomputable def fX5_nextDrawn (sh : List kd) (σ : St) (p0 : Int32) : Option (Int32 × St) := some ((((p0 * 1103515245) + 12345) &&& 2147483647), σ)
set_option maxRecDepth 20000 in
set_option maxHeartbeats 2000000 in
theorem tX5_nextDrawn {sh : List kd} {σ τ : St} {r : Int32} (hsh : cSh sh) {p0 : Int32} (hE : fX5_nextDrawn sh σ p0 = some (r, τ)) : i_X 1 49 [.int p0] (s_h sh σ) 0 0 (some (.int r)) (s_h sh τ) := by
  refine g_X (M := mX5_nextDrawn) (loc := [.int p0]) rfl (Nat.le_of_ble_eq_true rfl) rfl ?_
  unfold fX5_nextDrawn at hE
  refine g_ldin aX5_nextDrawn_0 rfl ?_
  refine g_ldcI (x := 1103515245) aX5_nextDrawn_1 rfl rfl ?_
  refine g_imul aX5_nextDrawn_3 ?_
  refine g_sipush (x := 12345) aX5_nextDrawn_4 rfl ?_
  refine g_iadd aX5_nextDrawn_7 ?_
  refine g_ldcI (x := 2147483647) aX5_nextDrawn_8 rfl rfl ?_
  refine g_iand aX5_nextDrawn_10 ?_
  obtain ⟨rfl, rfl⟩ := i_some_inj hE
  exact g_iret aX5_nextDrawn_11 rfl rfl
theorem aX6_copyFrom_0 : i_at mX6_copyFrom.2.2.2.2.2 0 = some (.aload_n 0, 1, 0, 0, 0, 0) := by decide +kernel
theorem aX6_copyFrom_1 : i_at mX6_copyFrom.2.2.2.2.2 1 = some (.aload_n 1, 1, 0, 0, 0, 0) := by decide +kernel
theorem aX6_copyFrom_2 : i_at mX6_copyFrom.2.2.2.2.2 2 = some (.getfield 27, 3, 5, 0, 153, 0) := by decide +kernel
theorem aX6_copyFrom_5 : i_at mX6_copyFrom.2.2.2.2.2 5 = some (.putfield 27, 3, 5, 0, 153, 0) := by decide +kernel
theorem aX6_copyFrom_8 : i_at mX6_copyFrom.2.2.2.2.2 8 = some (.aload_n 0, 1, 0, 0, 0, 0) := by decide +kernel
theorem aX6_copyFrom_9 : i_at mX6_copyFrom.2.2.2.2.2 9 = some (.aload_n 1, 1, 0, 0, 0, 0) := by decide +kernel
theorem aX6_copyFrom_10 : i_at mX6_copyFrom.2.2.2.2.2 10 = some (.getfield 31, 3, 5, 1, 156, 0) := by decide +kernel
theorem aX6_copyFrom_13 : i_at mX6_copyFrom.2.2.2.2.2 13 = some (.putfield 31, 3, 5, 1, 156, 0) := by decide +kernel
theorem aX6_copyFrom_16 : i_at mX6_copyFrom.2.2.2.2.2 16 = some (.aload_n 0, 1, 0, 0, 0, 0) := by decide +kernel
theorem aX6_copyFrom_17 : i_at mX6_copyFrom.2.2.2.2.2 17 = some (.aload_n 1, 1, 0, 0, 0, 0) := by decide +kernel
theorem aX6_copyFrom_18 : i_at mX6_copyFrom.2.2.2.2.2 18 = some (.getfield 35, 3, 5, 2, 159, 0) := by decide +kernel
theorem aX6_copyFrom_21 : i_at mX6_copyFrom.2.2.2.2.2 21 = some (.putfield 35, 3, 5, 2, 159, 0) := by decide +kernel
theorem aX6_copyFrom_24 : i_at mX6_copyFrom.2.2.2.2.2 24 = some (.aload_n 0, 1, 0, 0, 0, 0) := by decide +kernel
theorem aX6_copyFrom_25 : i_at mX6_copyFrom.2.2.2.2.2 25 = some (.aload_n 1, 1, 0, 0, 0, 0) := by decide +kernel
theorem aX6_copyFrom_26 : i_at mX6_copyFrom.2.2.2.2.2 26 = some (.getfield 38, 3, 5, 3, 163, 0) := by decide +kernel
theorem aX6_copyFrom_29 : i_at mX6_copyFrom.2.2.2.2.2 29 = some (.putfield 38, 3, 5, 3, 163, 0) := by decide +kernel
theorem aX6_copyFrom_32 : i_at mX6_copyFrom.2.2.2.2.2 32 = some (.aload_n 0, 1, 0, 0, 0, 0) := by decide +kernel
theorem aX6_copyFrom_33 : i_at mX6_copyFrom.2.2.2.2.2 33 = some (.aload_n 1, 1, 0, 0, 0, 0) := by decide +kernel
theorem aX6_copyFrom_34 : i_at mX6_copyFrom.2.2.2.2.2 34 = some (.getfield 41, 3, 5, 4, 169, 0) := by decide +kernel
theorem aX6_copyFrom_37 : i_at mX6_copyFrom.2.2.2.2.2 37 = some (.putfield 41, 3, 5, 4, 169, 0) := by decide +kernel
theorem aX6_copyFrom_40 : i_at mX6_copyFrom.2.2.2.2.2 40 = some (.aload_n 1, 1, 0, 0, 0, 0) := by decide +kernel
theorem aX6_copyFrom_41 : i_at mX6_copyFrom.2.2.2.2.2 41 = some (.getfield 9, 3, 5, 5, 175, 0) := by decide +kernel
theorem aX6_copyFrom_44 : i_at mX6_copyFrom.2.2.2.2.2 44 = some (.iconst 0, 1, 0, 0, 0, 0) := by decide +kernel
theorem aX6_copyFrom_45 : i_at mX6_copyFrom.2.2.2.2.2 45 = some (.aload_n 0, 1, 0, 0, 0, 0) := by decide +kernel
theorem aX6_copyFrom_46 : i_at mX6_copyFrom.2.2.2.2.2 46 = some (.getfield 9, 3, 5, 5, 175, 0) := by decide +kernel
theorem aX6_copyFrom_49 : i_at mX6_copyFrom.2.2.2.2.2 49 = some (.iconst 0, 1, 0, 0, 0, 0) := by decide +kernel
theorem aX6_copyFrom_50 : i_at mX6_copyFrom.2.2.2.2.2 50 = some (.bipush 6, 2, 0, 0, 0, 0) := by decide +kernel
theorem aX6_copyFrom_52 : i_at mX6_copyFrom.2.2.2.2.2 52 = some (.invokestatic 50, 3, 1003, 5, 634, 0) := by decide +kernel
theorem aX6_copyFrom_55 : i_at mX6_copyFrom.2.2.2.2.2 55 = some (.aload_n 1, 1, 0, 0, 0, 0) := by decide +kernel
theorem aX6_copyFrom_56 : i_at mX6_copyFrom.2.2.2.2.2 56 = some (.getfield 15, 3, 5, 6, 179, 0) := by decide +kernel
theorem aX6_copyFrom_59 : i_at mX6_copyFrom.2.2.2.2.2 59 = some (.iconst 0, 1, 0, 0, 0, 0) := by decide +kernel
theorem aX6_copyFrom_60 : i_at mX6_copyFrom.2.2.2.2.2 60 = some (.aload_n 0, 1, 0, 0, 0, 0) := by decide +kernel
theorem aX6_copyFrom_61 : i_at mX6_copyFrom.2.2.2.2.2 61 = some (.getfield 15, 3, 5, 6, 179, 0) := by decide +kernel
theorem aX6_copyFrom_64 : i_at mX6_copyFrom.2.2.2.2.2 64 = some (.iconst 0, 1, 0, 0, 0, 0) := by decide +kernel
theorem aX6_copyFrom_65 : i_at mX6_copyFrom.2.2.2.2.2 65 = some (.bipush 6, 2, 0, 0, 0, 0) := by decide +kernel
theorem aX6_copyFrom_67 : i_at mX6_copyFrom.2.2.2.2.2 67 = some (.invokestatic 50, 3, 1003, 5, 634, 0) := by decide +kernel
theorem aX6_copyFrom_70 : i_at mX6_copyFrom.2.2.2.2.2 70 = some (.aload_n 1, 1, 0, 0, 0, 0) := by decide +kernel
theorem aX6_copyFrom_71 : i_at mX6_copyFrom.2.2.2.2.2 71 = some (.getfield 18, 3, 5, 7, 183, 0) := by decide +kernel
theorem aX6_copyFrom_74 : i_at mX6_copyFrom.2.2.2.2.2 74 = some (.iconst 0, 1, 0, 0, 0, 0) := by decide +kernel
theorem aX6_copyFrom_75 : i_at mX6_copyFrom.2.2.2.2.2 75 = some (.aload_n 0, 1, 0, 0, 0, 0) := by decide +kernel
theorem aX6_copyFrom_76 : i_at mX6_copyFrom.2.2.2.2.2 76 = some (.getfield 18, 3, 5, 7, 183, 0) := by decide +kernel
theorem aX6_copyFrom_79 : i_at mX6_copyFrom.2.2.2.2.2 79 = some (.iconst 0, 1, 0, 0, 0, 0) := by decide +kernel
theorem aX6_copyFrom_80 : i_at mX6_copyFrom.2.2.2.2.2 80 = some (.bipush 12, 2, 0, 0, 0, 0) := by decide +kernel
theorem aX6_copyFrom_82 : i_at mX6_copyFrom.2.2.2.2.2 82 = some (.invokestatic 50, 3, 1003, 5, 634, 0) := by decide +kernel
theorem aX6_copyFrom_85 : i_at mX6_copyFrom.2.2.2.2.2 85 = some (.aload_n 1, 1, 0, 0, 0, 0) := by decide +kernel
theorem aX6_copyFrom_86 : i_at mX6_copyFrom.2.2.2.2.2 86 = some (.getfield 21, 3, 5, 8, 187, 0) := by decide +kernel
theorem aX6_copyFrom_89 : i_at mX6_copyFrom.2.2.2.2.2 89 = some (.iconst 0, 1, 0, 0, 0, 0) := by decide +kernel
theorem aX6_copyFrom_90 : i_at mX6_copyFrom.2.2.2.2.2 90 = some (.aload_n 0, 1, 0, 0, 0, 0) := by decide +kernel
theorem aX6_copyFrom_91 : i_at mX6_copyFrom.2.2.2.2.2 91 = some (.getfield 21, 3, 5, 8, 187, 0) := by decide +kernel
theorem aX6_copyFrom_94 : i_at mX6_copyFrom.2.2.2.2.2 94 = some (.iconst 0, 1, 0, 0, 0, 0) := by decide +kernel
theorem aX6_copyFrom_95 : i_at mX6_copyFrom.2.2.2.2.2 95 = some (.bipush 6, 2, 0, 0, 0, 0) := by decide +kernel
theorem aX6_copyFrom_97 : i_at mX6_copyFrom.2.2.2.2.2 97 = some (.invokestatic 50, 3, 1003, 5, 634, 0) := by decide +kernel
theorem aX6_copyFrom_100 : i_at mX6_copyFrom.2.2.2.2.2 100 = some (.aload_n 1, 1, 0, 0, 0, 0) := by decide +kernel
theorem aX6_copyFrom_101 : i_at mX6_copyFrom.2.2.2.2.2 101 = some (.getfield 24, 3, 5, 9, 190, 0) := by decide +kernel
theorem aX6_copyFrom_104 : i_at mX6_copyFrom.2.2.2.2.2 104 = some (.iconst 0, 1, 0, 0, 0, 0) := by decide +kernel
theorem aX6_copyFrom_105 : i_at mX6_copyFrom.2.2.2.2.2 105 = some (.aload_n 0, 1, 0, 0, 0, 0) := by decide +kernel
theorem aX6_copyFrom_106 : i_at mX6_copyFrom.2.2.2.2.2 106 = some (.getfield 24, 3, 5, 9, 190, 0) := by decide +kernel
theorem aX6_copyFrom_109 : i_at mX6_copyFrom.2.2.2.2.2 109 = some (.iconst 0, 1, 0, 0, 0, 0) := by decide +kernel
theorem aX6_copyFrom_110 : i_at mX6_copyFrom.2.2.2.2.2 110 = some (.bipush 6, 2, 0, 0, 0, 0) := by decide +kernel
theorem aX6_copyFrom_112 : i_at mX6_copyFrom.2.2.2.2.2 112 = some (.invokestatic 50, 3, 1003, 5, 634, 0) := by decide +kernel
theorem aX6_copyFrom_115 : i_at mX6_copyFrom.2.2.2.2.2 115 = some (.return_, 1, 0, 0, 0, 0) := by decide +kernel
noncomputable def fX6_copyFrom (sh : List kd) (σ : St) (p0 : Nat) (p1 : Nat) : Option (Unit × St) := if i_okf .boolean (.int (σ.1 p1 0)) = true then i_jp (s_F (s_F (s_F σ p0 0 (σ.1 p1 0)) p0 1 ((s_F σ p0 0 (σ.1 p1 0)).1 p1 1)) p0 2 ((s_F (s_F σ p0 0 (σ.1 p1 0)) p0 1 ((s_F σ p0 0 (σ.1 p1 0)).1 p1 1)).1 p1 2)) (fun (s2 : St) => if i_cok 0 0 6 6 6 then i_jp (s_C (s_F (s_F s2 p0 3 (s2.1 p1 3)) p0 4 ((s_F s2 p0 3 (s2.1 p1 3)).1 p1 4)) (p1 + 1) (p0 + 1) (0 : Int32).toNatClampNeg (0 : Int32).toNatClampNeg (6 : Int32).toNatClampNeg) (fun (s5 : St) => if i_cok 0 0 6 6 6 then if i_cok 0 0 12 12 12 then i_jp (s_C (s_C s5 (p1 + 2) (p0 + 2) (0 : Int32).toNatClampNeg (0 : Int32).toNatClampNeg (6 : Int32).toNatClampNeg) (p1 + 3) (p0 + 3) (0 : Int32).toNatClampNeg (0 : Int32).toNatClampNeg (12 : Int32).toNatClampNeg) (fun (s9 : St) => if i_cok 0 0 6 6 6 then if i_cok 0 0 6 6 6 then i_jp (s_C (s_C s9 (p1 + 4) (p0 + 4) (0 : Int32).toNatClampNeg (0 : Int32).toNatClampNeg (6 : Int32).toNatClampNeg) (p1 + 5) (p0 + 5) (0 : Int32).toNatClampNeg (0 : Int32).toNatClampNeg (6 : Int32).toNatClampNeg) (fun (s13 : St) => some ((), s13)) else none else none) else none else none) else none) else none
set_option maxRecDepth 20000 in
set_option maxHeartbeats 2000000 in
theorem tX6_copyFrom {sh : List kd} {σ τ : St} {r : Unit} (hsh : cSh sh) {p0 : Nat} {p1 : Nat} (hp0 : rSh sh p0) (hp1 : rSh sh p1) (hE : fX6_copyFrom sh σ p0 p1 = some (r, τ)) : i_X 1 52 [.ref p0, .ref p1] (s_h sh σ) 0 0 none (s_h sh τ) := by
  refine g_X (M := mX6_copyFrom) (loc := [.ref p0, .ref p1]) rfl (Nat.le_of_ble_eq_true rfl) rfl ?_
  unfold fX6_copyFrom at hE
  refine g_ldan aX6_copyFrom_0 rfl ?_
  refine g_ldan aX6_copyFrom_1 rfl ?_
  refine g_getI aX6_copyFrom_2 (hp1.1) rfl ?_
  obtain ⟨h1, hE⟩ := i_ifn hE
  refine g_putI aX6_copyFrom_5 (hp0.1) rfl h1 ?_
  refine g_ldan aX6_copyFrom_8 rfl ?_
  refine g_ldan aX6_copyFrom_9 rfl ?_
  refine g_getI aX6_copyFrom_10 (hp1.1) rfl ?_
  refine g_putI aX6_copyFrom_13 (hp0.1) rfl rfl ?_
  refine g_ldan aX6_copyFrom_16 rfl ?_
  refine g_ldan aX6_copyFrom_17 rfl ?_
  refine g_getI aX6_copyFrom_18 (hp1.1) rfl ?_
  refine g_putI aX6_copyFrom_21 (hp0.1) rfl rfl ?_
  obtain ⟨s2, h3, hE⟩ := i_jp_some hE
  rw [← h3]
  refine g_ldan aX6_copyFrom_24 rfl ?_
  refine g_ldan aX6_copyFrom_25 rfl ?_
  refine g_getI aX6_copyFrom_26 (hp1.1) rfl ?_
  refine g_putI aX6_copyFrom_29 (hp0.1) rfl rfl ?_
  refine g_ldan aX6_copyFrom_32 rfl ?_
  refine g_ldan aX6_copyFrom_33 rfl ?_
  refine g_getI aX6_copyFrom_34 (hp1.1) rfl ?_
  refine g_putI aX6_copyFrom_37 (hp0.1) rfl rfl ?_
  refine g_ldan aX6_copyFrom_40 rfl ?_
  refine g_getR aX6_copyFrom_41 (hp1.1) rfl ?_
  refine g_iconst (x := 0) aX6_copyFrom_44 rfl ?_
  refine g_ldan aX6_copyFrom_45 rfl ?_
  refine g_getR aX6_copyFrom_46 (hp0.1) rfl ?_
  refine g_iconst (x := 0) aX6_copyFrom_49 rfl ?_
  refine g_bipush (x := 6) aX6_copyFrom_50 rfl ?_
  obtain ⟨h4, hE⟩ := i_ifn hE
  refine g_cpy aX6_copyFrom_52 (hp1.2.1) (hp0.2.1) h4 (Nat.le_of_ble_eq_true rfl) ?_
  obtain ⟨s5, h6, hE⟩ := i_jp_some hE
  rw [← h6]
  refine g_ldan aX6_copyFrom_55 rfl ?_
  refine g_getR aX6_copyFrom_56 (hp1.1) rfl ?_
  refine g_iconst (x := 0) aX6_copyFrom_59 rfl ?_
  refine g_ldan aX6_copyFrom_60 rfl ?_
  refine g_getR aX6_copyFrom_61 (hp0.1) rfl ?_
  refine g_iconst (x := 0) aX6_copyFrom_64 rfl ?_
  refine g_bipush (x := 6) aX6_copyFrom_65 rfl ?_
  obtain ⟨h7, hE⟩ := i_ifn hE
  refine g_cpy aX6_copyFrom_67 (hp1.2.2.1) (hp0.2.2.1) h7 (Nat.le_of_ble_eq_true rfl) ?_
  refine g_ldan aX6_copyFrom_70 rfl ?_
  refine g_getR aX6_copyFrom_71 (hp1.1) rfl ?_
  refine g_iconst (x := 0) aX6_copyFrom_74 rfl ?_
  refine g_ldan aX6_copyFrom_75 rfl ?_
  refine g_getR aX6_copyFrom_76 (hp0.1) rfl ?_
  refine g_iconst (x := 0) aX6_copyFrom_79 rfl ?_
  refine g_bipush (x := 12) aX6_copyFrom_80 rfl ?_
  obtain ⟨h8, hE⟩ := i_ifn hE
  refine g_cpy aX6_copyFrom_82 (hp1.2.2.2.1) (hp0.2.2.2.1) h8 (Nat.le_of_ble_eq_true rfl) ?_
  obtain ⟨s9, h10, hE⟩ := i_jp_some hE
  rw [← h10]
  refine g_ldan aX6_copyFrom_85 rfl ?_
  refine g_getR aX6_copyFrom_86 (hp1.1) rfl ?_
  refine g_iconst (x := 0) aX6_copyFrom_89 rfl ?_
  refine g_ldan aX6_copyFrom_90 rfl ?_
  refine g_getR aX6_copyFrom_91 (hp0.1) rfl ?_
  refine g_iconst (x := 0) aX6_copyFrom_94 rfl ?_
  refine g_bipush (x := 6) aX6_copyFrom_95 rfl ?_
  obtain ⟨h11, hE⟩ := i_ifn hE
  refine g_cpy aX6_copyFrom_97 (hp1.2.2.2.2.1) (hp0.2.2.2.2.1) h11 (Nat.le_of_ble_eq_true rfl) ?_
  refine g_ldan aX6_copyFrom_100 rfl ?_
  refine g_getR aX6_copyFrom_101 (hp1.1) rfl ?_
  refine g_iconst (x := 0) aX6_copyFrom_104 rfl ?_
  refine g_ldan aX6_copyFrom_105 rfl ?_
  refine g_getR aX6_copyFrom_106 (hp0.1) rfl ?_
  refine g_iconst (x := 0) aX6_copyFrom_109 rfl ?_
  refine g_bipush (x := 6) aX6_copyFrom_110 rfl ?_
  obtain ⟨h12, hE⟩ := i_ifn hE
  refine g_cpy aX6_copyFrom_112 (hp1.2.2.2.2.2) (hp0.2.2.2.2.2) h12 (Nat.le_of_ble_eq_true rfl) ?_
  obtain ⟨s13, h14, hE⟩ := i_jp_some hE
  rw [← h14]
  obtain ⟨rfl, rfl⟩ := i_some_inj hE
  exact g_vret aX6_copyFrom_115 rfl
theorem aX6_hasThing_0 : i_at mX6_hasThing.2.2.2.2.2 0 = some (.iload_n 1, 1, 0, 0, 0, 0) := by decide +kernel
theorem aX6_hasThing_1 : i_at mX6_hasThing.2.2.2.2.2 1 = some (.ifCond .lt 15, 3, 16, 0, 0, 0) := by decide +kernel
theorem aX6_hasThing_4 : i_at mX6_hasThing.2.2.2.2.2 4 = some (.iload_n 1, 1, 0, 0, 0, 0) := by decide +kernel
theorem aX6_hasThing_5 : i_at mX6_hasThing.2.2.2.2.2 5 = some (.aload_n 0, 1, 0, 0, 0, 0) := by decide +kernel
theorem aX6_hasThing_6 : i_at mX6_hasThing.2.2.2.2.2 6 = some (.getfield 38, 3, 5, 3, 163, 0) := by decide +kernel
theorem aX6_hasThing_9 : i_at mX6_hasThing.2.2.2.2.2 9 = some (.if_icmp .ge 7, 3, 16, 0, 0, 0) := by decide +kernel
theorem aX6_hasThing_12 : i_at mX6_hasThing.2.2.2.2.2 12 = some (.iconst 1, 1, 0, 0, 0, 0) := by decide +kernel
theorem aX6_hasThing_13 : i_at mX6_hasThing.2.2.2.2.2 13 = some (.goto 4, 3, 17, 0, 0, 0) := by decide +kernel
theorem aX6_hasThing_16 : i_at mX6_hasThing.2.2.2.2.2 16 = some (.iconst 0, 1, 0, 0, 0, 0) := by decide +kernel
theorem aX6_hasThing_17 : i_at mX6_hasThing.2.2.2.2.2 17 = some (.ireturn, 1, 0, 0, 0, 0) := by decide +kernel
noncomputable def fX6_hasThing (sh : List kd) (σ : St) (p0 : Nat) (p1 : Int32) : Option (Int32 × St) := if (((if p1 < 0 then 0 else (if (σ.1 p0 3) ≤ p1 then 0 else 1)) : Int32) : Int32) &&& 1 = ((if p1 < 0 then 0 else (if (σ.1 p0 3) ≤ p1 then 0 else 1)) : Int32) then some (((if p1 < 0 then 0 else (if (σ.1 p0 3) ≤ p1 then 0 else 1)) : Int32), σ) else none
set_option maxRecDepth 20000 in
set_option maxHeartbeats 2000000 in
theorem tX6_hasThing {sh : List kd} {σ τ : St} {r : Int32} (hsh : cSh sh) {p0 : Nat} {p1 : Int32} (hp0 : rSh sh p0) (hE : fX6_hasThing sh σ p0 p1 = some (r, τ)) : i_X 1 53 [.ref p0, .int p1] (s_h sh σ) 0 0 (some (.int r)) (s_h sh τ) := by
  refine g_X (M := mX6_hasThing) (loc := [.ref p0, .int p1]) rfl (Nat.le_of_ble_eq_true rfl) rfl ?_
  unfold fX6_hasThing at hE
  refine g_ldin aX6_hasThing_0 rfl ?_
  have hJ : g_R sh 0 mX6_hasThing (some (.int r)) τ 17 [.ref p0, .int p1] [.int ((if p1 < 0 then 0 else (if (σ.1 p0 3) ≤ p1 then 0 else 1)) : Int32)] (σ) := by
    obtain ⟨h1, hE⟩ := i_ifn hE
    obtain ⟨rfl, rfl⟩ := i_some_inj hE
    exact g_iret aX6_hasThing_17 rfl (congrArg Value.int h1)
  clear hE
  by_cases hc1 : p1 < 0
  · (try rw [if_pos hc1] at hJ)
    refine g_if_lt_t aX6_hasThing_1 hc1 ?_
    refine g_iconst (x := 0) aX6_hasThing_16 rfl ?_
    exact hJ
  · (try rw [if_neg hc1] at hJ)
    refine g_if_lt_f aX6_hasThing_1 hc1 ?_
    refine g_ldin aX6_hasThing_4 rfl ?_
    refine g_ldan aX6_hasThing_5 rfl ?_
    refine g_getI aX6_hasThing_6 (hp0.1) rfl ?_
    by_cases hc2 : (σ.1 p0 3) ≤ p1
    · (try rw [if_pos hc2] at hJ)
      refine g_ic_ge_t aX6_hasThing_9 hc2 ?_
      refine g_iconst (x := 0) aX6_hasThing_16 rfl ?_
      exact hJ
    · (try rw [if_neg hc2] at hJ)
      refine g_ic_ge_f aX6_hasThing_9 hc2 ?_
      refine g_iconst (x := 1) aX6_hasThing_12 rfl ?_
      refine g_goto aX6_hasThing_13 ?_
      exact hJ
theorem aX6_hasPerson_0 : i_at mX6_hasPerson.2.2.2.2.2 0 = some (.iload_n 1, 1, 0, 0, 0, 0) := by decide +kernel
theorem aX6_hasPerson_1 : i_at mX6_hasPerson.2.2.2.2.2 1 = some (.ifCond .lt 15, 3, 16, 0, 0, 0) := by decide +kernel
theorem aX6_hasPerson_4 : i_at mX6_hasPerson.2.2.2.2.2 4 = some (.iload_n 1, 1, 0, 0, 0, 0) := by decide +kernel
theorem aX6_hasPerson_5 : i_at mX6_hasPerson.2.2.2.2.2 5 = some (.aload_n 0, 1, 0, 0, 0, 0) := by decide +kernel
theorem aX6_hasPerson_6 : i_at mX6_hasPerson.2.2.2.2.2 6 = some (.getfield 41, 3, 5, 4, 169, 0) := by decide +kernel
theorem aX6_hasPerson_9 : i_at mX6_hasPerson.2.2.2.2.2 9 = some (.if_icmp .ge 7, 3, 16, 0, 0, 0) := by decide +kernel
theorem aX6_hasPerson_12 : i_at mX6_hasPerson.2.2.2.2.2 12 = some (.iconst 1, 1, 0, 0, 0, 0) := by decide +kernel
theorem aX6_hasPerson_13 : i_at mX6_hasPerson.2.2.2.2.2 13 = some (.goto 4, 3, 17, 0, 0, 0) := by decide +kernel
theorem aX6_hasPerson_16 : i_at mX6_hasPerson.2.2.2.2.2 16 = some (.iconst 0, 1, 0, 0, 0, 0) := by decide +kernel
theorem aX6_hasPerson_17 : i_at mX6_hasPerson.2.2.2.2.2 17 = some (.ireturn, 1, 0, 0, 0, 0) := by decide +kernel
noncomputable def fX6_hasPerson (sh : List kd) (σ : St) (p0 : Nat) (p1 : Int32) : Option (Int32 × St) := if (((if p1 < 0 then 0 else (if (σ.1 p0 4) ≤ p1 then 0 else 1)) : Int32) : Int32) &&& 1 = ((if p1 < 0 then 0 else (if (σ.1 p0 4) ≤ p1 then 0 else 1)) : Int32) then some (((if p1 < 0 then 0 else (if (σ.1 p0 4) ≤ p1 then 0 else 1)) : Int32), σ) else none
set_option maxRecDepth 20000 in
set_option maxHeartbeats 2000000 in
theorem tX6_hasPerson {sh : List kd} {σ τ : St} {r : Int32} (hsh : cSh sh) {p0 : Nat} {p1 : Int32} (hp0 : rSh sh p0) (hE : fX6_hasPerson sh σ p0 p1 = some (r, τ)) : i_X 1 54 [.ref p0, .int p1] (s_h sh σ) 0 0 (some (.int r)) (s_h sh τ) := by
  refine g_X (M := mX6_hasPerson) (loc := [.ref p0, .int p1]) rfl (Nat.le_of_ble_eq_true rfl) rfl ?_
  unfold fX6_hasPerson at hE
  refine g_ldin aX6_hasPerson_0 rfl ?_
  have hJ : g_R sh 0 mX6_hasPerson (some (.int r)) τ 17 [.ref p0, .int p1] [.int ((if p1 < 0 then 0 else (if (σ.1 p0 4) ≤ p1 then 0 else 1)) : Int32)] (σ) := by
    obtain ⟨h1, hE⟩ := i_ifn hE
    obtain ⟨rfl, rfl⟩ := i_some_inj hE
    exact g_iret aX6_hasPerson_17 rfl (congrArg Value.int h1)
  clear hE
  by_cases hc1 : p1 < 0
  · (try rw [if_pos hc1] at hJ)
    refine g_if_lt_t aX6_hasPerson_1 hc1 ?_
    refine g_iconst (x := 0) aX6_hasPerson_16 rfl ?_
    exact hJ
  · (try rw [if_neg hc1] at hJ)
    refine g_if_lt_f aX6_hasPerson_1 hc1 ?_
    refine g_ldin aX6_hasPerson_4 rfl ?_
    refine g_ldan aX6_hasPerson_5 rfl ?_
    refine g_getI aX6_hasPerson_6 (hp0.1) rfl ?_
    by_cases hc2 : (σ.1 p0 4) ≤ p1
    · (try rw [if_pos hc2] at hJ)
      refine g_ic_ge_t aX6_hasPerson_9 hc2 ?_
      refine g_iconst (x := 0) aX6_hasPerson_16 rfl ?_
      exact hJ
    · (try rw [if_neg hc2] at hJ)
      refine g_ic_ge_f aX6_hasPerson_9 hc2 ?_
      refine g_iconst (x := 1) aX6_hasPerson_12 rfl ?_
      refine g_goto aX6_hasPerson_13 ?_
      exact hJ
theorem aX6_clockAt_0 : i_at mX6_clockAt.2.2.2.2.2 0 = some (.aload_n 0, 1, 0, 0, 0, 0) := by decide +kernel
theorem aX6_clockAt_1 : i_at mX6_clockAt.2.2.2.2.2 1 = some (.getfield 31, 3, 5, 1, 156, 0) := by decide +kernel
theorem aX6_clockAt_4 : i_at mX6_clockAt.2.2.2.2.2 4 = some (.ifCond .le 12, 3, 16, 0, 0, 0) := by decide +kernel
theorem aX6_clockAt_7 : i_at mX6_clockAt.2.2.2.2.2 7 = some (.iload_n 1, 1, 0, 0, 0, 0) := by decide +kernel
theorem aX6_clockAt_8 : i_at mX6_clockAt.2.2.2.2.2 8 = some (.aload_n 0, 1, 0, 0, 0, 0) := by decide +kernel
theorem aX6_clockAt_9 : i_at mX6_clockAt.2.2.2.2.2 9 = some (.getfield 31, 3, 5, 1, 156, 0) := by decide +kernel
theorem aX6_clockAt_12 : i_at mX6_clockAt.2.2.2.2.2 12 = some (.irem, 1, 0, 0, 0, 0) := by decide +kernel
theorem aX6_clockAt_13 : i_at mX6_clockAt.2.2.2.2.2 13 = some (.goto 4, 3, 17, 0, 0, 0) := by decide +kernel
theorem aX6_clockAt_16 : i_at mX6_clockAt.2.2.2.2.2 16 = some (.iconst 0, 1, 0, 0, 0, 0) := by decide +kernel
theorem aX6_clockAt_17 : i_at mX6_clockAt.2.2.2.2.2 17 = some (.ireturn, 1, 0, 0, 0, 0) := by decide +kernel
noncomputable def fX6_clockAt_J17 (sh : List kd) (p0 : Nat) (p1 : Int32) (σ : St) (x51 : Int32) : Option (Int32 × St) := some (x51, σ)
noncomputable def fX6_clockAt (sh : List kd) (σ : St) (p0 : Nat) (p1 : Int32) : Option (Int32 × St) := if (σ.1 p0 1) ≤ 0 then fX6_clockAt_J17 sh p0 p1 σ 0 else if (σ.1 p0 1) = 0 then none else fX6_clockAt_J17 sh p0 p1 σ (p1 - p1 / (σ.1 p0 1) * (σ.1 p0 1))
set_option maxRecDepth 20000 in
set_option maxHeartbeats 2000000 in
theorem tX6_clockAt_J17 {sh : List kd} {τ : St} {r : Int32} (hsh : cSh sh) {p0 : Nat} {p1 : Int32} {σ : St} {x51 : Int32} (hp0 : rSh sh p0) (hE : fX6_clockAt_J17 sh p0 p1 σ x51 = some (r, τ)) : g_R sh 0 mX6_clockAt (some (.int r)) τ 17 [.ref p0, .int p1] [.int x51] (σ) := by
  unfold fX6_clockAt_J17 at hE
  obtain ⟨rfl, rfl⟩ := i_some_inj hE
  exact g_iret aX6_clockAt_17 rfl rfl
set_option maxRecDepth 20000 in
set_option maxHeartbeats 2000000 in
theorem tX6_clockAt {sh : List kd} {σ τ : St} {r : Int32} (hsh : cSh sh) {p0 : Nat} {p1 : Int32} (hp0 : rSh sh p0) (hE : fX6_clockAt sh σ p0 p1 = some (r, τ)) : i_X 1 55 [.ref p0, .int p1] (s_h sh σ) 0 0 (some (.int r)) (s_h sh τ) := by
  refine g_X (M := mX6_clockAt) (loc := [.ref p0, .int p1]) rfl (Nat.le_of_ble_eq_true rfl) rfl ?_
  unfold fX6_clockAt at hE
  refine g_ldan aX6_clockAt_0 rfl ?_
  refine g_getI aX6_clockAt_1 (hp0.1) rfl ?_
  by_cases hc52 : (σ.1 p0 1) ≤ 0
  · rw [if_pos hc52] at hE
    refine g_if_le_t aX6_clockAt_4 hc52 ?_
    refine g_iconst (x := 0) aX6_clockAt_16 rfl ?_
    exact tX6_clockAt_J17 hsh hp0 hE
  · rw [if_neg hc52] at hE
    refine g_if_le_f aX6_clockAt_4 hc52 ?_
    refine g_ldin aX6_clockAt_7 rfl ?_
    refine g_ldan aX6_clockAt_8 rfl ?_
    refine g_getI aX6_clockAt_9 (hp0.1) rfl ?_
    obtain ⟨h53, hE⟩ := i_nif hE
    refine g_irem aX6_clockAt_12 h53 ?_
    refine g_goto aX6_clockAt_13 ?_
    exact tX6_clockAt_J17 hsh hp0 hE
theorem aX6_rankOf_0 : i_at mX6_rankOf.2.2.2.2.2 0 = some (.iconst 0, 1, 0, 0, 0, 0) := by decide +kernel
theorem aX6_rankOf_1 : i_at mX6_rankOf.2.2.2.2.2 1 = some (.istore_n 2, 1, 0, 0, 0, 0) := by decide +kernel
theorem aX6_rankOf_2 : i_at mX6_rankOf.2.2.2.2.2 2 = some (.iconst 0, 1, 0, 0, 0, 0) := by decide +kernel
theorem aX6_rankOf_3 : i_at mX6_rankOf.2.2.2.2.2 3 = some (.istore_n 3, 1, 0, 0, 0, 0) := by decide +kernel
theorem aX6_rankOf_4 : i_at mX6_rankOf.2.2.2.2.2 4 = some (.iload_n 3, 1, 0, 0, 0, 0) := by decide +kernel
theorem aX6_rankOf_5 : i_at mX6_rankOf.2.2.2.2.2 5 = some (.aload_n 0, 1, 0, 0, 0, 0) := by decide +kernel
theorem aX6_rankOf_6 : i_at mX6_rankOf.2.2.2.2.2 6 = some (.getfield 38, 3, 5, 3, 163, 0) := by decide +kernel
theorem aX6_rankOf_9 : i_at mX6_rankOf.2.2.2.2.2 9 = some (.if_icmp .ge 26, 3, 35, 0, 0, 0) := by decide +kernel
theorem aX6_rankOf_12 : i_at mX6_rankOf.2.2.2.2.2 12 = some (.iload_n 1, 1, 0, 0, 0, 0) := by decide +kernel
theorem aX6_rankOf_13 : i_at mX6_rankOf.2.2.2.2.2 13 = some (.iload_n 3, 1, 0, 0, 0, 0) := by decide +kernel
theorem aX6_rankOf_14 : i_at mX6_rankOf.2.2.2.2.2 14 = some (.ishr, 1, 0, 0, 0, 0) := by decide +kernel
theorem aX6_rankOf_15 : i_at mX6_rankOf.2.2.2.2.2 15 = some (.iconst 1, 1, 0, 0, 0, 0) := by decide +kernel
theorem aX6_rankOf_16 : i_at mX6_rankOf.2.2.2.2.2 16 = some (.iand, 1, 0, 0, 0, 0) := by decide +kernel
theorem aX6_rankOf_17 : i_at mX6_rankOf.2.2.2.2.2 17 = some (.ifCond .eq 12, 3, 29, 0, 0, 0) := by decide +kernel
theorem aX6_rankOf_20 : i_at mX6_rankOf.2.2.2.2.2 20 = some (.iload_n 2, 1, 0, 0, 0, 0) := by decide +kernel
theorem aX6_rankOf_21 : i_at mX6_rankOf.2.2.2.2.2 21 = some (.aload_n 0, 1, 0, 0, 0, 0) := by decide +kernel
theorem aX6_rankOf_22 : i_at mX6_rankOf.2.2.2.2.2 22 = some (.getfield 9, 3, 5, 5, 175, 0) := by decide +kernel
theorem aX6_rankOf_25 : i_at mX6_rankOf.2.2.2.2.2 25 = some (.iload_n 3, 1, 0, 0, 0, 0) := by decide +kernel
theorem aX6_rankOf_26 : i_at mX6_rankOf.2.2.2.2.2 26 = some (.iaload, 1, 0, 0, 0, 0) := by decide +kernel
theorem aX6_rankOf_27 : i_at mX6_rankOf.2.2.2.2.2 27 = some (.iadd, 1, 0, 0, 0, 0) := by decide +kernel
theorem aX6_rankOf_28 : i_at mX6_rankOf.2.2.2.2.2 28 = some (.istore_n 2, 1, 0, 0, 0, 0) := by decide +kernel
theorem aX6_rankOf_29 : i_at mX6_rankOf.2.2.2.2.2 29 = some (.iinc 3 1, 3, 0, 0, 0, 0) := by decide +kernel
theorem aX6_rankOf_32 : i_at mX6_rankOf.2.2.2.2.2 32 = some (.goto (-28), 3, 4, 0, 0, 0) := by decide +kernel
theorem aX6_rankOf_35 : i_at mX6_rankOf.2.2.2.2.2 35 = some (.iload_n 2, 1, 0, 0, 0, 0) := by decide +kernel
theorem aX6_rankOf_36 : i_at mX6_rankOf.2.2.2.2.2 36 = some (.ireturn, 1, 0, 0, 0, 0) := by decide +kernel
noncomputable def fX6_rankOf_J29 (sh : List kd) (p0 : Nat) (p1 : Int32) (σ : St) (x2 : Int32) (k4 : Int32 → Int32 → Option (Int32 × St)) (x105 : Int32) : Option (Int32 × St) := k4 x105 (x2 + 1)
noncomputable def fX6_rankOf_L4 (sh : List kd) (p0 : Nat) (p1 : Int32) (σ : St) : Nat → Int32 → Int32 → Option (Int32 × St)
  | 0, _, _ => none
  | n3 + 1, x1, x2 => if (σ.1 p0 3) ≤ x2 then some (x1, σ) else if ((p1 >>> (x2 &&& 31)) &&& 1) = 0 then fX6_rankOf_J29 sh p0 p1 σ x2 (fX6_rankOf_L4 sh p0 p1 σ n3) x1 else if i_ok x2 6 then fX6_rankOf_J29 sh p0 p1 σ x2 (fX6_rankOf_L4 sh p0 p1 σ n3) (x1 + (σ.2.1 (p0 + 1) x2.toNatClampNeg)) else none
noncomputable def fX6_rankOf (sh : List kd) (σ : St) (p0 : Nat) (p1 : Int32) : Option (Int32 × St) := fX6_rankOf_L4 sh p0 p1 σ i_F 0 0
set_option maxRecDepth 20000 in
set_option maxHeartbeats 2000000 in
theorem tX6_rankOf_J29 {sh : List kd} {τ : St} {r : Int32} (hsh : cSh sh) {p0 : Nat} {p1 : Int32} {σ : St} {x2 : Int32} {x105 : Int32} {k4 : Int32 → Int32 → Option (Int32 × St)} (hp0 : rSh sh p0) (hk4 : ∀ (x1 : Int32) (x2 : Int32), k4 x1 x2 = some (r, τ) → g_R sh 0 mX6_rankOf (some (.int r)) τ 4 [.ref p0, .int p1, .int x1, .int x2] [] (σ)) (hE : fX6_rankOf_J29 sh p0 p1 σ x2 k4 x105 = some (r, τ)) : g_R sh 0 mX6_rankOf (some (.int r)) τ 29 [.ref p0, .int p1, .int x105, .int x2] [] (σ) := by
  unfold fX6_rankOf_J29 at hE
  refine g_iinc (y := 1) (loc2 := [.ref p0, .int p1, .int x105, .int (x2 + 1)]) aX6_rankOf_29 rfl rfl rfl ?_
  refine g_goto aX6_rankOf_32 ?_
  exact hk4 _ _ hE
set_option maxRecDepth 20000 in
set_option maxHeartbeats 2000000 in
theorem tX6_rankOf_L4 {sh : List kd} {τ : St} {r : Int32} (hsh : cSh sh) {p0 : Nat} {p1 : Int32} {σ : St} (hp0 : rSh sh p0) : ∀ (n0 : Nat) (x1 : Int32) (x2 : Int32), fX6_rankOf_L4 sh p0 p1 σ n0 x1 x2 = some (r, τ) → g_R sh 0 mX6_rankOf (some (.int r)) τ 4 [.ref p0, .int p1, .int x1, .int x2] [] (σ) := by
  intro n0
  induction n0 with
  | zero => intro _ _ hE; cases hE
  | succ n3 ih =>
    intro x1 x2 hE
    unfold fX6_rankOf_L4 at hE
    refine g_ldin aX6_rankOf_4 rfl ?_
    refine g_ldan aX6_rankOf_5 rfl ?_
    refine g_getI aX6_rankOf_6 (hp0.1) rfl ?_
    by_cases hc54 : (σ.1 p0 3) ≤ x2
    · rw [if_pos hc54] at hE
      refine g_ic_ge_t aX6_rankOf_9 hc54 ?_
      refine g_ldin aX6_rankOf_35 rfl ?_
      obtain ⟨rfl, rfl⟩ := i_some_inj hE
      exact g_iret aX6_rankOf_36 rfl rfl
    · rw [if_neg hc54] at hE
      refine g_ic_ge_f aX6_rankOf_9 hc54 ?_
      refine g_ldin aX6_rankOf_12 rfl ?_
      refine g_ldin aX6_rankOf_13 rfl ?_
      refine g_ishr aX6_rankOf_14 ?_
      refine g_iconst (x := 1) aX6_rankOf_15 rfl ?_
      refine g_iand aX6_rankOf_16 ?_
      by_cases hc106 : ((p1 >>> (x2 &&& 31)) &&& 1) = 0
      · rw [if_pos hc106] at hE
        refine g_if_eq_t aX6_rankOf_17 hc106 ?_
        exact tX6_rankOf_J29 hsh hp0 ih hE
      · rw [if_neg hc106] at hE
        refine g_if_eq_f aX6_rankOf_17 hc106 ?_
        refine g_ldin aX6_rankOf_20 rfl ?_
        refine g_ldan aX6_rankOf_21 rfl ?_
        refine g_getR aX6_rankOf_22 (hp0.1) rfl ?_
        refine g_ldin aX6_rankOf_25 rfl ?_
        obtain ⟨h107, hE⟩ := i_ifn hE
        refine g_ild aX6_rankOf_26 (hp0.2.1) h107 ?_
        refine g_iadd aX6_rankOf_27 ?_
        refine g_stin (loc2 := [.ref p0, .int p1, .int (x1 + (σ.2.1 (p0 + 1) x2.toNatClampNeg)), .int x2]) aX6_rankOf_28 (Nat.le_of_ble_eq_true rfl) rfl ?_
        exact tX6_rankOf_J29 hsh hp0 ih hE
set_option maxRecDepth 20000 in
set_option maxHeartbeats 2000000 in
theorem tX6_rankOf {sh : List kd} {σ τ : St} {r : Int32} (hsh : cSh sh) {p0 : Nat} {p1 : Int32} (hp0 : rSh sh p0) (hE : fX6_rankOf sh σ p0 p1 = some (r, τ)) : i_X 1 56 [.ref p0, .int p1] (s_h sh σ) 0 0 (some (.int r)) (s_h sh τ) := by
  refine g_X (M := mX6_rankOf) (loc := [.ref p0, .int p1, .retAddr 0, .retAddr 0]) rfl (Nat.le_of_ble_eq_true rfl) rfl ?_
  unfold fX6_rankOf at hE
  refine g_iconst (x := 0) aX6_rankOf_0 rfl ?_
  refine g_stin (loc2 := [.ref p0, .int p1, .int 0, .retAddr 0]) aX6_rankOf_1 (Nat.le_of_ble_eq_true rfl) rfl ?_
  refine g_iconst (x := 0) aX6_rankOf_2 rfl ?_
  refine g_stin (loc2 := [.ref p0, .int p1, .int 0, .int 0]) aX6_rankOf_3 (Nat.le_of_ble_eq_true rfl) rfl ?_
  exact tX6_rankOf_L4 hsh hp0 i_F _ _ hE
theorem aX7_joined_0 : i_at mX7_joined.2.2.2.2.2 0 = some (.iload_n 0, 1, 0, 0, 0, 0) := by decide +kernel
theorem aX7_joined_1 : i_at mX7_joined.2.2.2.2.2 1 = some (.tableswitch 171 3 14 #[63, 67, 71, 75, 89, 103, 115, 127, 139, 151, 163, 167], 63, 0, 0, 0, 0) := by decide +kernel
theorem aX7_joined_64 : i_at mX7_joined.2.2.2.2.2 64 = some (.lload_n 1, 1, 0, 0, 0, 0) := by decide +kernel
theorem aX7_joined_65 : i_at mX7_joined.2.2.2.2.2 65 = some (.lload_n 3, 1, 0, 0, 0, 0) := by decide +kernel
theorem aX7_joined_66 : i_at mX7_joined.2.2.2.2.2 66 = some (.ladd, 1, 0, 0, 0, 0) := by decide +kernel
theorem aX7_joined_67 : i_at mX7_joined.2.2.2.2.2 67 = some (.lreturn, 1, 0, 0, 0, 0) := by decide +kernel
theorem aX7_joined_68 : i_at mX7_joined.2.2.2.2.2 68 = some (.lload_n 1, 1, 0, 0, 0, 0) := by decide +kernel
theorem aX7_joined_69 : i_at mX7_joined.2.2.2.2.2 69 = some (.lload_n 3, 1, 0, 0, 0, 0) := by decide +kernel
theorem aX7_joined_70 : i_at mX7_joined.2.2.2.2.2 70 = some (.lsub, 1, 0, 0, 0, 0) := by decide +kernel
theorem aX7_joined_71 : i_at mX7_joined.2.2.2.2.2 71 = some (.lreturn, 1, 0, 0, 0, 0) := by decide +kernel
theorem aX7_joined_72 : i_at mX7_joined.2.2.2.2.2 72 = some (.lload_n 1, 1, 0, 0, 0, 0) := by decide +kernel
theorem aX7_joined_73 : i_at mX7_joined.2.2.2.2.2 73 = some (.lload_n 3, 1, 0, 0, 0, 0) := by decide +kernel
theorem aX7_joined_74 : i_at mX7_joined.2.2.2.2.2 74 = some (.lmul, 1, 0, 0, 0, 0) := by decide +kernel
theorem aX7_joined_75 : i_at mX7_joined.2.2.2.2.2 75 = some (.lreturn, 1, 0, 0, 0, 0) := by decide +kernel
theorem aX7_joined_76 : i_at mX7_joined.2.2.2.2.2 76 = some (.lload_n 3, 1, 0, 0, 0, 0) := by decide +kernel
theorem aX7_joined_77 : i_at mX7_joined.2.2.2.2.2 77 = some (.lconst 0, 1, 0, 0, 0, 0) := by decide +kernel
theorem aX7_joined_78 : i_at mX7_joined.2.2.2.2.2 78 = some (.lcmp, 1, 0, 0, 0, 0) := by decide +kernel
theorem aX7_joined_79 : i_at mX7_joined.2.2.2.2.2 79 = some (.ifCond .ne 7, 3, 86, 0, 0, 0) := by decide +kernel
theorem aX7_joined_82 : i_at mX7_joined.2.2.2.2.2 82 = some (.lconst 0, 1, 0, 0, 0, 0) := by decide +kernel
theorem aX7_joined_83 : i_at mX7_joined.2.2.2.2.2 83 = some (.goto 6, 3, 89, 0, 0, 0) := by decide +kernel
theorem aX7_joined_86 : i_at mX7_joined.2.2.2.2.2 86 = some (.lload_n 1, 1, 0, 0, 0, 0) := by decide +kernel
theorem aX7_joined_87 : i_at mX7_joined.2.2.2.2.2 87 = some (.lload_n 3, 1, 0, 0, 0, 0) := by decide +kernel
theorem aX7_joined_88 : i_at mX7_joined.2.2.2.2.2 88 = some (.ldiv, 1, 0, 0, 0, 0) := by decide +kernel
theorem aX7_joined_89 : i_at mX7_joined.2.2.2.2.2 89 = some (.lreturn, 1, 0, 0, 0, 0) := by decide +kernel
theorem aX7_joined_90 : i_at mX7_joined.2.2.2.2.2 90 = some (.lload_n 3, 1, 0, 0, 0, 0) := by decide +kernel
theorem aX7_joined_91 : i_at mX7_joined.2.2.2.2.2 91 = some (.lconst 0, 1, 0, 0, 0, 0) := by decide +kernel
theorem aX7_joined_92 : i_at mX7_joined.2.2.2.2.2 92 = some (.lcmp, 1, 0, 0, 0, 0) := by decide +kernel
theorem aX7_joined_93 : i_at mX7_joined.2.2.2.2.2 93 = some (.ifCond .ne 7, 3, 100, 0, 0, 0) := by decide +kernel
theorem aX7_joined_96 : i_at mX7_joined.2.2.2.2.2 96 = some (.lconst 0, 1, 0, 0, 0, 0) := by decide +kernel
theorem aX7_joined_97 : i_at mX7_joined.2.2.2.2.2 97 = some (.goto 6, 3, 103, 0, 0, 0) := by decide +kernel
theorem aX7_joined_100 : i_at mX7_joined.2.2.2.2.2 100 = some (.lload_n 1, 1, 0, 0, 0, 0) := by decide +kernel
theorem aX7_joined_101 : i_at mX7_joined.2.2.2.2.2 101 = some (.lload_n 3, 1, 0, 0, 0, 0) := by decide +kernel
theorem aX7_joined_102 : i_at mX7_joined.2.2.2.2.2 102 = some (.lrem, 1, 0, 0, 0, 0) := by decide +kernel
theorem aX7_joined_103 : i_at mX7_joined.2.2.2.2.2 103 = some (.lreturn, 1, 0, 0, 0, 0) := by decide +kernel
theorem aX7_joined_104 : i_at mX7_joined.2.2.2.2.2 104 = some (.lload_n 1, 1, 0, 0, 0, 0) := by decide +kernel
theorem aX7_joined_105 : i_at mX7_joined.2.2.2.2.2 105 = some (.lload_n 3, 1, 0, 0, 0, 0) := by decide +kernel
theorem aX7_joined_106 : i_at mX7_joined.2.2.2.2.2 106 = some (.lcmp, 1, 0, 0, 0, 0) := by decide +kernel
theorem aX7_joined_107 : i_at mX7_joined.2.2.2.2.2 107 = some (.ifCond .ge 7, 3, 114, 0, 0, 0) := by decide +kernel
theorem aX7_joined_110 : i_at mX7_joined.2.2.2.2.2 110 = some (.lconst 1, 1, 0, 0, 0, 0) := by decide +kernel
theorem aX7_joined_111 : i_at mX7_joined.2.2.2.2.2 111 = some (.goto 4, 3, 115, 0, 0, 0) := by decide +kernel
theorem aX7_joined_114 : i_at mX7_joined.2.2.2.2.2 114 = some (.lconst 0, 1, 0, 0, 0, 0) := by decide +kernel
theorem aX7_joined_115 : i_at mX7_joined.2.2.2.2.2 115 = some (.lreturn, 1, 0, 0, 0, 0) := by decide +kernel
theorem aX7_joined_116 : i_at mX7_joined.2.2.2.2.2 116 = some (.lload_n 1, 1, 0, 0, 0, 0) := by decide +kernel
theorem aX7_joined_117 : i_at mX7_joined.2.2.2.2.2 117 = some (.lload_n 3, 1, 0, 0, 0, 0) := by decide +kernel
theorem aX7_joined_118 : i_at mX7_joined.2.2.2.2.2 118 = some (.lcmp, 1, 0, 0, 0, 0) := by decide +kernel
theorem aX7_joined_119 : i_at mX7_joined.2.2.2.2.2 119 = some (.ifCond .gt 7, 3, 126, 0, 0, 0) := by decide +kernel
theorem aX7_joined_122 : i_at mX7_joined.2.2.2.2.2 122 = some (.lconst 1, 1, 0, 0, 0, 0) := by decide +kernel
theorem aX7_joined_123 : i_at mX7_joined.2.2.2.2.2 123 = some (.goto 4, 3, 127, 0, 0, 0) := by decide +kernel
theorem aX7_joined_126 : i_at mX7_joined.2.2.2.2.2 126 = some (.lconst 0, 1, 0, 0, 0, 0) := by decide +kernel
theorem aX7_joined_127 : i_at mX7_joined.2.2.2.2.2 127 = some (.lreturn, 1, 0, 0, 0, 0) := by decide +kernel
theorem aX7_joined_128 : i_at mX7_joined.2.2.2.2.2 128 = some (.lload_n 1, 1, 0, 0, 0, 0) := by decide +kernel
theorem aX7_joined_129 : i_at mX7_joined.2.2.2.2.2 129 = some (.lload_n 3, 1, 0, 0, 0, 0) := by decide +kernel
theorem aX7_joined_130 : i_at mX7_joined.2.2.2.2.2 130 = some (.lcmp, 1, 0, 0, 0, 0) := by decide +kernel
theorem aX7_joined_131 : i_at mX7_joined.2.2.2.2.2 131 = some (.ifCond .ne 7, 3, 138, 0, 0, 0) := by decide +kernel
theorem aX7_joined_134 : i_at mX7_joined.2.2.2.2.2 134 = some (.lconst 1, 1, 0, 0, 0, 0) := by decide +kernel
theorem aX7_joined_135 : i_at mX7_joined.2.2.2.2.2 135 = some (.goto 4, 3, 139, 0, 0, 0) := by decide +kernel
theorem aX7_joined_138 : i_at mX7_joined.2.2.2.2.2 138 = some (.lconst 0, 1, 0, 0, 0, 0) := by decide +kernel
theorem aX7_joined_139 : i_at mX7_joined.2.2.2.2.2 139 = some (.lreturn, 1, 0, 0, 0, 0) := by decide +kernel
theorem aX7_joined_140 : i_at mX7_joined.2.2.2.2.2 140 = some (.lload_n 1, 1, 0, 0, 0, 0) := by decide +kernel
theorem aX7_joined_141 : i_at mX7_joined.2.2.2.2.2 141 = some (.lload_n 3, 1, 0, 0, 0, 0) := by decide +kernel
theorem aX7_joined_142 : i_at mX7_joined.2.2.2.2.2 142 = some (.lcmp, 1, 0, 0, 0, 0) := by decide +kernel
theorem aX7_joined_143 : i_at mX7_joined.2.2.2.2.2 143 = some (.ifCond .lt 7, 3, 150, 0, 0, 0) := by decide +kernel
theorem aX7_joined_146 : i_at mX7_joined.2.2.2.2.2 146 = some (.lconst 1, 1, 0, 0, 0, 0) := by decide +kernel
theorem aX7_joined_147 : i_at mX7_joined.2.2.2.2.2 147 = some (.goto 4, 3, 151, 0, 0, 0) := by decide +kernel
theorem aX7_joined_150 : i_at mX7_joined.2.2.2.2.2 150 = some (.lconst 0, 1, 0, 0, 0, 0) := by decide +kernel
theorem aX7_joined_151 : i_at mX7_joined.2.2.2.2.2 151 = some (.lreturn, 1, 0, 0, 0, 0) := by decide +kernel
theorem aX7_joined_152 : i_at mX7_joined.2.2.2.2.2 152 = some (.lload_n 1, 1, 0, 0, 0, 0) := by decide +kernel
theorem aX7_joined_153 : i_at mX7_joined.2.2.2.2.2 153 = some (.lload_n 3, 1, 0, 0, 0, 0) := by decide +kernel
theorem aX7_joined_154 : i_at mX7_joined.2.2.2.2.2 154 = some (.lcmp, 1, 0, 0, 0, 0) := by decide +kernel
theorem aX7_joined_155 : i_at mX7_joined.2.2.2.2.2 155 = some (.ifCond .le 7, 3, 162, 0, 0, 0) := by decide +kernel
theorem aX7_joined_158 : i_at mX7_joined.2.2.2.2.2 158 = some (.lconst 1, 1, 0, 0, 0, 0) := by decide +kernel
theorem aX7_joined_159 : i_at mX7_joined.2.2.2.2.2 159 = some (.goto 4, 3, 163, 0, 0, 0) := by decide +kernel
theorem aX7_joined_162 : i_at mX7_joined.2.2.2.2.2 162 = some (.lconst 0, 1, 0, 0, 0, 0) := by decide +kernel
theorem aX7_joined_163 : i_at mX7_joined.2.2.2.2.2 163 = some (.lreturn, 1, 0, 0, 0, 0) := by decide +kernel
theorem aX7_joined_164 : i_at mX7_joined.2.2.2.2.2 164 = some (.lload_n 1, 1, 0, 0, 0, 0) := by decide +kernel
theorem aX7_joined_165 : i_at mX7_joined.2.2.2.2.2 165 = some (.lload_n 3, 1, 0, 0, 0, 0) := by decide +kernel
theorem aX7_joined_166 : i_at mX7_joined.2.2.2.2.2 166 = some (.land, 1, 0, 0, 0, 0) := by decide +kernel
theorem aX7_joined_167 : i_at mX7_joined.2.2.2.2.2 167 = some (.lreturn, 1, 0, 0, 0, 0) := by decide +kernel
theorem aX7_joined_168 : i_at mX7_joined.2.2.2.2.2 168 = some (.lload_n 1, 1, 0, 0, 0, 0) := by decide +kernel
theorem aX7_joined_169 : i_at mX7_joined.2.2.2.2.2 169 = some (.lload_n 3, 1, 0, 0, 0, 0) := by decide +kernel
theorem aX7_joined_170 : i_at mX7_joined.2.2.2.2.2 170 = some (.lor, 1, 0, 0, 0, 0) := by decide +kernel
theorem aX7_joined_171 : i_at mX7_joined.2.2.2.2.2 171 = some (.lreturn, 1, 0, 0, 0, 0) := by decide +kernel
theorem aX7_joined_172 : i_at mX7_joined.2.2.2.2.2 172 = some (.lconst 0, 1, 0, 0, 0, 0) := by decide +kernel
theorem aX7_joined_173 : i_at mX7_joined.2.2.2.2.2 173 = some (.lreturn, 1, 0, 0, 0, 0) := by decide +kernel
noncomputable def fX7_joined_J89 (sh : List kd) (p0 : Int32) (p1 : Int64) (p2 : Int64) (σ : St) (x55 : Int64) : Option (Int64 × St) := some (x55, σ)
noncomputable def fX7_joined_J103 (sh : List kd) (p0 : Int32) (p1 : Int64) (p2 : Int64) (σ : St) (x109 : Int64) : Option (Int64 × St) := some (x109, σ)
noncomputable def fX7_joined (sh : List kd) (σ : St) (p0 : Int32) (p1 : Int64) (p2 : Int64) : Option (Int64 × St) := if p0 = 3 then some ((p1 + p2), σ) else if p0 = 4 then some ((p1 - p2), σ) else if p0 = 5 then some ((p1 * p2), σ) else if p0 = 6 then if ¬ (lg_cmp p2 0) = 0 then if p2 = 0 then none else fX7_joined_J89 sh p0 p1 p2 σ (p1 / p2) else fX7_joined_J89 sh p0 p1 p2 σ 0 else if p0 = 7 then if ¬ (lg_cmp p2 0) = 0 then if p2 = 0 then none else fX7_joined_J103 sh p0 p1 p2 σ (p1 - p1 / p2 * p2) else fX7_joined_J103 sh p0 p1 p2 σ 0 else if p0 = 8 then some (((if 0 ≤ (lg_cmp p1 p2) then 0 else 1) : Int64), σ) else if p0 = 9 then some (((if 0 < (lg_cmp p1 p2) then 0 else 1) : Int64), σ) else if p0 = 10 then some (((if ¬ (lg_cmp p1 p2) = 0 then 0 else 1) : Int64), σ) else if p0 = 11 then some (((if (lg_cmp p1 p2) < 0 then 0 else 1) : Int64), σ) else if p0 = 12 then some (((if (lg_cmp p1 p2) ≤ 0 then 0 else 1) : Int64), σ) else if p0 = 13 then some ((p1 &&& p2), σ) else if p0 = 14 then some ((p1 ||| p2), σ) else some (0, σ)
set_option maxRecDepth 20000 in
set_option maxHeartbeats 2000000 in
theorem tX7_joined_J89 {sh : List kd} {τ : St} {r : Int64} (hsh : cSh sh) {p0 : Int32} {p1 : Int64} {p2 : Int64} {σ : St} {x55 : Int64} (hE : fX7_joined_J89 sh p0 p1 p2 σ x55 = some (r, τ)) : g_R sh 0 mX7_joined (some (.long r)) τ 89 [.int p0, .long p1, .retAddr 0, .long p2, .retAddr 0] [.long x55] (σ) := by
  unfold fX7_joined_J89 at hE
  obtain ⟨rfl, rfl⟩ := i_some_inj hE
  exact g_lret aX7_joined_89 rfl
set_option maxRecDepth 20000 in
set_option maxHeartbeats 2000000 in
theorem tX7_joined_J103 {sh : List kd} {τ : St} {r : Int64} (hsh : cSh sh) {p0 : Int32} {p1 : Int64} {p2 : Int64} {σ : St} {x109 : Int64} (hE : fX7_joined_J103 sh p0 p1 p2 σ x109 = some (r, τ)) : g_R sh 0 mX7_joined (some (.long r)) τ 103 [.int p0, .long p1, .retAddr 0, .long p2, .retAddr 0] [.long x109] (σ) := by
  unfold fX7_joined_J103 at hE
  obtain ⟨rfl, rfl⟩ := i_some_inj hE
  exact g_lret aX7_joined_103 rfl
set_option maxRecDepth 20000 in
set_option maxHeartbeats 2000000 in
theorem tX7_joined {sh : List kd} {σ τ : St} {r : Int64} (hsh : cSh sh) {p0 : Int32} {p1 : Int64} {p2 : Int64} (hE : fX7_joined sh σ p0 p1 p2 = some (r, τ)) : i_X 1 60 [.int p0, .long p1, .long p2] (s_h sh σ) 0 0 (some (.long r)) (s_h sh τ) := by
  refine g_X (M := mX7_joined) (loc := [.int p0, .long p1, .retAddr 0, .long p2, .retAddr 0]) rfl (Nat.le_of_ble_eq_true rfl) rfl ?_
  unfold fX7_joined at hE
  refine g_ldin aX7_joined_0 rfl ?_
  by_cases hc1 : p0 = 3
  · rw [if_pos hc1] at hE
    refine g_tabIn (i := 3) aX7_joined_1 (by rw [hc1]; decide) (by decide) rfl rfl ?_
    refine g_ldln aX7_joined_64 rfl ?_
    refine g_ldln aX7_joined_65 rfl ?_
    refine g_ladd aX7_joined_66 ?_
    obtain ⟨rfl, rfl⟩ := i_some_inj hE
    exact g_lret aX7_joined_67 rfl
  · rw [if_neg hc1] at hE
    by_cases hc2 : p0 = 4
    · rw [if_pos hc2] at hE
      refine g_tabIn (i := 4) aX7_joined_1 (by rw [hc2]; decide) (by decide) rfl rfl ?_
      refine g_ldln aX7_joined_68 rfl ?_
      refine g_ldln aX7_joined_69 rfl ?_
      refine g_lsub aX7_joined_70 ?_
      obtain ⟨rfl, rfl⟩ := i_some_inj hE
      exact g_lret aX7_joined_71 rfl
    · rw [if_neg hc2] at hE
      by_cases hc3 : p0 = 5
      · rw [if_pos hc3] at hE
        refine g_tabIn (i := 5) aX7_joined_1 (by rw [hc3]; decide) (by decide) rfl rfl ?_
        refine g_ldln aX7_joined_72 rfl ?_
        refine g_ldln aX7_joined_73 rfl ?_
        refine g_lmul aX7_joined_74 ?_
        obtain ⟨rfl, rfl⟩ := i_some_inj hE
        exact g_lret aX7_joined_75 rfl
      · rw [if_neg hc3] at hE
        by_cases hc4 : p0 = 6
        · rw [if_pos hc4] at hE
          refine g_tabIn (i := 6) aX7_joined_1 (by rw [hc4]; decide) (by decide) rfl rfl ?_
          refine g_ldln aX7_joined_76 rfl ?_
          refine g_lconst (x := 0) aX7_joined_77 rfl ?_
          refine g_lcmp aX7_joined_78 ?_
          by_cases hc56 : ¬ (lg_cmp p2 0) = 0
          · rw [if_pos hc56] at hE
            refine g_if_ne_t aX7_joined_79 hc56 ?_
            refine g_ldln aX7_joined_86 rfl ?_
            refine g_ldln aX7_joined_87 rfl ?_
            obtain ⟨h57, hE⟩ := i_nif hE
            refine g_ldiv aX7_joined_88 h57 ?_
            exact tX7_joined_J89 hsh hE
          · rw [if_neg hc56] at hE
            refine g_if_ne_f aX7_joined_79 hc56 ?_
            refine g_lconst (x := 0) aX7_joined_82 rfl ?_
            refine g_goto aX7_joined_83 ?_
            exact tX7_joined_J89 hsh hE
        · rw [if_neg hc4] at hE
          by_cases hc58 : p0 = 7
          · rw [if_pos hc58] at hE
            refine g_tabIn (i := 7) aX7_joined_1 (by rw [hc58]; decide) (by decide) rfl rfl ?_
            refine g_ldln aX7_joined_90 rfl ?_
            refine g_lconst (x := 0) aX7_joined_91 rfl ?_
            refine g_lcmp aX7_joined_92 ?_
            by_cases hc110 : ¬ (lg_cmp p2 0) = 0
            · rw [if_pos hc110] at hE
              refine g_if_ne_t aX7_joined_93 hc110 ?_
              refine g_ldln aX7_joined_100 rfl ?_
              refine g_ldln aX7_joined_101 rfl ?_
              obtain ⟨h111, hE⟩ := i_nif hE
              refine g_lrem aX7_joined_102 h111 ?_
              exact tX7_joined_J103 hsh hE
            · rw [if_neg hc110] at hE
              refine g_if_ne_f aX7_joined_93 hc110 ?_
              refine g_lconst (x := 0) aX7_joined_96 rfl ?_
              refine g_goto aX7_joined_97 ?_
              exact tX7_joined_J103 hsh hE
          · rw [if_neg hc58] at hE
            by_cases hc112 : p0 = 8
            · rw [if_pos hc112] at hE
              refine g_tabIn (i := 8) aX7_joined_1 (by rw [hc112]; decide) (by decide) rfl rfl ?_
              refine g_ldln aX7_joined_104 rfl ?_
              refine g_ldln aX7_joined_105 rfl ?_
              refine g_lcmp aX7_joined_106 ?_
              have hJ : g_R sh 0 mX7_joined (some (.long r)) τ 115 [.int p0, .long p1, .retAddr 0, .long p2, .retAddr 0] [.long ((if 0 ≤ (lg_cmp p1 p2) then 0 else 1) : Int64)] (σ) := by
                obtain ⟨rfl, rfl⟩ := i_some_inj hE
                exact g_lret aX7_joined_115 rfl
              clear hE
              by_cases hc112 : 0 ≤ (lg_cmp p1 p2)
              · (try rw [if_pos hc112] at hJ)
                refine g_if_ge_t aX7_joined_107 hc112 ?_
                refine g_lconst (x := 0) aX7_joined_114 rfl ?_
                exact hJ
              · (try rw [if_neg hc112] at hJ)
                refine g_if_ge_f aX7_joined_107 hc112 ?_
                refine g_lconst (x := 1) aX7_joined_110 rfl ?_
                refine g_goto aX7_joined_111 ?_
                exact hJ
            · rw [if_neg hc112] at hE
              by_cases hc114 : p0 = 9
              · rw [if_pos hc114] at hE
                refine g_tabIn (i := 9) aX7_joined_1 (by rw [hc114]; decide) (by decide) rfl rfl ?_
                refine g_ldln aX7_joined_116 rfl ?_
                refine g_ldln aX7_joined_117 rfl ?_
                refine g_lcmp aX7_joined_118 ?_
                have hJ : g_R sh 0 mX7_joined (some (.long r)) τ 127 [.int p0, .long p1, .retAddr 0, .long p2, .retAddr 0] [.long ((if 0 < (lg_cmp p1 p2) then 0 else 1) : Int64)] (σ) := by
                  obtain ⟨rfl, rfl⟩ := i_some_inj hE
                  exact g_lret aX7_joined_127 rfl
                clear hE
                by_cases hc114 : 0 < (lg_cmp p1 p2)
                · (try rw [if_pos hc114] at hJ)
                  refine g_if_gt_t aX7_joined_119 hc114 ?_
                  refine g_lconst (x := 0) aX7_joined_126 rfl ?_
                  exact hJ
                · (try rw [if_neg hc114] at hJ)
                  refine g_if_gt_f aX7_joined_119 hc114 ?_
                  refine g_lconst (x := 1) aX7_joined_122 rfl ?_
                  refine g_goto aX7_joined_123 ?_
                  exact hJ
              · rw [if_neg hc114] at hE
                by_cases hc116 : p0 = 10
                · rw [if_pos hc116] at hE
                  refine g_tabIn (i := 10) aX7_joined_1 (by rw [hc116]; decide) (by decide) rfl rfl ?_
                  refine g_ldln aX7_joined_128 rfl ?_
                  refine g_ldln aX7_joined_129 rfl ?_
                  refine g_lcmp aX7_joined_130 ?_
                  have hJ : g_R sh 0 mX7_joined (some (.long r)) τ 139 [.int p0, .long p1, .retAddr 0, .long p2, .retAddr 0] [.long ((if ¬ (lg_cmp p1 p2) = 0 then 0 else 1) : Int64)] (σ) := by
                    obtain ⟨rfl, rfl⟩ := i_some_inj hE
                    exact g_lret aX7_joined_139 rfl
                  clear hE
                  by_cases hc116 : ¬ (lg_cmp p1 p2) = 0
                  · (try rw [if_pos hc116] at hJ)
                    refine g_if_ne_t aX7_joined_131 hc116 ?_
                    refine g_lconst (x := 0) aX7_joined_138 rfl ?_
                    exact hJ
                  · (try rw [if_neg hc116] at hJ)
                    refine g_if_ne_f aX7_joined_131 hc116 ?_
                    refine g_lconst (x := 1) aX7_joined_134 rfl ?_
                    refine g_goto aX7_joined_135 ?_
                    exact hJ
                · rw [if_neg hc116] at hE
                  by_cases hc118 : p0 = 11
                  · rw [if_pos hc118] at hE
                    refine g_tabIn (i := 11) aX7_joined_1 (by rw [hc118]; decide) (by decide) rfl rfl ?_
                    refine g_ldln aX7_joined_140 rfl ?_
                    refine g_ldln aX7_joined_141 rfl ?_
                    refine g_lcmp aX7_joined_142 ?_
                    have hJ : g_R sh 0 mX7_joined (some (.long r)) τ 151 [.int p0, .long p1, .retAddr 0, .long p2, .retAddr 0] [.long ((if (lg_cmp p1 p2) < 0 then 0 else 1) : Int64)] (σ) := by
                      obtain ⟨rfl, rfl⟩ := i_some_inj hE
                      exact g_lret aX7_joined_151 rfl
                    clear hE
                    by_cases hc118 : (lg_cmp p1 p2) < 0
                    · (try rw [if_pos hc118] at hJ)
                      refine g_if_lt_t aX7_joined_143 hc118 ?_
                      refine g_lconst (x := 0) aX7_joined_150 rfl ?_
                      exact hJ
                    · (try rw [if_neg hc118] at hJ)
                      refine g_if_lt_f aX7_joined_143 hc118 ?_
                      refine g_lconst (x := 1) aX7_joined_146 rfl ?_
                      refine g_goto aX7_joined_147 ?_
                      exact hJ
                  · rw [if_neg hc118] at hE
                    by_cases hc120 : p0 = 12
                    · rw [if_pos hc120] at hE
                      refine g_tabIn (i := 12) aX7_joined_1 (by rw [hc120]; decide) (by decide) rfl rfl ?_
                      refine g_ldln aX7_joined_152 rfl ?_
                      refine g_ldln aX7_joined_153 rfl ?_
                      refine g_lcmp aX7_joined_154 ?_
                      have hJ : g_R sh 0 mX7_joined (some (.long r)) τ 163 [.int p0, .long p1, .retAddr 0, .long p2, .retAddr 0] [.long ((if (lg_cmp p1 p2) ≤ 0 then 0 else 1) : Int64)] (σ) := by
                        obtain ⟨rfl, rfl⟩ := i_some_inj hE
                        exact g_lret aX7_joined_163 rfl
                      clear hE
                      by_cases hc120 : (lg_cmp p1 p2) ≤ 0
                      · (try rw [if_pos hc120] at hJ)
                        refine g_if_le_t aX7_joined_155 hc120 ?_
                        refine g_lconst (x := 0) aX7_joined_162 rfl ?_
                        exact hJ
                      · (try rw [if_neg hc120] at hJ)
                        refine g_if_le_f aX7_joined_155 hc120 ?_
                        refine g_lconst (x := 1) aX7_joined_158 rfl ?_
                        refine g_goto aX7_joined_159 ?_
                        exact hJ
                    · rw [if_neg hc120] at hE
                      by_cases hc122 : p0 = 13
                      · rw [if_pos hc122] at hE
                        refine g_tabIn (i := 13) aX7_joined_1 (by rw [hc122]; decide) (by decide) rfl rfl ?_
                        refine g_ldln aX7_joined_164 rfl ?_
                        refine g_ldln aX7_joined_165 rfl ?_
                        refine g_land aX7_joined_166 ?_
                        obtain ⟨rfl, rfl⟩ := i_some_inj hE
                        exact g_lret aX7_joined_167 rfl
                      · rw [if_neg hc122] at hE
                        by_cases hc123 : p0 = 14
                        · rw [if_pos hc123] at hE
                          refine g_tabIn (i := 14) aX7_joined_1 (by rw [hc123]; decide) (by decide) rfl rfl ?_
                          refine g_ldln aX7_joined_168 rfl ?_
                          refine g_ldln aX7_joined_169 rfl ?_
                          refine g_lor aX7_joined_170 ?_
                          obtain ⟨rfl, rfl⟩ := i_some_inj hE
                          exact g_lret aX7_joined_171 rfl
                        · rw [if_neg hc123] at hE
                          have hto124 : p0.toInt < ((3 : Nat) : Int) ∨ ((14 : Nat) : Int) < p0.toInt := by
                            refine i_tabo (x := p0) 3 14 (by decide) (fun k k1 k2 => ?_)
                            rcases (show k = 3 ∨ k = 4 ∨ k = 5 ∨ k = 6 ∨ k = 7 ∨ k = 8 ∨ k = 9 ∨ k = 10 ∨ k = 11 ∨ k = 12 ∨ k = 13 ∨ k = 14 by omega) with rfl | rfl | rfl | rfl | rfl | rfl | rfl | rfl | rfl | rfl | rfl | rfl
                            · exact fun hz => hc1 hz
                            · exact fun hz => hc2 hz
                            · exact fun hz => hc3 hz
                            · exact fun hz => hc4 hz
                            · exact fun hz => hc58 hz
                            · exact fun hz => hc112 hz
                            · exact fun hz => hc114 hz
                            · exact fun hz => hc116 hz
                            · exact fun hz => hc118 hz
                            · exact fun hz => hc120 hz
                            · exact fun hz => hc122 hz
                            · exact fun hz => hc123 hz
                          refine g_tabOut aX7_joined_1 hto124 rfl ?_
                          refine g_lconst (x := 0) aX7_joined_172 rfl ?_
                          obtain ⟨rfl, rfl⟩ := i_some_inj hE
                          exact g_lret aX7_joined_173 rfl
