/-! X12_isRest X12_areAlike X12_note X12_mostAlike X12_seed X12_draws X12_allRank X12_count X12_carryRow X12_carriesAll X12_image X12_back J6_bitCount_0f7a4 J7_fill_53178 -/
theorem aX12_isRest_0 : i_at mX12_isRest.2.2.2.2.2 0 = some (.iconst 0, 1, 0, 0, 0, 0) := by decide +kernel
theorem aX12_isRest_1 : i_at mX12_isRest.2.2.2.2.2 1 = some (.istore_n 2, 1, 0, 0, 0, 0) := by decide +kernel
theorem aX12_isRest_2 : i_at mX12_isRest.2.2.2.2.2 2 = some (.iload_n 2, 1, 0, 0, 0, 0) := by decide +kernel
theorem aX12_isRest_3 : i_at mX12_isRest.2.2.2.2.2 3 = some (.iconst 5, 1, 0, 0, 0, 0) := by decide +kernel
theorem aX12_isRest_4 : i_at mX12_isRest.2.2.2.2.2 4 = some (.if_icmp .ge 53, 3, 57, 0, 0, 0) := by decide +kernel
theorem aX12_isRest_7 : i_at mX12_isRest.2.2.2.2.2 7 = some (.aload_n 0, 1, 0, 0, 0, 0) := by decide +kernel
theorem aX12_isRest_8 : i_at mX12_isRest.2.2.2.2.2 8 = some (.getfield 109, 3, 11, 45, 1132, 0) := by decide +kernel
theorem aX12_isRest_11 : i_at mX12_isRest.2.2.2.2.2 11 = some (.iconst 5, 1, 0, 0, 0, 0) := by decide +kernel
theorem aX12_isRest_12 : i_at mX12_isRest.2.2.2.2.2 12 = some (.iload_n 2, 1, 0, 0, 0, 0) := by decide +kernel
theorem aX12_isRest_13 : i_at mX12_isRest.2.2.2.2.2 13 = some (.imul, 1, 0, 0, 0, 0) := by decide +kernel
theorem aX12_isRest_14 : i_at mX12_isRest.2.2.2.2.2 14 = some (.iload_n 1, 1, 0, 0, 0, 0) := by decide +kernel
theorem aX12_isRest_15 : i_at mX12_isRest.2.2.2.2.2 15 = some (.iconst 5, 1, 0, 0, 0, 0) := by decide +kernel
theorem aX12_isRest_16 : i_at mX12_isRest.2.2.2.2.2 16 = some (.irem, 1, 0, 0, 0, 0) := by decide +kernel
theorem aX12_isRest_17 : i_at mX12_isRest.2.2.2.2.2 17 = some (.iadd, 1, 0, 0, 0, 0) := by decide +kernel
theorem aX12_isRest_18 : i_at mX12_isRest.2.2.2.2.2 18 = some (.iaload, 1, 0, 0, 0, 0) := by decide +kernel
theorem aX12_isRest_19 : i_at mX12_isRest.2.2.2.2.2 19 = some (.aload_n 0, 1, 0, 0, 0, 0) := by decide +kernel
theorem aX12_isRest_20 : i_at mX12_isRest.2.2.2.2.2 20 = some (.getfield 109, 3, 11, 45, 1132, 0) := by decide +kernel
theorem aX12_isRest_23 : i_at mX12_isRest.2.2.2.2.2 23 = some (.iload_n 1, 1, 0, 0, 0, 0) := by decide +kernel
theorem aX12_isRest_24 : i_at mX12_isRest.2.2.2.2.2 24 = some (.iaload, 1, 0, 0, 0, 0) := by decide +kernel
theorem aX12_isRest_25 : i_at mX12_isRest.2.2.2.2.2 25 = some (.if_icmp .gt 24, 3, 49, 0, 0, 0) := by decide +kernel
theorem aX12_isRest_28 : i_at mX12_isRest.2.2.2.2.2 28 = some (.aload_n 0, 1, 0, 0, 0, 0) := by decide +kernel
theorem aX12_isRest_29 : i_at mX12_isRest.2.2.2.2.2 29 = some (.getfield 112, 3, 11, 46, 1133, 0) := by decide +kernel
theorem aX12_isRest_32 : i_at mX12_isRest.2.2.2.2.2 32 = some (.iload_n 1, 1, 0, 0, 0, 0) := by decide +kernel
theorem aX12_isRest_33 : i_at mX12_isRest.2.2.2.2.2 33 = some (.iload_n 1, 1, 0, 0, 0, 0) := by decide +kernel
theorem aX12_isRest_34 : i_at mX12_isRest.2.2.2.2.2 34 = some (.iconst 5, 1, 0, 0, 0, 0) := by decide +kernel
theorem aX12_isRest_35 : i_at mX12_isRest.2.2.2.2.2 35 = some (.irem, 1, 0, 0, 0, 0) := by decide +kernel
theorem aX12_isRest_36 : i_at mX12_isRest.2.2.2.2.2 36 = some (.isub, 1, 0, 0, 0, 0) := by decide +kernel
theorem aX12_isRest_37 : i_at mX12_isRest.2.2.2.2.2 37 = some (.iload_n 2, 1, 0, 0, 0, 0) := by decide +kernel
theorem aX12_isRest_38 : i_at mX12_isRest.2.2.2.2.2 38 = some (.iadd, 1, 0, 0, 0, 0) := by decide +kernel
theorem aX12_isRest_39 : i_at mX12_isRest.2.2.2.2.2 39 = some (.iaload, 1, 0, 0, 0, 0) := by decide +kernel
theorem aX12_isRest_40 : i_at mX12_isRest.2.2.2.2.2 40 = some (.aload_n 0, 1, 0, 0, 0, 0) := by decide +kernel
theorem aX12_isRest_41 : i_at mX12_isRest.2.2.2.2.2 41 = some (.getfield 112, 3, 11, 46, 1133, 0) := by decide +kernel
theorem aX12_isRest_44 : i_at mX12_isRest.2.2.2.2.2 44 = some (.iload_n 1, 1, 0, 0, 0, 0) := by decide +kernel
theorem aX12_isRest_45 : i_at mX12_isRest.2.2.2.2.2 45 = some (.iaload, 1, 0, 0, 0, 0) := by decide +kernel
theorem aX12_isRest_46 : i_at mX12_isRest.2.2.2.2.2 46 = some (.if_icmp .le 5, 3, 51, 0, 0, 0) := by decide +kernel
theorem aX12_isRest_49 : i_at mX12_isRest.2.2.2.2.2 49 = some (.iconst 0, 1, 0, 0, 0, 0) := by decide +kernel
theorem aX12_isRest_50 : i_at mX12_isRest.2.2.2.2.2 50 = some (.ireturn, 1, 0, 0, 0, 0) := by decide +kernel
theorem aX12_isRest_51 : i_at mX12_isRest.2.2.2.2.2 51 = some (.iinc 2 1, 3, 0, 0, 0, 0) := by decide +kernel
theorem aX12_isRest_54 : i_at mX12_isRest.2.2.2.2.2 54 = some (.goto (-52), 3, 2, 0, 0, 0) := by decide +kernel
theorem aX12_isRest_57 : i_at mX12_isRest.2.2.2.2.2 57 = some (.iconst 1, 1, 0, 0, 0, 0) := by decide +kernel
theorem aX12_isRest_58 : i_at mX12_isRest.2.2.2.2.2 58 = some (.ireturn, 1, 0, 0, 0, 0) := by decide +kernel
noncomputable def fX12_isRest_L2 (sh : List kd) (p1 : Int32) (σ : St) : Nat → Int32 → Option (Int32 × St)
  | 0, _ => none
  | n2 + 1, x1 => if 5 ≤ x1 then some (1, σ) else if i_ok ((5 * x1) + (p1 - p1 / 5 * 5)) 25 then if i_ok p1 25 then if (σ.2.1 32 p1.toNatClampNeg) < (σ.2.1 32 ((5 * x1) + (p1 - p1 / 5 * 5)).toNatClampNeg) then some (0, σ) else if i_ok ((p1 - (p1 - p1 / 5 * 5)) + x1) 25 then if i_ok p1 25 then if (σ.2.1 33 ((p1 - (p1 - p1 / 5 * 5)) + x1).toNatClampNeg) ≤ (σ.2.1 33 p1.toNatClampNeg) then (fX12_isRest_L2 sh p1 σ n2 (x1 + 1)) else some (0, σ) else none else none else none else none
noncomputable def fX12_isRest (sh : List kd) (σ : St) (p1 : Int32) : Option (Int32 × St) := fX12_isRest_L2 sh p1 σ i_F 0
set_option maxRecDepth 20000 in
set_option maxHeartbeats 2000000 in
theorem tX12_isRest_L2 {sh : List kd} {τ : St} {r : Int32} (hsh : rmSh sh) {p1 : Int32} {σ : St} : ∀ (n0 : Nat) (x1 : Int32), fX12_isRest_L2 sh p1 σ n0 x1 = some (r, τ) → g_R sh 0 mX12_isRest (some (.int r)) τ 2 [.ref 0, .int p1, .int x1] [] (σ) := by
  intro n0
  induction n0 with
  | zero => intro _ hE; cases hE
  | succ n2 ih =>
    intro x1 hE
    unfold fX12_isRest_L2 at hE
    refine g_ldin aX12_isRest_2 rfl ?_
    refine g_iconst (x := 5) aX12_isRest_3 rfl ?_
    by_cases hc3 : 5 ≤ x1
    · rw [if_pos hc3] at hE
      refine g_ic_ge_t aX12_isRest_4 hc3 ?_
      refine g_iconst (x := 1) aX12_isRest_57 rfl ?_
      obtain ⟨rfl, rfl⟩ := i_some_inj hE
      exact g_iret aX12_isRest_58 rfl rfl
    · rw [if_neg hc3] at hE
      refine g_ic_ge_f aX12_isRest_4 hc3 ?_
      refine g_ldan aX12_isRest_7 rfl ?_
      refine g_getR aX12_isRest_8 (sR_0 hsh) rfl ?_
      refine g_iconst (x := 5) aX12_isRest_11 rfl ?_
      refine g_ldin aX12_isRest_12 rfl ?_
      refine g_imul aX12_isRest_13 ?_
      refine g_ldin aX12_isRest_14 rfl ?_
      refine g_iconst (x := 5) aX12_isRest_15 rfl ?_
      refine g_irem aX12_isRest_16 (by decide) ?_
      refine g_iadd aX12_isRest_17 ?_
      obtain ⟨h4, hE⟩ := i_ifn hE
      refine g_ild aX12_isRest_18 (sR_32 hsh) h4 ?_
      refine g_ldan aX12_isRest_19 rfl ?_
      refine g_getR aX12_isRest_20 (sR_0 hsh) rfl ?_
      refine g_ldin aX12_isRest_23 rfl ?_
      obtain ⟨h5, hE⟩ := i_ifn hE
      refine g_ild aX12_isRest_24 (sR_32 hsh) h5 ?_
      by_cases hc6 : (σ.2.1 32 p1.toNatClampNeg) < (σ.2.1 32 ((5 * x1) + (p1 - p1 / 5 * 5)).toNatClampNeg)
      · rw [if_pos hc6] at hE
        refine g_ic_gt_t aX12_isRest_25 hc6 ?_
        refine g_iconst (x := 0) aX12_isRest_49 rfl ?_
        obtain ⟨rfl, rfl⟩ := i_some_inj hE
        exact g_iret aX12_isRest_50 rfl rfl
      · rw [if_neg hc6] at hE
        refine g_ic_gt_f aX12_isRest_25 hc6 ?_
        refine g_ldan aX12_isRest_28 rfl ?_
        refine g_getR aX12_isRest_29 (sR_0 hsh) rfl ?_
        refine g_ldin aX12_isRest_32 rfl ?_
        refine g_ldin aX12_isRest_33 rfl ?_
        refine g_iconst (x := 5) aX12_isRest_34 rfl ?_
        refine g_irem aX12_isRest_35 (by decide) ?_
        refine g_isub aX12_isRest_36 ?_
        refine g_ldin aX12_isRest_37 rfl ?_
        refine g_iadd aX12_isRest_38 ?_
        obtain ⟨h7, hE⟩ := i_ifn hE
        refine g_ild aX12_isRest_39 (sR_33 hsh) h7 ?_
        refine g_ldan aX12_isRest_40 rfl ?_
        refine g_getR aX12_isRest_41 (sR_0 hsh) rfl ?_
        refine g_ldin aX12_isRest_44 rfl ?_
        obtain ⟨h8, hE⟩ := i_ifn hE
        refine g_ild aX12_isRest_45 (sR_33 hsh) h8 ?_
        by_cases hc9 : (σ.2.1 33 ((p1 - (p1 - p1 / 5 * 5)) + x1).toNatClampNeg) ≤ (σ.2.1 33 p1.toNatClampNeg)
        · rw [if_pos hc9] at hE
          refine g_ic_le_t aX12_isRest_46 hc9 ?_
          refine g_iinc (y := 1) (loc2 := [.ref 0, .int p1, .int (x1 + 1)]) aX12_isRest_51 rfl rfl rfl ?_
          refine g_goto aX12_isRest_54 ?_
          exact ih _ hE
        · rw [if_neg hc9] at hE
          refine g_ic_le_f aX12_isRest_46 hc9 ?_
          refine g_iconst (x := 0) aX12_isRest_49 rfl ?_
          obtain ⟨rfl, rfl⟩ := i_some_inj hE
          exact g_iret aX12_isRest_50 rfl rfl
set_option maxRecDepth 20000 in
set_option maxHeartbeats 2000000 in
theorem tX12_isRest {sh : List kd} {σ τ : St} {r : Int32} (hsh : rmSh sh) {p1 : Int32} (hE : fX12_isRest sh σ p1 = some (r, τ)) : i_X 1 211 [.ref 0, .int p1] (s_h sh σ) 0 0 (some (.int r)) (s_h sh τ) := by
  refine g_X (M := mX12_isRest) (loc := [.ref 0, .int p1, .retAddr 0]) rfl (Nat.le_of_ble_eq_true rfl) rfl ?_
  unfold fX12_isRest at hE
  refine g_iconst (x := 0) aX12_isRest_0 rfl ?_
  refine g_stin (loc2 := [.ref 0, .int p1, .int 0]) aX12_isRest_1 (Nat.le_of_ble_eq_true rfl) rfl ?_
  exact tX12_isRest_L2 hsh i_F _ hE
theorem aX12_areAlike_0 : i_at mX12_areAlike.2.2.2.2.2 0 = some (.iconst 0, 1, 0, 0, 0, 0) := by decide +kernel
theorem aX12_areAlike_1 : i_at mX12_areAlike.2.2.2.2.2 1 = some (.istore_n 3, 1, 0, 0, 0, 0) := by decide +kernel
theorem aX12_areAlike_2 : i_at mX12_areAlike.2.2.2.2.2 2 = some (.iload_n 3, 1, 0, 0, 0, 0) := by decide +kernel
theorem aX12_areAlike_3 : i_at mX12_areAlike.2.2.2.2.2 3 = some (.bipush 6, 2, 0, 0, 0, 0) := by decide +kernel
theorem aX12_areAlike_5 : i_at mX12_areAlike.2.2.2.2.2 5 = some (.if_icmp .ge 30, 3, 35, 0, 0, 0) := by decide +kernel
theorem aX12_areAlike_8 : i_at mX12_areAlike.2.2.2.2.2 8 = some (.aload_n 0, 1, 0, 0, 0, 0) := by decide +kernel
theorem aX12_areAlike_9 : i_at mX12_areAlike.2.2.2.2.2 9 = some (.getfield 115, 3, 11, 47, 1134, 0) := by decide +kernel
theorem aX12_areAlike_12 : i_at mX12_areAlike.2.2.2.2.2 12 = some (.iload_n 1, 1, 0, 0, 0, 0) := by decide +kernel
theorem aX12_areAlike_13 : i_at mX12_areAlike.2.2.2.2.2 13 = some (.iload_n 3, 1, 0, 0, 0, 0) := by decide +kernel
theorem aX12_areAlike_14 : i_at mX12_areAlike.2.2.2.2.2 14 = some (.iadd, 1, 0, 0, 0, 0) := by decide +kernel
theorem aX12_areAlike_15 : i_at mX12_areAlike.2.2.2.2.2 15 = some (.iaload, 1, 0, 0, 0, 0) := by decide +kernel
theorem aX12_areAlike_16 : i_at mX12_areAlike.2.2.2.2.2 16 = some (.aload_n 0, 1, 0, 0, 0, 0) := by decide +kernel
theorem aX12_areAlike_17 : i_at mX12_areAlike.2.2.2.2.2 17 = some (.getfield 115, 3, 11, 47, 1134, 0) := by decide +kernel
theorem aX12_areAlike_20 : i_at mX12_areAlike.2.2.2.2.2 20 = some (.iload_n 2, 1, 0, 0, 0, 0) := by decide +kernel
theorem aX12_areAlike_21 : i_at mX12_areAlike.2.2.2.2.2 21 = some (.iload_n 3, 1, 0, 0, 0, 0) := by decide +kernel
theorem aX12_areAlike_22 : i_at mX12_areAlike.2.2.2.2.2 22 = some (.iadd, 1, 0, 0, 0, 0) := by decide +kernel
theorem aX12_areAlike_23 : i_at mX12_areAlike.2.2.2.2.2 23 = some (.iaload, 1, 0, 0, 0, 0) := by decide +kernel
theorem aX12_areAlike_24 : i_at mX12_areAlike.2.2.2.2.2 24 = some (.if_icmp .eq 5, 3, 29, 0, 0, 0) := by decide +kernel
theorem aX12_areAlike_27 : i_at mX12_areAlike.2.2.2.2.2 27 = some (.iconst 0, 1, 0, 0, 0, 0) := by decide +kernel
theorem aX12_areAlike_28 : i_at mX12_areAlike.2.2.2.2.2 28 = some (.ireturn, 1, 0, 0, 0, 0) := by decide +kernel
theorem aX12_areAlike_29 : i_at mX12_areAlike.2.2.2.2.2 29 = some (.iinc 3 1, 3, 0, 0, 0, 0) := by decide +kernel
theorem aX12_areAlike_32 : i_at mX12_areAlike.2.2.2.2.2 32 = some (.goto (-30), 3, 2, 0, 0, 0) := by decide +kernel
theorem aX12_areAlike_35 : i_at mX12_areAlike.2.2.2.2.2 35 = some (.iconst 1, 1, 0, 0, 0, 0) := by decide +kernel
theorem aX12_areAlike_36 : i_at mX12_areAlike.2.2.2.2.2 36 = some (.ireturn, 1, 0, 0, 0, 0) := by decide +kernel
noncomputable def fX12_areAlike_L2 (sh : List kd) (p1 : Int32) (p2 : Int32) (σ : St) : Nat → Int32 → Option (Int32 × St)
  | 0, _ => none
  | n2 + 1, x1 => if 6 ≤ x1 then some (1, σ) else if i_ok (p1 + x1) 66 then if i_ok (p2 + x1) 66 then if (σ.2.1 34 (p1 + x1).toNatClampNeg) = (σ.2.1 34 (p2 + x1).toNatClampNeg) then (fX12_areAlike_L2 sh p1 p2 σ n2 (x1 + 1)) else some (0, σ) else none else none
noncomputable def fX12_areAlike (sh : List kd) (σ : St) (p1 : Int32) (p2 : Int32) : Option (Int32 × St) := fX12_areAlike_L2 sh p1 p2 σ i_F 0
set_option maxRecDepth 20000 in
set_option maxHeartbeats 2000000 in
theorem tX12_areAlike_L2 {sh : List kd} {τ : St} {r : Int32} (hsh : rmSh sh) {p1 : Int32} {p2 : Int32} {σ : St} : ∀ (n0 : Nat) (x1 : Int32), fX12_areAlike_L2 sh p1 p2 σ n0 x1 = some (r, τ) → g_R sh 0 mX12_areAlike (some (.int r)) τ 2 [.ref 0, .int p1, .int p2, .int x1] [] (σ) := by
  intro n0
  induction n0 with
  | zero => intro _ hE; cases hE
  | succ n2 ih =>
    intro x1 hE
    unfold fX12_areAlike_L2 at hE
    refine g_ldin aX12_areAlike_2 rfl ?_
    refine g_bipush (x := 6) aX12_areAlike_3 rfl ?_
    by_cases hc3 : 6 ≤ x1
    · rw [if_pos hc3] at hE
      refine g_ic_ge_t aX12_areAlike_5 hc3 ?_
      refine g_iconst (x := 1) aX12_areAlike_35 rfl ?_
      obtain ⟨rfl, rfl⟩ := i_some_inj hE
      exact g_iret aX12_areAlike_36 rfl rfl
    · rw [if_neg hc3] at hE
      refine g_ic_ge_f aX12_areAlike_5 hc3 ?_
      refine g_ldan aX12_areAlike_8 rfl ?_
      refine g_getR aX12_areAlike_9 (sR_0 hsh) rfl ?_
      refine g_ldin aX12_areAlike_12 rfl ?_
      refine g_ldin aX12_areAlike_13 rfl ?_
      refine g_iadd aX12_areAlike_14 ?_
      obtain ⟨h4, hE⟩ := i_ifn hE
      refine g_ild aX12_areAlike_15 (sR_34 hsh) h4 ?_
      refine g_ldan aX12_areAlike_16 rfl ?_
      refine g_getR aX12_areAlike_17 (sR_0 hsh) rfl ?_
      refine g_ldin aX12_areAlike_20 rfl ?_
      refine g_ldin aX12_areAlike_21 rfl ?_
      refine g_iadd aX12_areAlike_22 ?_
      obtain ⟨h5, hE⟩ := i_ifn hE
      refine g_ild aX12_areAlike_23 (sR_34 hsh) h5 ?_
      by_cases hc6 : (σ.2.1 34 (p1 + x1).toNatClampNeg) = (σ.2.1 34 (p2 + x1).toNatClampNeg)
      · rw [if_pos hc6] at hE
        refine g_ic_eq_t aX12_areAlike_24 hc6 ?_
        refine g_iinc (y := 1) (loc2 := [.ref 0, .int p1, .int p2, .int (x1 + 1)]) aX12_areAlike_29 rfl rfl rfl ?_
        refine g_goto aX12_areAlike_32 ?_
        exact ih _ hE
      · rw [if_neg hc6] at hE
        refine g_ic_eq_f aX12_areAlike_24 hc6 ?_
        refine g_iconst (x := 0) aX12_areAlike_27 rfl ?_
        obtain ⟨rfl, rfl⟩ := i_some_inj hE
        exact g_iret aX12_areAlike_28 rfl rfl
set_option maxRecDepth 20000 in
set_option maxHeartbeats 2000000 in
theorem tX12_areAlike {sh : List kd} {σ τ : St} {r : Int32} (hsh : rmSh sh) {p1 : Int32} {p2 : Int32} (hE : fX12_areAlike sh σ p1 p2 = some (r, τ)) : i_X 1 214 [.ref 0, .int p1, .int p2] (s_h sh σ) 0 0 (some (.int r)) (s_h sh τ) := by
  refine g_X (M := mX12_areAlike) (loc := [.ref 0, .int p1, .int p2, .retAddr 0]) rfl (Nat.le_of_ble_eq_true rfl) rfl ?_
  unfold fX12_areAlike at hE
  refine g_iconst (x := 0) aX12_areAlike_0 rfl ?_
  refine g_stin (loc2 := [.ref 0, .int p1, .int p2, .int 0]) aX12_areAlike_1 (Nat.le_of_ble_eq_true rfl) rfl ?_
  exact tX12_areAlike_L2 hsh i_F _ hE
theorem aX12_note_0 : i_at mX12_note.2.2.2.2.2 0 = some (.iload_n 1, 1, 0, 0, 0, 0) := by decide +kernel
theorem aX12_note_1 : i_at mX12_note.2.2.2.2.2 1 = some (.iconst (-1), 1, 0, 0, 0, 0) := by decide +kernel
theorem aX12_note_2 : i_at mX12_note.2.2.2.2.2 2 = some (.if_icmp .ne 13, 3, 15, 0, 0, 0) := by decide +kernel
theorem aX12_note_5 : i_at mX12_note.2.2.2.2.2 5 = some (.aload_n 0, 1, 0, 0, 0, 0) := by decide +kernel
theorem aX12_note_6 : i_at mX12_note.2.2.2.2.2 6 = some (.getfield 9, 3, 11, 1, 1088, 0) := by decide +kernel
theorem aX12_note_9 : i_at mX12_note.2.2.2.2.2 9 = some (.bipush 8, 2, 0, 0, 0, 0) := by decide +kernel
theorem aX12_note_11 : i_at mX12_note.2.2.2.2.2 11 = some (.iconst 0, 1, 0, 0, 0, 0) := by decide +kernel
theorem aX12_note_12 : i_at mX12_note.2.2.2.2.2 12 = some (.iastore, 1, 0, 0, 0, 0) := by decide +kernel
theorem aX12_note_13 : i_at mX12_note.2.2.2.2.2 13 = some (.iconst 0, 1, 0, 0, 0, 0) := by decide +kernel
theorem aX12_note_14 : i_at mX12_note.2.2.2.2.2 14 = some (.ireturn, 1, 0, 0, 0, 0) := by decide +kernel
theorem aX12_note_15 : i_at mX12_note.2.2.2.2.2 15 = some (.aload_n 0, 1, 0, 0, 0, 0) := by decide +kernel
theorem aX12_note_16 : i_at mX12_note.2.2.2.2.2 16 = some (.getfield 9, 3, 11, 1, 1088, 0) := by decide +kernel
theorem aX12_note_19 : i_at mX12_note.2.2.2.2.2 19 = some (.bipush 8, 2, 0, 0, 0, 0) := by decide +kernel
theorem aX12_note_21 : i_at mX12_note.2.2.2.2.2 21 = some (.iaload, 1, 0, 0, 0, 0) := by decide +kernel
theorem aX12_note_22 : i_at mX12_note.2.2.2.2.2 22 = some (.istore_n 3, 1, 0, 0, 0, 0) := by decide +kernel
theorem aX12_note_23 : i_at mX12_note.2.2.2.2.2 23 = some (.aload_n 0, 1, 0, 0, 0, 0) := by decide +kernel
theorem aX12_note_24 : i_at mX12_note.2.2.2.2.2 24 = some (.invokevirtual 345, 3, 130, 0, 1438, 0) := by decide +kernel
theorem aX12_note_27 : i_at mX12_note.2.2.2.2.2 27 = some (.ifCond .eq 34, 3, 61, 0, 0, 0) := by decide +kernel
theorem aX12_note_30 : i_at mX12_note.2.2.2.2.2 30 = some (.iload_n 1, 1, 0, 0, 0, 0) := by decide +kernel
theorem aX12_note_31 : i_at mX12_note.2.2.2.2.2 31 = some (.i2l, 1, 0, 0, 0, 0) := by decide +kernel
theorem aX12_note_32 : i_at mX12_note.2.2.2.2.2 32 = some (.lconst 0, 1, 0, 0, 0, 0) := by decide +kernel
theorem aX12_note_33 : i_at mX12_note.2.2.2.2.2 33 = some (.ldc2_w 419, 3, 0, 0, 1573, 60) := by decide +kernel
theorem aX12_note_36 : i_at mX12_note.2.2.2.2.2 36 = some (.invokestatic 131, 3, 127, 3, 1324, 0) := by decide +kernel
theorem aX12_note_39 : i_at mX12_note.2.2.2.2.2 39 = some (.ifCond .eq 22, 3, 61, 0, 0, 0) := by decide +kernel
theorem aX12_note_42 : i_at mX12_note.2.2.2.2.2 42 = some (.iload_n 2, 1, 0, 0, 0, 0) := by decide +kernel
theorem aX12_note_43 : i_at mX12_note.2.2.2.2.2 43 = some (.iconst (-1), 1, 0, 0, 0, 0) := by decide +kernel
theorem aX12_note_44 : i_at mX12_note.2.2.2.2.2 44 = some (.if_icmp .eq 11, 3, 55, 0, 0, 0) := by decide +kernel
theorem aX12_note_47 : i_at mX12_note.2.2.2.2.2 47 = some (.aload_n 0, 1, 0, 0, 0, 0) := by decide +kernel
theorem aX12_note_48 : i_at mX12_note.2.2.2.2.2 48 = some (.iload_n 2, 1, 0, 0, 0, 0) := by decide +kernel
theorem aX12_note_49 : i_at mX12_note.2.2.2.2.2 49 = some (.invokevirtual 338, 3, 131, 1, 1426, 0) := by decide +kernel
theorem aX12_note_52 : i_at mX12_note.2.2.2.2.2 52 = some (.ifCond .eq 9, 3, 61, 0, 0, 0) := by decide +kernel
theorem aX12_note_55 : i_at mX12_note.2.2.2.2.2 55 = some (.iload_n 3, 1, 0, 0, 0, 0) := by decide +kernel
theorem aX12_note_56 : i_at mX12_note.2.2.2.2.2 56 = some (.bipush 10, 2, 0, 0, 0, 0) := by decide +kernel
theorem aX12_note_58 : i_at mX12_note.2.2.2.2.2 58 = some (.if_icmp .ne 6, 3, 64, 0, 0, 0) := by decide +kernel
theorem aX12_note_61 : i_at mX12_note.2.2.2.2.2 61 = some (.bipush (-2), 2, 0, 0, 0, 0) := by decide +kernel
theorem aX12_note_63 : i_at mX12_note.2.2.2.2.2 63 = some (.ireturn, 1, 0, 0, 0, 0) := by decide +kernel
theorem aX12_note_64 : i_at mX12_note.2.2.2.2.2 64 = some (.aload_n 0, 1, 0, 0, 0, 0) := by decide +kernel
theorem aX12_note_65 : i_at mX12_note.2.2.2.2.2 65 = some (.getfield 37, 3, 11, 10, 1097, 0) := by decide +kernel
theorem aX12_note_68 : i_at mX12_note.2.2.2.2.2 68 = some (.iload_n 3, 1, 0, 0, 0, 0) := by decide +kernel
theorem aX12_note_69 : i_at mX12_note.2.2.2.2.2 69 = some (.iload_n 1, 1, 0, 0, 0, 0) := by decide +kernel
theorem aX12_note_70 : i_at mX12_note.2.2.2.2.2 70 = some (.iastore, 1, 0, 0, 0, 0) := by decide +kernel
theorem aX12_note_71 : i_at mX12_note.2.2.2.2.2 71 = some (.aload_n 0, 1, 0, 0, 0, 0) := by decide +kernel
theorem aX12_note_72 : i_at mX12_note.2.2.2.2.2 72 = some (.getfield 40, 3, 11, 11, 1098, 0) := by decide +kernel
theorem aX12_note_75 : i_at mX12_note.2.2.2.2.2 75 = some (.iload_n 3, 1, 0, 0, 0, 0) := by decide +kernel
theorem aX12_note_76 : i_at mX12_note.2.2.2.2.2 76 = some (.iload_n 2, 1, 0, 0, 0, 0) := by decide +kernel
theorem aX12_note_77 : i_at mX12_note.2.2.2.2.2 77 = some (.iastore, 1, 0, 0, 0, 0) := by decide +kernel
theorem aX12_note_78 : i_at mX12_note.2.2.2.2.2 78 = some (.aload_n 0, 1, 0, 0, 0, 0) := by decide +kernel
theorem aX12_note_79 : i_at mX12_note.2.2.2.2.2 79 = some (.getfield 9, 3, 11, 1, 1088, 0) := by decide +kernel
theorem aX12_note_82 : i_at mX12_note.2.2.2.2.2 82 = some (.bipush 8, 2, 0, 0, 0, 0) := by decide +kernel
theorem aX12_note_84 : i_at mX12_note.2.2.2.2.2 84 = some (.dup2, 1, 0, 0, 0, 0) := by decide +kernel
theorem aX12_note_85 : i_at mX12_note.2.2.2.2.2 85 = some (.iaload, 1, 0, 0, 0, 0) := by decide +kernel
theorem aX12_note_86 : i_at mX12_note.2.2.2.2.2 86 = some (.iconst 1, 1, 0, 0, 0, 0) := by decide +kernel
theorem aX12_note_87 : i_at mX12_note.2.2.2.2.2 87 = some (.iadd, 1, 0, 0, 0, 0) := by decide +kernel
theorem aX12_note_88 : i_at mX12_note.2.2.2.2.2 88 = some (.iastore, 1, 0, 0, 0, 0) := by decide +kernel
theorem aX12_note_89 : i_at mX12_note.2.2.2.2.2 89 = some (.iload_n 3, 1, 0, 0, 0, 0) := by decide +kernel
theorem aX12_note_90 : i_at mX12_note.2.2.2.2.2 90 = some (.iconst 1, 1, 0, 0, 0, 0) := by decide +kernel
theorem aX12_note_91 : i_at mX12_note.2.2.2.2.2 91 = some (.iadd, 1, 0, 0, 0, 0) := by decide +kernel
theorem aX12_note_92 : i_at mX12_note.2.2.2.2.2 92 = some (.ireturn, 1, 0, 0, 0, 0) := by decide +kernel
noncomputable def fX12_note (sh : List kd) (σ : St) (p1 : Int32) (p2 : Int32) : Option (Int32 × St) := if ¬ p1 = (-1) then if i_ok 8 11 then i_bd (fX12_isCourt sh σ) (fun r3 s4 => if r3 = 0 then some ((-2), s4) else i_bd (fX12_in sh s4 p1.toInt64 0 60) (fun r7 s8 => if r7 = 0 then some ((-2), s8) else if p2 = (-1) then if ¬ (σ.2.1 1 (8 : Int32).toNatClampNeg) = 10 then if i_ok (σ.2.1 1 (8 : Int32).toNatClampNeg) 10 then if i_ok (σ.2.1 1 (8 : Int32).toNatClampNeg) 10 then i_jp (s_A (s_A s8 10 (σ.2.1 1 (8 : Int32).toNatClampNeg).toNatClampNeg p1) 11 (σ.2.1 1 (8 : Int32).toNatClampNeg).toNatClampNeg p2) (fun (s15 : St) => if i_ok 8 11 then if i_ok 8 11 then some (((σ.2.1 1 (8 : Int32).toNatClampNeg) + 1), s_A s15 1 (8 : Int32).toNatClampNeg ((s15.2.1 1 (8 : Int32).toNatClampNeg) + 1)) else none else none) else none else none else some ((-2), s8) else i_bd (fX12_isThing sh s8 p2) (fun r19 s20 => if r19 = 0 then some ((-2), s20) else if ¬ (σ.2.1 1 (8 : Int32).toNatClampNeg) = 10 then if i_ok (σ.2.1 1 (8 : Int32).toNatClampNeg) 10 then if i_ok (σ.2.1 1 (8 : Int32).toNatClampNeg) 10 then i_jp (s_A (s_A s20 10 (σ.2.1 1 (8 : Int32).toNatClampNeg).toNatClampNeg p1) 11 (σ.2.1 1 (8 : Int32).toNatClampNeg).toNatClampNeg p2) (fun (s26 : St) => if i_ok 8 11 then if i_ok 8 11 then some (((σ.2.1 1 (8 : Int32).toNatClampNeg) + 1), s_A s26 1 (8 : Int32).toNatClampNeg ((s26.2.1 1 (8 : Int32).toNatClampNeg) + 1)) else none else none) else none else none else some ((-2), s20)))) else none else if i_ok 8 11 then some (0, s_A σ 1 (8 : Int32).toNatClampNeg 0) else none
set_option maxRecDepth 20000 in
set_option maxHeartbeats 2000000 in
theorem tX12_note {sh : List kd} {σ τ : St} {r : Int32} (hsh : rmSh sh) {p1 : Int32} {p2 : Int32} (hE : fX12_note sh σ p1 p2 = some (r, τ)) : i_X 3 216 [.ref 0, .int p1, .int p2] (s_h sh σ) 0 0 (some (.int r)) (s_h sh τ) := by
  refine g_X (M := mX12_note) (loc := [.ref 0, .int p1, .int p2, .retAddr 0]) rfl (Nat.le_of_ble_eq_true rfl) rfl ?_
  unfold fX12_note at hE
  refine g_ldin aX12_note_0 rfl ?_
  refine g_iconst (x := (-1)) aX12_note_1 rfl ?_
  by_cases hc1 : ¬ p1 = (-1)
  · rw [if_pos hc1] at hE
    refine g_ic_ne_t aX12_note_2 hc1 ?_
    refine g_ldan aX12_note_15 rfl ?_
    refine g_getR aX12_note_16 (sR_0 hsh) rfl ?_
    refine g_bipush (x := 8) aX12_note_19 rfl ?_
    obtain ⟨h2, hE⟩ := i_ifn hE
    refine g_ild aX12_note_21 (sR_1 hsh) h2 ?_
    refine g_stin (loc2 := [.ref 0, .int p1, .int p2, .int (σ.2.1 1 (8 : Int32).toNatClampNeg)]) aX12_note_22 (Nat.le_of_ble_eq_true rfl) rfl ?_
    refine g_ldan aX12_note_23 rfl ?_
    obtain ⟨r3, s4, h5, hE⟩ := i_bd_some hE
    refine g_calV (As := []) (rest := []) aX12_note_24 (i_X_mono (by omega) (tX12_isCourt hsh h5)) (sR_0 hsh) (by decide +kernel) rfl rfl (Nat.le_of_ble_eq_true rfl) rfl ?_
    by_cases hc6 : r3 = 0
    · rw [if_pos hc6] at hE
      refine g_if_eq_t aX12_note_27 hc6 ?_
      refine g_bipush (x := (-2)) aX12_note_61 rfl ?_
      obtain ⟨rfl, rfl⟩ := i_some_inj hE
      exact g_iret aX12_note_63 rfl rfl
    · rw [if_neg hc6] at hE
      refine g_if_eq_f aX12_note_27 hc6 ?_
      refine g_ldin aX12_note_30 rfl ?_
      refine g_i2l aX12_note_31 ?_
      refine g_lconst (x := 0) aX12_note_32 rfl ?_
      refine g_ldc2 (x := 60) aX12_note_33 rfl ?_
      obtain ⟨r7, s8, h9, hE⟩ := i_bd_some hE
      refine g_calS (As := [.long p1.toInt64, .long 0, .long 60]) (rest := []) aX12_note_36 (i_X_mono (by omega) (tX12_in hsh h9)) rfl rfl (Nat.le_of_ble_eq_true rfl) rfl ?_
      by_cases hc10 : r7 = 0
      · rw [if_pos hc10] at hE
        refine g_if_eq_t aX12_note_39 hc10 ?_
        refine g_bipush (x := (-2)) aX12_note_61 rfl ?_
        obtain ⟨rfl, rfl⟩ := i_some_inj hE
        exact g_iret aX12_note_63 rfl rfl
      · rw [if_neg hc10] at hE
        refine g_if_eq_f aX12_note_39 hc10 ?_
        refine g_ldin aX12_note_42 rfl ?_
        refine g_iconst (x := (-1)) aX12_note_43 rfl ?_
        by_cases hc11 : p2 = (-1)
        · rw [if_pos hc11] at hE
          refine g_ic_eq_t aX12_note_44 hc11 ?_
          refine g_ldin aX12_note_55 rfl ?_
          refine g_bipush (x := 10) aX12_note_56 rfl ?_
          by_cases hc12 : ¬ (σ.2.1 1 (8 : Int32).toNatClampNeg) = 10
          · rw [if_pos hc12] at hE
            refine g_ic_ne_t aX12_note_58 hc12 ?_
            refine g_ldan aX12_note_64 rfl ?_
            refine g_getR aX12_note_65 (sR_0 hsh) rfl ?_
            refine g_ldin aX12_note_68 rfl ?_
            refine g_ldin aX12_note_69 rfl ?_
            obtain ⟨h13, hE⟩ := i_ifn hE
            refine g_ist aX12_note_70 (sR_10 hsh) h13 ?_
            refine g_ldan aX12_note_71 rfl ?_
            refine g_getR aX12_note_72 (sR_0 hsh) rfl ?_
            refine g_ldin aX12_note_75 rfl ?_
            refine g_ldin aX12_note_76 rfl ?_
            obtain ⟨h14, hE⟩ := i_ifn hE
            refine g_ist aX12_note_77 (sR_11 hsh) h14 ?_
            obtain ⟨s15, h16, hE⟩ := i_jp_some hE
            rw [← h16]
            refine g_ldan aX12_note_78 rfl ?_
            refine g_getR aX12_note_79 (sR_0 hsh) rfl ?_
            refine g_bipush (x := 8) aX12_note_82 rfl ?_
            refine g_dup2 aX12_note_84 ?_
            obtain ⟨h17, hE⟩ := i_ifn hE
            refine g_ild aX12_note_85 (sR_1 hsh) h17 ?_
            refine g_iconst (x := 1) aX12_note_86 rfl ?_
            refine g_iadd aX12_note_87 ?_
            obtain ⟨h18, hE⟩ := i_ifn hE
            refine g_ist aX12_note_88 (sR_1 hsh) h18 ?_
            refine g_ldin aX12_note_89 rfl ?_
            refine g_iconst (x := 1) aX12_note_90 rfl ?_
            refine g_iadd aX12_note_91 ?_
            obtain ⟨rfl, rfl⟩ := i_some_inj hE
            exact g_iret aX12_note_92 rfl rfl
          · rw [if_neg hc12] at hE
            refine g_ic_ne_f aX12_note_58 hc12 ?_
            refine g_bipush (x := (-2)) aX12_note_61 rfl ?_
            obtain ⟨rfl, rfl⟩ := i_some_inj hE
            exact g_iret aX12_note_63 rfl rfl
        · rw [if_neg hc11] at hE
          refine g_ic_eq_f aX12_note_44 hc11 ?_
          refine g_ldan aX12_note_47 rfl ?_
          refine g_ldin aX12_note_48 rfl ?_
          obtain ⟨r19, s20, h21, hE⟩ := i_bd_some hE
          refine g_calV (As := [.int p2]) (rest := []) aX12_note_49 (i_X_mono (by omega) (tX12_isThing hsh h21)) (sR_0 hsh) (by decide +kernel) rfl rfl (Nat.le_of_ble_eq_true rfl) rfl ?_
          by_cases hc22 : r19 = 0
          · rw [if_pos hc22] at hE
            refine g_if_eq_t aX12_note_52 hc22 ?_
            refine g_bipush (x := (-2)) aX12_note_61 rfl ?_
            obtain ⟨rfl, rfl⟩ := i_some_inj hE
            exact g_iret aX12_note_63 rfl rfl
          · rw [if_neg hc22] at hE
            refine g_if_eq_f aX12_note_52 hc22 ?_
            refine g_ldin aX12_note_55 rfl ?_
            refine g_bipush (x := 10) aX12_note_56 rfl ?_
            by_cases hc23 : ¬ (σ.2.1 1 (8 : Int32).toNatClampNeg) = 10
            · rw [if_pos hc23] at hE
              refine g_ic_ne_t aX12_note_58 hc23 ?_
              refine g_ldan aX12_note_64 rfl ?_
              refine g_getR aX12_note_65 (sR_0 hsh) rfl ?_
              refine g_ldin aX12_note_68 rfl ?_
              refine g_ldin aX12_note_69 rfl ?_
              obtain ⟨h24, hE⟩ := i_ifn hE
              refine g_ist aX12_note_70 (sR_10 hsh) h24 ?_
              refine g_ldan aX12_note_71 rfl ?_
              refine g_getR aX12_note_72 (sR_0 hsh) rfl ?_
              refine g_ldin aX12_note_75 rfl ?_
              refine g_ldin aX12_note_76 rfl ?_
              obtain ⟨h25, hE⟩ := i_ifn hE
              refine g_ist aX12_note_77 (sR_11 hsh) h25 ?_
              obtain ⟨s26, h27, hE⟩ := i_jp_some hE
              rw [← h27]
              refine g_ldan aX12_note_78 rfl ?_
              refine g_getR aX12_note_79 (sR_0 hsh) rfl ?_
              refine g_bipush (x := 8) aX12_note_82 rfl ?_
              refine g_dup2 aX12_note_84 ?_
              obtain ⟨h28, hE⟩ := i_ifn hE
              refine g_ild aX12_note_85 (sR_1 hsh) h28 ?_
              refine g_iconst (x := 1) aX12_note_86 rfl ?_
              refine g_iadd aX12_note_87 ?_
              obtain ⟨h29, hE⟩ := i_ifn hE
              refine g_ist aX12_note_88 (sR_1 hsh) h29 ?_
              refine g_ldin aX12_note_89 rfl ?_
              refine g_iconst (x := 1) aX12_note_90 rfl ?_
              refine g_iadd aX12_note_91 ?_
              obtain ⟨rfl, rfl⟩ := i_some_inj hE
              exact g_iret aX12_note_92 rfl rfl
            · rw [if_neg hc23] at hE
              refine g_ic_ne_f aX12_note_58 hc23 ?_
              refine g_bipush (x := (-2)) aX12_note_61 rfl ?_
              obtain ⟨rfl, rfl⟩ := i_some_inj hE
              exact g_iret aX12_note_63 rfl rfl
  · rw [if_neg hc1] at hE
    refine g_ic_ne_f aX12_note_2 hc1 ?_
    refine g_ldan aX12_note_5 rfl ?_
    refine g_getR aX12_note_6 (sR_0 hsh) rfl ?_
    refine g_bipush (x := 8) aX12_note_9 rfl ?_
    refine g_iconst (x := 0) aX12_note_11 rfl ?_
    obtain ⟨h30, hE⟩ := i_ifn hE
    refine g_ist aX12_note_12 (sR_1 hsh) h30 ?_
    refine g_iconst (x := 0) aX12_note_13 rfl ?_
    obtain ⟨rfl, rfl⟩ := i_some_inj hE
    exact g_iret aX12_note_14 rfl rfl
theorem aX12_mostAlike_0 : i_at mX12_mostAlike.2.2.2.2.2 0 = some (.iconst 0, 1, 0, 0, 0, 0) := by decide +kernel
theorem aX12_mostAlike_1 : i_at mX12_mostAlike.2.2.2.2.2 1 = some (.istore_n 3, 1, 0, 0, 0, 0) := by decide +kernel
theorem aX12_mostAlike_2 : i_at mX12_mostAlike.2.2.2.2.2 2 = some (.iconst 0, 1, 0, 0, 0, 0) := by decide +kernel
theorem aX12_mostAlike_3 : i_at mX12_mostAlike.2.2.2.2.2 3 = some (.istore 4, 2, 0, 0, 0, 0) := by decide +kernel
theorem aX12_mostAlike_5 : i_at mX12_mostAlike.2.2.2.2.2 5 = some (.iload 4, 2, 0, 0, 0, 0) := by decide +kernel
theorem aX12_mostAlike_7 : i_at mX12_mostAlike.2.2.2.2.2 7 = some (.iload_n 2, 1, 0, 0, 0, 0) := by decide +kernel
theorem aX12_mostAlike_8 : i_at mX12_mostAlike.2.2.2.2.2 8 = some (.if_icmp .ge 77, 3, 85, 0, 0, 0) := by decide +kernel
theorem aX12_mostAlike_11 : i_at mX12_mostAlike.2.2.2.2.2 11 = some (.iconst 0, 1, 0, 0, 0, 0) := by decide +kernel
theorem aX12_mostAlike_12 : i_at mX12_mostAlike.2.2.2.2.2 12 = some (.istore 5, 2, 0, 0, 0, 0) := by decide +kernel
theorem aX12_mostAlike_14 : i_at mX12_mostAlike.2.2.2.2.2 14 = some (.iconst 0, 1, 0, 0, 0, 0) := by decide +kernel
theorem aX12_mostAlike_15 : i_at mX12_mostAlike.2.2.2.2.2 15 = some (.istore 6, 2, 0, 0, 0, 0) := by decide +kernel
theorem aX12_mostAlike_17 : i_at mX12_mostAlike.2.2.2.2.2 17 = some (.iload 6, 2, 0, 0, 0, 0) := by decide +kernel
theorem aX12_mostAlike_19 : i_at mX12_mostAlike.2.2.2.2.2 19 = some (.iload_n 2, 1, 0, 0, 0, 0) := by decide +kernel
theorem aX12_mostAlike_20 : i_at mX12_mostAlike.2.2.2.2.2 20 = some (.if_icmp .ge 46, 3, 66, 0, 0, 0) := by decide +kernel
theorem aX12_mostAlike_23 : i_at mX12_mostAlike.2.2.2.2.2 23 = some (.iload 5, 2, 0, 0, 0, 0) := by decide +kernel
theorem aX12_mostAlike_25 : i_at mX12_mostAlike.2.2.2.2.2 25 = some (.aload_n 0, 1, 0, 0, 0, 0) := by decide +kernel
theorem aX12_mostAlike_26 : i_at mX12_mostAlike.2.2.2.2.2 26 = some (.getfield 118, 3, 11, 48, 1135, 0) := by decide +kernel
theorem aX12_mostAlike_29 : i_at mX12_mostAlike.2.2.2.2.2 29 = some (.bipush 61, 2, 0, 0, 0, 0) := by decide +kernel
theorem aX12_mostAlike_31 : i_at mX12_mostAlike.2.2.2.2.2 31 = some (.iload 6, 2, 0, 0, 0, 0) := by decide +kernel
theorem aX12_mostAlike_33 : i_at mX12_mostAlike.2.2.2.2.2 33 = some (.imul, 1, 0, 0, 0, 0) := by decide +kernel
theorem aX12_mostAlike_34 : i_at mX12_mostAlike.2.2.2.2.2 34 = some (.iload_n 1, 1, 0, 0, 0, 0) := by decide +kernel
theorem aX12_mostAlike_35 : i_at mX12_mostAlike.2.2.2.2.2 35 = some (.iadd, 1, 0, 0, 0, 0) := by decide +kernel
theorem aX12_mostAlike_36 : i_at mX12_mostAlike.2.2.2.2.2 36 = some (.iaload, 1, 0, 0, 0, 0) := by decide +kernel
theorem aX12_mostAlike_37 : i_at mX12_mostAlike.2.2.2.2.2 37 = some (.aload_n 0, 1, 0, 0, 0, 0) := by decide +kernel
theorem aX12_mostAlike_38 : i_at mX12_mostAlike.2.2.2.2.2 38 = some (.getfield 118, 3, 11, 48, 1135, 0) := by decide +kernel
theorem aX12_mostAlike_41 : i_at mX12_mostAlike.2.2.2.2.2 41 = some (.bipush 61, 2, 0, 0, 0, 0) := by decide +kernel
theorem aX12_mostAlike_43 : i_at mX12_mostAlike.2.2.2.2.2 43 = some (.iload 4, 2, 0, 0, 0, 0) := by decide +kernel
theorem aX12_mostAlike_45 : i_at mX12_mostAlike.2.2.2.2.2 45 = some (.imul, 1, 0, 0, 0, 0) := by decide +kernel
theorem aX12_mostAlike_46 : i_at mX12_mostAlike.2.2.2.2.2 46 = some (.iload_n 1, 1, 0, 0, 0, 0) := by decide +kernel
theorem aX12_mostAlike_47 : i_at mX12_mostAlike.2.2.2.2.2 47 = some (.iadd, 1, 0, 0, 0, 0) := by decide +kernel
theorem aX12_mostAlike_48 : i_at mX12_mostAlike.2.2.2.2.2 48 = some (.iaload, 1, 0, 0, 0, 0) := by decide +kernel
theorem aX12_mostAlike_49 : i_at mX12_mostAlike.2.2.2.2.2 49 = some (.if_icmp .ne 7, 3, 56, 0, 0, 0) := by decide +kernel
theorem aX12_mostAlike_52 : i_at mX12_mostAlike.2.2.2.2.2 52 = some (.iconst 1, 1, 0, 0, 0, 0) := by decide +kernel
theorem aX12_mostAlike_53 : i_at mX12_mostAlike.2.2.2.2.2 53 = some (.goto 4, 3, 57, 0, 0, 0) := by decide +kernel
theorem aX12_mostAlike_56 : i_at mX12_mostAlike.2.2.2.2.2 56 = some (.iconst 0, 1, 0, 0, 0, 0) := by decide +kernel
theorem aX12_mostAlike_57 : i_at mX12_mostAlike.2.2.2.2.2 57 = some (.iadd, 1, 0, 0, 0, 0) := by decide +kernel
theorem aX12_mostAlike_58 : i_at mX12_mostAlike.2.2.2.2.2 58 = some (.istore 5, 2, 0, 0, 0, 0) := by decide +kernel
theorem aX12_mostAlike_60 : i_at mX12_mostAlike.2.2.2.2.2 60 = some (.iinc 6 1, 3, 0, 0, 0, 0) := by decide +kernel
theorem aX12_mostAlike_63 : i_at mX12_mostAlike.2.2.2.2.2 63 = some (.goto (-46), 3, 17, 0, 0, 0) := by decide +kernel
theorem aX12_mostAlike_66 : i_at mX12_mostAlike.2.2.2.2.2 66 = some (.iload 5, 2, 0, 0, 0, 0) := by decide +kernel
theorem aX12_mostAlike_68 : i_at mX12_mostAlike.2.2.2.2.2 68 = some (.iload_n 3, 1, 0, 0, 0, 0) := by decide +kernel
theorem aX12_mostAlike_69 : i_at mX12_mostAlike.2.2.2.2.2 69 = some (.if_icmp .le 8, 3, 77, 0, 0, 0) := by decide +kernel
theorem aX12_mostAlike_72 : i_at mX12_mostAlike.2.2.2.2.2 72 = some (.iload 5, 2, 0, 0, 0, 0) := by decide +kernel
theorem aX12_mostAlike_74 : i_at mX12_mostAlike.2.2.2.2.2 74 = some (.goto 4, 3, 78, 0, 0, 0) := by decide +kernel
theorem aX12_mostAlike_77 : i_at mX12_mostAlike.2.2.2.2.2 77 = some (.iload_n 3, 1, 0, 0, 0, 0) := by decide +kernel
theorem aX12_mostAlike_78 : i_at mX12_mostAlike.2.2.2.2.2 78 = some (.istore_n 3, 1, 0, 0, 0, 0) := by decide +kernel
theorem aX12_mostAlike_79 : i_at mX12_mostAlike.2.2.2.2.2 79 = some (.iinc 4 1, 3, 0, 0, 0, 0) := by decide +kernel
theorem aX12_mostAlike_82 : i_at mX12_mostAlike.2.2.2.2.2 82 = some (.goto (-77), 3, 5, 0, 0, 0) := by decide +kernel
theorem aX12_mostAlike_85 : i_at mX12_mostAlike.2.2.2.2.2 85 = some (.iload_n 3, 1, 0, 0, 0, 0) := by decide +kernel
theorem aX12_mostAlike_86 : i_at mX12_mostAlike.2.2.2.2.2 86 = some (.ireturn, 1, 0, 0, 0, 0) := by decide +kernel
noncomputable def fX12_mostAlike_L17 (sh : List kd) (p1 : Int32) (p2 : Int32) (σ : St) (x1 : Int32) (x2 : Int32) (k66 : Int32 → Int32 → Option (Int32 × St)) : Nat → Int32 → Int32 → Option (Int32 × St)
  | 0, _, _ => none
  | n111 + 1, x57, x58 => if p2 ≤ x58 then k66 x57 x58 else if i_ok ((61 * x58) + p1) 427 then if i_ok ((61 * x2) + p1) 427 then (fX12_mostAlike_L17 sh p1 p2 σ x1 x2 k66 n111 (x57 + ((if ¬ (σ.2.1 35 ((61 * x58) + p1).toNatClampNeg) = (σ.2.1 35 ((61 * x2) + p1).toNatClampNeg) then 0 else 1) : Int32)) (x58 + 1)) else none else none
noncomputable def fX12_mostAlike_X66 (sh : List kd) (p1 : Int32) (p2 : Int32) (σ : St) (x1 : Int32) (x2 : Int32) (k5 : Int32 → Int32 → Value → Value → Option (Int32 × St)) (x109 : Int32) (x110 : Int32) : Option (Int32 × St) := k5 ((if x109 ≤ x1 then x1 else x109) : Int32) (x2 + 1) (.int x109) (.int x110)
noncomputable def fX12_mostAlike_L5 (sh : List kd) (p1 : Int32) (p2 : Int32) (σ : St) : Nat → Int32 → Int32 → Value → Value → Option (Int32 × St)
  | 0, _, _, _, _ => none
  | n5 + 1, x1, x2, x3, x4 => if p2 ≤ x2 then some (x1, σ) else fX12_mostAlike_L17 sh p1 p2 σ x1 x2 (fun (x109 : Int32) (x110 : Int32) => fX12_mostAlike_X66 sh p1 p2 σ x1 x2 (fX12_mostAlike_L5 sh p1 p2 σ n5) x109 x110) i_F 0 0
noncomputable def fX12_mostAlike (sh : List kd) (σ : St) (p1 : Int32) (p2 : Int32) : Option (Int32 × St) := fX12_mostAlike_L5 sh p1 p2 σ i_F 0 0 (.retAddr 0) (.retAddr 0)
set_option maxRecDepth 20000 in
set_option maxHeartbeats 2000000 in
theorem tX12_mostAlike_L17 {sh : List kd} {τ : St} {r : Int32} (hsh : rmSh sh) {p1 : Int32} {p2 : Int32} {σ : St} {x1 : Int32} {x2 : Int32} {k66 : Int32 → Int32 → Option (Int32 × St)} (hk66 : ∀ (x109 : Int32) (x110 : Int32), k66 x109 x110 = some (r, τ) → g_R sh 0 mX12_mostAlike (some (.int r)) τ 66 [.ref 0, .int p1, .int p2, .int x1, .int x2, .int x109, .int x110] [] (σ)) : ∀ (n0 : Nat) (x57 : Int32) (x58 : Int32), fX12_mostAlike_L17 sh p1 p2 σ x1 x2 k66 n0 x57 x58 = some (r, τ) → g_R sh 0 mX12_mostAlike (some (.int r)) τ 17 [.ref 0, .int p1, .int p2, .int x1, .int x2, .int x57, .int x58] [] (σ) := by
  intro n0
  induction n0 with
  | zero => intro _ _ hE; cases hE
  | succ n111 ih =>
    intro x57 x58 hE
    unfold fX12_mostAlike_L17 at hE
    refine g_ldi aX12_mostAlike_17 rfl ?_
    refine g_ldin aX12_mostAlike_19 rfl ?_
    by_cases hc112 : p2 ≤ x58
    · rw [if_pos hc112] at hE
      refine g_ic_ge_t aX12_mostAlike_20 hc112 ?_
      exact hk66 _ _ hE
    · rw [if_neg hc112] at hE
      refine g_ic_ge_f aX12_mostAlike_20 hc112 ?_
      refine g_ldi aX12_mostAlike_23 rfl ?_
      refine g_ldan aX12_mostAlike_25 rfl ?_
      refine g_getR aX12_mostAlike_26 (sR_0 hsh) rfl ?_
      refine g_bipush (x := 61) aX12_mostAlike_29 rfl ?_
      refine g_ldi aX12_mostAlike_31 rfl ?_
      refine g_imul aX12_mostAlike_33 ?_
      refine g_ldin aX12_mostAlike_34 rfl ?_
      refine g_iadd aX12_mostAlike_35 ?_
      obtain ⟨h113, hE⟩ := i_ifn hE
      refine g_ild aX12_mostAlike_36 (sR_35 hsh) h113 ?_
      refine g_ldan aX12_mostAlike_37 rfl ?_
      refine g_getR aX12_mostAlike_38 (sR_0 hsh) rfl ?_
      refine g_bipush (x := 61) aX12_mostAlike_41 rfl ?_
      refine g_ldi aX12_mostAlike_43 rfl ?_
      refine g_imul aX12_mostAlike_45 ?_
      refine g_ldin aX12_mostAlike_46 rfl ?_
      refine g_iadd aX12_mostAlike_47 ?_
      obtain ⟨h114, hE⟩ := i_ifn hE
      refine g_ild aX12_mostAlike_48 (sR_35 hsh) h114 ?_
      have hJ : g_R sh 0 mX12_mostAlike (some (.int r)) τ 57 [.ref 0, .int p1, .int p2, .int x1, .int x2, .int x57, .int x58] [.int ((if ¬ (σ.2.1 35 ((61 * x58) + p1).toNatClampNeg) = (σ.2.1 35 ((61 * x2) + p1).toNatClampNeg) then 0 else 1) : Int32), .int x57] (σ) := by
        refine g_iadd aX12_mostAlike_57 ?_
        refine g_sti (loc2 := [.ref 0, .int p1, .int p2, .int x1, .int x2, .int (x57 + ((if ¬ (σ.2.1 35 ((61 * x58) + p1).toNatClampNeg) = (σ.2.1 35 ((61 * x2) + p1).toNatClampNeg) then 0 else 1) : Int32)), .int x58]) aX12_mostAlike_58 (Nat.le_of_ble_eq_true rfl) rfl ?_
        refine g_iinc (y := 1) (loc2 := [.ref 0, .int p1, .int p2, .int x1, .int x2, .int (x57 + ((if ¬ (σ.2.1 35 ((61 * x58) + p1).toNatClampNeg) = (σ.2.1 35 ((61 * x2) + p1).toNatClampNeg) then 0 else 1) : Int32)), .int (x58 + 1)]) aX12_mostAlike_60 rfl rfl rfl ?_
        refine g_goto aX12_mostAlike_63 ?_
        exact ih _ _ hE
      clear hE
      by_cases hc114 : ¬ (σ.2.1 35 ((61 * x58) + p1).toNatClampNeg) = (σ.2.1 35 ((61 * x2) + p1).toNatClampNeg)
      · (try rw [if_pos hc114] at hJ)
        refine g_ic_ne_t aX12_mostAlike_49 hc114 ?_
        refine g_iconst (x := 0) aX12_mostAlike_56 rfl ?_
        exact hJ
      · (try rw [if_neg hc114] at hJ)
        refine g_ic_ne_f aX12_mostAlike_49 hc114 ?_
        refine g_iconst (x := 1) aX12_mostAlike_52 rfl ?_
        refine g_goto aX12_mostAlike_53 ?_
        exact hJ
set_option maxRecDepth 20000 in
set_option maxHeartbeats 2000000 in
theorem tX12_mostAlike_X66 {sh : List kd} {τ : St} {r : Int32} (hsh : rmSh sh) {p1 : Int32} {p2 : Int32} {σ : St} {x1 : Int32} {x2 : Int32} {x109 : Int32} {x110 : Int32} {k5 : Int32 → Int32 → Value → Value → Option (Int32 × St)} (hk5 : ∀ (x1 : Int32) (x2 : Int32) (x3 : Value) (x4 : Value), k5 x1 x2 x3 x4 = some (r, τ) → g_R sh 0 mX12_mostAlike (some (.int r)) τ 5 [.ref 0, .int p1, .int p2, .int x1, .int x2, x3, x4] [] (σ)) (hE : fX12_mostAlike_X66 sh p1 p2 σ x1 x2 k5 x109 x110 = some (r, τ)) : g_R sh 0 mX12_mostAlike (some (.int r)) τ 66 [.ref 0, .int p1, .int p2, .int x1, .int x2, .int x109, .int x110] [] (σ) := by
  unfold fX12_mostAlike_X66 at hE
  refine g_ldi aX12_mostAlike_66 rfl ?_
  refine g_ldin aX12_mostAlike_68 rfl ?_
  have hJ : g_R sh 0 mX12_mostAlike (some (.int r)) τ 78 [.ref 0, .int p1, .int p2, .int x1, .int x2, .int x109, .int x110] [.int ((if x109 ≤ x1 then x1 else x109) : Int32)] (σ) := by
    refine g_stin (loc2 := [.ref 0, .int p1, .int p2, .int ((if x109 ≤ x1 then x1 else x109) : Int32), .int x2, .int x109, .int x110]) aX12_mostAlike_78 (Nat.le_of_ble_eq_true rfl) rfl ?_
    refine g_iinc (y := 1) (loc2 := [.ref 0, .int p1, .int p2, .int ((if x109 ≤ x1 then x1 else x109) : Int32), .int (x2 + 1), .int x109, .int x110]) aX12_mostAlike_79 rfl rfl rfl ?_
    refine g_goto aX12_mostAlike_82 ?_
    exact hk5 _ _ _ _ hE
  clear hE
  by_cases hc115 : x109 ≤ x1
  · (try rw [if_pos hc115] at hJ)
    refine g_ic_le_t aX12_mostAlike_69 hc115 ?_
    refine g_ldin aX12_mostAlike_77 rfl ?_
    exact hJ
  · (try rw [if_neg hc115] at hJ)
    refine g_ic_le_f aX12_mostAlike_69 hc115 ?_
    refine g_ldi aX12_mostAlike_72 rfl ?_
    refine g_goto aX12_mostAlike_74 ?_
    exact hJ
set_option maxRecDepth 20000 in
set_option maxHeartbeats 2000000 in
theorem tX12_mostAlike_L5 {sh : List kd} {τ : St} {r : Int32} (hsh : rmSh sh) {p1 : Int32} {p2 : Int32} {σ : St} : ∀ (n0 : Nat) (x1 : Int32) (x2 : Int32) (x3 : Value) (x4 : Value), fX12_mostAlike_L5 sh p1 p2 σ n0 x1 x2 x3 x4 = some (r, τ) → g_R sh 0 mX12_mostAlike (some (.int r)) τ 5 [.ref 0, .int p1, .int p2, .int x1, .int x2, x3, x4] [] (σ) := by
  intro n0
  induction n0 with
  | zero => intro _ _ _ _ hE; cases hE
  | succ n5 ih =>
    intro x1 x2 x3 x4 hE
    unfold fX12_mostAlike_L5 at hE
    refine g_ldi aX12_mostAlike_5 rfl ?_
    refine g_ldin aX12_mostAlike_7 rfl ?_
    by_cases hc56 : p2 ≤ x2
    · rw [if_pos hc56] at hE
      refine g_ic_ge_t aX12_mostAlike_8 hc56 ?_
      refine g_ldin aX12_mostAlike_85 rfl ?_
      obtain ⟨rfl, rfl⟩ := i_some_inj hE
      exact g_iret aX12_mostAlike_86 rfl rfl
    · rw [if_neg hc56] at hE
      refine g_ic_ge_f aX12_mostAlike_8 hc56 ?_
      refine g_iconst (x := 0) aX12_mostAlike_11 rfl ?_
      refine g_sti (loc2 := [.ref 0, .int p1, .int p2, .int x1, .int x2, .int 0, x4]) aX12_mostAlike_12 (Nat.le_of_ble_eq_true rfl) rfl ?_
      refine g_iconst (x := 0) aX12_mostAlike_14 rfl ?_
      refine g_sti (loc2 := [.ref 0, .int p1, .int p2, .int x1, .int x2, .int 0, .int 0]) aX12_mostAlike_15 (Nat.le_of_ble_eq_true rfl) rfl ?_
      exact tX12_mostAlike_L17 hsh (fun x109 x110 hE => tX12_mostAlike_X66 hsh ih hE) i_F _ _ hE
set_option maxRecDepth 20000 in
set_option maxHeartbeats 2000000 in
theorem tX12_mostAlike {sh : List kd} {σ τ : St} {r : Int32} (hsh : rmSh sh) {p1 : Int32} {p2 : Int32} (hE : fX12_mostAlike sh σ p1 p2 = some (r, τ)) : i_X 1 219 [.ref 0, .int p1, .int p2] (s_h sh σ) 0 0 (some (.int r)) (s_h sh τ) := by
  refine g_X (M := mX12_mostAlike) (loc := [.ref 0, .int p1, .int p2, .retAddr 0, .retAddr 0, .retAddr 0, .retAddr 0]) rfl (Nat.le_of_ble_eq_true rfl) rfl ?_
  unfold fX12_mostAlike at hE
  refine g_iconst (x := 0) aX12_mostAlike_0 rfl ?_
  refine g_stin (loc2 := [.ref 0, .int p1, .int p2, .int 0, .retAddr 0, .retAddr 0, .retAddr 0]) aX12_mostAlike_1 (Nat.le_of_ble_eq_true rfl) rfl ?_
  refine g_iconst (x := 0) aX12_mostAlike_2 rfl ?_
  refine g_sti (loc2 := [.ref 0, .int p1, .int p2, .int 0, .int 0, .retAddr 0, .retAddr 0]) aX12_mostAlike_3 (Nat.le_of_ble_eq_true rfl) rfl ?_
  exact tX12_mostAlike_L5 hsh i_F _ _ _ _ hE
theorem aX12_seed_0 : i_at mX12_seed.2.2.2.2.2 0 = some (.iload_n 1, 1, 0, 0, 0, 0) := by decide +kernel
theorem aX12_seed_1 : i_at mX12_seed.2.2.2.2.2 1 = some (.ifCond .ge 5, 3, 6, 0, 0, 0) := by decide +kernel
theorem aX12_seed_4 : i_at mX12_seed.2.2.2.2.2 4 = some (.iconst (-1), 1, 0, 0, 0, 0) := by decide +kernel
theorem aX12_seed_5 : i_at mX12_seed.2.2.2.2.2 5 = some (.ireturn, 1, 0, 0, 0, 0) := by decide +kernel
theorem aX12_seed_6 : i_at mX12_seed.2.2.2.2.2 6 = some (.aload_n 0, 1, 0, 0, 0, 0) := by decide +kernel
theorem aX12_seed_7 : i_at mX12_seed.2.2.2.2.2 7 = some (.getfield 9, 3, 11, 1, 1088, 0) := by decide +kernel
theorem aX12_seed_10 : i_at mX12_seed.2.2.2.2.2 10 = some (.bipush 9, 2, 0, 0, 0, 0) := by decide +kernel
theorem aX12_seed_12 : i_at mX12_seed.2.2.2.2.2 12 = some (.iaload, 1, 0, 0, 0, 0) := by decide +kernel
theorem aX12_seed_13 : i_at mX12_seed.2.2.2.2.2 13 = some (.istore_n 2, 1, 0, 0, 0, 0) := by decide +kernel
theorem aX12_seed_14 : i_at mX12_seed.2.2.2.2.2 14 = some (.aload_n 0, 1, 0, 0, 0, 0) := by decide +kernel
theorem aX12_seed_15 : i_at mX12_seed.2.2.2.2.2 15 = some (.getfield 9, 3, 11, 1, 1088, 0) := by decide +kernel
theorem aX12_seed_18 : i_at mX12_seed.2.2.2.2.2 18 = some (.bipush 9, 2, 0, 0, 0, 0) := by decide +kernel
theorem aX12_seed_20 : i_at mX12_seed.2.2.2.2.2 20 = some (.iload_n 1, 1, 0, 0, 0, 0) := by decide +kernel
theorem aX12_seed_21 : i_at mX12_seed.2.2.2.2.2 21 = some (.iastore, 1, 0, 0, 0, 0) := by decide +kernel
theorem aX12_seed_22 : i_at mX12_seed.2.2.2.2.2 22 = some (.iload_n 2, 1, 0, 0, 0, 0) := by decide +kernel
theorem aX12_seed_23 : i_at mX12_seed.2.2.2.2.2 23 = some (.ireturn, 1, 0, 0, 0, 0) := by decide +kernel
noncomputable def fX12_seed (sh : List kd) (σ : St) (p1 : Int32) : Option (Int32 × St) := if 0 ≤ p1 then if i_ok 9 11 then if i_ok 9 11 then some ((σ.2.1 1 (9 : Int32).toNatClampNeg), s_A σ 1 (9 : Int32).toNatClampNeg p1) else none else none else some ((-1), σ)
set_option maxRecDepth 20000 in
set_option maxHeartbeats 2000000 in
theorem tX12_seed {sh : List kd} {σ τ : St} {r : Int32} (hsh : rmSh sh) {p1 : Int32} (hE : fX12_seed sh σ p1 = some (r, τ)) : i_X 1 221 [.ref 0, .int p1] (s_h sh σ) 0 0 (some (.int r)) (s_h sh τ) := by
  refine g_X (M := mX12_seed) (loc := [.ref 0, .int p1, .retAddr 0]) rfl (Nat.le_of_ble_eq_true rfl) rfl ?_
  unfold fX12_seed at hE
  refine g_ldin aX12_seed_0 rfl ?_
  by_cases hc1 : 0 ≤ p1
  · rw [if_pos hc1] at hE
    refine g_if_ge_t aX12_seed_1 hc1 ?_
    refine g_ldan aX12_seed_6 rfl ?_
    refine g_getR aX12_seed_7 (sR_0 hsh) rfl ?_
    refine g_bipush (x := 9) aX12_seed_10 rfl ?_
    obtain ⟨h2, hE⟩ := i_ifn hE
    refine g_ild aX12_seed_12 (sR_1 hsh) h2 ?_
    refine g_stin (loc2 := [.ref 0, .int p1, .int (σ.2.1 1 (9 : Int32).toNatClampNeg)]) aX12_seed_13 (Nat.le_of_ble_eq_true rfl) rfl ?_
    refine g_ldan aX12_seed_14 rfl ?_
    refine g_getR aX12_seed_15 (sR_0 hsh) rfl ?_
    refine g_bipush (x := 9) aX12_seed_18 rfl ?_
    refine g_ldin aX12_seed_20 rfl ?_
    obtain ⟨h3, hE⟩ := i_ifn hE
    refine g_ist aX12_seed_21 (sR_1 hsh) h3 ?_
    refine g_ldin aX12_seed_22 rfl ?_
    obtain ⟨rfl, rfl⟩ := i_some_inj hE
    exact g_iret aX12_seed_23 rfl rfl
  · rw [if_neg hc1] at hE
    refine g_if_ge_f aX12_seed_1 hc1 ?_
    refine g_iconst (x := (-1)) aX12_seed_4 rfl ?_
    obtain ⟨rfl, rfl⟩ := i_some_inj hE
    exact g_iret aX12_seed_5 rfl rfl
theorem aX12_draws_0 : i_at mX12_draws.2.2.2.2.2 0 = some (.aload_n 0, 1, 0, 0, 0, 0) := by decide +kernel
theorem aX12_draws_1 : i_at mX12_draws.2.2.2.2.2 1 = some (.getfield 9, 3, 11, 1, 1088, 0) := by decide +kernel
theorem aX12_draws_4 : i_at mX12_draws.2.2.2.2.2 4 = some (.bipush 9, 2, 0, 0, 0, 0) := by decide +kernel
theorem aX12_draws_6 : i_at mX12_draws.2.2.2.2.2 6 = some (.aload_n 0, 1, 0, 0, 0, 0) := by decide +kernel
theorem aX12_draws_7 : i_at mX12_draws.2.2.2.2.2 7 = some (.getfield 9, 3, 11, 1, 1088, 0) := by decide +kernel
theorem aX12_draws_10 : i_at mX12_draws.2.2.2.2.2 10 = some (.bipush 9, 2, 0, 0, 0, 0) := by decide +kernel
theorem aX12_draws_12 : i_at mX12_draws.2.2.2.2.2 12 = some (.iaload, 1, 0, 0, 0, 0) := by decide +kernel
theorem aX12_draws_13 : i_at mX12_draws.2.2.2.2.2 13 = some (.i2l, 1, 0, 0, 0, 0) := by decide +kernel
theorem aX12_draws_14 : i_at mX12_draws.2.2.2.2.2 14 = some (.ldc2_w 455, 3, 0, 0, 1670, 1103515245) := by decide +kernel
theorem aX12_draws_17 : i_at mX12_draws.2.2.2.2.2 17 = some (.lmul, 1, 0, 0, 0, 0) := by decide +kernel
theorem aX12_draws_18 : i_at mX12_draws.2.2.2.2.2 18 = some (.ldc2_w 457, 3, 0, 0, 1671, 12345) := by decide +kernel
theorem aX12_draws_21 : i_at mX12_draws.2.2.2.2.2 21 = some (.ladd, 1, 0, 0, 0, 0) := by decide +kernel
theorem aX12_draws_22 : i_at mX12_draws.2.2.2.2.2 22 = some (.ldc2_w 459, 3, 0, 0, 1672, 2147483648) := by decide +kernel
theorem aX12_draws_25 : i_at mX12_draws.2.2.2.2.2 25 = some (.lrem, 1, 0, 0, 0, 0) := by decide +kernel
theorem aX12_draws_26 : i_at mX12_draws.2.2.2.2.2 26 = some (.l2i, 1, 0, 0, 0, 0) := by decide +kernel
theorem aX12_draws_27 : i_at mX12_draws.2.2.2.2.2 27 = some (.iastore, 1, 0, 0, 0, 0) := by decide +kernel
theorem aX12_draws_28 : i_at mX12_draws.2.2.2.2.2 28 = some (.aload_n 0, 1, 0, 0, 0, 0) := by decide +kernel
theorem aX12_draws_29 : i_at mX12_draws.2.2.2.2.2 29 = some (.getfield 9, 3, 11, 1, 1088, 0) := by decide +kernel
theorem aX12_draws_32 : i_at mX12_draws.2.2.2.2.2 32 = some (.bipush 9, 2, 0, 0, 0, 0) := by decide +kernel
theorem aX12_draws_34 : i_at mX12_draws.2.2.2.2.2 34 = some (.iaload, 1, 0, 0, 0, 0) := by decide +kernel
theorem aX12_draws_35 : i_at mX12_draws.2.2.2.2.2 35 = some (.ldc_w 461, 3, 0, 0, 1673, 65536) := by decide +kernel
theorem aX12_draws_38 : i_at mX12_draws.2.2.2.2.2 38 = some (.idiv, 1, 0, 0, 0, 0) := by decide +kernel
theorem aX12_draws_39 : i_at mX12_draws.2.2.2.2.2 39 = some (.iload_n 1, 1, 0, 0, 0, 0) := by decide +kernel
theorem aX12_draws_40 : i_at mX12_draws.2.2.2.2.2 40 = some (.irem, 1, 0, 0, 0, 0) := by decide +kernel
theorem aX12_draws_41 : i_at mX12_draws.2.2.2.2.2 41 = some (.ireturn, 1, 0, 0, 0, 0) := by decide +kernel
noncomputable def fX12_draws (sh : List kd) (σ : St) (p1 : Int32) : Option (Int32 × St) := if i_ok 9 11 then if i_ok 9 11 then i_jp (s_A σ 1 (9 : Int32).toNatClampNeg (((((σ.2.1 1 (9 : Int32).toNatClampNeg).toInt64 * 1103515245) + 12345) - (((σ.2.1 1 (9 : Int32).toNatClampNeg).toInt64 * 1103515245) + 12345) / 2147483648 * 2147483648).toInt32)) (fun (s3 : St) => if i_ok 9 11 then if p1 = 0 then none else some ((((s3.2.1 1 (9 : Int32).toNatClampNeg) / 65536) - ((s3.2.1 1 (9 : Int32).toNatClampNeg) / 65536) / p1 * p1), s3) else none) else none else none
set_option maxRecDepth 20000 in
set_option maxHeartbeats 2000000 in
theorem tX12_draws {sh : List kd} {σ τ : St} {r : Int32} (hsh : rmSh sh) {p1 : Int32} (hE : fX12_draws sh σ p1 = some (r, τ)) : i_X 1 222 [.ref 0, .int p1] (s_h sh σ) 0 0 (some (.int r)) (s_h sh τ) := by
  refine g_X (M := mX12_draws) (loc := [.ref 0, .int p1]) rfl (Nat.le_of_ble_eq_true rfl) rfl ?_
  unfold fX12_draws at hE
  refine g_ldan aX12_draws_0 rfl ?_
  refine g_getR aX12_draws_1 (sR_0 hsh) rfl ?_
  refine g_bipush (x := 9) aX12_draws_4 rfl ?_
  refine g_ldan aX12_draws_6 rfl ?_
  refine g_getR aX12_draws_7 (sR_0 hsh) rfl ?_
  refine g_bipush (x := 9) aX12_draws_10 rfl ?_
  obtain ⟨h1, hE⟩ := i_ifn hE
  refine g_ild aX12_draws_12 (sR_1 hsh) h1 ?_
  refine g_i2l aX12_draws_13 ?_
  refine g_ldc2 (x := 1103515245) aX12_draws_14 rfl ?_
  refine g_lmul aX12_draws_17 ?_
  refine g_ldc2 (x := 12345) aX12_draws_18 rfl ?_
  refine g_ladd aX12_draws_21 ?_
  refine g_ldc2 (x := 2147483648) aX12_draws_22 rfl ?_
  refine g_lrem aX12_draws_25 (by decide) ?_
  refine g_l2i aX12_draws_26 ?_
  obtain ⟨h2, hE⟩ := i_ifn hE
  refine g_ist aX12_draws_27 (sR_1 hsh) h2 ?_
  obtain ⟨s3, h4, hE⟩ := i_jp_some hE
  rw [← h4]
  refine g_ldan aX12_draws_28 rfl ?_
  refine g_getR aX12_draws_29 (sR_0 hsh) rfl ?_
  refine g_bipush (x := 9) aX12_draws_32 rfl ?_
  obtain ⟨h5, hE⟩ := i_ifn hE
  refine g_ild aX12_draws_34 (sR_1 hsh) h5 ?_
  refine g_ldcwI (x := 65536) aX12_draws_35 rfl rfl ?_
  refine g_idiv aX12_draws_38 (by decide) ?_
  refine g_ldin aX12_draws_39 rfl ?_
  obtain ⟨h6, hE⟩ := i_nif hE
  refine g_irem aX12_draws_40 h6 ?_
  obtain ⟨rfl, rfl⟩ := i_some_inj hE
  exact g_iret aX12_draws_41 rfl rfl
theorem aX12_allRank_0 : i_at mX12_allRank.2.2.2.2.2 0 = some (.iconst 0, 1, 0, 0, 0, 0) := by decide +kernel
theorem aX12_allRank_1 : i_at mX12_allRank.2.2.2.2.2 1 = some (.istore_n 1, 1, 0, 0, 0, 0) := by decide +kernel
theorem aX12_allRank_2 : i_at mX12_allRank.2.2.2.2.2 2 = some (.iconst 0, 1, 0, 0, 0, 0) := by decide +kernel
theorem aX12_allRank_3 : i_at mX12_allRank.2.2.2.2.2 3 = some (.istore_n 2, 1, 0, 0, 0, 0) := by decide +kernel
theorem aX12_allRank_4 : i_at mX12_allRank.2.2.2.2.2 4 = some (.iload_n 2, 1, 0, 0, 0, 0) := by decide +kernel
theorem aX12_allRank_5 : i_at mX12_allRank.2.2.2.2.2 5 = some (.aload_n 0, 1, 0, 0, 0, 0) := by decide +kernel
theorem aX12_allRank_6 : i_at mX12_allRank.2.2.2.2.2 6 = some (.getfield 9, 3, 11, 1, 1088, 0) := by decide +kernel
theorem aX12_allRank_9 : i_at mX12_allRank.2.2.2.2.2 9 = some (.iconst 3, 1, 0, 0, 0, 0) := by decide +kernel
theorem aX12_allRank_10 : i_at mX12_allRank.2.2.2.2.2 10 = some (.iaload, 1, 0, 0, 0, 0) := by decide +kernel
theorem aX12_allRank_11 : i_at mX12_allRank.2.2.2.2.2 11 = some (.if_icmp .ge 17, 3, 28, 0, 0, 0) := by decide +kernel
theorem aX12_allRank_14 : i_at mX12_allRank.2.2.2.2.2 14 = some (.iload_n 1, 1, 0, 0, 0, 0) := by decide +kernel
theorem aX12_allRank_15 : i_at mX12_allRank.2.2.2.2.2 15 = some (.aload_n 0, 1, 0, 0, 0, 0) := by decide +kernel
theorem aX12_allRank_16 : i_at mX12_allRank.2.2.2.2.2 16 = some (.iload_n 2, 1, 0, 0, 0, 0) := by decide +kernel
theorem aX12_allRank_17 : i_at mX12_allRank.2.2.2.2.2 17 = some (.invokevirtual 354, 3, 177, 1, 1450, 0) := by decide +kernel
theorem aX12_allRank_20 : i_at mX12_allRank.2.2.2.2.2 20 = some (.iadd, 1, 0, 0, 0, 0) := by decide +kernel
theorem aX12_allRank_21 : i_at mX12_allRank.2.2.2.2.2 21 = some (.istore_n 1, 1, 0, 0, 0, 0) := by decide +kernel
theorem aX12_allRank_22 : i_at mX12_allRank.2.2.2.2.2 22 = some (.iinc 2 1, 3, 0, 0, 0, 0) := by decide +kernel
theorem aX12_allRank_25 : i_at mX12_allRank.2.2.2.2.2 25 = some (.goto (-21), 3, 4, 0, 0, 0) := by decide +kernel
theorem aX12_allRank_28 : i_at mX12_allRank.2.2.2.2.2 28 = some (.iload_n 1, 1, 0, 0, 0, 0) := by decide +kernel
theorem aX12_allRank_29 : i_at mX12_allRank.2.2.2.2.2 29 = some (.ireturn, 1, 0, 0, 0, 0) := by decide +kernel
noncomputable def fX12_allRank_L4 (sh : List kd) : Nat → Int32 → Int32 → St → Option (Int32 × St)
  | 0, _, _, _ => none
  | n4 + 1, x1, x2, s3 => if i_ok 3 11 then if (s3.2.1 1 (3 : Int32).toNatClampNeg) ≤ x2 then some (x1, s3) else i_bd (fX12_rankOf sh s3 x2) (fun r57 s58 => (fX12_allRank_L4 sh n4 (x1 + r57) (x2 + 1) s58)) else none
noncomputable def fX12_allRank (sh : List kd) (σ : St) : Option (Int32 × St) := fX12_allRank_L4 sh i_F 0 0 σ
set_option maxRecDepth 20000 in
set_option maxHeartbeats 2000000 in
theorem tX12_allRank_L4 {sh : List kd} {τ : St} {r : Int32} (hsh : rmSh sh) : ∀ (n0 : Nat) (x1 : Int32) (x2 : Int32) (s3 : St), fX12_allRank_L4 sh n0 x1 x2 s3 = some (r, τ) → g_R sh 2 mX12_allRank (some (.int r)) τ 4 [.ref 0, .int x1, .int x2] [] (s3) := by
  intro n0
  induction n0 with
  | zero => intro _ _ _ hE; cases hE
  | succ n4 ih =>
    intro x1 x2 s3 hE
    unfold fX12_allRank_L4 at hE
    refine g_ldin aX12_allRank_4 rfl ?_
    refine g_ldan aX12_allRank_5 rfl ?_
    refine g_getR aX12_allRank_6 (sR_0 hsh) rfl ?_
    refine g_iconst (x := 3) aX12_allRank_9 rfl ?_
    obtain ⟨h5, hE⟩ := i_ifn hE
    refine g_ild aX12_allRank_10 (sR_1 hsh) h5 ?_
    by_cases hc56 : (s3.2.1 1 (3 : Int32).toNatClampNeg) ≤ x2
    · rw [if_pos hc56] at hE
      refine g_ic_ge_t aX12_allRank_11 hc56 ?_
      refine g_ldin aX12_allRank_28 rfl ?_
      obtain ⟨rfl, rfl⟩ := i_some_inj hE
      exact g_iret aX12_allRank_29 rfl rfl
    · rw [if_neg hc56] at hE
      refine g_ic_ge_f aX12_allRank_11 hc56 ?_
      refine g_ldin aX12_allRank_14 rfl ?_
      refine g_ldan aX12_allRank_15 rfl ?_
      refine g_ldin aX12_allRank_16 rfl ?_
      obtain ⟨r57, s58, h59, hE⟩ := i_bd_some hE
      refine g_calV (As := [.int x2]) (rest := [.int x1]) aX12_allRank_17 (i_X_mono (by omega) (tX12_rankOf hsh h59)) (sR_0 hsh) (by decide +kernel) rfl rfl (Nat.le_of_ble_eq_true rfl) rfl ?_
      refine g_iadd aX12_allRank_20 ?_
      refine g_stin (loc2 := [.ref 0, .int (x1 + r57), .int x2]) aX12_allRank_21 (Nat.le_of_ble_eq_true rfl) rfl ?_
      refine g_iinc (y := 1) (loc2 := [.ref 0, .int (x1 + r57), .int (x2 + 1)]) aX12_allRank_22 rfl rfl rfl ?_
      refine g_goto aX12_allRank_25 ?_
      exact ih _ _ _ hE
set_option maxRecDepth 20000 in
set_option maxHeartbeats 2000000 in
theorem tX12_allRank {sh : List kd} {σ τ : St} {r : Int32} (hsh : rmSh sh) (hE : fX12_allRank sh σ = some (r, τ)) : i_X 3 223 [.ref 0] (s_h sh σ) 0 0 (some (.int r)) (s_h sh τ) := by
  refine g_X (M := mX12_allRank) (loc := [.ref 0, .retAddr 0, .retAddr 0]) rfl (Nat.le_of_ble_eq_true rfl) rfl ?_
  unfold fX12_allRank at hE
  refine g_iconst (x := 0) aX12_allRank_0 rfl ?_
  refine g_stin (loc2 := [.ref 0, .int 0, .retAddr 0]) aX12_allRank_1 (Nat.le_of_ble_eq_true rfl) rfl ?_
  refine g_iconst (x := 0) aX12_allRank_2 rfl ?_
  refine g_stin (loc2 := [.ref 0, .int 0, .int 0]) aX12_allRank_3 (Nat.le_of_ble_eq_true rfl) rfl ?_
  exact tX12_allRank_L4 hsh i_F _ _ _ hE
theorem aX12_count_0 : i_at mX12_count.2.2.2.2.2 0 = some (.iload_n 1, 1, 0, 0, 0, 0) := by decide +kernel
theorem aX12_count_1 : i_at mX12_count.2.2.2.2.2 1 = some (.tableswitch 177 0 14 #[75, 82, 89, 96, 103, 108, 116, 123, 130, 138, 146, 151, 159, 164, 172], 75, 0, 0, 0, 0) := by decide +kernel
theorem aX12_count_76 : i_at mX12_count.2.2.2.2.2 76 = some (.aload_n 0, 1, 0, 0, 0, 0) := by decide +kernel
theorem aX12_count_77 : i_at mX12_count.2.2.2.2.2 77 = some (.getfield 9, 3, 11, 1, 1088, 0) := by decide +kernel
theorem aX12_count_80 : i_at mX12_count.2.2.2.2.2 80 = some (.iconst 0, 1, 0, 0, 0, 0) := by decide +kernel
theorem aX12_count_81 : i_at mX12_count.2.2.2.2.2 81 = some (.iaload, 1, 0, 0, 0, 0) := by decide +kernel
theorem aX12_count_82 : i_at mX12_count.2.2.2.2.2 82 = some (.ireturn, 1, 0, 0, 0, 0) := by decide +kernel
theorem aX12_count_83 : i_at mX12_count.2.2.2.2.2 83 = some (.aload_n 0, 1, 0, 0, 0, 0) := by decide +kernel
theorem aX12_count_84 : i_at mX12_count.2.2.2.2.2 84 = some (.getfield 9, 3, 11, 1, 1088, 0) := by decide +kernel
theorem aX12_count_87 : i_at mX12_count.2.2.2.2.2 87 = some (.iconst 1, 1, 0, 0, 0, 0) := by decide +kernel
theorem aX12_count_88 : i_at mX12_count.2.2.2.2.2 88 = some (.iaload, 1, 0, 0, 0, 0) := by decide +kernel
theorem aX12_count_89 : i_at mX12_count.2.2.2.2.2 89 = some (.ireturn, 1, 0, 0, 0, 0) := by decide +kernel
theorem aX12_count_90 : i_at mX12_count.2.2.2.2.2 90 = some (.aload_n 0, 1, 0, 0, 0, 0) := by decide +kernel
theorem aX12_count_91 : i_at mX12_count.2.2.2.2.2 91 = some (.getfield 9, 3, 11, 1, 1088, 0) := by decide +kernel
theorem aX12_count_94 : i_at mX12_count.2.2.2.2.2 94 = some (.iconst 2, 1, 0, 0, 0, 0) := by decide +kernel
theorem aX12_count_95 : i_at mX12_count.2.2.2.2.2 95 = some (.iaload, 1, 0, 0, 0, 0) := by decide +kernel
theorem aX12_count_96 : i_at mX12_count.2.2.2.2.2 96 = some (.ireturn, 1, 0, 0, 0, 0) := by decide +kernel
theorem aX12_count_97 : i_at mX12_count.2.2.2.2.2 97 = some (.aload_n 0, 1, 0, 0, 0, 0) := by decide +kernel
theorem aX12_count_98 : i_at mX12_count.2.2.2.2.2 98 = some (.getfield 9, 3, 11, 1, 1088, 0) := by decide +kernel
theorem aX12_count_101 : i_at mX12_count.2.2.2.2.2 101 = some (.iconst 3, 1, 0, 0, 0, 0) := by decide +kernel
theorem aX12_count_102 : i_at mX12_count.2.2.2.2.2 102 = some (.iaload, 1, 0, 0, 0, 0) := by decide +kernel
theorem aX12_count_103 : i_at mX12_count.2.2.2.2.2 103 = some (.ireturn, 1, 0, 0, 0, 0) := by decide +kernel
theorem aX12_count_104 : i_at mX12_count.2.2.2.2.2 104 = some (.aload_n 0, 1, 0, 0, 0, 0) := by decide +kernel
theorem aX12_count_105 : i_at mX12_count.2.2.2.2.2 105 = some (.getfield 318, 3, 11, 23, 1110, 0) := by decide +kernel
theorem aX12_count_108 : i_at mX12_count.2.2.2.2.2 108 = some (.ireturn, 1, 0, 0, 0, 0) := by decide +kernel
theorem aX12_count_109 : i_at mX12_count.2.2.2.2.2 109 = some (.aload_n 0, 1, 0, 0, 0, 0) := by decide +kernel
theorem aX12_count_110 : i_at mX12_count.2.2.2.2.2 110 = some (.getfield 9, 3, 11, 1, 1088, 0) := by decide +kernel
theorem aX12_count_113 : i_at mX12_count.2.2.2.2.2 113 = some (.bipush 10, 2, 0, 0, 0, 0) := by decide +kernel
theorem aX12_count_115 : i_at mX12_count.2.2.2.2.2 115 = some (.iaload, 1, 0, 0, 0, 0) := by decide +kernel
theorem aX12_count_116 : i_at mX12_count.2.2.2.2.2 116 = some (.ireturn, 1, 0, 0, 0, 0) := by decide +kernel
theorem aX12_count_117 : i_at mX12_count.2.2.2.2.2 117 = some (.aload_n 0, 1, 0, 0, 0, 0) := by decide +kernel
theorem aX12_count_118 : i_at mX12_count.2.2.2.2.2 118 = some (.getfield 9, 3, 11, 1, 1088, 0) := by decide +kernel
theorem aX12_count_121 : i_at mX12_count.2.2.2.2.2 121 = some (.iconst 4, 1, 0, 0, 0, 0) := by decide +kernel
theorem aX12_count_122 : i_at mX12_count.2.2.2.2.2 122 = some (.iaload, 1, 0, 0, 0, 0) := by decide +kernel
theorem aX12_count_123 : i_at mX12_count.2.2.2.2.2 123 = some (.ireturn, 1, 0, 0, 0, 0) := by decide +kernel
theorem aX12_count_124 : i_at mX12_count.2.2.2.2.2 124 = some (.aload_n 0, 1, 0, 0, 0, 0) := by decide +kernel
theorem aX12_count_125 : i_at mX12_count.2.2.2.2.2 125 = some (.getfield 9, 3, 11, 1, 1088, 0) := by decide +kernel
theorem aX12_count_128 : i_at mX12_count.2.2.2.2.2 128 = some (.iconst 5, 1, 0, 0, 0, 0) := by decide +kernel
theorem aX12_count_129 : i_at mX12_count.2.2.2.2.2 129 = some (.iaload, 1, 0, 0, 0, 0) := by decide +kernel
theorem aX12_count_130 : i_at mX12_count.2.2.2.2.2 130 = some (.ireturn, 1, 0, 0, 0, 0) := by decide +kernel
theorem aX12_count_131 : i_at mX12_count.2.2.2.2.2 131 = some (.aload_n 0, 1, 0, 0, 0, 0) := by decide +kernel
theorem aX12_count_132 : i_at mX12_count.2.2.2.2.2 132 = some (.getfield 9, 3, 11, 1, 1088, 0) := by decide +kernel
theorem aX12_count_135 : i_at mX12_count.2.2.2.2.2 135 = some (.bipush 6, 2, 0, 0, 0, 0) := by decide +kernel
theorem aX12_count_137 : i_at mX12_count.2.2.2.2.2 137 = some (.iaload, 1, 0, 0, 0, 0) := by decide +kernel
theorem aX12_count_138 : i_at mX12_count.2.2.2.2.2 138 = some (.ireturn, 1, 0, 0, 0, 0) := by decide +kernel
theorem aX12_count_139 : i_at mX12_count.2.2.2.2.2 139 = some (.aload_n 0, 1, 0, 0, 0, 0) := by decide +kernel
theorem aX12_count_140 : i_at mX12_count.2.2.2.2.2 140 = some (.getfield 9, 3, 11, 1, 1088, 0) := by decide +kernel
theorem aX12_count_143 : i_at mX12_count.2.2.2.2.2 143 = some (.bipush 7, 2, 0, 0, 0, 0) := by decide +kernel
theorem aX12_count_145 : i_at mX12_count.2.2.2.2.2 145 = some (.iaload, 1, 0, 0, 0, 0) := by decide +kernel
theorem aX12_count_146 : i_at mX12_count.2.2.2.2.2 146 = some (.ireturn, 1, 0, 0, 0, 0) := by decide +kernel
theorem aX12_count_147 : i_at mX12_count.2.2.2.2.2 147 = some (.aload_n 0, 1, 0, 0, 0, 0) := by decide +kernel
theorem aX12_count_148 : i_at mX12_count.2.2.2.2.2 148 = some (.invokevirtual 357, 3, 179, 0, 1493, 0) := by decide +kernel
theorem aX12_count_151 : i_at mX12_count.2.2.2.2.2 151 = some (.ireturn, 1, 0, 0, 0, 0) := by decide +kernel
theorem aX12_count_152 : i_at mX12_count.2.2.2.2.2 152 = some (.aload_n 0, 1, 0, 0, 0, 0) := by decide +kernel
theorem aX12_count_153 : i_at mX12_count.2.2.2.2.2 153 = some (.getfield 9, 3, 11, 1, 1088, 0) := by decide +kernel
theorem aX12_count_156 : i_at mX12_count.2.2.2.2.2 156 = some (.bipush 8, 2, 0, 0, 0, 0) := by decide +kernel
theorem aX12_count_158 : i_at mX12_count.2.2.2.2.2 158 = some (.iaload, 1, 0, 0, 0, 0) := by decide +kernel
theorem aX12_count_159 : i_at mX12_count.2.2.2.2.2 159 = some (.ireturn, 1, 0, 0, 0, 0) := by decide +kernel
theorem aX12_count_160 : i_at mX12_count.2.2.2.2.2 160 = some (.aload_n 0, 1, 0, 0, 0, 0) := by decide +kernel
theorem aX12_count_161 : i_at mX12_count.2.2.2.2.2 161 = some (.getfield 305, 3, 11, 41, 1128, 0) := by decide +kernel
theorem aX12_count_164 : i_at mX12_count.2.2.2.2.2 164 = some (.ireturn, 1, 0, 0, 0, 0) := by decide +kernel
theorem aX12_count_165 : i_at mX12_count.2.2.2.2.2 165 = some (.aload_n 0, 1, 0, 0, 0, 0) := by decide +kernel
theorem aX12_count_166 : i_at mX12_count.2.2.2.2.2 166 = some (.getfield 9, 3, 11, 1, 1088, 0) := by decide +kernel
theorem aX12_count_169 : i_at mX12_count.2.2.2.2.2 169 = some (.bipush 9, 2, 0, 0, 0, 0) := by decide +kernel
theorem aX12_count_171 : i_at mX12_count.2.2.2.2.2 171 = some (.iaload, 1, 0, 0, 0, 0) := by decide +kernel
theorem aX12_count_172 : i_at mX12_count.2.2.2.2.2 172 = some (.ireturn, 1, 0, 0, 0, 0) := by decide +kernel
theorem aX12_count_173 : i_at mX12_count.2.2.2.2.2 173 = some (.aload_n 0, 1, 0, 0, 0, 0) := by decide +kernel
theorem aX12_count_174 : i_at mX12_count.2.2.2.2.2 174 = some (.getfield 135, 3, 11, 19, 1106, 0) := by decide +kernel
theorem aX12_count_177 : i_at mX12_count.2.2.2.2.2 177 = some (.ireturn, 1, 0, 0, 0, 0) := by decide +kernel
theorem aX12_count_178 : i_at mX12_count.2.2.2.2.2 178 = some (.iconst (-1), 1, 0, 0, 0, 0) := by decide +kernel
theorem aX12_count_179 : i_at mX12_count.2.2.2.2.2 179 = some (.ireturn, 1, 0, 0, 0, 0) := by decide +kernel
noncomputable def fX12_count (sh : List kd) (σ : St) (p1 : Int32) : Option (Int32 × St) := if p1 = 0 then if i_ok 0 11 then some ((σ.2.1 1 (0 : Int32).toNatClampNeg), σ) else none else if p1 = 1 then if i_ok 1 11 then some ((σ.2.1 1 (1 : Int32).toNatClampNeg), σ) else none else if p1 = 2 then if i_ok 2 11 then some ((σ.2.1 1 (2 : Int32).toNatClampNeg), σ) else none else if p1 = 3 then if i_ok 3 11 then some ((σ.2.1 1 (3 : Int32).toNatClampNeg), σ) else none else if p1 = 4 then some ((σ.1 0 23), σ) else if p1 = 5 then if i_ok 10 11 then some ((σ.2.1 1 (10 : Int32).toNatClampNeg), σ) else none else if p1 = 6 then if i_ok 4 11 then some ((σ.2.1 1 (4 : Int32).toNatClampNeg), σ) else none else if p1 = 7 then if i_ok 5 11 then some ((σ.2.1 1 (5 : Int32).toNatClampNeg), σ) else none else if p1 = 8 then if i_ok 6 11 then some ((σ.2.1 1 (6 : Int32).toNatClampNeg), σ) else none else if p1 = 9 then if i_ok 7 11 then some ((σ.2.1 1 (7 : Int32).toNatClampNeg), σ) else none else if p1 = 10 then i_bd (fX12_knights sh σ) (fun r21 s22 => some (r21, s22)) else if p1 = 11 then if i_ok 8 11 then some ((σ.2.1 1 (8 : Int32).toNatClampNeg), σ) else none else if p1 = 12 then some ((σ.1 0 41), σ) else if p1 = 13 then if i_ok 9 11 then some ((σ.2.1 1 (9 : Int32).toNatClampNeg), σ) else none else if p1 = 14 then some ((σ.1 0 19), σ) else some ((-1), σ)
set_option maxRecDepth 20000 in
set_option maxHeartbeats 2000000 in
theorem tX12_count {sh : List kd} {σ τ : St} {r : Int32} (hsh : rmSh sh) {p1 : Int32} (hE : fX12_count sh σ p1 = some (r, τ)) : i_X 2 225 [.ref 0, .int p1] (s_h sh σ) 0 0 (some (.int r)) (s_h sh τ) := by
  refine g_X (M := mX12_count) (loc := [.ref 0, .int p1]) rfl (Nat.le_of_ble_eq_true rfl) rfl ?_
  unfold fX12_count at hE
  refine g_ldin aX12_count_0 rfl ?_
  by_cases hc1 : p1 = 0
  · rw [if_pos hc1] at hE
    refine g_tabIn (i := 0) aX12_count_1 (by rw [hc1]; decide) (by decide) rfl rfl ?_
    refine g_ldan aX12_count_76 rfl ?_
    refine g_getR aX12_count_77 (sR_0 hsh) rfl ?_
    refine g_iconst (x := 0) aX12_count_80 rfl ?_
    obtain ⟨h2, hE⟩ := i_ifn hE
    refine g_ild aX12_count_81 (sR_1 hsh) h2 ?_
    obtain ⟨rfl, rfl⟩ := i_some_inj hE
    exact g_iret aX12_count_82 rfl rfl
  · rw [if_neg hc1] at hE
    by_cases hc3 : p1 = 1
    · rw [if_pos hc3] at hE
      refine g_tabIn (i := 1) aX12_count_1 (by rw [hc3]; decide) (by decide) rfl rfl ?_
      refine g_ldan aX12_count_83 rfl ?_
      refine g_getR aX12_count_84 (sR_0 hsh) rfl ?_
      refine g_iconst (x := 1) aX12_count_87 rfl ?_
      obtain ⟨h4, hE⟩ := i_ifn hE
      refine g_ild aX12_count_88 (sR_1 hsh) h4 ?_
      obtain ⟨rfl, rfl⟩ := i_some_inj hE
      exact g_iret aX12_count_89 rfl rfl
    · rw [if_neg hc3] at hE
      by_cases hc5 : p1 = 2
      · rw [if_pos hc5] at hE
        refine g_tabIn (i := 2) aX12_count_1 (by rw [hc5]; decide) (by decide) rfl rfl ?_
        refine g_ldan aX12_count_90 rfl ?_
        refine g_getR aX12_count_91 (sR_0 hsh) rfl ?_
        refine g_iconst (x := 2) aX12_count_94 rfl ?_
        obtain ⟨h6, hE⟩ := i_ifn hE
        refine g_ild aX12_count_95 (sR_1 hsh) h6 ?_
        obtain ⟨rfl, rfl⟩ := i_some_inj hE
        exact g_iret aX12_count_96 rfl rfl
      · rw [if_neg hc5] at hE
        by_cases hc7 : p1 = 3
        · rw [if_pos hc7] at hE
          refine g_tabIn (i := 3) aX12_count_1 (by rw [hc7]; decide) (by decide) rfl rfl ?_
          refine g_ldan aX12_count_97 rfl ?_
          refine g_getR aX12_count_98 (sR_0 hsh) rfl ?_
          refine g_iconst (x := 3) aX12_count_101 rfl ?_
          obtain ⟨h8, hE⟩ := i_ifn hE
          refine g_ild aX12_count_102 (sR_1 hsh) h8 ?_
          obtain ⟨rfl, rfl⟩ := i_some_inj hE
          exact g_iret aX12_count_103 rfl rfl
        · rw [if_neg hc7] at hE
          by_cases hc9 : p1 = 4
          · rw [if_pos hc9] at hE
            refine g_tabIn (i := 4) aX12_count_1 (by rw [hc9]; decide) (by decide) rfl rfl ?_
            refine g_ldan aX12_count_104 rfl ?_
            refine g_getI aX12_count_105 (sR_0 hsh) rfl ?_
            obtain ⟨rfl, rfl⟩ := i_some_inj hE
            exact g_iret aX12_count_108 rfl rfl
          · rw [if_neg hc9] at hE
            by_cases hc10 : p1 = 5
            · rw [if_pos hc10] at hE
              refine g_tabIn (i := 5) aX12_count_1 (by rw [hc10]; decide) (by decide) rfl rfl ?_
              refine g_ldan aX12_count_109 rfl ?_
              refine g_getR aX12_count_110 (sR_0 hsh) rfl ?_
              refine g_bipush (x := 10) aX12_count_113 rfl ?_
              obtain ⟨h11, hE⟩ := i_ifn hE
              refine g_ild aX12_count_115 (sR_1 hsh) h11 ?_
              obtain ⟨rfl, rfl⟩ := i_some_inj hE
              exact g_iret aX12_count_116 rfl rfl
            · rw [if_neg hc10] at hE
              by_cases hc12 : p1 = 6
              · rw [if_pos hc12] at hE
                refine g_tabIn (i := 6) aX12_count_1 (by rw [hc12]; decide) (by decide) rfl rfl ?_
                refine g_ldan aX12_count_117 rfl ?_
                refine g_getR aX12_count_118 (sR_0 hsh) rfl ?_
                refine g_iconst (x := 4) aX12_count_121 rfl ?_
                obtain ⟨h13, hE⟩ := i_ifn hE
                refine g_ild aX12_count_122 (sR_1 hsh) h13 ?_
                obtain ⟨rfl, rfl⟩ := i_some_inj hE
                exact g_iret aX12_count_123 rfl rfl
              · rw [if_neg hc12] at hE
                by_cases hc14 : p1 = 7
                · rw [if_pos hc14] at hE
                  refine g_tabIn (i := 7) aX12_count_1 (by rw [hc14]; decide) (by decide) rfl rfl ?_
                  refine g_ldan aX12_count_124 rfl ?_
                  refine g_getR aX12_count_125 (sR_0 hsh) rfl ?_
                  refine g_iconst (x := 5) aX12_count_128 rfl ?_
                  obtain ⟨h15, hE⟩ := i_ifn hE
                  refine g_ild aX12_count_129 (sR_1 hsh) h15 ?_
                  obtain ⟨rfl, rfl⟩ := i_some_inj hE
                  exact g_iret aX12_count_130 rfl rfl
                · rw [if_neg hc14] at hE
                  by_cases hc16 : p1 = 8
                  · rw [if_pos hc16] at hE
                    refine g_tabIn (i := 8) aX12_count_1 (by rw [hc16]; decide) (by decide) rfl rfl ?_
                    refine g_ldan aX12_count_131 rfl ?_
                    refine g_getR aX12_count_132 (sR_0 hsh) rfl ?_
                    refine g_bipush (x := 6) aX12_count_135 rfl ?_
                    obtain ⟨h17, hE⟩ := i_ifn hE
                    refine g_ild aX12_count_137 (sR_1 hsh) h17 ?_
                    obtain ⟨rfl, rfl⟩ := i_some_inj hE
                    exact g_iret aX12_count_138 rfl rfl
                  · rw [if_neg hc16] at hE
                    by_cases hc18 : p1 = 9
                    · rw [if_pos hc18] at hE
                      refine g_tabIn (i := 9) aX12_count_1 (by rw [hc18]; decide) (by decide) rfl rfl ?_
                      refine g_ldan aX12_count_139 rfl ?_
                      refine g_getR aX12_count_140 (sR_0 hsh) rfl ?_
                      refine g_bipush (x := 7) aX12_count_143 rfl ?_
                      obtain ⟨h19, hE⟩ := i_ifn hE
                      refine g_ild aX12_count_145 (sR_1 hsh) h19 ?_
                      obtain ⟨rfl, rfl⟩ := i_some_inj hE
                      exact g_iret aX12_count_146 rfl rfl
                    · rw [if_neg hc18] at hE
                      by_cases hc20 : p1 = 10
                      · rw [if_pos hc20] at hE
                        refine g_tabIn (i := 10) aX12_count_1 (by rw [hc20]; decide) (by decide) rfl rfl ?_
                        refine g_ldan aX12_count_147 rfl ?_
                        obtain ⟨r21, s22, h23, hE⟩ := i_bd_some hE
                        refine g_calV (As := []) (rest := []) aX12_count_148 (i_X_mono (by omega) (tX12_knights hsh h23)) (sR_0 hsh) (by decide +kernel) rfl rfl (Nat.le_of_ble_eq_true rfl) rfl ?_
                        obtain ⟨rfl, rfl⟩ := i_some_inj hE
                        exact g_iret aX12_count_151 rfl rfl
                      · rw [if_neg hc20] at hE
                        by_cases hc24 : p1 = 11
                        · rw [if_pos hc24] at hE
                          refine g_tabIn (i := 11) aX12_count_1 (by rw [hc24]; decide) (by decide) rfl rfl ?_
                          refine g_ldan aX12_count_152 rfl ?_
                          refine g_getR aX12_count_153 (sR_0 hsh) rfl ?_
                          refine g_bipush (x := 8) aX12_count_156 rfl ?_
                          obtain ⟨h25, hE⟩ := i_ifn hE
                          refine g_ild aX12_count_158 (sR_1 hsh) h25 ?_
                          obtain ⟨rfl, rfl⟩ := i_some_inj hE
                          exact g_iret aX12_count_159 rfl rfl
                        · rw [if_neg hc24] at hE
                          by_cases hc26 : p1 = 12
                          · rw [if_pos hc26] at hE
                            refine g_tabIn (i := 12) aX12_count_1 (by rw [hc26]; decide) (by decide) rfl rfl ?_
                            refine g_ldan aX12_count_160 rfl ?_
                            refine g_getI aX12_count_161 (sR_0 hsh) rfl ?_
                            obtain ⟨rfl, rfl⟩ := i_some_inj hE
                            exact g_iret aX12_count_164 rfl rfl
                          · rw [if_neg hc26] at hE
                            by_cases hc27 : p1 = 13
                            · rw [if_pos hc27] at hE
                              refine g_tabIn (i := 13) aX12_count_1 (by rw [hc27]; decide) (by decide) rfl rfl ?_
                              refine g_ldan aX12_count_165 rfl ?_
                              refine g_getR aX12_count_166 (sR_0 hsh) rfl ?_
                              refine g_bipush (x := 9) aX12_count_169 rfl ?_
                              obtain ⟨h28, hE⟩ := i_ifn hE
                              refine g_ild aX12_count_171 (sR_1 hsh) h28 ?_
                              obtain ⟨rfl, rfl⟩ := i_some_inj hE
                              exact g_iret aX12_count_172 rfl rfl
                            · rw [if_neg hc27] at hE
                              by_cases hc29 : p1 = 14
                              · rw [if_pos hc29] at hE
                                refine g_tabIn (i := 14) aX12_count_1 (by rw [hc29]; decide) (by decide) rfl rfl ?_
                                refine g_ldan aX12_count_173 rfl ?_
                                refine g_getI aX12_count_174 (sR_0 hsh) rfl ?_
                                obtain ⟨rfl, rfl⟩ := i_some_inj hE
                                exact g_iret aX12_count_177 rfl rfl
                              · rw [if_neg hc29] at hE
                                have hto30 : p1.toInt < ((0 : Nat) : Int) ∨ ((14 : Nat) : Int) < p1.toInt := by
                                  refine i_tabo (x := p1) 0 14 (by decide) (fun k k1 k2 => ?_)
                                  rcases (show k = 0 ∨ k = 1 ∨ k = 2 ∨ k = 3 ∨ k = 4 ∨ k = 5 ∨ k = 6 ∨ k = 7 ∨ k = 8 ∨ k = 9 ∨ k = 10 ∨ k = 11 ∨ k = 12 ∨ k = 13 ∨ k = 14 by omega) with rfl | rfl | rfl | rfl | rfl | rfl | rfl | rfl | rfl | rfl | rfl | rfl | rfl | rfl | rfl
                                  · exact fun hz => hc1 hz
                                  · exact fun hz => hc3 hz
                                  · exact fun hz => hc5 hz
                                  · exact fun hz => hc7 hz
                                  · exact fun hz => hc9 hz
                                  · exact fun hz => hc10 hz
                                  · exact fun hz => hc12 hz
                                  · exact fun hz => hc14 hz
                                  · exact fun hz => hc16 hz
                                  · exact fun hz => hc18 hz
                                  · exact fun hz => hc20 hz
                                  · exact fun hz => hc24 hz
                                  · exact fun hz => hc26 hz
                                  · exact fun hz => hc27 hz
                                  · exact fun hz => hc29 hz
                                refine g_tabOut aX12_count_1 hto30 rfl ?_
                                refine g_iconst (x := (-1)) aX12_count_178 rfl ?_
                                obtain ⟨rfl, rfl⟩ := i_some_inj hE
                                exact g_iret aX12_count_179 rfl rfl
theorem aX12_carryRow_0 : i_at mX12_carryRow.2.2.2.2.2 0 = some (.iconst 0, 1, 0, 0, 0, 0) := by decide +kernel
theorem aX12_carryRow_1 : i_at mX12_carryRow.2.2.2.2.2 1 = some (.istore_n 2, 1, 0, 0, 0, 0) := by decide +kernel
theorem aX12_carryRow_2 : i_at mX12_carryRow.2.2.2.2.2 2 = some (.iload_n 2, 1, 0, 0, 0, 0) := by decide +kernel
theorem aX12_carryRow_3 : i_at mX12_carryRow.2.2.2.2.2 3 = some (.aload_n 1, 1, 0, 0, 0, 0) := by decide +kernel
theorem aX12_carryRow_4 : i_at mX12_carryRow.2.2.2.2.2 4 = some (.arraylength, 1, 0, 0, 0, 0) := by decide +kernel
theorem aX12_carryRow_5 : i_at mX12_carryRow.2.2.2.2.2 5 = some (.if_icmp .ge 53, 3, 58, 0, 0, 0) := by decide +kernel
theorem aX12_carryRow_8 : i_at mX12_carryRow.2.2.2.2.2 8 = some (.aload_n 0, 1, 0, 0, 0, 0) := by decide +kernel
theorem aX12_carryRow_9 : i_at mX12_carryRow.2.2.2.2.2 9 = some (.getfield 470, 3, 11, 52, 1139, 0) := by decide +kernel
theorem aX12_carryRow_12 : i_at mX12_carryRow.2.2.2.2.2 12 = some (.ifCond .eq 18, 3, 30, 0, 0, 0) := by decide +kernel
theorem aX12_carryRow_15 : i_at mX12_carryRow.2.2.2.2.2 15 = some (.aload_n 1, 1, 0, 0, 0, 0) := by decide +kernel
theorem aX12_carryRow_16 : i_at mX12_carryRow.2.2.2.2.2 16 = some (.iload_n 2, 1, 0, 0, 0, 0) := by decide +kernel
theorem aX12_carryRow_17 : i_at mX12_carryRow.2.2.2.2.2 17 = some (.aload_n 0, 1, 0, 0, 0, 0) := by decide +kernel
theorem aX12_carryRow_18 : i_at mX12_carryRow.2.2.2.2.2 18 = some (.getfield 121, 3, 11, 49, 1136, 0) := by decide +kernel
theorem aX12_carryRow_21 : i_at mX12_carryRow.2.2.2.2.2 21 = some (.aload_n 0, 1, 0, 0, 0, 0) := by decide +kernel
theorem aX12_carryRow_22 : i_at mX12_carryRow.2.2.2.2.2 22 = some (.getfield 473, 3, 11, 51, 1138, 0) := by decide +kernel
theorem aX12_carryRow_25 : i_at mX12_carryRow.2.2.2.2.2 25 = some (.iaload, 1, 0, 0, 0, 0) := by decide +kernel
theorem aX12_carryRow_26 : i_at mX12_carryRow.2.2.2.2.2 26 = some (.iastore, 1, 0, 0, 0, 0) := by decide +kernel
theorem aX12_carryRow_27 : i_at mX12_carryRow.2.2.2.2.2 27 = some (.goto 15, 3, 42, 0, 0, 0) := by decide +kernel
theorem aX12_carryRow_30 : i_at mX12_carryRow.2.2.2.2.2 30 = some (.aload_n 0, 1, 0, 0, 0, 0) := by decide +kernel
theorem aX12_carryRow_31 : i_at mX12_carryRow.2.2.2.2.2 31 = some (.getfield 121, 3, 11, 49, 1136, 0) := by decide +kernel
theorem aX12_carryRow_34 : i_at mX12_carryRow.2.2.2.2.2 34 = some (.aload_n 0, 1, 0, 0, 0, 0) := by decide +kernel
theorem aX12_carryRow_35 : i_at mX12_carryRow.2.2.2.2.2 35 = some (.getfield 473, 3, 11, 51, 1138, 0) := by decide +kernel
theorem aX12_carryRow_38 : i_at mX12_carryRow.2.2.2.2.2 38 = some (.aload_n 1, 1, 0, 0, 0, 0) := by decide +kernel
theorem aX12_carryRow_39 : i_at mX12_carryRow.2.2.2.2.2 39 = some (.iload_n 2, 1, 0, 0, 0, 0) := by decide +kernel
theorem aX12_carryRow_40 : i_at mX12_carryRow.2.2.2.2.2 40 = some (.iaload, 1, 0, 0, 0, 0) := by decide +kernel
theorem aX12_carryRow_41 : i_at mX12_carryRow.2.2.2.2.2 41 = some (.iastore, 1, 0, 0, 0, 0) := by decide +kernel
theorem aX12_carryRow_42 : i_at mX12_carryRow.2.2.2.2.2 42 = some (.aload_n 0, 1, 0, 0, 0, 0) := by decide +kernel
theorem aX12_carryRow_43 : i_at mX12_carryRow.2.2.2.2.2 43 = some (.dup, 1, 0, 0, 0, 0) := by decide +kernel
theorem aX12_carryRow_44 : i_at mX12_carryRow.2.2.2.2.2 44 = some (.getfield 473, 3, 11, 51, 1138, 0) := by decide +kernel
theorem aX12_carryRow_47 : i_at mX12_carryRow.2.2.2.2.2 47 = some (.iconst 1, 1, 0, 0, 0, 0) := by decide +kernel
theorem aX12_carryRow_48 : i_at mX12_carryRow.2.2.2.2.2 48 = some (.iadd, 1, 0, 0, 0, 0) := by decide +kernel
theorem aX12_carryRow_49 : i_at mX12_carryRow.2.2.2.2.2 49 = some (.putfield 473, 3, 11, 51, 1138, 0) := by decide +kernel
theorem aX12_carryRow_52 : i_at mX12_carryRow.2.2.2.2.2 52 = some (.iinc 2 1, 3, 0, 0, 0, 0) := by decide +kernel
theorem aX12_carryRow_55 : i_at mX12_carryRow.2.2.2.2.2 55 = some (.goto (-53), 3, 2, 0, 0, 0) := by decide +kernel
theorem aX12_carryRow_58 : i_at mX12_carryRow.2.2.2.2.2 58 = some (.return_, 1, 0, 0, 0, 0) := by decide +kernel
noncomputable def fX12_carryRow_J42 (sh : List kd) (p1 : Nat) (x1 : Int32) (k2 : Int32 → St → Option (Unit × St)) (s107 : St) : Option (Unit × St) := k2 (x1 + 1) (s_F s107 0 51 ((s107.1 0 51) + 1))
noncomputable def fX12_carryRow_L2 (sh : List kd) (p1 : Nat) : Nat → Int32 → St → Option (Unit × St)
  | 0, _, _ => none
  | n3 + 1, x1, s2 => i_al sh .int p1 (fun n4 => if (Int32.ofNat n4) ≤ x1 then some ((), s2) else if (s2.1 0 52) = 0 then i_al sh .int p1 (fun n109 => if i_ok x1 n109 then if i_ok (s2.1 0 51) 3500 then fX12_carryRow_J42 sh p1 x1 (fX12_carryRow_L2 sh p1 n3) (s_A s2 36 (s2.1 0 51).toNatClampNeg (s2.2.1 p1 x1.toNatClampNeg)) else none else none) else if i_ok (s2.1 0 51) 3500 then i_al sh .int p1 (fun n114 => if i_ok x1 n114 then fX12_carryRow_J42 sh p1 x1 (fX12_carryRow_L2 sh p1 n3) (s_A s2 p1 x1.toNatClampNeg (s2.2.1 36 (s2.1 0 51).toNatClampNeg)) else none) else none)
noncomputable def fX12_carryRow (sh : List kd) (σ : St) (p1 : Nat) : Option (Unit × St) := fX12_carryRow_L2 sh p1 i_F 0 σ
set_option maxRecDepth 20000 in
set_option maxHeartbeats 2000000 in
theorem tX12_carryRow_J42 {sh : List kd} {τ : St} {r : Unit} (hsh : rmSh sh) {p1 : Nat} {x1 : Int32} {s107 : St} {k2 : Int32 → St → Option (Unit × St)} (hk2 : ∀ (x1 : Int32) (s2 : St), k2 x1 s2 = some (r, τ) → g_R sh 0 mX12_carryRow none τ 2 [.ref 0, .ref p1, .int x1] [] (s2)) (hE : fX12_carryRow_J42 sh p1 x1 k2 s107 = some (r, τ)) : g_R sh 0 mX12_carryRow none τ 42 [.ref 0, .ref p1, .int x1] [] (s107) := by
  unfold fX12_carryRow_J42 at hE
  refine g_ldan aX12_carryRow_42 rfl ?_
  refine g_dupa aX12_carryRow_43 ?_
  refine g_getI aX12_carryRow_44 (sR_0 hsh) rfl ?_
  refine g_iconst (x := 1) aX12_carryRow_47 rfl ?_
  refine g_iadd aX12_carryRow_48 ?_
  refine g_putI aX12_carryRow_49 (sR_0 hsh) rfl rfl ?_
  refine g_iinc (y := 1) (loc2 := [.ref 0, .ref p1, .int (x1 + 1)]) aX12_carryRow_52 rfl rfl rfl ?_
  refine g_goto aX12_carryRow_55 ?_
  exact hk2 _ _ hE
set_option maxRecDepth 20000 in
set_option maxHeartbeats 2000000 in
theorem tX12_carryRow_L2 {sh : List kd} {τ : St} {r : Unit} (hsh : rmSh sh) {p1 : Nat} : ∀ (n0 : Nat) (x1 : Int32) (s2 : St), fX12_carryRow_L2 sh p1 n0 x1 s2 = some (r, τ) → g_R sh 0 mX12_carryRow none τ 2 [.ref 0, .ref p1, .int x1] [] (s2) := by
  intro n0
  induction n0 with
  | zero => intro _ _ hE; cases hE
  | succ n3 ih =>
    intro x1 s2 hE
    unfold fX12_carryRow_L2 at hE
    refine g_ldin aX12_carryRow_2 rfl ?_
    refine g_ldan aX12_carryRow_3 rfl ?_
    obtain ⟨n4, h5, hE⟩ := i_al_some hE
    refine g_len aX12_carryRow_4 h5 ?_
    by_cases hc56 : (Int32.ofNat n4) ≤ x1
    · rw [if_pos hc56] at hE
      refine g_ic_ge_t aX12_carryRow_5 hc56 ?_
      obtain ⟨rfl, rfl⟩ := i_some_inj hE
      exact g_vret aX12_carryRow_58 rfl
    · rw [if_neg hc56] at hE
      refine g_ic_ge_f aX12_carryRow_5 hc56 ?_
      refine g_ldan aX12_carryRow_8 rfl ?_
      refine g_getI aX12_carryRow_9 (sR_0 hsh) rfl ?_
      by_cases hc108 : (s2.1 0 52) = 0
      · rw [if_pos hc108] at hE
        refine g_if_eq_t aX12_carryRow_12 hc108 ?_
        refine g_ldan aX12_carryRow_30 rfl ?_
        refine g_getR aX12_carryRow_31 (sR_0 hsh) rfl ?_
        refine g_ldan aX12_carryRow_34 rfl ?_
        refine g_getI aX12_carryRow_35 (sR_0 hsh) rfl ?_
        refine g_ldan aX12_carryRow_38 rfl ?_
        refine g_ldin aX12_carryRow_39 rfl ?_
        obtain ⟨n109, h110, hE⟩ := i_al_some hE
        obtain ⟨h111, hE⟩ := i_ifn hE
        refine g_ild aX12_carryRow_40 (h110) h111 ?_
        obtain ⟨h112, hE⟩ := i_ifn hE
        refine g_ist aX12_carryRow_41 (sR_36 hsh) h112 ?_
        exact tX12_carryRow_J42 hsh ih hE
      · rw [if_neg hc108] at hE
        refine g_if_eq_f aX12_carryRow_12 hc108 ?_
        refine g_ldan aX12_carryRow_15 rfl ?_
        refine g_ldin aX12_carryRow_16 rfl ?_
        refine g_ldan aX12_carryRow_17 rfl ?_
        refine g_getR aX12_carryRow_18 (sR_0 hsh) rfl ?_
        refine g_ldan aX12_carryRow_21 rfl ?_
        refine g_getI aX12_carryRow_22 (sR_0 hsh) rfl ?_
        obtain ⟨h113, hE⟩ := i_ifn hE
        refine g_ild aX12_carryRow_25 (sR_36 hsh) h113 ?_
        obtain ⟨n114, h115, hE⟩ := i_al_some hE
        obtain ⟨h116, hE⟩ := i_ifn hE
        refine g_ist aX12_carryRow_26 (h115) h116 ?_
        refine g_goto aX12_carryRow_27 ?_
        exact tX12_carryRow_J42 hsh ih hE
set_option maxRecDepth 20000 in
set_option maxHeartbeats 2000000 in
theorem tX12_carryRow {sh : List kd} {σ τ : St} {r : Unit} (hsh : rmSh sh) {p1 : Nat} (hE : fX12_carryRow sh σ p1 = some (r, τ)) : i_X 1 226 [.ref 0, .ref p1] (s_h sh σ) 0 0 none (s_h sh τ) := by
  refine g_X (M := mX12_carryRow) (loc := [.ref 0, .ref p1, .retAddr 0]) rfl (Nat.le_of_ble_eq_true rfl) rfl ?_
  unfold fX12_carryRow at hE
  refine g_iconst (x := 0) aX12_carryRow_0 rfl ?_
  refine g_stin (loc2 := [.ref 0, .ref p1, .int 0]) aX12_carryRow_1 (Nat.le_of_ble_eq_true rfl) rfl ?_
  exact tX12_carryRow_L2 hsh i_F _ _ hE
theorem aX12_carriesAll_0 : i_at mX12_carriesAll.2.2.2.2.2 0 = some (.aload_n 0, 1, 0, 0, 0, 0) := by decide +kernel
theorem aX12_carriesAll_1 : i_at mX12_carriesAll.2.2.2.2.2 1 = some (.sipush 700, 3, 0, 0, 0, 0) := by decide +kernel
theorem aX12_carriesAll_4 : i_at mX12_carriesAll.2.2.2.2.2 4 = some (.iload_n 1, 1, 0, 0, 0, 0) := by decide +kernel
theorem aX12_carriesAll_5 : i_at mX12_carriesAll.2.2.2.2.2 5 = some (.imul, 1, 0, 0, 0, 0) := by decide +kernel
theorem aX12_carriesAll_6 : i_at mX12_carriesAll.2.2.2.2.2 6 = some (.putfield 473, 3, 11, 51, 1138, 0) := by decide +kernel
theorem aX12_carriesAll_9 : i_at mX12_carriesAll.2.2.2.2.2 9 = some (.aload_n 0, 1, 0, 0, 0, 0) := by decide +kernel
theorem aX12_carriesAll_10 : i_at mX12_carriesAll.2.2.2.2.2 10 = some (.iload_n 2, 1, 0, 0, 0, 0) := by decide +kernel
theorem aX12_carriesAll_11 : i_at mX12_carriesAll.2.2.2.2.2 11 = some (.putfield 470, 3, 11, 52, 1139, 0) := by decide +kernel
theorem aX12_carriesAll_14 : i_at mX12_carriesAll.2.2.2.2.2 14 = some (.aload_n 0, 1, 0, 0, 0, 0) := by decide +kernel
theorem aX12_carriesAll_15 : i_at mX12_carriesAll.2.2.2.2.2 15 = some (.aload_n 0, 1, 0, 0, 0, 0) := by decide +kernel
theorem aX12_carriesAll_16 : i_at mX12_carriesAll.2.2.2.2.2 16 = some (.getfield 9, 3, 11, 1, 1088, 0) := by decide +kernel
theorem aX12_carriesAll_19 : i_at mX12_carriesAll.2.2.2.2.2 19 = some (.invokevirtual 476, 3, 226, 1, 1553, 0) := by decide +kernel
theorem aX12_carriesAll_22 : i_at mX12_carriesAll.2.2.2.2.2 22 = some (.aload_n 0, 1, 0, 0, 0, 0) := by decide +kernel
theorem aX12_carriesAll_23 : i_at mX12_carriesAll.2.2.2.2.2 23 = some (.aload_n 0, 1, 0, 0, 0, 0) := by decide +kernel
theorem aX12_carriesAll_24 : i_at mX12_carriesAll.2.2.2.2.2 24 = some (.getfield 19, 3, 11, 4, 1091, 0) := by decide +kernel
theorem aX12_carriesAll_27 : i_at mX12_carriesAll.2.2.2.2.2 27 = some (.invokevirtual 476, 3, 226, 1, 1553, 0) := by decide +kernel
theorem aX12_carriesAll_30 : i_at mX12_carriesAll.2.2.2.2.2 30 = some (.aload_n 0, 1, 0, 0, 0, 0) := by decide +kernel
theorem aX12_carriesAll_31 : i_at mX12_carriesAll.2.2.2.2.2 31 = some (.aload_n 0, 1, 0, 0, 0, 0) := by decide +kernel
theorem aX12_carriesAll_32 : i_at mX12_carriesAll.2.2.2.2.2 32 = some (.getfield 25, 3, 11, 6, 1093, 0) := by decide +kernel
theorem aX12_carriesAll_35 : i_at mX12_carriesAll.2.2.2.2.2 35 = some (.invokevirtual 476, 3, 226, 1, 1553, 0) := by decide +kernel
theorem aX12_carriesAll_38 : i_at mX12_carriesAll.2.2.2.2.2 38 = some (.aload_n 0, 1, 0, 0, 0, 0) := by decide +kernel
theorem aX12_carriesAll_39 : i_at mX12_carriesAll.2.2.2.2.2 39 = some (.aload_n 0, 1, 0, 0, 0, 0) := by decide +kernel
theorem aX12_carriesAll_40 : i_at mX12_carriesAll.2.2.2.2.2 40 = some (.getfield 31, 3, 11, 8, 1095, 0) := by decide +kernel
theorem aX12_carriesAll_43 : i_at mX12_carriesAll.2.2.2.2.2 43 = some (.invokevirtual 476, 3, 226, 1, 1553, 0) := by decide +kernel
theorem aX12_carriesAll_46 : i_at mX12_carriesAll.2.2.2.2.2 46 = some (.aload_n 0, 1, 0, 0, 0, 0) := by decide +kernel
theorem aX12_carriesAll_47 : i_at mX12_carriesAll.2.2.2.2.2 47 = some (.aload_n 0, 1, 0, 0, 0, 0) := by decide +kernel
theorem aX12_carriesAll_48 : i_at mX12_carriesAll.2.2.2.2.2 48 = some (.getfield 34, 3, 11, 9, 1096, 0) := by decide +kernel
theorem aX12_carriesAll_51 : i_at mX12_carriesAll.2.2.2.2.2 51 = some (.invokevirtual 476, 3, 226, 1, 1553, 0) := by decide +kernel
theorem aX12_carriesAll_54 : i_at mX12_carriesAll.2.2.2.2.2 54 = some (.iload_n 1, 1, 0, 0, 0, 0) := by decide +kernel
theorem aX12_carriesAll_55 : i_at mX12_carriesAll.2.2.2.2.2 55 = some (.iconst 4, 1, 0, 0, 0, 0) := by decide +kernel
theorem aX12_carriesAll_56 : i_at mX12_carriesAll.2.2.2.2.2 56 = some (.if_icmp .ne 4, 3, 60, 0, 0, 0) := by decide +kernel
theorem aX12_carriesAll_59 : i_at mX12_carriesAll.2.2.2.2.2 59 = some (.return_, 1, 0, 0, 0, 0) := by decide +kernel
theorem aX12_carriesAll_60 : i_at mX12_carriesAll.2.2.2.2.2 60 = some (.aload_n 0, 1, 0, 0, 0, 0) := by decide +kernel
theorem aX12_carriesAll_61 : i_at mX12_carriesAll.2.2.2.2.2 61 = some (.getfield 103, 3, 11, 40, 1127, 0) := by decide +kernel
theorem aX12_carriesAll_64 : i_at mX12_carriesAll.2.2.2.2.2 64 = some (.iconst 0, 1, 0, 0, 0, 0) := by decide +kernel
theorem aX12_carriesAll_65 : i_at mX12_carriesAll.2.2.2.2.2 65 = some (.aload_n 0, 1, 0, 0, 0, 0) := by decide +kernel
theorem aX12_carriesAll_66 : i_at mX12_carriesAll.2.2.2.2.2 66 = some (.getfield 305, 3, 11, 41, 1128, 0) := by decide +kernel
theorem aX12_carriesAll_69 : i_at mX12_carriesAll.2.2.2.2.2 69 = some (.iastore, 1, 0, 0, 0, 0) := by decide +kernel
theorem aX12_carriesAll_70 : i_at mX12_carriesAll.2.2.2.2.2 70 = some (.aload_n 0, 1, 0, 0, 0, 0) := by decide +kernel
theorem aX12_carriesAll_71 : i_at mX12_carriesAll.2.2.2.2.2 71 = some (.aload_n 0, 1, 0, 0, 0, 0) := by decide +kernel
theorem aX12_carriesAll_72 : i_at mX12_carriesAll.2.2.2.2.2 72 = some (.getfield 103, 3, 11, 40, 1127, 0) := by decide +kernel
theorem aX12_carriesAll_75 : i_at mX12_carriesAll.2.2.2.2.2 75 = some (.invokevirtual 476, 3, 226, 1, 1553, 0) := by decide +kernel
theorem aX12_carriesAll_78 : i_at mX12_carriesAll.2.2.2.2.2 78 = some (.aload_n 0, 1, 0, 0, 0, 0) := by decide +kernel
theorem aX12_carriesAll_79 : i_at mX12_carriesAll.2.2.2.2.2 79 = some (.aload_n 0, 1, 0, 0, 0, 0) := by decide +kernel
theorem aX12_carriesAll_80 : i_at mX12_carriesAll.2.2.2.2.2 80 = some (.getfield 103, 3, 11, 40, 1127, 0) := by decide +kernel
theorem aX12_carriesAll_83 : i_at mX12_carriesAll.2.2.2.2.2 83 = some (.iconst 0, 1, 0, 0, 0, 0) := by decide +kernel
theorem aX12_carriesAll_84 : i_at mX12_carriesAll.2.2.2.2.2 84 = some (.iaload, 1, 0, 0, 0, 0) := by decide +kernel
theorem aX12_carriesAll_85 : i_at mX12_carriesAll.2.2.2.2.2 85 = some (.putfield 305, 3, 11, 41, 1128, 0) := by decide +kernel
theorem aX12_carriesAll_88 : i_at mX12_carriesAll.2.2.2.2.2 88 = some (.aload_n 0, 1, 0, 0, 0, 0) := by decide +kernel
theorem aX12_carriesAll_89 : i_at mX12_carriesAll.2.2.2.2.2 89 = some (.aload_n 0, 1, 0, 0, 0, 0) := by decide +kernel
theorem aX12_carriesAll_90 : i_at mX12_carriesAll.2.2.2.2.2 90 = some (.getfield 13, 3, 11, 2, 1089, 0) := by decide +kernel
theorem aX12_carriesAll_93 : i_at mX12_carriesAll.2.2.2.2.2 93 = some (.invokevirtual 476, 3, 226, 1, 1553, 0) := by decide +kernel
theorem aX12_carriesAll_96 : i_at mX12_carriesAll.2.2.2.2.2 96 = some (.aload_n 0, 1, 0, 0, 0, 0) := by decide +kernel
theorem aX12_carriesAll_97 : i_at mX12_carriesAll.2.2.2.2.2 97 = some (.aload_n 0, 1, 0, 0, 0, 0) := by decide +kernel
theorem aX12_carriesAll_98 : i_at mX12_carriesAll.2.2.2.2.2 98 = some (.getfield 16, 3, 11, 3, 1090, 0) := by decide +kernel
theorem aX12_carriesAll_101 : i_at mX12_carriesAll.2.2.2.2.2 101 = some (.invokevirtual 476, 3, 226, 1, 1553, 0) := by decide +kernel
theorem aX12_carriesAll_104 : i_at mX12_carriesAll.2.2.2.2.2 104 = some (.aload_n 0, 1, 0, 0, 0, 0) := by decide +kernel
theorem aX12_carriesAll_105 : i_at mX12_carriesAll.2.2.2.2.2 105 = some (.aload_n 0, 1, 0, 0, 0, 0) := by decide +kernel
theorem aX12_carriesAll_106 : i_at mX12_carriesAll.2.2.2.2.2 106 = some (.getfield 22, 3, 11, 5, 1092, 0) := by decide +kernel
theorem aX12_carriesAll_109 : i_at mX12_carriesAll.2.2.2.2.2 109 = some (.invokevirtual 476, 3, 226, 1, 1553, 0) := by decide +kernel
theorem aX12_carriesAll_112 : i_at mX12_carriesAll.2.2.2.2.2 112 = some (.aload_n 0, 1, 0, 0, 0, 0) := by decide +kernel
theorem aX12_carriesAll_113 : i_at mX12_carriesAll.2.2.2.2.2 113 = some (.aload_n 0, 1, 0, 0, 0, 0) := by decide +kernel
theorem aX12_carriesAll_114 : i_at mX12_carriesAll.2.2.2.2.2 114 = some (.getfield 28, 3, 11, 7, 1094, 0) := by decide +kernel
theorem aX12_carriesAll_117 : i_at mX12_carriesAll.2.2.2.2.2 117 = some (.invokevirtual 476, 3, 226, 1, 1553, 0) := by decide +kernel
theorem aX12_carriesAll_120 : i_at mX12_carriesAll.2.2.2.2.2 120 = some (.aload_n 0, 1, 0, 0, 0, 0) := by decide +kernel
theorem aX12_carriesAll_121 : i_at mX12_carriesAll.2.2.2.2.2 121 = some (.aload_n 0, 1, 0, 0, 0, 0) := by decide +kernel
theorem aX12_carriesAll_122 : i_at mX12_carriesAll.2.2.2.2.2 122 = some (.getfield 37, 3, 11, 10, 1097, 0) := by decide +kernel
theorem aX12_carriesAll_125 : i_at mX12_carriesAll.2.2.2.2.2 125 = some (.invokevirtual 476, 3, 226, 1, 1553, 0) := by decide +kernel
theorem aX12_carriesAll_128 : i_at mX12_carriesAll.2.2.2.2.2 128 = some (.aload_n 0, 1, 0, 0, 0, 0) := by decide +kernel
theorem aX12_carriesAll_129 : i_at mX12_carriesAll.2.2.2.2.2 129 = some (.aload_n 0, 1, 0, 0, 0, 0) := by decide +kernel
theorem aX12_carriesAll_130 : i_at mX12_carriesAll.2.2.2.2.2 130 = some (.getfield 40, 3, 11, 11, 1098, 0) := by decide +kernel
theorem aX12_carriesAll_133 : i_at mX12_carriesAll.2.2.2.2.2 133 = some (.invokevirtual 476, 3, 226, 1, 1553, 0) := by decide +kernel
theorem aX12_carriesAll_136 : i_at mX12_carriesAll.2.2.2.2.2 136 = some (.aload_n 0, 1, 0, 0, 0, 0) := by decide +kernel
theorem aX12_carriesAll_137 : i_at mX12_carriesAll.2.2.2.2.2 137 = some (.aload_n 0, 1, 0, 0, 0, 0) := by decide +kernel
theorem aX12_carriesAll_138 : i_at mX12_carriesAll.2.2.2.2.2 138 = some (.getfield 43, 3, 11, 12, 1099, 0) := by decide +kernel
theorem aX12_carriesAll_141 : i_at mX12_carriesAll.2.2.2.2.2 141 = some (.invokevirtual 476, 3, 226, 1, 1553, 0) := by decide +kernel
theorem aX12_carriesAll_144 : i_at mX12_carriesAll.2.2.2.2.2 144 = some (.aload_n 0, 1, 0, 0, 0, 0) := by decide +kernel
theorem aX12_carriesAll_145 : i_at mX12_carriesAll.2.2.2.2.2 145 = some (.aload_n 0, 1, 0, 0, 0, 0) := by decide +kernel
theorem aX12_carriesAll_146 : i_at mX12_carriesAll.2.2.2.2.2 146 = some (.getfield 100, 3, 11, 39, 1126, 0) := by decide +kernel
theorem aX12_carriesAll_149 : i_at mX12_carriesAll.2.2.2.2.2 149 = some (.invokevirtual 476, 3, 226, 1, 1553, 0) := by decide +kernel
theorem aX12_carriesAll_152 : i_at mX12_carriesAll.2.2.2.2.2 152 = some (.return_, 1, 0, 0, 0, 0) := by decide +kernel
noncomputable def fX12_carriesAll (sh : List kd) (σ : St) (p1 : Int32) (p2 : Int32) : Option (Unit × St) := if i_okf .boolean (.int p2) = true then i_bd (fX12_carryRow sh (s_F (s_F σ 0 51 (700 * p1)) 0 52 p2) 1) (fun r2 s3 => i_bd (fX12_carryRow sh s3 4) (fun r5 s6 => i_bd (fX12_carryRow sh s6 6) (fun r8 s9 => i_bd (fX12_carryRow sh s9 8) (fun r11 s12 => i_bd (fX12_carryRow sh s12 9) (fun r14 s15 => if ¬ p1 = 4 then if i_ok 0 1 then i_bd (fX12_carryRow sh (s_A s15 30 (0 : Int32).toNatClampNeg (s15.1 0 41)) 30) (fun r19 s20 => if i_ok 0 1 then i_bd (fX12_carryRow sh (s_F s20 0 41 (s20.2.1 30 (0 : Int32).toNatClampNeg)) 2) (fun r23 s24 => i_bd (fX12_carryRow sh s24 3) (fun r26 s27 => i_bd (fX12_carryRow sh s27 5) (fun r29 s30 => i_bd (fX12_carryRow sh s30 7) (fun r32 s33 => i_bd (fX12_carryRow sh s33 10) (fun r35 s36 => i_bd (fX12_carryRow sh s36 11) (fun r38 s39 => i_bd (fX12_carryRow sh s39 12) (fun r41 s42 => i_bd (fX12_carryRow sh s42 29) (fun r44 s45 => some ((), s45))))))))) else none) else none else some ((), s15)))))) else none
set_option maxRecDepth 20000 in
set_option maxHeartbeats 2000000 in
theorem tX12_carriesAll {sh : List kd} {σ τ : St} {r : Unit} (hsh : rmSh sh) {p1 : Int32} {p2 : Int32} (hE : fX12_carriesAll sh σ p1 p2 = some (r, τ)) : i_X 2 227 [.ref 0, .int p1, .int p2] (s_h sh σ) 0 0 none (s_h sh τ) := by
  refine g_X (M := mX12_carriesAll) (loc := [.ref 0, .int p1, .int p2]) rfl (Nat.le_of_ble_eq_true rfl) rfl ?_
  unfold fX12_carriesAll at hE
  refine g_ldan aX12_carriesAll_0 rfl ?_
  refine g_sipush (x := 700) aX12_carriesAll_1 rfl ?_
  refine g_ldin aX12_carriesAll_4 rfl ?_
  refine g_imul aX12_carriesAll_5 ?_
  refine g_putI aX12_carriesAll_6 (sR_0 hsh) rfl rfl ?_
  refine g_ldan aX12_carriesAll_9 rfl ?_
  refine g_ldin aX12_carriesAll_10 rfl ?_
  obtain ⟨h1, hE⟩ := i_ifn hE
  refine g_putI aX12_carriesAll_11 (sR_0 hsh) rfl h1 ?_
  refine g_ldan aX12_carriesAll_14 rfl ?_
  refine g_ldan aX12_carriesAll_15 rfl ?_
  refine g_getR aX12_carriesAll_16 (sR_0 hsh) rfl ?_
  obtain ⟨r2, s3, h4, hE⟩ := i_bd_some hE
  refine g_calV (As := [.ref 1]) (rest := []) aX12_carriesAll_19 (i_X_mono (by omega) (tX12_carryRow hsh h4)) (sR_0 hsh) (by decide +kernel) rfl rfl (Nat.le_of_ble_eq_true rfl) rfl ?_
  refine g_ldan aX12_carriesAll_22 rfl ?_
  refine g_ldan aX12_carriesAll_23 rfl ?_
  refine g_getR aX12_carriesAll_24 (sR_0 hsh) rfl ?_
  obtain ⟨r5, s6, h7, hE⟩ := i_bd_some hE
  refine g_calV (As := [.ref 4]) (rest := []) aX12_carriesAll_27 (i_X_mono (by omega) (tX12_carryRow hsh h7)) (sR_0 hsh) (by decide +kernel) rfl rfl (Nat.le_of_ble_eq_true rfl) rfl ?_
  refine g_ldan aX12_carriesAll_30 rfl ?_
  refine g_ldan aX12_carriesAll_31 rfl ?_
  refine g_getR aX12_carriesAll_32 (sR_0 hsh) rfl ?_
  obtain ⟨r8, s9, h10, hE⟩ := i_bd_some hE
  refine g_calV (As := [.ref 6]) (rest := []) aX12_carriesAll_35 (i_X_mono (by omega) (tX12_carryRow hsh h10)) (sR_0 hsh) (by decide +kernel) rfl rfl (Nat.le_of_ble_eq_true rfl) rfl ?_
  refine g_ldan aX12_carriesAll_38 rfl ?_
  refine g_ldan aX12_carriesAll_39 rfl ?_
  refine g_getR aX12_carriesAll_40 (sR_0 hsh) rfl ?_
  obtain ⟨r11, s12, h13, hE⟩ := i_bd_some hE
  refine g_calV (As := [.ref 8]) (rest := []) aX12_carriesAll_43 (i_X_mono (by omega) (tX12_carryRow hsh h13)) (sR_0 hsh) (by decide +kernel) rfl rfl (Nat.le_of_ble_eq_true rfl) rfl ?_
  refine g_ldan aX12_carriesAll_46 rfl ?_
  refine g_ldan aX12_carriesAll_47 rfl ?_
  refine g_getR aX12_carriesAll_48 (sR_0 hsh) rfl ?_
  obtain ⟨r14, s15, h16, hE⟩ := i_bd_some hE
  refine g_calV (As := [.ref 9]) (rest := []) aX12_carriesAll_51 (i_X_mono (by omega) (tX12_carryRow hsh h16)) (sR_0 hsh) (by decide +kernel) rfl rfl (Nat.le_of_ble_eq_true rfl) rfl ?_
  refine g_ldin aX12_carriesAll_54 rfl ?_
  refine g_iconst (x := 4) aX12_carriesAll_55 rfl ?_
  by_cases hc17 : ¬ p1 = 4
  · rw [if_pos hc17] at hE
    refine g_ic_ne_t aX12_carriesAll_56 hc17 ?_
    refine g_ldan aX12_carriesAll_60 rfl ?_
    refine g_getR aX12_carriesAll_61 (sR_0 hsh) rfl ?_
    refine g_iconst (x := 0) aX12_carriesAll_64 rfl ?_
    refine g_ldan aX12_carriesAll_65 rfl ?_
    refine g_getI aX12_carriesAll_66 (sR_0 hsh) rfl ?_
    obtain ⟨h18, hE⟩ := i_ifn hE
    refine g_ist aX12_carriesAll_69 (sR_30 hsh) h18 ?_
    refine g_ldan aX12_carriesAll_70 rfl ?_
    refine g_ldan aX12_carriesAll_71 rfl ?_
    refine g_getR aX12_carriesAll_72 (sR_0 hsh) rfl ?_
    obtain ⟨r19, s20, h21, hE⟩ := i_bd_some hE
    refine g_calV (As := [.ref 30]) (rest := []) aX12_carriesAll_75 (i_X_mono (by omega) (tX12_carryRow hsh h21)) (sR_0 hsh) (by decide +kernel) rfl rfl (Nat.le_of_ble_eq_true rfl) rfl ?_
    refine g_ldan aX12_carriesAll_78 rfl ?_
    refine g_ldan aX12_carriesAll_79 rfl ?_
    refine g_getR aX12_carriesAll_80 (sR_0 hsh) rfl ?_
    refine g_iconst (x := 0) aX12_carriesAll_83 rfl ?_
    obtain ⟨h22, hE⟩ := i_ifn hE
    refine g_ild aX12_carriesAll_84 (sR_30 hsh) h22 ?_
    refine g_putI aX12_carriesAll_85 (sR_0 hsh) rfl rfl ?_
    refine g_ldan aX12_carriesAll_88 rfl ?_
    refine g_ldan aX12_carriesAll_89 rfl ?_
    refine g_getR aX12_carriesAll_90 (sR_0 hsh) rfl ?_
    obtain ⟨r23, s24, h25, hE⟩ := i_bd_some hE
    refine g_calV (As := [.ref 2]) (rest := []) aX12_carriesAll_93 (i_X_mono (by omega) (tX12_carryRow hsh h25)) (sR_0 hsh) (by decide +kernel) rfl rfl (Nat.le_of_ble_eq_true rfl) rfl ?_
    refine g_ldan aX12_carriesAll_96 rfl ?_
    refine g_ldan aX12_carriesAll_97 rfl ?_
    refine g_getR aX12_carriesAll_98 (sR_0 hsh) rfl ?_
    obtain ⟨r26, s27, h28, hE⟩ := i_bd_some hE
    refine g_calV (As := [.ref 3]) (rest := []) aX12_carriesAll_101 (i_X_mono (by omega) (tX12_carryRow hsh h28)) (sR_0 hsh) (by decide +kernel) rfl rfl (Nat.le_of_ble_eq_true rfl) rfl ?_
    refine g_ldan aX12_carriesAll_104 rfl ?_
    refine g_ldan aX12_carriesAll_105 rfl ?_
    refine g_getR aX12_carriesAll_106 (sR_0 hsh) rfl ?_
    obtain ⟨r29, s30, h31, hE⟩ := i_bd_some hE
    refine g_calV (As := [.ref 5]) (rest := []) aX12_carriesAll_109 (i_X_mono (by omega) (tX12_carryRow hsh h31)) (sR_0 hsh) (by decide +kernel) rfl rfl (Nat.le_of_ble_eq_true rfl) rfl ?_
    refine g_ldan aX12_carriesAll_112 rfl ?_
    refine g_ldan aX12_carriesAll_113 rfl ?_
    refine g_getR aX12_carriesAll_114 (sR_0 hsh) rfl ?_
    obtain ⟨r32, s33, h34, hE⟩ := i_bd_some hE
    refine g_calV (As := [.ref 7]) (rest := []) aX12_carriesAll_117 (i_X_mono (by omega) (tX12_carryRow hsh h34)) (sR_0 hsh) (by decide +kernel) rfl rfl (Nat.le_of_ble_eq_true rfl) rfl ?_
    refine g_ldan aX12_carriesAll_120 rfl ?_
    refine g_ldan aX12_carriesAll_121 rfl ?_
    refine g_getR aX12_carriesAll_122 (sR_0 hsh) rfl ?_
    obtain ⟨r35, s36, h37, hE⟩ := i_bd_some hE
    refine g_calV (As := [.ref 10]) (rest := []) aX12_carriesAll_125 (i_X_mono (by omega) (tX12_carryRow hsh h37)) (sR_0 hsh) (by decide +kernel) rfl rfl (Nat.le_of_ble_eq_true rfl) rfl ?_
    refine g_ldan aX12_carriesAll_128 rfl ?_
    refine g_ldan aX12_carriesAll_129 rfl ?_
    refine g_getR aX12_carriesAll_130 (sR_0 hsh) rfl ?_
    obtain ⟨r38, s39, h40, hE⟩ := i_bd_some hE
    refine g_calV (As := [.ref 11]) (rest := []) aX12_carriesAll_133 (i_X_mono (by omega) (tX12_carryRow hsh h40)) (sR_0 hsh) (by decide +kernel) rfl rfl (Nat.le_of_ble_eq_true rfl) rfl ?_
    refine g_ldan aX12_carriesAll_136 rfl ?_
    refine g_ldan aX12_carriesAll_137 rfl ?_
    refine g_getR aX12_carriesAll_138 (sR_0 hsh) rfl ?_
    obtain ⟨r41, s42, h43, hE⟩ := i_bd_some hE
    refine g_calV (As := [.ref 12]) (rest := []) aX12_carriesAll_141 (i_X_mono (by omega) (tX12_carryRow hsh h43)) (sR_0 hsh) (by decide +kernel) rfl rfl (Nat.le_of_ble_eq_true rfl) rfl ?_
    refine g_ldan aX12_carriesAll_144 rfl ?_
    refine g_ldan aX12_carriesAll_145 rfl ?_
    refine g_getR aX12_carriesAll_146 (sR_0 hsh) rfl ?_
    obtain ⟨r44, s45, h46, hE⟩ := i_bd_some hE
    refine g_calV (As := [.ref 29]) (rest := []) aX12_carriesAll_149 (i_X_mono (by omega) (tX12_carryRow hsh h46)) (sR_0 hsh) (by decide +kernel) rfl rfl (Nat.le_of_ble_eq_true rfl) rfl ?_
    obtain ⟨rfl, rfl⟩ := i_some_inj hE
    exact g_vret aX12_carriesAll_152 rfl
  · rw [if_neg hc17] at hE
    refine g_ic_ne_f aX12_carriesAll_56 hc17 ?_
    obtain ⟨rfl, rfl⟩ := i_some_inj hE
    exact g_vret aX12_carriesAll_59 rfl
theorem aX12_image_0 : i_at mX12_image.2.2.2.2.2 0 = some (.iload_n 1, 1, 0, 0, 0, 0) := by decide +kernel
theorem aX12_image_1 : i_at mX12_image.2.2.2.2.2 1 = some (.i2l, 1, 0, 0, 0, 0) := by decide +kernel
theorem aX12_image_2 : i_at mX12_image.2.2.2.2.2 2 = some (.lconst 0, 1, 0, 0, 0, 0) := by decide +kernel
theorem aX12_image_3 : i_at mX12_image.2.2.2.2.2 3 = some (.ldc2_w 479, 3, 0, 0, 1686, 3) := by decide +kernel
theorem aX12_image_6 : i_at mX12_image.2.2.2.2.2 6 = some (.invokestatic 131, 3, 127, 3, 1324, 0) := by decide +kernel
theorem aX12_image_9 : i_at mX12_image.2.2.2.2.2 9 = some (.ifCond .ne 5, 3, 14, 0, 0, 0) := by decide +kernel
theorem aX12_image_12 : i_at mX12_image.2.2.2.2.2 12 = some (.iconst (-1), 1, 0, 0, 0, 0) := by decide +kernel
theorem aX12_image_13 : i_at mX12_image.2.2.2.2.2 13 = some (.ireturn, 1, 0, 0, 0, 0) := by decide +kernel
theorem aX12_image_14 : i_at mX12_image.2.2.2.2.2 14 = some (.aload_n 0, 1, 0, 0, 0, 0) := by decide +kernel
theorem aX12_image_15 : i_at mX12_image.2.2.2.2.2 15 = some (.getfield 124, 3, 11, 50, 1137, 0) := by decide +kernel
theorem aX12_image_18 : i_at mX12_image.2.2.2.2.2 18 = some (.iload_n 1, 1, 0, 0, 0, 0) := by decide +kernel
theorem aX12_image_19 : i_at mX12_image.2.2.2.2.2 19 = some (.iconst 1, 1, 0, 0, 0, 0) := by decide +kernel
theorem aX12_image_20 : i_at mX12_image.2.2.2.2.2 20 = some (.bastore, 1, 0, 0, 0, 0) := by decide +kernel
theorem aX12_image_21 : i_at mX12_image.2.2.2.2.2 21 = some (.aload_n 0, 1, 0, 0, 0, 0) := by decide +kernel
theorem aX12_image_22 : i_at mX12_image.2.2.2.2.2 22 = some (.iload_n 1, 1, 0, 0, 0, 0) := by decide +kernel
theorem aX12_image_23 : i_at mX12_image.2.2.2.2.2 23 = some (.iconst 0, 1, 0, 0, 0, 0) := by decide +kernel
theorem aX12_image_24 : i_at mX12_image.2.2.2.2.2 24 = some (.invokevirtual 403, 3, 227, 2, 1549, 0) := by decide +kernel
theorem aX12_image_27 : i_at mX12_image.2.2.2.2.2 27 = some (.aload_n 0, 1, 0, 0, 0, 0) := by decide +kernel
theorem aX12_image_28 : i_at mX12_image.2.2.2.2.2 28 = some (.getfield 9, 3, 11, 1, 1088, 0) := by decide +kernel
theorem aX12_image_31 : i_at mX12_image.2.2.2.2.2 31 = some (.iconst 4, 1, 0, 0, 0, 0) := by decide +kernel
theorem aX12_image_32 : i_at mX12_image.2.2.2.2.2 32 = some (.iaload, 1, 0, 0, 0, 0) := by decide +kernel
theorem aX12_image_33 : i_at mX12_image.2.2.2.2.2 33 = some (.ireturn, 1, 0, 0, 0, 0) := by decide +kernel
noncomputable def fX12_image (sh : List kd) (σ : St) (p1 : Int32) : Option (Int32 × St) := i_bd (fX12_in sh σ p1.toInt64 0 3) (fun r1 s2 => if ¬ r1 = 0 then if i_ok p1 4 then i_bd (fX12_carriesAll sh (s_A s2 37 p1.toNatClampNeg (vp_nar .boolean 1)) p1 0) (fun r6 s7 => if i_ok 4 11 then some ((s7.2.1 1 (4 : Int32).toNatClampNeg), s7) else none) else none else some ((-1), s2))
set_option maxRecDepth 20000 in
set_option maxHeartbeats 2000000 in
theorem tX12_image {sh : List kd} {σ τ : St} {r : Int32} (hsh : rmSh sh) {p1 : Int32} (hE : fX12_image sh σ p1 = some (r, τ)) : i_X 3 228 [.ref 0, .int p1] (s_h sh σ) 0 0 (some (.int r)) (s_h sh τ) := by
  refine g_X (M := mX12_image) (loc := [.ref 0, .int p1]) rfl (Nat.le_of_ble_eq_true rfl) rfl ?_
  unfold fX12_image at hE
  refine g_ldin aX12_image_0 rfl ?_
  refine g_i2l aX12_image_1 ?_
  refine g_lconst (x := 0) aX12_image_2 rfl ?_
  refine g_ldc2 (x := 3) aX12_image_3 rfl ?_
  obtain ⟨r1, s2, h3, hE⟩ := i_bd_some hE
  refine g_calS (As := [.long p1.toInt64, .long 0, .long 3]) (rest := []) aX12_image_6 (i_X_mono (by omega) (tX12_in hsh h3)) rfl rfl (Nat.le_of_ble_eq_true rfl) rfl ?_
  by_cases hc4 : ¬ r1 = 0
  · rw [if_pos hc4] at hE
    refine g_if_ne_t aX12_image_9 hc4 ?_
    refine g_ldan aX12_image_14 rfl ?_
    refine g_getR aX12_image_15 (sR_0 hsh) rfl ?_
    refine g_ldin aX12_image_18 rfl ?_
    refine g_iconst (x := 1) aX12_image_19 rfl ?_
    obtain ⟨h5, hE⟩ := i_ifn hE
    refine g_zst aX12_image_20 (sR_37 hsh) h5 ?_
    refine g_ldan aX12_image_21 rfl ?_
    refine g_ldin aX12_image_22 rfl ?_
    refine g_iconst (x := 0) aX12_image_23 rfl ?_
    obtain ⟨r6, s7, h8, hE⟩ := i_bd_some hE
    refine g_calV (As := [.int p1, .int 0]) (rest := []) aX12_image_24 (i_X_mono (by omega) (tX12_carriesAll hsh h8)) (sR_0 hsh) (by decide +kernel) rfl rfl (Nat.le_of_ble_eq_true rfl) rfl ?_
    refine g_ldan aX12_image_27 rfl ?_
    refine g_getR aX12_image_28 (sR_0 hsh) rfl ?_
    refine g_iconst (x := 4) aX12_image_31 rfl ?_
    obtain ⟨h9, hE⟩ := i_ifn hE
    refine g_ild aX12_image_32 (sR_1 hsh) h9 ?_
    obtain ⟨rfl, rfl⟩ := i_some_inj hE
    exact g_iret aX12_image_33 rfl rfl
  · rw [if_neg hc4] at hE
    refine g_if_ne_f aX12_image_9 hc4 ?_
    refine g_iconst (x := (-1)) aX12_image_12 rfl ?_
    obtain ⟨rfl, rfl⟩ := i_some_inj hE
    exact g_iret aX12_image_13 rfl rfl
theorem aX12_back_0 : i_at mX12_back.2.2.2.2.2 0 = some (.iload_n 1, 1, 0, 0, 0, 0) := by decide +kernel
theorem aX12_back_1 : i_at mX12_back.2.2.2.2.2 1 = some (.i2l, 1, 0, 0, 0, 0) := by decide +kernel
theorem aX12_back_2 : i_at mX12_back.2.2.2.2.2 2 = some (.lconst 0, 1, 0, 0, 0, 0) := by decide +kernel
theorem aX12_back_3 : i_at mX12_back.2.2.2.2.2 3 = some (.ldc2_w 479, 3, 0, 0, 1686, 3) := by decide +kernel
theorem aX12_back_6 : i_at mX12_back.2.2.2.2.2 6 = some (.invokestatic 131, 3, 127, 3, 1324, 0) := by decide +kernel
theorem aX12_back_9 : i_at mX12_back.2.2.2.2.2 9 = some (.ifCond .eq 12, 3, 21, 0, 0, 0) := by decide +kernel
theorem aX12_back_12 : i_at mX12_back.2.2.2.2.2 12 = some (.aload_n 0, 1, 0, 0, 0, 0) := by decide +kernel
theorem aX12_back_13 : i_at mX12_back.2.2.2.2.2 13 = some (.getfield 124, 3, 11, 50, 1137, 0) := by decide +kernel
theorem aX12_back_16 : i_at mX12_back.2.2.2.2.2 16 = some (.iload_n 1, 1, 0, 0, 0, 0) := by decide +kernel
theorem aX12_back_17 : i_at mX12_back.2.2.2.2.2 17 = some (.baload, 1, 0, 0, 0, 0) := by decide +kernel
theorem aX12_back_18 : i_at mX12_back.2.2.2.2.2 18 = some (.ifCond .ne 5, 3, 23, 0, 0, 0) := by decide +kernel
theorem aX12_back_21 : i_at mX12_back.2.2.2.2.2 21 = some (.iconst (-1), 1, 0, 0, 0, 0) := by decide +kernel
theorem aX12_back_22 : i_at mX12_back.2.2.2.2.2 22 = some (.ireturn, 1, 0, 0, 0, 0) := by decide +kernel
theorem aX12_back_23 : i_at mX12_back.2.2.2.2.2 23 = some (.aload_n 0, 1, 0, 0, 0, 0) := by decide +kernel
theorem aX12_back_24 : i_at mX12_back.2.2.2.2.2 24 = some (.iload_n 1, 1, 0, 0, 0, 0) := by decide +kernel
theorem aX12_back_25 : i_at mX12_back.2.2.2.2.2 25 = some (.iconst 1, 1, 0, 0, 0, 0) := by decide +kernel
theorem aX12_back_26 : i_at mX12_back.2.2.2.2.2 26 = some (.invokevirtual 403, 3, 227, 2, 1549, 0) := by decide +kernel
theorem aX12_back_29 : i_at mX12_back.2.2.2.2.2 29 = some (.aload_n 0, 1, 0, 0, 0, 0) := by decide +kernel
theorem aX12_back_30 : i_at mX12_back.2.2.2.2.2 30 = some (.getfield 9, 3, 11, 1, 1088, 0) := by decide +kernel
theorem aX12_back_33 : i_at mX12_back.2.2.2.2.2 33 = some (.iconst 4, 1, 0, 0, 0, 0) := by decide +kernel
theorem aX12_back_34 : i_at mX12_back.2.2.2.2.2 34 = some (.iaload, 1, 0, 0, 0, 0) := by decide +kernel
theorem aX12_back_35 : i_at mX12_back.2.2.2.2.2 35 = some (.ireturn, 1, 0, 0, 0, 0) := by decide +kernel
noncomputable def fX12_back (sh : List kd) (σ : St) (p1 : Int32) : Option (Int32 × St) := i_bd (fX12_in sh σ p1.toInt64 0 3) (fun r1 s2 => if r1 = 0 then some ((-1), s2) else if i_ok p1 4 then if ¬ (s2.2.1 37 p1.toNatClampNeg) = 0 then i_bd (fX12_carriesAll sh s2 p1 1) (fun r7 s8 => if i_ok 4 11 then some ((s8.2.1 1 (4 : Int32).toNatClampNeg), s8) else none) else some ((-1), s2) else none)
set_option maxRecDepth 20000 in
set_option maxHeartbeats 2000000 in
theorem tX12_back {sh : List kd} {σ τ : St} {r : Int32} (hsh : rmSh sh) {p1 : Int32} (hE : fX12_back sh σ p1 = some (r, τ)) : i_X 3 229 [.ref 0, .int p1] (s_h sh σ) 0 0 (some (.int r)) (s_h sh τ) := by
  refine g_X (M := mX12_back) (loc := [.ref 0, .int p1]) rfl (Nat.le_of_ble_eq_true rfl) rfl ?_
  unfold fX12_back at hE
  refine g_ldin aX12_back_0 rfl ?_
  refine g_i2l aX12_back_1 ?_
  refine g_lconst (x := 0) aX12_back_2 rfl ?_
  refine g_ldc2 (x := 3) aX12_back_3 rfl ?_
  obtain ⟨r1, s2, h3, hE⟩ := i_bd_some hE
  refine g_calS (As := [.long p1.toInt64, .long 0, .long 3]) (rest := []) aX12_back_6 (i_X_mono (by omega) (tX12_in hsh h3)) rfl rfl (Nat.le_of_ble_eq_true rfl) rfl ?_
  by_cases hc4 : r1 = 0
  · rw [if_pos hc4] at hE
    refine g_if_eq_t aX12_back_9 hc4 ?_
    refine g_iconst (x := (-1)) aX12_back_21 rfl ?_
    obtain ⟨rfl, rfl⟩ := i_some_inj hE
    exact g_iret aX12_back_22 rfl rfl
  · rw [if_neg hc4] at hE
    refine g_if_eq_f aX12_back_9 hc4 ?_
    refine g_ldan aX12_back_12 rfl ?_
    refine g_getR aX12_back_13 (sR_0 hsh) rfl ?_
    refine g_ldin aX12_back_16 rfl ?_
    obtain ⟨h5, hE⟩ := i_ifn hE
    refine g_zld aX12_back_17 (sR_37 hsh) h5 ?_
    by_cases hc6 : ¬ (s2.2.1 37 p1.toNatClampNeg) = 0
    · rw [if_pos hc6] at hE
      refine g_if_ne_t aX12_back_18 hc6 ?_
      refine g_ldan aX12_back_23 rfl ?_
      refine g_ldin aX12_back_24 rfl ?_
      refine g_iconst (x := 1) aX12_back_25 rfl ?_
      obtain ⟨r7, s8, h9, hE⟩ := i_bd_some hE
      refine g_calV (As := [.int p1, .int 1]) (rest := []) aX12_back_26 (i_X_mono (by omega) (tX12_carriesAll hsh h9)) (sR_0 hsh) (by decide +kernel) rfl rfl (Nat.le_of_ble_eq_true rfl) rfl ?_
      refine g_ldan aX12_back_29 rfl ?_
      refine g_getR aX12_back_30 (sR_0 hsh) rfl ?_
      refine g_iconst (x := 4) aX12_back_33 rfl ?_
      obtain ⟨h10, hE⟩ := i_ifn hE
      refine g_ild aX12_back_34 (sR_1 hsh) h10 ?_
      obtain ⟨rfl, rfl⟩ := i_some_inj hE
      exact g_iret aX12_back_35 rfl rfl
    · rw [if_neg hc6] at hE
      refine g_if_ne_f aX12_back_18 hc6 ?_
      refine g_iconst (x := (-1)) aX12_back_21 rfl ?_
      obtain ⟨rfl, rfl⟩ := i_some_inj hE
      exact g_iret aX12_back_22 rfl rfl
theorem aJ6_bitCount_0f7a4_0 : i_at mJ6_bitCount_0f7a4.2.2.2.2.2 0 = some (.iload_n 0, 1, 0, 0, 0, 0) := by decide +kernel
theorem aJ6_bitCount_0f7a4_1 : i_at mJ6_bitCount_0f7a4.2.2.2.2.2 1 = some (.iload_n 0, 1, 0, 0, 0, 0) := by decide +kernel
theorem aJ6_bitCount_0f7a4_2 : i_at mJ6_bitCount_0f7a4.2.2.2.2.2 2 = some (.iconst 1, 1, 0, 0, 0, 0) := by decide +kernel
theorem aJ6_bitCount_0f7a4_3 : i_at mJ6_bitCount_0f7a4.2.2.2.2.2 3 = some (.iushr, 1, 0, 0, 0, 0) := by decide +kernel
theorem aJ6_bitCount_0f7a4_4 : i_at mJ6_bitCount_0f7a4.2.2.2.2.2 4 = some (.ldc_w 265, 3, 0, 0, 819, 1431655765) := by decide +kernel
theorem aJ6_bitCount_0f7a4_7 : i_at mJ6_bitCount_0f7a4.2.2.2.2.2 7 = some (.iand, 1, 0, 0, 0, 0) := by decide +kernel
theorem aJ6_bitCount_0f7a4_8 : i_at mJ6_bitCount_0f7a4.2.2.2.2.2 8 = some (.isub, 1, 0, 0, 0, 0) := by decide +kernel
theorem aJ6_bitCount_0f7a4_9 : i_at mJ6_bitCount_0f7a4.2.2.2.2.2 9 = some (.istore_n 0, 1, 0, 0, 0, 0) := by decide +kernel
theorem aJ6_bitCount_0f7a4_10 : i_at mJ6_bitCount_0f7a4.2.2.2.2.2 10 = some (.iload_n 0, 1, 0, 0, 0, 0) := by decide +kernel
theorem aJ6_bitCount_0f7a4_11 : i_at mJ6_bitCount_0f7a4.2.2.2.2.2 11 = some (.ldc_w 266, 3, 0, 0, 820, 858993459) := by decide +kernel
theorem aJ6_bitCount_0f7a4_14 : i_at mJ6_bitCount_0f7a4.2.2.2.2.2 14 = some (.iand, 1, 0, 0, 0, 0) := by decide +kernel
theorem aJ6_bitCount_0f7a4_15 : i_at mJ6_bitCount_0f7a4.2.2.2.2.2 15 = some (.iload_n 0, 1, 0, 0, 0, 0) := by decide +kernel
theorem aJ6_bitCount_0f7a4_16 : i_at mJ6_bitCount_0f7a4.2.2.2.2.2 16 = some (.iconst 2, 1, 0, 0, 0, 0) := by decide +kernel
theorem aJ6_bitCount_0f7a4_17 : i_at mJ6_bitCount_0f7a4.2.2.2.2.2 17 = some (.iushr, 1, 0, 0, 0, 0) := by decide +kernel
theorem aJ6_bitCount_0f7a4_18 : i_at mJ6_bitCount_0f7a4.2.2.2.2.2 18 = some (.ldc_w 266, 3, 0, 0, 820, 858993459) := by decide +kernel
theorem aJ6_bitCount_0f7a4_21 : i_at mJ6_bitCount_0f7a4.2.2.2.2.2 21 = some (.iand, 1, 0, 0, 0, 0) := by decide +kernel
theorem aJ6_bitCount_0f7a4_22 : i_at mJ6_bitCount_0f7a4.2.2.2.2.2 22 = some (.iadd, 1, 0, 0, 0, 0) := by decide +kernel
theorem aJ6_bitCount_0f7a4_23 : i_at mJ6_bitCount_0f7a4.2.2.2.2.2 23 = some (.istore_n 0, 1, 0, 0, 0, 0) := by decide +kernel
theorem aJ6_bitCount_0f7a4_24 : i_at mJ6_bitCount_0f7a4.2.2.2.2.2 24 = some (.iload_n 0, 1, 0, 0, 0, 0) := by decide +kernel
theorem aJ6_bitCount_0f7a4_25 : i_at mJ6_bitCount_0f7a4.2.2.2.2.2 25 = some (.iload_n 0, 1, 0, 0, 0, 0) := by decide +kernel
theorem aJ6_bitCount_0f7a4_26 : i_at mJ6_bitCount_0f7a4.2.2.2.2.2 26 = some (.iconst 4, 1, 0, 0, 0, 0) := by decide +kernel
theorem aJ6_bitCount_0f7a4_27 : i_at mJ6_bitCount_0f7a4.2.2.2.2.2 27 = some (.iushr, 1, 0, 0, 0, 0) := by decide +kernel
theorem aJ6_bitCount_0f7a4_28 : i_at mJ6_bitCount_0f7a4.2.2.2.2.2 28 = some (.iadd, 1, 0, 0, 0, 0) := by decide +kernel
theorem aJ6_bitCount_0f7a4_29 : i_at mJ6_bitCount_0f7a4.2.2.2.2.2 29 = some (.ldc_w 267, 3, 0, 0, 821, 252645135) := by decide +kernel
theorem aJ6_bitCount_0f7a4_32 : i_at mJ6_bitCount_0f7a4.2.2.2.2.2 32 = some (.iand, 1, 0, 0, 0, 0) := by decide +kernel
theorem aJ6_bitCount_0f7a4_33 : i_at mJ6_bitCount_0f7a4.2.2.2.2.2 33 = some (.istore_n 0, 1, 0, 0, 0, 0) := by decide +kernel
theorem aJ6_bitCount_0f7a4_34 : i_at mJ6_bitCount_0f7a4.2.2.2.2.2 34 = some (.iload_n 0, 1, 0, 0, 0, 0) := by decide +kernel
theorem aJ6_bitCount_0f7a4_35 : i_at mJ6_bitCount_0f7a4.2.2.2.2.2 35 = some (.iload_n 0, 1, 0, 0, 0, 0) := by decide +kernel
theorem aJ6_bitCount_0f7a4_36 : i_at mJ6_bitCount_0f7a4.2.2.2.2.2 36 = some (.bipush 8, 2, 0, 0, 0, 0) := by decide +kernel
theorem aJ6_bitCount_0f7a4_38 : i_at mJ6_bitCount_0f7a4.2.2.2.2.2 38 = some (.iushr, 1, 0, 0, 0, 0) := by decide +kernel
theorem aJ6_bitCount_0f7a4_39 : i_at mJ6_bitCount_0f7a4.2.2.2.2.2 39 = some (.iadd, 1, 0, 0, 0, 0) := by decide +kernel
theorem aJ6_bitCount_0f7a4_40 : i_at mJ6_bitCount_0f7a4.2.2.2.2.2 40 = some (.istore_n 0, 1, 0, 0, 0, 0) := by decide +kernel
theorem aJ6_bitCount_0f7a4_41 : i_at mJ6_bitCount_0f7a4.2.2.2.2.2 41 = some (.iload_n 0, 1, 0, 0, 0, 0) := by decide +kernel
theorem aJ6_bitCount_0f7a4_42 : i_at mJ6_bitCount_0f7a4.2.2.2.2.2 42 = some (.iload_n 0, 1, 0, 0, 0, 0) := by decide +kernel
theorem aJ6_bitCount_0f7a4_43 : i_at mJ6_bitCount_0f7a4.2.2.2.2.2 43 = some (.bipush 16, 2, 0, 0, 0, 0) := by decide +kernel
theorem aJ6_bitCount_0f7a4_45 : i_at mJ6_bitCount_0f7a4.2.2.2.2.2 45 = some (.iushr, 1, 0, 0, 0, 0) := by decide +kernel
theorem aJ6_bitCount_0f7a4_46 : i_at mJ6_bitCount_0f7a4.2.2.2.2.2 46 = some (.iadd, 1, 0, 0, 0, 0) := by decide +kernel
theorem aJ6_bitCount_0f7a4_47 : i_at mJ6_bitCount_0f7a4.2.2.2.2.2 47 = some (.istore_n 0, 1, 0, 0, 0, 0) := by decide +kernel
theorem aJ6_bitCount_0f7a4_48 : i_at mJ6_bitCount_0f7a4.2.2.2.2.2 48 = some (.iload_n 0, 1, 0, 0, 0, 0) := by decide +kernel
theorem aJ6_bitCount_0f7a4_49 : i_at mJ6_bitCount_0f7a4.2.2.2.2.2 49 = some (.bipush 63, 2, 0, 0, 0, 0) := by decide +kernel
theorem aJ6_bitCount_0f7a4_51 : i_at mJ6_bitCount_0f7a4.2.2.2.2.2 51 = some (.iand, 1, 0, 0, 0, 0) := by decide +kernel
theorem aJ6_bitCount_0f7a4_52 : i_at mJ6_bitCount_0f7a4.2.2.2.2.2 52 = some (.ireturn, 1, 0, 0, 0, 0) := by decide +kernel
noncomputable def fJ6_bitCount_0f7a4 (sh : List kd) (σ : St) (p0 : Int32) : Option (Int32 × St) := i_jp ((((p0 - ((p0.toUInt32 >>> ((1 : Int32).toUInt32 &&& Int32.toUInt32 31)).toInt32 &&& 1431655765)) &&& 858993459) + (((p0 - ((p0.toUInt32 >>> ((1 : Int32).toUInt32 &&& Int32.toUInt32 31)).toInt32 &&& 1431655765)).toUInt32 >>> ((2 : Int32).toUInt32 &&& Int32.toUInt32 31)).toInt32 &&& 858993459)) : Int32) (fun x1 => i_jp ((((x1 + (x1.toUInt32 >>> ((4 : Int32).toUInt32 &&& Int32.toUInt32 31)).toInt32) &&& 252645135) + (((x1 + (x1.toUInt32 >>> ((4 : Int32).toUInt32 &&& Int32.toUInt32 31)).toInt32) &&& 252645135).toUInt32 >>> ((8 : Int32).toUInt32 &&& Int32.toUInt32 31)).toInt32) : Int32) (fun x3 => some (((x3 + (x3.toUInt32 >>> ((16 : Int32).toUInt32 &&& Int32.toUInt32 31)).toInt32) &&& 63), σ)))
set_option maxRecDepth 20000 in
set_option maxHeartbeats 2000000 in
theorem tJ6_bitCount_0f7a4 {sh : List kd} {σ τ : St} {r : Int32} (hsh : cSh sh) {p0 : Int32} (hE : fJ6_bitCount_0f7a4 sh σ p0 = some (r, τ)) : i_X 1 230 [.int p0] (s_h sh σ) 0 0 (some (.int r)) (s_h sh τ) := by
  refine g_X (M := mJ6_bitCount_0f7a4) (loc := [.int p0]) rfl (Nat.le_of_ble_eq_true rfl) rfl ?_
  unfold fJ6_bitCount_0f7a4 at hE
  refine g_ldin aJ6_bitCount_0f7a4_0 rfl ?_
  refine g_ldin aJ6_bitCount_0f7a4_1 rfl ?_
  refine g_iconst (x := 1) aJ6_bitCount_0f7a4_2 rfl ?_
  refine g_iushr aJ6_bitCount_0f7a4_3 ?_
  refine g_ldcwI (x := 1431655765) aJ6_bitCount_0f7a4_4 rfl rfl ?_
  refine g_iand aJ6_bitCount_0f7a4_7 ?_
  refine g_isub aJ6_bitCount_0f7a4_8 ?_
  refine g_stin (loc2 := [.int (p0 - ((p0.toUInt32 >>> ((1 : Int32).toUInt32 &&& Int32.toUInt32 31)).toInt32 &&& 1431655765))]) aJ6_bitCount_0f7a4_9 (Nat.le_of_ble_eq_true rfl) rfl ?_
  refine g_ldin aJ6_bitCount_0f7a4_10 rfl ?_
  refine g_ldcwI (x := 858993459) aJ6_bitCount_0f7a4_11 rfl rfl ?_
  refine g_iand aJ6_bitCount_0f7a4_14 ?_
  refine g_ldin aJ6_bitCount_0f7a4_15 rfl ?_
  refine g_iconst (x := 2) aJ6_bitCount_0f7a4_16 rfl ?_
  refine g_iushr aJ6_bitCount_0f7a4_17 ?_
  refine g_ldcwI (x := 858993459) aJ6_bitCount_0f7a4_18 rfl rfl ?_
  refine g_iand aJ6_bitCount_0f7a4_21 ?_
  refine g_iadd aJ6_bitCount_0f7a4_22 ?_
  obtain ⟨x1, h2, hE⟩ := i_jp_some hE
  rw [← h2]
  refine g_stin (loc2 := [.int x1]) aJ6_bitCount_0f7a4_23 (Nat.le_of_ble_eq_true rfl) rfl ?_
  refine g_ldin aJ6_bitCount_0f7a4_24 rfl ?_
  refine g_ldin aJ6_bitCount_0f7a4_25 rfl ?_
  refine g_iconst (x := 4) aJ6_bitCount_0f7a4_26 rfl ?_
  refine g_iushr aJ6_bitCount_0f7a4_27 ?_
  refine g_iadd aJ6_bitCount_0f7a4_28 ?_
  refine g_ldcwI (x := 252645135) aJ6_bitCount_0f7a4_29 rfl rfl ?_
  refine g_iand aJ6_bitCount_0f7a4_32 ?_
  refine g_stin (loc2 := [.int ((x1 + (x1.toUInt32 >>> ((4 : Int32).toUInt32 &&& Int32.toUInt32 31)).toInt32) &&& 252645135)]) aJ6_bitCount_0f7a4_33 (Nat.le_of_ble_eq_true rfl) rfl ?_
  refine g_ldin aJ6_bitCount_0f7a4_34 rfl ?_
  refine g_ldin aJ6_bitCount_0f7a4_35 rfl ?_
  refine g_bipush (x := 8) aJ6_bitCount_0f7a4_36 rfl ?_
  refine g_iushr aJ6_bitCount_0f7a4_38 ?_
  refine g_iadd aJ6_bitCount_0f7a4_39 ?_
  obtain ⟨x3, h4, hE⟩ := i_jp_some hE
  rw [← h4]
  refine g_stin (loc2 := [.int x3]) aJ6_bitCount_0f7a4_40 (Nat.le_of_ble_eq_true rfl) rfl ?_
  refine g_ldin aJ6_bitCount_0f7a4_41 rfl ?_
  refine g_ldin aJ6_bitCount_0f7a4_42 rfl ?_
  refine g_bipush (x := 16) aJ6_bitCount_0f7a4_43 rfl ?_
  refine g_iushr aJ6_bitCount_0f7a4_45 ?_
  refine g_iadd aJ6_bitCount_0f7a4_46 ?_
  refine g_stin (loc2 := [.int (x3 + (x3.toUInt32 >>> ((16 : Int32).toUInt32 &&& Int32.toUInt32 31)).toInt32)]) aJ6_bitCount_0f7a4_47 (Nat.le_of_ble_eq_true rfl) rfl ?_
  refine g_ldin aJ6_bitCount_0f7a4_48 rfl ?_
  refine g_bipush (x := 63) aJ6_bitCount_0f7a4_49 rfl ?_
  refine g_iand aJ6_bitCount_0f7a4_51 ?_
  obtain ⟨rfl, rfl⟩ := i_some_inj hE
  exact g_iret aJ6_bitCount_0f7a4_52 rfl rfl
theorem aJ7_fill_53178_0 : i_at mJ7_fill_53178.2.2.2.2.2 0 = some (.iconst 0, 1, 0, 0, 0, 0) := by decide +kernel
theorem aJ7_fill_53178_1 : i_at mJ7_fill_53178.2.2.2.2.2 1 = some (.istore_n 2, 1, 0, 0, 0, 0) := by decide +kernel
theorem aJ7_fill_53178_2 : i_at mJ7_fill_53178.2.2.2.2.2 2 = some (.aload_n 0, 1, 0, 0, 0, 0) := by decide +kernel
theorem aJ7_fill_53178_3 : i_at mJ7_fill_53178.2.2.2.2.2 3 = some (.arraylength, 1, 0, 0, 0, 0) := by decide +kernel
theorem aJ7_fill_53178_4 : i_at mJ7_fill_53178.2.2.2.2.2 4 = some (.istore_n 3, 1, 0, 0, 0, 0) := by decide +kernel
theorem aJ7_fill_53178_5 : i_at mJ7_fill_53178.2.2.2.2.2 5 = some (.iload_n 2, 1, 0, 0, 0, 0) := by decide +kernel
theorem aJ7_fill_53178_6 : i_at mJ7_fill_53178.2.2.2.2.2 6 = some (.iload_n 3, 1, 0, 0, 0, 0) := by decide +kernel
theorem aJ7_fill_53178_7 : i_at mJ7_fill_53178.2.2.2.2.2 7 = some (.if_icmp .ge 13, 3, 20, 0, 0, 0) := by decide +kernel
theorem aJ7_fill_53178_10 : i_at mJ7_fill_53178.2.2.2.2.2 10 = some (.aload_n 0, 1, 0, 0, 0, 0) := by decide +kernel
theorem aJ7_fill_53178_11 : i_at mJ7_fill_53178.2.2.2.2.2 11 = some (.iload_n 2, 1, 0, 0, 0, 0) := by decide +kernel
theorem aJ7_fill_53178_12 : i_at mJ7_fill_53178.2.2.2.2.2 12 = some (.iload_n 1, 1, 0, 0, 0, 0) := by decide +kernel
theorem aJ7_fill_53178_13 : i_at mJ7_fill_53178.2.2.2.2.2 13 = some (.iastore, 1, 0, 0, 0, 0) := by decide +kernel
theorem aJ7_fill_53178_14 : i_at mJ7_fill_53178.2.2.2.2.2 14 = some (.iinc 2 1, 3, 0, 0, 0, 0) := by decide +kernel
theorem aJ7_fill_53178_17 : i_at mJ7_fill_53178.2.2.2.2.2 17 = some (.goto (-12), 3, 5, 0, 0, 0) := by decide +kernel
theorem aJ7_fill_53178_20 : i_at mJ7_fill_53178.2.2.2.2.2 20 = some (.return_, 1, 0, 0, 0, 0) := by decide +kernel
noncomputable def fJ7_fill_53178_L5 (sh : List kd) (p0 : Nat) (p1 : Int32) (n1 : Nat) : Nat → Int32 → St → Option (Unit × St)
  | 0, _, _ => none
  | n5 + 1, x3, s4 => if (Int32.ofNat n1) ≤ x3 then some ((), s4) else i_al sh .int p0 (fun n57 => if i_ok x3 n57 then (fJ7_fill_53178_L5 sh p0 p1 n1 n5 (x3 + 1) (s_A s4 p0 x3.toNatClampNeg p1)) else none)
noncomputable def fJ7_fill_53178 (sh : List kd) (σ : St) (p0 : Nat) (p1 : Int32) : Option (Unit × St) := i_al sh .int p0 (fun n1 => fJ7_fill_53178_L5 sh p0 p1 n1 i_F 0 σ)
set_option maxRecDepth 20000 in
set_option maxHeartbeats 2000000 in
theorem tJ7_fill_53178_L5 {sh : List kd} {τ : St} {r : Unit} (hsh : cSh sh) {p0 : Nat} {p1 : Int32} {n1 : Nat} : ∀ (n0 : Nat) (x3 : Int32) (s4 : St), fJ7_fill_53178_L5 sh p0 p1 n1 n0 x3 s4 = some (r, τ) → g_R sh 0 mJ7_fill_53178 none τ 5 [.ref p0, .int p1, .int x3, .int (Int32.ofNat n1)] [] (s4) := by
  intro n0
  induction n0 with
  | zero => intro _ _ hE; cases hE
  | succ n5 ih =>
    intro x3 s4 hE
    unfold fJ7_fill_53178_L5 at hE
    refine g_ldin aJ7_fill_53178_5 rfl ?_
    refine g_ldin aJ7_fill_53178_6 rfl ?_
    by_cases hc56 : (Int32.ofNat n1) ≤ x3
    · rw [if_pos hc56] at hE
      refine g_ic_ge_t aJ7_fill_53178_7 hc56 ?_
      obtain ⟨rfl, rfl⟩ := i_some_inj hE
      exact g_vret aJ7_fill_53178_20 rfl
    · rw [if_neg hc56] at hE
      refine g_ic_ge_f aJ7_fill_53178_7 hc56 ?_
      refine g_ldan aJ7_fill_53178_10 rfl ?_
      refine g_ldin aJ7_fill_53178_11 rfl ?_
      refine g_ldin aJ7_fill_53178_12 rfl ?_
      obtain ⟨n57, h58, hE⟩ := i_al_some hE
      obtain ⟨h59, hE⟩ := i_ifn hE
      refine g_ist aJ7_fill_53178_13 (h58) h59 ?_
      refine g_iinc (y := 1) (loc2 := [.ref p0, .int p1, .int (x3 + 1), .int (Int32.ofNat n1)]) aJ7_fill_53178_14 rfl rfl rfl ?_
      refine g_goto aJ7_fill_53178_17 ?_
      exact ih _ _ hE
set_option maxRecDepth 20000 in
set_option maxHeartbeats 2000000 in
theorem tJ7_fill_53178 {sh : List kd} {σ τ : St} {r : Unit} (hsh : cSh sh) {p0 : Nat} {p1 : Int32} (hE : fJ7_fill_53178 sh σ p0 p1 = some (r, τ)) : i_X 1 231 [.ref p0, .int p1] (s_h sh σ) 0 0 none (s_h sh τ) := by
  refine g_X (M := mJ7_fill_53178) (loc := [.ref p0, .int p1, .retAddr 0, .retAddr 0]) rfl (Nat.le_of_ble_eq_true rfl) rfl ?_
  unfold fJ7_fill_53178 at hE
  refine g_iconst (x := 0) aJ7_fill_53178_0 rfl ?_
  refine g_stin (loc2 := [.ref p0, .int p1, .int 0, .retAddr 0]) aJ7_fill_53178_1 (Nat.le_of_ble_eq_true rfl) rfl ?_
  refine g_ldan aJ7_fill_53178_2 rfl ?_
  obtain ⟨n1, h2, hE⟩ := i_al_some hE
  refine g_len aJ7_fill_53178_3 h2 ?_
  refine g_stin (loc2 := [.ref p0, .int p1, .int 0, .int (Int32.ofNat n1)]) aJ7_fill_53178_4 (Nat.le_of_ble_eq_true rfl) rfl ?_
  exact tJ7_fill_53178_L5 hsh i_F _ _ hE
