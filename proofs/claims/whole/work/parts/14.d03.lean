/-! X12_digits X12_value X12_term X12_sum X12_compared X12_top X12_opens X12_answers X12_fact -/
theorem aX12_digits_0 : i_at mX12_digits.2.2.2.2.2 0 = some (.aload_n 0, 1, 0, 0, 0, 0) := by decide +kernel
theorem aX12_digits_1 : i_at mX12_digits.2.2.2.2.2 1 = some (.invokevirtual 206, 3, 140, 0, 1318, 0) := by decide +kernel
theorem aX12_digits_4 : i_at mX12_digits.2.2.2.2.2 4 = some (.ifCond .ne 14, 3, 18, 0, 0, 0) := by decide +kernel
theorem aX12_digits_7 : i_at mX12_digits.2.2.2.2.2 7 = some (.aload_n 0, 1, 0, 0, 0, 0) := by decide +kernel
theorem aX12_digits_8 : i_at mX12_digits.2.2.2.2.2 8 = some (.iconst 0, 1, 0, 0, 0, 0) := by decide +kernel
theorem aX12_digits_9 : i_at mX12_digits.2.2.2.2.2 9 = some (.aload_n 0, 1, 0, 0, 0, 0) := by decide +kernel
theorem aX12_digits_10 : i_at mX12_digits.2.2.2.2.2 10 = some (.getfield 166, 3, 11, 20, 1107, 0) := by decide +kernel
theorem aX12_digits_13 : i_at mX12_digits.2.2.2.2.2 13 = some (.invokevirtual 202, 3, 137, 2, 1297, 0) := by decide +kernel
theorem aX12_digits_16 : i_at mX12_digits.2.2.2.2.2 16 = some (.iconst 0, 1, 0, 0, 0, 0) := by decide +kernel
theorem aX12_digits_17 : i_at mX12_digits.2.2.2.2.2 17 = some (.ireturn, 1, 0, 0, 0, 0) := by decide +kernel
theorem aX12_digits_18 : i_at mX12_digits.2.2.2.2.2 18 = some (.aload_n 0, 1, 0, 0, 0, 0) := by decide +kernel
theorem aX12_digits_19 : i_at mX12_digits.2.2.2.2.2 19 = some (.getfield 166, 3, 11, 20, 1107, 0) := by decide +kernel
theorem aX12_digits_22 : i_at mX12_digits.2.2.2.2.2 22 = some (.istore_n 2, 1, 0, 0, 0, 0) := by decide +kernel
theorem aX12_digits_23 : i_at mX12_digits.2.2.2.2.2 23 = some (.iconst 0, 1, 0, 0, 0, 0) := by decide +kernel
theorem aX12_digits_24 : i_at mX12_digits.2.2.2.2.2 24 = some (.istore_n 3, 1, 0, 0, 0, 0) := by decide +kernel
theorem aX12_digits_25 : i_at mX12_digits.2.2.2.2.2 25 = some (.aload_n 0, 1, 0, 0, 0, 0) := by decide +kernel
theorem aX12_digits_26 : i_at mX12_digits.2.2.2.2.2 26 = some (.invokevirtual 206, 3, 140, 0, 1318, 0) := by decide +kernel
theorem aX12_digits_29 : i_at mX12_digits.2.2.2.2.2 29 = some (.ifCond .eq 43, 3, 72, 0, 0, 0) := by decide +kernel
theorem aX12_digits_32 : i_at mX12_digits.2.2.2.2.2 32 = some (.aload_n 0, 1, 0, 0, 0, 0) := by decide +kernel
theorem aX12_digits_33 : i_at mX12_digits.2.2.2.2.2 33 = some (.getfield 166, 3, 11, 20, 1107, 0) := by decide +kernel
theorem aX12_digits_36 : i_at mX12_digits.2.2.2.2.2 36 = some (.iload_n 2, 1, 0, 0, 0, 0) := by decide +kernel
theorem aX12_digits_37 : i_at mX12_digits.2.2.2.2.2 37 = some (.isub, 1, 0, 0, 0, 0) := by decide +kernel
theorem aX12_digits_38 : i_at mX12_digits.2.2.2.2.2 38 = some (.iconst 5, 1, 0, 0, 0, 0) := by decide +kernel
theorem aX12_digits_39 : i_at mX12_digits.2.2.2.2.2 39 = some (.if_icmp .ge 18, 3, 57, 0, 0, 0) := by decide +kernel
theorem aX12_digits_42 : i_at mX12_digits.2.2.2.2.2 42 = some (.bipush 10, 2, 0, 0, 0, 0) := by decide +kernel
theorem aX12_digits_44 : i_at mX12_digits.2.2.2.2.2 44 = some (.iload_n 3, 1, 0, 0, 0, 0) := by decide +kernel
theorem aX12_digits_45 : i_at mX12_digits.2.2.2.2.2 45 = some (.imul, 1, 0, 0, 0, 0) := by decide +kernel
theorem aX12_digits_46 : i_at mX12_digits.2.2.2.2.2 46 = some (.aload_n 0, 1, 0, 0, 0, 0) := by decide +kernel
theorem aX12_digits_47 : i_at mX12_digits.2.2.2.2.2 47 = some (.invokevirtual 169, 3, 138, 0, 1279, 0) := by decide +kernel
theorem aX12_digits_50 : i_at mX12_digits.2.2.2.2.2 50 = some (.iadd, 1, 0, 0, 0, 0) := by decide +kernel
theorem aX12_digits_51 : i_at mX12_digits.2.2.2.2.2 51 = some (.bipush 48, 2, 0, 0, 0, 0) := by decide +kernel
theorem aX12_digits_53 : i_at mX12_digits.2.2.2.2.2 53 = some (.isub, 1, 0, 0, 0, 0) := by decide +kernel
theorem aX12_digits_54 : i_at mX12_digits.2.2.2.2.2 54 = some (.goto 4, 3, 58, 0, 0, 0) := by decide +kernel
theorem aX12_digits_57 : i_at mX12_digits.2.2.2.2.2 57 = some (.iload_n 3, 1, 0, 0, 0, 0) := by decide +kernel
theorem aX12_digits_58 : i_at mX12_digits.2.2.2.2.2 58 = some (.istore_n 3, 1, 0, 0, 0, 0) := by decide +kernel
theorem aX12_digits_59 : i_at mX12_digits.2.2.2.2.2 59 = some (.aload_n 0, 1, 0, 0, 0, 0) := by decide +kernel
theorem aX12_digits_60 : i_at mX12_digits.2.2.2.2.2 60 = some (.dup, 1, 0, 0, 0, 0) := by decide +kernel
theorem aX12_digits_61 : i_at mX12_digits.2.2.2.2.2 61 = some (.getfield 166, 3, 11, 20, 1107, 0) := by decide +kernel
theorem aX12_digits_64 : i_at mX12_digits.2.2.2.2.2 64 = some (.iconst 1, 1, 0, 0, 0, 0) := by decide +kernel
theorem aX12_digits_65 : i_at mX12_digits.2.2.2.2.2 65 = some (.iadd, 1, 0, 0, 0, 0) := by decide +kernel
theorem aX12_digits_66 : i_at mX12_digits.2.2.2.2.2 66 = some (.putfield 166, 3, 11, 20, 1107, 0) := by decide +kernel
theorem aX12_digits_69 : i_at mX12_digits.2.2.2.2.2 69 = some (.goto (-44), 3, 25, 0, 0, 0) := by decide +kernel
theorem aX12_digits_72 : i_at mX12_digits.2.2.2.2.2 72 = some (.aload_n 0, 1, 0, 0, 0, 0) := by decide +kernel
theorem aX12_digits_73 : i_at mX12_digits.2.2.2.2.2 73 = some (.getfield 166, 3, 11, 20, 1107, 0) := by decide +kernel
theorem aX12_digits_76 : i_at mX12_digits.2.2.2.2.2 76 = some (.iload_n 2, 1, 0, 0, 0, 0) := by decide +kernel
theorem aX12_digits_77 : i_at mX12_digits.2.2.2.2.2 77 = some (.isub, 1, 0, 0, 0, 0) := by decide +kernel
theorem aX12_digits_78 : i_at mX12_digits.2.2.2.2.2 78 = some (.iconst 5, 1, 0, 0, 0, 0) := by decide +kernel
theorem aX12_digits_79 : i_at mX12_digits.2.2.2.2.2 79 = some (.if_icmp .gt 8, 3, 87, 0, 0, 0) := by decide +kernel
theorem aX12_digits_82 : i_at mX12_digits.2.2.2.2.2 82 = some (.iload_n 3, 1, 0, 0, 0, 0) := by decide +kernel
theorem aX12_digits_83 : i_at mX12_digits.2.2.2.2.2 83 = some (.iload_n 1, 1, 0, 0, 0, 0) := by decide +kernel
theorem aX12_digits_84 : i_at mX12_digits.2.2.2.2.2 84 = some (.if_icmp .le 9, 3, 93, 0, 0, 0) := by decide +kernel
theorem aX12_digits_87 : i_at mX12_digits.2.2.2.2.2 87 = some (.aload_n 0, 1, 0, 0, 0, 0) := by decide +kernel
theorem aX12_digits_88 : i_at mX12_digits.2.2.2.2.2 88 = some (.iconst 1, 1, 0, 0, 0, 0) := by decide +kernel
theorem aX12_digits_89 : i_at mX12_digits.2.2.2.2.2 89 = some (.iload_n 2, 1, 0, 0, 0, 0) := by decide +kernel
theorem aX12_digits_90 : i_at mX12_digits.2.2.2.2.2 90 = some (.invokevirtual 202, 3, 137, 2, 1297, 0) := by decide +kernel
theorem aX12_digits_93 : i_at mX12_digits.2.2.2.2.2 93 = some (.iload_n 3, 1, 0, 0, 0, 0) := by decide +kernel
theorem aX12_digits_94 : i_at mX12_digits.2.2.2.2.2 94 = some (.ireturn, 1, 0, 0, 0, 0) := by decide +kernel
noncomputable def fX12_digits_J58 (sh : List kd) (p1 : Int32) (s2 : St) (x5 : Int32) (k25 : Int32 → St → Option (Int32 × St)) (x114 : Int32) (s115 : St) : Option (Int32 × St) := k25 x114 (s_F s115 0 20 ((s115.1 0 20) + 1))
noncomputable def fX12_digits_L25 (sh : List kd) (p1 : Int32) (s2 : St) (k72 : Int32 → St → Option (Int32 × St)) : Nat → Int32 → St → Option (Int32 × St)
  | 0, _, _ => none
  | n59 + 1, x5, s6 => i_bd (fX12_isDigit sh s6) (fun r60 s61 => if r60 = 0 then k72 x5 s61 else if 5 ≤ ((s61.1 0 20) - (s2.1 0 20)) then fX12_digits_J58 sh p1 s2 x5 (fX12_digits_L25 sh p1 s2 k72 n59) x5 s61 else i_bd (fX12_sign sh s61) (fun r117 s118 => fX12_digits_J58 sh p1 s2 x5 (fX12_digits_L25 sh p1 s2 k72 n59) (((10 * x5) + r117) - 48) s118))
noncomputable def fX12_digits_J93 (sh : List kd) (p1 : Int32) (s2 : St) (x57 : Int32) (s170 : St) : Option (Int32 × St) := some (x57, s170)
noncomputable def fX12_digits_X72 (sh : List kd) (p1 : Int32) (s2 : St) (x57 : Int32) (s58 : St) : Option (Int32 × St) := if 5 < ((s58.1 0 20) - (s2.1 0 20)) then i_bd (fX12_fails sh s58 1 (s2.1 0 20)) (fun r172 s173 => fX12_digits_J93 sh p1 s2 x57 s173) else if x57 ≤ p1 then fX12_digits_J93 sh p1 s2 x57 s58 else i_bd (fX12_fails sh s58 1 (s2.1 0 20)) (fun r176 s177 => fX12_digits_J93 sh p1 s2 x57 s177)
noncomputable def fX12_digits (sh : List kd) (σ : St) (p1 : Int32) : Option (Int32 × St) := i_bd (fX12_isDigit sh σ) (fun r1 s2 => if ¬ r1 = 0 then fX12_digits_L25 sh p1 s2 (fun (x57 : Int32) (s58 : St) => fX12_digits_X72 sh p1 s2 x57 s58) i_F 0 s2 else i_bd (fX12_fails sh s2 0 (s2.1 0 20)) (fun r179 s180 => some (0, s180)))
set_option maxRecDepth 20000 in
set_option maxHeartbeats 2000000 in
theorem tX12_digits_J58 {sh : List kd} {τ : St} {r : Int32} (hsh : rmSh sh) {p1 : Int32} {s2 : St} {x5 : Int32} {x114 : Int32} {s115 : St} {k25 : Int32 → St → Option (Int32 × St)} (hk25 : ∀ (x5 : Int32) (s6 : St), k25 x5 s6 = some (r, τ) → g_R sh 2 mX12_digits (some (.int r)) τ 25 [.ref 0, .int p1, .int (s2.1 0 20), .int x5] [] (s6)) (hE : fX12_digits_J58 sh p1 s2 x5 k25 x114 s115 = some (r, τ)) : g_R sh 2 mX12_digits (some (.int r)) τ 58 [.ref 0, .int p1, .int (s2.1 0 20), .int x5] [.int x114] (s115) := by
  unfold fX12_digits_J58 at hE
  refine g_stin (loc2 := [.ref 0, .int p1, .int (s2.1 0 20), .int x114]) aX12_digits_58 (Nat.le_of_ble_eq_true rfl) rfl ?_
  refine g_ldan aX12_digits_59 rfl ?_
  refine g_dupa aX12_digits_60 ?_
  refine g_getI aX12_digits_61 (sR_0 hsh) rfl ?_
  refine g_iconst (x := 1) aX12_digits_64 rfl ?_
  refine g_iadd aX12_digits_65 ?_
  refine g_putI aX12_digits_66 (sR_0 hsh) rfl rfl ?_
  refine g_goto aX12_digits_69 ?_
  exact hk25 _ _ hE
set_option maxRecDepth 20000 in
set_option maxHeartbeats 2000000 in
theorem tX12_digits_L25 {sh : List kd} {τ : St} {r : Int32} (hsh : rmSh sh) {p1 : Int32} {s2 : St} {k72 : Int32 → St → Option (Int32 × St)} (hk72 : ∀ (x57 : Int32) (s58 : St), k72 x57 s58 = some (r, τ) → g_R sh 2 mX12_digits (some (.int r)) τ 72 [.ref 0, .int p1, .int (s2.1 0 20), .int x57] [] (s58)) : ∀ (n0 : Nat) (x5 : Int32) (s6 : St), fX12_digits_L25 sh p1 s2 k72 n0 x5 s6 = some (r, τ) → g_R sh 2 mX12_digits (some (.int r)) τ 25 [.ref 0, .int p1, .int (s2.1 0 20), .int x5] [] (s6) := by
  intro n0
  induction n0 with
  | zero => intro _ _ hE; cases hE
  | succ n59 ih =>
    intro x5 s6 hE
    unfold fX12_digits_L25 at hE
    refine g_ldan aX12_digits_25 rfl ?_
    obtain ⟨r60, s61, h62, hE⟩ := i_bd_some hE
    refine g_calV (As := []) (rest := []) aX12_digits_26 (i_X_mono (by omega) (tX12_isDigit hsh h62)) (sR_0 hsh) (by decide +kernel) rfl rfl (Nat.le_of_ble_eq_true rfl) rfl ?_
    by_cases hc63 : r60 = 0
    · rw [if_pos hc63] at hE
      refine g_if_eq_t aX12_digits_29 hc63 ?_
      exact hk72 _ _ hE
    · rw [if_neg hc63] at hE
      refine g_if_eq_f aX12_digits_29 hc63 ?_
      refine g_ldan aX12_digits_32 rfl ?_
      refine g_getI aX12_digits_33 (sR_0 hsh) rfl ?_
      refine g_ldin aX12_digits_36 rfl ?_
      refine g_isub aX12_digits_37 ?_
      refine g_iconst (x := 5) aX12_digits_38 rfl ?_
      by_cases hc116 : 5 ≤ ((s61.1 0 20) - (s2.1 0 20))
      · rw [if_pos hc116] at hE
        refine g_ic_ge_t aX12_digits_39 hc116 ?_
        refine g_ldin aX12_digits_57 rfl ?_
        exact tX12_digits_J58 hsh ih hE
      · rw [if_neg hc116] at hE
        refine g_ic_ge_f aX12_digits_39 hc116 ?_
        refine g_bipush (x := 10) aX12_digits_42 rfl ?_
        refine g_ldin aX12_digits_44 rfl ?_
        refine g_imul aX12_digits_45 ?_
        refine g_ldan aX12_digits_46 rfl ?_
        obtain ⟨r117, s118, h119, hE⟩ := i_bd_some hE
        refine g_calV (As := []) (rest := [.int (10 * x5)]) aX12_digits_47 (i_X_mono (by omega) (tX12_sign hsh h119)) (sR_0 hsh) (by decide +kernel) rfl rfl (Nat.le_of_ble_eq_true rfl) rfl ?_
        refine g_iadd aX12_digits_50 ?_
        refine g_bipush (x := 48) aX12_digits_51 rfl ?_
        refine g_isub aX12_digits_53 ?_
        refine g_goto aX12_digits_54 ?_
        exact tX12_digits_J58 hsh ih hE
set_option maxRecDepth 20000 in
set_option maxHeartbeats 2000000 in
theorem tX12_digits_J93 {sh : List kd} {τ : St} {r : Int32} (hsh : rmSh sh) {p1 : Int32} {s2 : St} {x57 : Int32} {s170 : St} (hE : fX12_digits_J93 sh p1 s2 x57 s170 = some (r, τ)) : g_R sh 2 mX12_digits (some (.int r)) τ 93 [.ref 0, .int p1, .int (s2.1 0 20), .int x57] [] (s170) := by
  unfold fX12_digits_J93 at hE
  refine g_ldin aX12_digits_93 rfl ?_
  obtain ⟨rfl, rfl⟩ := i_some_inj hE
  exact g_iret aX12_digits_94 rfl rfl
set_option maxRecDepth 20000 in
set_option maxHeartbeats 2000000 in
theorem tX12_digits_X72 {sh : List kd} {τ : St} {r : Int32} (hsh : rmSh sh) {p1 : Int32} {s2 : St} {x57 : Int32} {s58 : St} (hE : fX12_digits_X72 sh p1 s2 x57 s58 = some (r, τ)) : g_R sh 2 mX12_digits (some (.int r)) τ 72 [.ref 0, .int p1, .int (s2.1 0 20), .int x57] [] (s58) := by
  unfold fX12_digits_X72 at hE
  refine g_ldan aX12_digits_72 rfl ?_
  refine g_getI aX12_digits_73 (sR_0 hsh) rfl ?_
  refine g_ldin aX12_digits_76 rfl ?_
  refine g_isub aX12_digits_77 ?_
  refine g_iconst (x := 5) aX12_digits_78 rfl ?_
  by_cases hc171 : 5 < ((s58.1 0 20) - (s2.1 0 20))
  · rw [if_pos hc171] at hE
    refine g_ic_gt_t aX12_digits_79 hc171 ?_
    refine g_ldan aX12_digits_87 rfl ?_
    refine g_iconst (x := 1) aX12_digits_88 rfl ?_
    refine g_ldin aX12_digits_89 rfl ?_
    obtain ⟨r172, s173, h174, hE⟩ := i_bd_some hE
    refine g_calV (As := [.int 1, .int (s2.1 0 20)]) (rest := []) aX12_digits_90 (i_X_mono (by omega) (tX12_fails hsh h174)) (sR_0 hsh) (by decide +kernel) rfl rfl (Nat.le_of_ble_eq_true rfl) rfl ?_
    exact tX12_digits_J93 hsh hE
  · rw [if_neg hc171] at hE
    refine g_ic_gt_f aX12_digits_79 hc171 ?_
    refine g_ldin aX12_digits_82 rfl ?_
    refine g_ldin aX12_digits_83 rfl ?_
    by_cases hc175 : x57 ≤ p1
    · rw [if_pos hc175] at hE
      refine g_ic_le_t aX12_digits_84 hc175 ?_
      exact tX12_digits_J93 hsh hE
    · rw [if_neg hc175] at hE
      refine g_ic_le_f aX12_digits_84 hc175 ?_
      refine g_ldan aX12_digits_87 rfl ?_
      refine g_iconst (x := 1) aX12_digits_88 rfl ?_
      refine g_ldin aX12_digits_89 rfl ?_
      obtain ⟨r176, s177, h178, hE⟩ := i_bd_some hE
      refine g_calV (As := [.int 1, .int (s2.1 0 20)]) (rest := []) aX12_digits_90 (i_X_mono (by omega) (tX12_fails hsh h178)) (sR_0 hsh) (by decide +kernel) rfl rfl (Nat.le_of_ble_eq_true rfl) rfl ?_
      exact tX12_digits_J93 hsh hE
set_option maxRecDepth 20000 in
set_option maxHeartbeats 2000000 in
theorem tX12_digits {sh : List kd} {σ τ : St} {r : Int32} (hsh : rmSh sh) {p1 : Int32} (hE : fX12_digits sh σ p1 = some (r, τ)) : i_X 3 145 [.ref 0, .int p1] (s_h sh σ) 0 0 (some (.int r)) (s_h sh τ) := by
  refine g_X (M := mX12_digits) (loc := [.ref 0, .int p1, .retAddr 0, .retAddr 0]) rfl (Nat.le_of_ble_eq_true rfl) rfl ?_
  unfold fX12_digits at hE
  refine g_ldan aX12_digits_0 rfl ?_
  obtain ⟨r1, s2, h3, hE⟩ := i_bd_some hE
  refine g_calV (As := []) (rest := []) aX12_digits_1 (i_X_mono (by omega) (tX12_isDigit hsh h3)) (sR_0 hsh) (by decide +kernel) rfl rfl (Nat.le_of_ble_eq_true rfl) rfl ?_
  by_cases hc4 : ¬ r1 = 0
  · rw [if_pos hc4] at hE
    refine g_if_ne_t aX12_digits_4 hc4 ?_
    refine g_ldan aX12_digits_18 rfl ?_
    refine g_getI aX12_digits_19 (sR_0 hsh) rfl ?_
    refine g_stin (loc2 := [.ref 0, .int p1, .int (s2.1 0 20), .retAddr 0]) aX12_digits_22 (Nat.le_of_ble_eq_true rfl) rfl ?_
    refine g_iconst (x := 0) aX12_digits_23 rfl ?_
    refine g_stin (loc2 := [.ref 0, .int p1, .int (s2.1 0 20), .int 0]) aX12_digits_24 (Nat.le_of_ble_eq_true rfl) rfl ?_
    exact tX12_digits_L25 hsh (fun x57 s58 hE => tX12_digits_X72 hsh hE) i_F _ _ hE
  · rw [if_neg hc4] at hE
    refine g_if_ne_f aX12_digits_4 hc4 ?_
    refine g_ldan aX12_digits_7 rfl ?_
    refine g_iconst (x := 0) aX12_digits_8 rfl ?_
    refine g_ldan aX12_digits_9 rfl ?_
    refine g_getI aX12_digits_10 (sR_0 hsh) rfl ?_
    obtain ⟨r179, s180, h181, hE⟩ := i_bd_some hE
    refine g_calV (As := [.int 0, .int (s2.1 0 20)]) (rest := []) aX12_digits_13 (i_X_mono (by omega) (tX12_fails hsh h181)) (sR_0 hsh) (by decide +kernel) rfl rfl (Nat.le_of_ble_eq_true rfl) rfl ?_
    refine g_iconst (x := 0) aX12_digits_16 rfl ?_
    obtain ⟨rfl, rfl⟩ := i_some_inj hE
    exact g_iret aX12_digits_17 rfl rfl
theorem aX12_value_0 : i_at mX12_value.2.2.2.2.2 0 = some (.aload_n 0, 1, 0, 0, 0, 0) := by decide +kernel
theorem aX12_value_1 : i_at mX12_value.2.2.2.2.2 1 = some (.invokevirtual 186, 3, 139, 0, 1275, 0) := by decide +kernel
theorem aX12_value_4 : i_at mX12_value.2.2.2.2.2 4 = some (.aload_n 0, 1, 0, 0, 0, 0) := by decide +kernel
theorem aX12_value_5 : i_at mX12_value.2.2.2.2.2 5 = some (.getfield 166, 3, 11, 20, 1107, 0) := by decide +kernel
theorem aX12_value_8 : i_at mX12_value.2.2.2.2.2 8 = some (.istore_n 1, 1, 0, 0, 0, 0) := by decide +kernel
theorem aX12_value_9 : i_at mX12_value.2.2.2.2.2 9 = some (.aload_n 0, 1, 0, 0, 0, 0) := by decide +kernel
theorem aX12_value_10 : i_at mX12_value.2.2.2.2.2 10 = some (.invokevirtual 206, 3, 140, 0, 1318, 0) := by decide +kernel
theorem aX12_value_13 : i_at mX12_value.2.2.2.2.2 13 = some (.ifCond .eq 22, 3, 35, 0, 0, 0) := by decide +kernel
theorem aX12_value_16 : i_at mX12_value.2.2.2.2.2 16 = some (.aload_n 0, 1, 0, 0, 0, 0) := by decide +kernel
theorem aX12_value_17 : i_at mX12_value.2.2.2.2.2 17 = some (.ldc 210, 2, 0, 0, 1313, 99999) := by decide +kernel
theorem aX12_value_19 : i_at mX12_value.2.2.2.2.2 19 = some (.invokevirtual 211, 3, 145, 1, 1314, 0) := by decide +kernel
theorem aX12_value_22 : i_at mX12_value.2.2.2.2.2 22 = some (.istore_n 2, 1, 0, 0, 0, 0) := by decide +kernel
theorem aX12_value_23 : i_at mX12_value.2.2.2.2.2 23 = some (.aload_n 0, 1, 0, 0, 0, 0) := by decide +kernel
theorem aX12_value_24 : i_at mX12_value.2.2.2.2.2 24 = some (.iload_n 1, 1, 0, 0, 0, 0) := by decide +kernel
theorem aX12_value_25 : i_at mX12_value.2.2.2.2.2 25 = some (.invokevirtual 215, 3, 144, 1, 1363, 0) := by decide +kernel
theorem aX12_value_28 : i_at mX12_value.2.2.2.2.2 28 = some (.aload_n 0, 1, 0, 0, 0, 0) := by decide +kernel
theorem aX12_value_29 : i_at mX12_value.2.2.2.2.2 29 = some (.iconst 0, 1, 0, 0, 0, 0) := by decide +kernel
theorem aX12_value_30 : i_at mX12_value.2.2.2.2.2 30 = some (.iload_n 2, 1, 0, 0, 0, 0) := by decide +kernel
theorem aX12_value_31 : i_at mX12_value.2.2.2.2.2 31 = some (.invokevirtual 218, 3, 143, 2, 1367, 0) := by decide +kernel
theorem aX12_value_34 : i_at mX12_value.2.2.2.2.2 34 = some (.return_, 1, 0, 0, 0, 0) := by decide +kernel
theorem aX12_value_35 : i_at mX12_value.2.2.2.2.2 35 = some (.iconst 0, 1, 0, 0, 0, 0) := by decide +kernel
theorem aX12_value_36 : i_at mX12_value.2.2.2.2.2 36 = some (.istore_n 2, 1, 0, 0, 0, 0) := by decide +kernel
theorem aX12_value_37 : i_at mX12_value.2.2.2.2.2 37 = some (.iload_n 2, 1, 0, 0, 0, 0) := by decide +kernel
theorem aX12_value_38 : i_at mX12_value.2.2.2.2.2 38 = some (.aload_n 0, 1, 0, 0, 0, 0) := by decide +kernel
theorem aX12_value_39 : i_at mX12_value.2.2.2.2.2 39 = some (.getfield 64, 3, 11, 28, 1115, 0) := by decide +kernel
theorem aX12_value_42 : i_at mX12_value.2.2.2.2.2 42 = some (.if_icmp .ge 20, 3, 62, 0, 0, 0) := by decide +kernel
theorem aX12_value_45 : i_at mX12_value.2.2.2.2.2 45 = some (.aload_n 0, 1, 0, 0, 0, 0) := by decide +kernel
theorem aX12_value_46 : i_at mX12_value.2.2.2.2.2 46 = some (.iload_n 2, 1, 0, 0, 0, 0) := by decide +kernel
theorem aX12_value_47 : i_at mX12_value.2.2.2.2.2 47 = some (.invokestatic 221, 3, 136, 1, 1371, 0) := by decide +kernel
theorem aX12_value_50 : i_at mX12_value.2.2.2.2.2 50 = some (.invokevirtual 189, 3, 141, 1, 1291, 0) := by decide +kernel
theorem aX12_value_53 : i_at mX12_value.2.2.2.2.2 53 = some (.ifCond .ne 9, 3, 62, 0, 0, 0) := by decide +kernel
theorem aX12_value_56 : i_at mX12_value.2.2.2.2.2 56 = some (.iinc 2 1, 3, 0, 0, 0, 0) := by decide +kernel
theorem aX12_value_59 : i_at mX12_value.2.2.2.2.2 59 = some (.goto (-22), 3, 37, 0, 0, 0) := by decide +kernel
theorem aX12_value_62 : i_at mX12_value.2.2.2.2.2 62 = some (.iload_n 2, 1, 0, 0, 0, 0) := by decide +kernel
theorem aX12_value_63 : i_at mX12_value.2.2.2.2.2 63 = some (.aload_n 0, 1, 0, 0, 0, 0) := by decide +kernel
theorem aX12_value_64 : i_at mX12_value.2.2.2.2.2 64 = some (.getfield 64, 3, 11, 28, 1115, 0) := by decide +kernel
theorem aX12_value_67 : i_at mX12_value.2.2.2.2.2 67 = some (.if_icmp .ne 10, 3, 77, 0, 0, 0) := by decide +kernel
theorem aX12_value_70 : i_at mX12_value.2.2.2.2.2 70 = some (.aload_n 0, 1, 0, 0, 0, 0) := by decide +kernel
theorem aX12_value_71 : i_at mX12_value.2.2.2.2.2 71 = some (.iconst 0, 1, 0, 0, 0, 0) := by decide +kernel
theorem aX12_value_72 : i_at mX12_value.2.2.2.2.2 72 = some (.iload_n 1, 1, 0, 0, 0, 0) := by decide +kernel
theorem aX12_value_73 : i_at mX12_value.2.2.2.2.2 73 = some (.invokevirtual 202, 3, 137, 2, 1297, 0) := by decide +kernel
theorem aX12_value_76 : i_at mX12_value.2.2.2.2.2 76 = some (.return_, 1, 0, 0, 0, 0) := by decide +kernel
theorem aX12_value_77 : i_at mX12_value.2.2.2.2.2 77 = some (.aload_n 0, 1, 0, 0, 0, 0) := by decide +kernel
theorem aX12_value_78 : i_at mX12_value.2.2.2.2.2 78 = some (.iload_n 1, 1, 0, 0, 0, 0) := by decide +kernel
theorem aX12_value_79 : i_at mX12_value.2.2.2.2.2 79 = some (.invokevirtual 215, 3, 144, 1, 1363, 0) := by decide +kernel
theorem aX12_value_82 : i_at mX12_value.2.2.2.2.2 82 = some (.aload_n 0, 1, 0, 0, 0, 0) := by decide +kernel
theorem aX12_value_83 : i_at mX12_value.2.2.2.2.2 83 = some (.dup, 1, 0, 0, 0, 0) := by decide +kernel
theorem aX12_value_84 : i_at mX12_value.2.2.2.2.2 84 = some (.getfield 166, 3, 11, 20, 1107, 0) := by decide +kernel
theorem aX12_value_87 : i_at mX12_value.2.2.2.2.2 87 = some (.iload_n 2, 1, 0, 0, 0, 0) := by decide +kernel
theorem aX12_value_88 : i_at mX12_value.2.2.2.2.2 88 = some (.invokestatic 221, 3, 136, 1, 1371, 0) := by decide +kernel
theorem aX12_value_91 : i_at mX12_value.2.2.2.2.2 91 = some (.invokevirtual 177, 3, 1004, 0, 1295, 0) := by decide +kernel
theorem aX12_value_94 : i_at mX12_value.2.2.2.2.2 94 = some (.iadd, 1, 0, 0, 0, 0) := by decide +kernel
theorem aX12_value_95 : i_at mX12_value.2.2.2.2.2 95 = some (.putfield 166, 3, 11, 20, 1107, 0) := by decide +kernel
theorem aX12_value_98 : i_at mX12_value.2.2.2.2.2 98 = some (.aload_n 0, 1, 0, 0, 0, 0) := by decide +kernel
theorem aX12_value_99 : i_at mX12_value.2.2.2.2.2 99 = some (.iconst 1, 1, 0, 0, 0, 0) := by decide +kernel
theorem aX12_value_100 : i_at mX12_value.2.2.2.2.2 100 = some (.iload_n 2, 1, 0, 0, 0, 0) := by decide +kernel
theorem aX12_value_101 : i_at mX12_value.2.2.2.2.2 101 = some (.invokevirtual 218, 3, 143, 2, 1367, 0) := by decide +kernel
theorem aX12_value_104 : i_at mX12_value.2.2.2.2.2 104 = some (.return_, 1, 0, 0, 0, 0) := by decide +kernel
noncomputable def fX12_value_L37 (sh : List kd) (s2 : St) (k62 : Int32 → St → Option (Unit × St)) : Nat → Int32 → St → Option (Unit × St)
  | 0, _, _ => none
  | n62 + 1, x8, s9 => if (s9.1 0 28) ≤ x8 then k62 x8 s9 else i_bd (fX12_wordOf sh s9 x8) (fun r64 s65 => i_bd (fX12_stood sh s65 r64) (fun r67 s68 => if ¬ r67 = 0 then k62 x8 s68 else (fX12_value_L37 sh s2 k62 n62 (x8 + 1) s68)))
noncomputable def fX12_value_X62 (sh : List kd) (s2 : St) (x60 : Int32) (s61 : St) : Option (Unit × St) := if ¬ x60 = (s61.1 0 28) then i_bd (fX12_isCounted sh s61 (s2.1 0 20)) (fun r72 s73 => i_bd (fX12_wordOf sh s73 x60) (fun r75 s76 => if r75 < 28 then i_bd (fX12_entry sh (s_F s76 0 20 ((s73.1 0 20) + (Int32.ofNat (i_slen r75)))) 1 x60) (fun r79 s80 => some ((), s80)) else none)) else i_bd (fX12_fails sh s61 0 (s2.1 0 20)) (fun r82 s83 => some ((), s83))
noncomputable def fX12_value (sh : List kd) (σ : St) : Option (Unit × St) := i_bd (fX12_blanks sh σ) (fun r1 s2 => i_bd (fX12_isDigit sh s2) (fun r4 s5 => if r4 = 0 then fX12_value_L37 sh s2 (fun (x60 : Int32) (s61 : St) => fX12_value_X62 sh s2 x60 s61) i_F 0 s5 else i_bd (fX12_digits sh s5 99999) (fun r85 s86 => i_bd (fX12_isCounted sh s86 (s2.1 0 20)) (fun r88 s89 => i_bd (fX12_entry sh s89 0 r85) (fun r91 s92 => some ((), s92))))))
set_option maxRecDepth 20000 in
set_option maxHeartbeats 2000000 in
theorem tX12_value_L37 {sh : List kd} {τ : St} {r : Unit} (hsh : rmSh sh) {s2 : St} {k62 : Int32 → St → Option (Unit × St)} (hk62 : ∀ (x60 : Int32) (s61 : St), k62 x60 s61 = some (r, τ) → g_R sh 3 mX12_value none τ 62 [.ref 0, .int (s2.1 0 20), .int x60] [] (s61)) : ∀ (n0 : Nat) (x8 : Int32) (s9 : St), fX12_value_L37 sh s2 k62 n0 x8 s9 = some (r, τ) → g_R sh 3 mX12_value none τ 37 [.ref 0, .int (s2.1 0 20), .int x8] [] (s9) := by
  intro n0
  induction n0 with
  | zero => intro _ _ hE; cases hE
  | succ n62 ih =>
    intro x8 s9 hE
    unfold fX12_value_L37 at hE
    refine g_ldin aX12_value_37 rfl ?_
    refine g_ldan aX12_value_38 rfl ?_
    refine g_getI aX12_value_39 (sR_0 hsh) rfl ?_
    by_cases hc63 : (s9.1 0 28) ≤ x8
    · rw [if_pos hc63] at hE
      refine g_ic_ge_t aX12_value_42 hc63 ?_
      exact hk62 _ _ hE
    · rw [if_neg hc63] at hE
      refine g_ic_ge_f aX12_value_42 hc63 ?_
      refine g_ldan aX12_value_45 rfl ?_
      refine g_ldin aX12_value_46 rfl ?_
      obtain ⟨r64, s65, h66, hE⟩ := i_bd_some hE
      refine g_calS (As := [.int x8]) (rest := [.ref 0]) aX12_value_47 (i_X_mono (by omega) (tX12_wordOf hsh h66)) rfl rfl (Nat.le_of_ble_eq_true rfl) rfl ?_
      obtain ⟨r67, s68, h69, hE⟩ := i_bd_some hE
      refine g_calV (As := [.ref (i_SB + r64)]) (rest := []) aX12_value_50 (i_X_mono (by omega) (tX12_stood hsh h69)) (sR_0 hsh) (by decide +kernel) rfl rfl (Nat.le_of_ble_eq_true rfl) rfl ?_
      by_cases hc70 : ¬ r67 = 0
      · rw [if_pos hc70] at hE
        refine g_if_ne_t aX12_value_53 hc70 ?_
        exact hk62 _ _ hE
      · rw [if_neg hc70] at hE
        refine g_if_ne_f aX12_value_53 hc70 ?_
        refine g_iinc (y := 1) (loc2 := [.ref 0, .int (s2.1 0 20), .int (x8 + 1)]) aX12_value_56 rfl rfl rfl ?_
        refine g_goto aX12_value_59 ?_
        exact ih _ _ hE
set_option maxRecDepth 20000 in
set_option maxHeartbeats 2000000 in
theorem tX12_value_X62 {sh : List kd} {τ : St} {r : Unit} (hsh : rmSh sh) {s2 : St} {x60 : Int32} {s61 : St} (hE : fX12_value_X62 sh s2 x60 s61 = some (r, τ)) : g_R sh 3 mX12_value none τ 62 [.ref 0, .int (s2.1 0 20), .int x60] [] (s61) := by
  unfold fX12_value_X62 at hE
  refine g_ldin aX12_value_62 rfl ?_
  refine g_ldan aX12_value_63 rfl ?_
  refine g_getI aX12_value_64 (sR_0 hsh) rfl ?_
  by_cases hc71 : ¬ x60 = (s61.1 0 28)
  · rw [if_pos hc71] at hE
    refine g_ic_ne_t aX12_value_67 hc71 ?_
    refine g_ldan aX12_value_77 rfl ?_
    refine g_ldin aX12_value_78 rfl ?_
    obtain ⟨r72, s73, h74, hE⟩ := i_bd_some hE
    refine g_calV (As := [.int (s2.1 0 20)]) (rest := []) aX12_value_79 (i_X_mono (by omega) (tX12_isCounted hsh h74)) (sR_0 hsh) (by decide +kernel) rfl rfl (Nat.le_of_ble_eq_true rfl) rfl ?_
    refine g_ldan aX12_value_82 rfl ?_
    refine g_dupa aX12_value_83 ?_
    refine g_getI aX12_value_84 (sR_0 hsh) rfl ?_
    refine g_ldin aX12_value_87 rfl ?_
    obtain ⟨r75, s76, h77, hE⟩ := i_bd_some hE
    refine g_calS (As := [.int x60]) (rest := [.int (s73.1 0 20), .ref 0]) aX12_value_88 (i_X_mono (by omega) (tX12_wordOf hsh h77)) rfl rfl (Nat.le_of_ble_eq_true rfl) rfl ?_
    obtain ⟨h78, hE⟩ := i_ifn hE
    refine g_slen aX12_value_91 h78 (Nat.le_of_ble_eq_true rfl) ?_
    refine g_iadd aX12_value_94 ?_
    refine g_putI aX12_value_95 (sR_0 hsh) rfl rfl ?_
    refine g_ldan aX12_value_98 rfl ?_
    refine g_iconst (x := 1) aX12_value_99 rfl ?_
    refine g_ldin aX12_value_100 rfl ?_
    obtain ⟨r79, s80, h81, hE⟩ := i_bd_some hE
    refine g_calV (As := [.int 1, .int x60]) (rest := []) aX12_value_101 (i_X_mono (by omega) (tX12_entry hsh h81)) (sR_0 hsh) (by decide +kernel) rfl rfl (Nat.le_of_ble_eq_true rfl) rfl ?_
    obtain ⟨rfl, rfl⟩ := i_some_inj hE
    exact g_vret aX12_value_104 rfl
  · rw [if_neg hc71] at hE
    refine g_ic_ne_f aX12_value_67 hc71 ?_
    refine g_ldan aX12_value_70 rfl ?_
    refine g_iconst (x := 0) aX12_value_71 rfl ?_
    refine g_ldin aX12_value_72 rfl ?_
    obtain ⟨r82, s83, h84, hE⟩ := i_bd_some hE
    refine g_calV (As := [.int 0, .int (s2.1 0 20)]) (rest := []) aX12_value_73 (i_X_mono (by omega) (tX12_fails hsh h84)) (sR_0 hsh) (by decide +kernel) rfl rfl (Nat.le_of_ble_eq_true rfl) rfl ?_
    obtain ⟨rfl, rfl⟩ := i_some_inj hE
    exact g_vret aX12_value_76 rfl
set_option maxRecDepth 20000 in
set_option maxHeartbeats 2000000 in
theorem tX12_value {sh : List kd} {σ τ : St} {r : Unit} (hsh : rmSh sh) (hE : fX12_value sh σ = some (r, τ)) : i_X 4 146 [.ref 0] (s_h sh σ) 0 0 none (s_h sh τ) := by
  refine g_X (M := mX12_value) (loc := [.ref 0, .retAddr 0, .retAddr 0]) rfl (Nat.le_of_ble_eq_true rfl) rfl ?_
  unfold fX12_value at hE
  refine g_ldan aX12_value_0 rfl ?_
  obtain ⟨r1, s2, h3, hE⟩ := i_bd_some hE
  refine g_calV (As := []) (rest := []) aX12_value_1 (i_X_mono (by omega) (tX12_blanks hsh h3)) (sR_0 hsh) (by decide +kernel) rfl rfl (Nat.le_of_ble_eq_true rfl) rfl ?_
  refine g_ldan aX12_value_4 rfl ?_
  refine g_getI aX12_value_5 (sR_0 hsh) rfl ?_
  refine g_stin (loc2 := [.ref 0, .int (s2.1 0 20), .retAddr 0]) aX12_value_8 (Nat.le_of_ble_eq_true rfl) rfl ?_
  refine g_ldan aX12_value_9 rfl ?_
  obtain ⟨r4, s5, h6, hE⟩ := i_bd_some hE
  refine g_calV (As := []) (rest := []) aX12_value_10 (i_X_mono (by omega) (tX12_isDigit hsh h6)) (sR_0 hsh) (by decide +kernel) rfl rfl (Nat.le_of_ble_eq_true rfl) rfl ?_
  by_cases hc7 : r4 = 0
  · rw [if_pos hc7] at hE
    refine g_if_eq_t aX12_value_13 hc7 ?_
    refine g_iconst (x := 0) aX12_value_35 rfl ?_
    refine g_stin (loc2 := [.ref 0, .int (s2.1 0 20), .int 0]) aX12_value_36 (Nat.le_of_ble_eq_true rfl) rfl ?_
    exact tX12_value_L37 hsh (fun x60 s61 hE => tX12_value_X62 hsh hE) i_F _ _ hE
  · rw [if_neg hc7] at hE
    refine g_if_eq_f aX12_value_13 hc7 ?_
    refine g_ldan aX12_value_16 rfl ?_
    refine g_ldcI (x := 99999) aX12_value_17 rfl rfl ?_
    obtain ⟨r85, s86, h87, hE⟩ := i_bd_some hE
    refine g_calV (As := [.int 99999]) (rest := []) aX12_value_19 (i_X_mono (by omega) (tX12_digits hsh h87)) (sR_0 hsh) (by decide +kernel) rfl rfl (Nat.le_of_ble_eq_true rfl) rfl ?_
    refine g_stin (loc2 := [.ref 0, .int (s2.1 0 20), .int r85]) aX12_value_22 (Nat.le_of_ble_eq_true rfl) rfl ?_
    refine g_ldan aX12_value_23 rfl ?_
    refine g_ldin aX12_value_24 rfl ?_
    obtain ⟨r88, s89, h90, hE⟩ := i_bd_some hE
    refine g_calV (As := [.int (s2.1 0 20)]) (rest := []) aX12_value_25 (i_X_mono (by omega) (tX12_isCounted hsh h90)) (sR_0 hsh) (by decide +kernel) rfl rfl (Nat.le_of_ble_eq_true rfl) rfl ?_
    refine g_ldan aX12_value_28 rfl ?_
    refine g_iconst (x := 0) aX12_value_29 rfl ?_
    refine g_ldin aX12_value_30 rfl ?_
    obtain ⟨r91, s92, h93, hE⟩ := i_bd_some hE
    refine g_calV (As := [.int 0, .int r85]) (rest := []) aX12_value_31 (i_X_mono (by omega) (tX12_entry hsh h93)) (sR_0 hsh) (by decide +kernel) rfl rfl (Nat.le_of_ble_eq_true rfl) rfl ?_
    obtain ⟨rfl, rfl⟩ := i_some_inj hE
    exact g_vret aX12_value_34 rfl
theorem aX12_term_0 : i_at mX12_term.2.2.2.2.2 0 = some (.aload_n 0, 1, 0, 0, 0, 0) := by decide +kernel
theorem aX12_term_1 : i_at mX12_term.2.2.2.2.2 1 = some (.invokevirtual 225, 3, 146, 0, 1359, 0) := by decide +kernel
theorem aX12_term_4 : i_at mX12_term.2.2.2.2.2 4 = some (.aload_n 0, 1, 0, 0, 0, 0) := by decide +kernel
theorem aX12_term_5 : i_at mX12_term.2.2.2.2.2 5 = some (.invokevirtual 186, 3, 139, 0, 1275, 0) := by decide +kernel
theorem aX12_term_8 : i_at mX12_term.2.2.2.2.2 8 = some (.aload_n 0, 1, 0, 0, 0, 0) := by decide +kernel
theorem aX12_term_9 : i_at mX12_term.2.2.2.2.2 9 = some (.getfield 163, 3, 11, 21, 1108, 0) := by decide +kernel
theorem aX12_term_12 : i_at mX12_term.2.2.2.2.2 12 = some (.ifCond .ne 88, 3, 100, 0, 0, 0) := by decide +kernel
theorem aX12_term_15 : i_at mX12_term.2.2.2.2.2 15 = some (.aload_n 0, 1, 0, 0, 0, 0) := by decide +kernel
theorem aX12_term_16 : i_at mX12_term.2.2.2.2.2 16 = some (.invokevirtual 169, 3, 138, 0, 1279, 0) := by decide +kernel
theorem aX12_term_19 : i_at mX12_term.2.2.2.2.2 19 = some (.bipush 42, 2, 0, 0, 0, 0) := by decide +kernel
theorem aX12_term_21 : i_at mX12_term.2.2.2.2.2 21 = some (.if_icmp .eq 21, 3, 42, 0, 0, 0) := by decide +kernel
theorem aX12_term_24 : i_at mX12_term.2.2.2.2.2 24 = some (.aload_n 0, 1, 0, 0, 0, 0) := by decide +kernel
theorem aX12_term_25 : i_at mX12_term.2.2.2.2.2 25 = some (.invokevirtual 169, 3, 138, 0, 1279, 0) := by decide +kernel
theorem aX12_term_28 : i_at mX12_term.2.2.2.2.2 28 = some (.bipush 47, 2, 0, 0, 0, 0) := by decide +kernel
theorem aX12_term_30 : i_at mX12_term.2.2.2.2.2 30 = some (.if_icmp .eq 12, 3, 42, 0, 0, 0) := by decide +kernel
theorem aX12_term_33 : i_at mX12_term.2.2.2.2.2 33 = some (.aload_n 0, 1, 0, 0, 0, 0) := by decide +kernel
theorem aX12_term_34 : i_at mX12_term.2.2.2.2.2 34 = some (.invokevirtual 169, 3, 138, 0, 1279, 0) := by decide +kernel
theorem aX12_term_37 : i_at mX12_term.2.2.2.2.2 37 = some (.bipush 37, 2, 0, 0, 0, 0) := by decide +kernel
theorem aX12_term_39 : i_at mX12_term.2.2.2.2.2 39 = some (.if_icmp .ne 61, 3, 100, 0, 0, 0) := by decide +kernel
theorem aX12_term_42 : i_at mX12_term.2.2.2.2.2 42 = some (.aload_n 0, 1, 0, 0, 0, 0) := by decide +kernel
theorem aX12_term_43 : i_at mX12_term.2.2.2.2.2 43 = some (.invokevirtual 169, 3, 138, 0, 1279, 0) := by decide +kernel
theorem aX12_term_46 : i_at mX12_term.2.2.2.2.2 46 = some (.bipush 42, 2, 0, 0, 0, 0) := by decide +kernel
theorem aX12_term_48 : i_at mX12_term.2.2.2.2.2 48 = some (.if_icmp .ne 8, 3, 56, 0, 0, 0) := by decide +kernel
theorem aX12_term_51 : i_at mX12_term.2.2.2.2.2 51 = some (.bipush 13, 2, 0, 0, 0, 0) := by decide +kernel
theorem aX12_term_53 : i_at mX12_term.2.2.2.2.2 53 = some (.goto 19, 3, 72, 0, 0, 0) := by decide +kernel
theorem aX12_term_56 : i_at mX12_term.2.2.2.2.2 56 = some (.aload_n 0, 1, 0, 0, 0, 0) := by decide +kernel
theorem aX12_term_57 : i_at mX12_term.2.2.2.2.2 57 = some (.invokevirtual 169, 3, 138, 0, 1279, 0) := by decide +kernel
theorem aX12_term_60 : i_at mX12_term.2.2.2.2.2 60 = some (.bipush 47, 2, 0, 0, 0, 0) := by decide +kernel
theorem aX12_term_62 : i_at mX12_term.2.2.2.2.2 62 = some (.if_icmp .ne 8, 3, 70, 0, 0, 0) := by decide +kernel
theorem aX12_term_65 : i_at mX12_term.2.2.2.2.2 65 = some (.bipush 14, 2, 0, 0, 0, 0) := by decide +kernel
theorem aX12_term_67 : i_at mX12_term.2.2.2.2.2 67 = some (.goto 5, 3, 72, 0, 0, 0) := by decide +kernel
theorem aX12_term_70 : i_at mX12_term.2.2.2.2.2 70 = some (.bipush 15, 2, 0, 0, 0, 0) := by decide +kernel
theorem aX12_term_72 : i_at mX12_term.2.2.2.2.2 72 = some (.istore_n 1, 1, 0, 0, 0, 0) := by decide +kernel
theorem aX12_term_73 : i_at mX12_term.2.2.2.2.2 73 = some (.aload_n 0, 1, 0, 0, 0, 0) := by decide +kernel
theorem aX12_term_74 : i_at mX12_term.2.2.2.2.2 74 = some (.dup, 1, 0, 0, 0, 0) := by decide +kernel
theorem aX12_term_75 : i_at mX12_term.2.2.2.2.2 75 = some (.getfield 166, 3, 11, 20, 1107, 0) := by decide +kernel
theorem aX12_term_78 : i_at mX12_term.2.2.2.2.2 78 = some (.iconst 1, 1, 0, 0, 0, 0) := by decide +kernel
theorem aX12_term_79 : i_at mX12_term.2.2.2.2.2 79 = some (.iadd, 1, 0, 0, 0, 0) := by decide +kernel
theorem aX12_term_80 : i_at mX12_term.2.2.2.2.2 80 = some (.putfield 166, 3, 11, 20, 1107, 0) := by decide +kernel
theorem aX12_term_83 : i_at mX12_term.2.2.2.2.2 83 = some (.aload_n 0, 1, 0, 0, 0, 0) := by decide +kernel
theorem aX12_term_84 : i_at mX12_term.2.2.2.2.2 84 = some (.invokevirtual 225, 3, 146, 0, 1359, 0) := by decide +kernel
theorem aX12_term_87 : i_at mX12_term.2.2.2.2.2 87 = some (.aload_n 0, 1, 0, 0, 0, 0) := by decide +kernel
theorem aX12_term_88 : i_at mX12_term.2.2.2.2.2 88 = some (.iload_n 1, 1, 0, 0, 0, 0) := by decide +kernel
theorem aX12_term_89 : i_at mX12_term.2.2.2.2.2 89 = some (.iconst 0, 1, 0, 0, 0, 0) := by decide +kernel
theorem aX12_term_90 : i_at mX12_term.2.2.2.2.2 90 = some (.invokevirtual 218, 3, 143, 2, 1367, 0) := by decide +kernel
theorem aX12_term_93 : i_at mX12_term.2.2.2.2.2 93 = some (.aload_n 0, 1, 0, 0, 0, 0) := by decide +kernel
theorem aX12_term_94 : i_at mX12_term.2.2.2.2.2 94 = some (.invokevirtual 186, 3, 139, 0, 1275, 0) := by decide +kernel
theorem aX12_term_97 : i_at mX12_term.2.2.2.2.2 97 = some (.goto (-89), 3, 8, 0, 0, 0) := by decide +kernel
theorem aX12_term_100 : i_at mX12_term.2.2.2.2.2 100 = some (.return_, 1, 0, 0, 0, 0) := by decide +kernel
noncomputable def fX12_term_J100 (sh : List kd) (x7 : Value) (s60 : St) : Option (Unit × St) := some ((), s60)
noncomputable def fX12_term_J72 (sh : List kd) (x7 : Value) (k8 : Value → St → Option (Unit × St)) (x119 : Int32) (s120 : St) : Option (Unit × St) := i_bd (fX12_value sh (s_F s120 0 20 ((s120.1 0 20) + 1))) (fun r121 s122 => i_bd (fX12_entry sh s122 x119 0) (fun r124 s125 => i_bd (fX12_blanks sh s125) (fun r127 s128 => k8 (.int x119) s128)))
noncomputable def fX12_term_J72_193 (sh : List kd) (x7 : Value) (k8 : Value → St → Option (Unit × St)) (x192 : Int32) (s193 : St) : Option (Unit × St) := i_bd (fX12_value sh (s_F s193 0 20 ((s193.1 0 20) + 1))) (fun r194 s195 => i_bd (fX12_entry sh s195 x192 0) (fun r197 s198 => i_bd (fX12_blanks sh s198) (fun r200 s201 => k8 (.int x192) s201)))
noncomputable def fX12_term_J72_266 (sh : List kd) (x7 : Value) (k8 : Value → St → Option (Unit × St)) (x265 : Int32) (s266 : St) : Option (Unit × St) := i_bd (fX12_value sh (s_F s266 0 20 ((s266.1 0 20) + 1))) (fun r267 s268 => i_bd (fX12_entry sh s268 x265 0) (fun r270 s271 => i_bd (fX12_blanks sh s271) (fun r273 s274 => k8 (.int x265) s274)))
noncomputable def fX12_term_L8 (sh : List kd) : Nat → Value → St → Option (Unit × St)
  | 0, _, _ => none
  | n9 + 1, x7, s8 => if ¬ (s8.1 0 21) = 0 then fX12_term_J100 sh x7 s8 else i_bd (fX12_sign sh s8) (fun r62 s63 => if r62 = 42 then i_bd (fX12_sign sh s63) (fun r66 s67 => if ¬ r66 = 42 then i_bd (fX12_sign sh s67) (fun r131 s132 => fX12_term_J72 sh x7 (fX12_term_L8 sh n9) ((if ¬ r131 = 47 then 15 else 14) : Int32) s132) else fX12_term_J72 sh x7 (fX12_term_L8 sh n9) 13 s67) else i_bd (fX12_sign sh s63) (fun r135 s136 => if r135 = 47 then i_bd (fX12_sign sh s136) (fun r139 s140 => if ¬ r139 = 42 then i_bd (fX12_sign sh s140) (fun r204 s205 => fX12_term_J72_193 sh x7 (fX12_term_L8 sh n9) ((if ¬ r204 = 47 then 15 else 14) : Int32) s205) else fX12_term_J72_193 sh x7 (fX12_term_L8 sh n9) 13 s140) else i_bd (fX12_sign sh s136) (fun r208 s209 => if ¬ r208 = 37 then fX12_term_J100 sh x7 s209 else i_bd (fX12_sign sh s209) (fun r212 s213 => if ¬ r212 = 42 then i_bd (fX12_sign sh s213) (fun r277 s278 => fX12_term_J72_266 sh x7 (fX12_term_L8 sh n9) ((if ¬ r277 = 47 then 15 else 14) : Int32) s278) else fX12_term_J72_266 sh x7 (fX12_term_L8 sh n9) 13 s213))))
noncomputable def fX12_term (sh : List kd) (σ : St) : Option (Unit × St) := i_bd (fX12_value sh σ) (fun r1 s2 => i_bd (fX12_blanks sh s2) (fun r4 s5 => fX12_term_L8 sh i_F (.retAddr 0) s5))
set_option maxRecDepth 20000 in
set_option maxHeartbeats 2000000 in
theorem tX12_term_J100 {sh : List kd} {τ : St} {r : Unit} (hsh : rmSh sh) {x7 : Value} {s60 : St} (hE : fX12_term_J100 sh x7 s60 = some (r, τ)) : g_R sh 4 mX12_term none τ 100 [.ref 0, x7] [] (s60) := by
  unfold fX12_term_J100 at hE
  obtain ⟨rfl, rfl⟩ := i_some_inj hE
  exact g_vret aX12_term_100 rfl
set_option maxRecDepth 20000 in
set_option maxHeartbeats 2000000 in
theorem tX12_term_J72 {sh : List kd} {τ : St} {r : Unit} (hsh : rmSh sh) {x7 : Value} {x119 : Int32} {s120 : St} {k8 : Value → St → Option (Unit × St)} (hk8 : ∀ (x7 : Value) (s8 : St), k8 x7 s8 = some (r, τ) → g_R sh 4 mX12_term none τ 8 [.ref 0, x7] [] (s8)) (hE : fX12_term_J72 sh x7 k8 x119 s120 = some (r, τ)) : g_R sh 4 mX12_term none τ 72 [.ref 0, x7] [.int x119] (s120) := by
  unfold fX12_term_J72 at hE
  refine g_stin (loc2 := [.ref 0, .int x119]) aX12_term_72 (Nat.le_of_ble_eq_true rfl) rfl ?_
  refine g_ldan aX12_term_73 rfl ?_
  refine g_dupa aX12_term_74 ?_
  refine g_getI aX12_term_75 (sR_0 hsh) rfl ?_
  refine g_iconst (x := 1) aX12_term_78 rfl ?_
  refine g_iadd aX12_term_79 ?_
  refine g_putI aX12_term_80 (sR_0 hsh) rfl rfl ?_
  refine g_ldan aX12_term_83 rfl ?_
  obtain ⟨r121, s122, h123, hE⟩ := i_bd_some hE
  refine g_calV (As := []) (rest := []) aX12_term_84 (i_X_mono (by omega) (tX12_value hsh h123)) (sR_0 hsh) (by decide +kernel) rfl rfl (Nat.le_of_ble_eq_true rfl) rfl ?_
  refine g_ldan aX12_term_87 rfl ?_
  refine g_ldin aX12_term_88 rfl ?_
  refine g_iconst (x := 0) aX12_term_89 rfl ?_
  obtain ⟨r124, s125, h126, hE⟩ := i_bd_some hE
  refine g_calV (As := [.int x119, .int 0]) (rest := []) aX12_term_90 (i_X_mono (by omega) (tX12_entry hsh h126)) (sR_0 hsh) (by decide +kernel) rfl rfl (Nat.le_of_ble_eq_true rfl) rfl ?_
  refine g_ldan aX12_term_93 rfl ?_
  obtain ⟨r127, s128, h129, hE⟩ := i_bd_some hE
  refine g_calV (As := []) (rest := []) aX12_term_94 (i_X_mono (by omega) (tX12_blanks hsh h129)) (sR_0 hsh) (by decide +kernel) rfl rfl (Nat.le_of_ble_eq_true rfl) rfl ?_
  refine g_goto aX12_term_97 ?_
  exact hk8 _ _ hE
set_option maxRecDepth 20000 in
set_option maxHeartbeats 2000000 in
theorem tX12_term_J72_193 {sh : List kd} {τ : St} {r : Unit} (hsh : rmSh sh) {x7 : Value} {x192 : Int32} {s193 : St} {k8 : Value → St → Option (Unit × St)} (hk8 : ∀ (x7 : Value) (s8 : St), k8 x7 s8 = some (r, τ) → g_R sh 4 mX12_term none τ 8 [.ref 0, x7] [] (s8)) (hE : fX12_term_J72_193 sh x7 k8 x192 s193 = some (r, τ)) : g_R sh 4 mX12_term none τ 72 [.ref 0, x7] [.int x192] (s193) := by
  unfold fX12_term_J72_193 at hE
  refine g_stin (loc2 := [.ref 0, .int x192]) aX12_term_72 (Nat.le_of_ble_eq_true rfl) rfl ?_
  refine g_ldan aX12_term_73 rfl ?_
  refine g_dupa aX12_term_74 ?_
  refine g_getI aX12_term_75 (sR_0 hsh) rfl ?_
  refine g_iconst (x := 1) aX12_term_78 rfl ?_
  refine g_iadd aX12_term_79 ?_
  refine g_putI aX12_term_80 (sR_0 hsh) rfl rfl ?_
  refine g_ldan aX12_term_83 rfl ?_
  obtain ⟨r194, s195, h196, hE⟩ := i_bd_some hE
  refine g_calV (As := []) (rest := []) aX12_term_84 (i_X_mono (by omega) (tX12_value hsh h196)) (sR_0 hsh) (by decide +kernel) rfl rfl (Nat.le_of_ble_eq_true rfl) rfl ?_
  refine g_ldan aX12_term_87 rfl ?_
  refine g_ldin aX12_term_88 rfl ?_
  refine g_iconst (x := 0) aX12_term_89 rfl ?_
  obtain ⟨r197, s198, h199, hE⟩ := i_bd_some hE
  refine g_calV (As := [.int x192, .int 0]) (rest := []) aX12_term_90 (i_X_mono (by omega) (tX12_entry hsh h199)) (sR_0 hsh) (by decide +kernel) rfl rfl (Nat.le_of_ble_eq_true rfl) rfl ?_
  refine g_ldan aX12_term_93 rfl ?_
  obtain ⟨r200, s201, h202, hE⟩ := i_bd_some hE
  refine g_calV (As := []) (rest := []) aX12_term_94 (i_X_mono (by omega) (tX12_blanks hsh h202)) (sR_0 hsh) (by decide +kernel) rfl rfl (Nat.le_of_ble_eq_true rfl) rfl ?_
  refine g_goto aX12_term_97 ?_
  exact hk8 _ _ hE
set_option maxRecDepth 20000 in
set_option maxHeartbeats 2000000 in
theorem tX12_term_J72_266 {sh : List kd} {τ : St} {r : Unit} (hsh : rmSh sh) {x7 : Value} {x265 : Int32} {s266 : St} {k8 : Value → St → Option (Unit × St)} (hk8 : ∀ (x7 : Value) (s8 : St), k8 x7 s8 = some (r, τ) → g_R sh 4 mX12_term none τ 8 [.ref 0, x7] [] (s8)) (hE : fX12_term_J72_266 sh x7 k8 x265 s266 = some (r, τ)) : g_R sh 4 mX12_term none τ 72 [.ref 0, x7] [.int x265] (s266) := by
  unfold fX12_term_J72_266 at hE
  refine g_stin (loc2 := [.ref 0, .int x265]) aX12_term_72 (Nat.le_of_ble_eq_true rfl) rfl ?_
  refine g_ldan aX12_term_73 rfl ?_
  refine g_dupa aX12_term_74 ?_
  refine g_getI aX12_term_75 (sR_0 hsh) rfl ?_
  refine g_iconst (x := 1) aX12_term_78 rfl ?_
  refine g_iadd aX12_term_79 ?_
  refine g_putI aX12_term_80 (sR_0 hsh) rfl rfl ?_
  refine g_ldan aX12_term_83 rfl ?_
  obtain ⟨r267, s268, h269, hE⟩ := i_bd_some hE
  refine g_calV (As := []) (rest := []) aX12_term_84 (i_X_mono (by omega) (tX12_value hsh h269)) (sR_0 hsh) (by decide +kernel) rfl rfl (Nat.le_of_ble_eq_true rfl) rfl ?_
  refine g_ldan aX12_term_87 rfl ?_
  refine g_ldin aX12_term_88 rfl ?_
  refine g_iconst (x := 0) aX12_term_89 rfl ?_
  obtain ⟨r270, s271, h272, hE⟩ := i_bd_some hE
  refine g_calV (As := [.int x265, .int 0]) (rest := []) aX12_term_90 (i_X_mono (by omega) (tX12_entry hsh h272)) (sR_0 hsh) (by decide +kernel) rfl rfl (Nat.le_of_ble_eq_true rfl) rfl ?_
  refine g_ldan aX12_term_93 rfl ?_
  obtain ⟨r273, s274, h275, hE⟩ := i_bd_some hE
  refine g_calV (As := []) (rest := []) aX12_term_94 (i_X_mono (by omega) (tX12_blanks hsh h275)) (sR_0 hsh) (by decide +kernel) rfl rfl (Nat.le_of_ble_eq_true rfl) rfl ?_
  refine g_goto aX12_term_97 ?_
  exact hk8 _ _ hE
set_option maxRecDepth 20000 in
set_option maxHeartbeats 2000000 in
theorem tX12_term_L8 {sh : List kd} {τ : St} {r : Unit} (hsh : rmSh sh) : ∀ (n0 : Nat) (x7 : Value) (s8 : St), fX12_term_L8 sh n0 x7 s8 = some (r, τ) → g_R sh 4 mX12_term none τ 8 [.ref 0, x7] [] (s8) := by
  intro n0
  induction n0 with
  | zero => intro _ _ hE; cases hE
  | succ n9 ih =>
    intro x7 s8 hE
    unfold fX12_term_L8 at hE
    refine g_ldan aX12_term_8 rfl ?_
    refine g_getI aX12_term_9 (sR_0 hsh) rfl ?_
    by_cases hc61 : ¬ (s8.1 0 21) = 0
    · rw [if_pos hc61] at hE
      refine g_if_ne_t aX12_term_12 hc61 ?_
      exact tX12_term_J100 hsh hE
    · rw [if_neg hc61] at hE
      refine g_if_ne_f aX12_term_12 hc61 ?_
      refine g_ldan aX12_term_15 rfl ?_
      obtain ⟨r62, s63, h64, hE⟩ := i_bd_some hE
      refine g_calV (As := []) (rest := []) aX12_term_16 (i_X_mono (by omega) (tX12_sign hsh h64)) (sR_0 hsh) (by decide +kernel) rfl rfl (Nat.le_of_ble_eq_true rfl) rfl ?_
      refine g_bipush (x := 42) aX12_term_19 rfl ?_
      by_cases hc65 : r62 = 42
      · rw [if_pos hc65] at hE
        refine g_ic_eq_t aX12_term_21 hc65 ?_
        refine g_ldan aX12_term_42 rfl ?_
        obtain ⟨r66, s67, h68, hE⟩ := i_bd_some hE
        refine g_calV (As := []) (rest := []) aX12_term_43 (i_X_mono (by omega) (tX12_sign hsh h68)) (sR_0 hsh) (by decide +kernel) rfl rfl (Nat.le_of_ble_eq_true rfl) rfl ?_
        refine g_bipush (x := 42) aX12_term_46 rfl ?_
        by_cases hc130 : ¬ r66 = 42
        · rw [if_pos hc130] at hE
          refine g_ic_ne_t aX12_term_48 hc130 ?_
          refine g_ldan aX12_term_56 rfl ?_
          obtain ⟨r131, s132, h133, hE⟩ := i_bd_some hE
          refine g_calV (As := []) (rest := []) aX12_term_57 (i_X_mono (by omega) (tX12_sign hsh h133)) (sR_0 hsh) (by decide +kernel) rfl rfl (Nat.le_of_ble_eq_true rfl) rfl ?_
          refine g_bipush (x := 47) aX12_term_60 rfl ?_
          have hJ : g_R sh 4 mX12_term none τ 72 [.ref 0, x7] [.int ((if ¬ r131 = 47 then 15 else 14) : Int32)] (s132) := by
            exact tX12_term_J72 hsh ih hE
          clear hE
          by_cases hc133 : ¬ r131 = 47
          · (try rw [if_pos hc133] at hJ)
            refine g_ic_ne_t aX12_term_62 hc133 ?_
            refine g_bipush (x := 15) aX12_term_70 rfl ?_
            exact hJ
          · (try rw [if_neg hc133] at hJ)
            refine g_ic_ne_f aX12_term_62 hc133 ?_
            refine g_bipush (x := 14) aX12_term_65 rfl ?_
            refine g_goto aX12_term_67 ?_
            exact hJ
        · rw [if_neg hc130] at hE
          refine g_ic_ne_f aX12_term_48 hc130 ?_
          refine g_bipush (x := 13) aX12_term_51 rfl ?_
          refine g_goto aX12_term_53 ?_
          exact tX12_term_J72 hsh ih hE
      · rw [if_neg hc65] at hE
        refine g_ic_eq_f aX12_term_21 hc65 ?_
        refine g_ldan aX12_term_24 rfl ?_
        obtain ⟨r135, s136, h137, hE⟩ := i_bd_some hE
        refine g_calV (As := []) (rest := []) aX12_term_25 (i_X_mono (by omega) (tX12_sign hsh h137)) (sR_0 hsh) (by decide +kernel) rfl rfl (Nat.le_of_ble_eq_true rfl) rfl ?_
        refine g_bipush (x := 47) aX12_term_28 rfl ?_
        by_cases hc138 : r135 = 47
        · rw [if_pos hc138] at hE
          refine g_ic_eq_t aX12_term_30 hc138 ?_
          refine g_ldan aX12_term_42 rfl ?_
          obtain ⟨r139, s140, h141, hE⟩ := i_bd_some hE
          refine g_calV (As := []) (rest := []) aX12_term_43 (i_X_mono (by omega) (tX12_sign hsh h141)) (sR_0 hsh) (by decide +kernel) rfl rfl (Nat.le_of_ble_eq_true rfl) rfl ?_
          refine g_bipush (x := 42) aX12_term_46 rfl ?_
          by_cases hc203 : ¬ r139 = 42
          · rw [if_pos hc203] at hE
            refine g_ic_ne_t aX12_term_48 hc203 ?_
            refine g_ldan aX12_term_56 rfl ?_
            obtain ⟨r204, s205, h206, hE⟩ := i_bd_some hE
            refine g_calV (As := []) (rest := []) aX12_term_57 (i_X_mono (by omega) (tX12_sign hsh h206)) (sR_0 hsh) (by decide +kernel) rfl rfl (Nat.le_of_ble_eq_true rfl) rfl ?_
            refine g_bipush (x := 47) aX12_term_60 rfl ?_
            have hJ : g_R sh 4 mX12_term none τ 72 [.ref 0, x7] [.int ((if ¬ r204 = 47 then 15 else 14) : Int32)] (s205) := by
              exact tX12_term_J72_193 hsh ih hE
            clear hE
            by_cases hc206 : ¬ r204 = 47
            · (try rw [if_pos hc206] at hJ)
              refine g_ic_ne_t aX12_term_62 hc206 ?_
              refine g_bipush (x := 15) aX12_term_70 rfl ?_
              exact hJ
            · (try rw [if_neg hc206] at hJ)
              refine g_ic_ne_f aX12_term_62 hc206 ?_
              refine g_bipush (x := 14) aX12_term_65 rfl ?_
              refine g_goto aX12_term_67 ?_
              exact hJ
          · rw [if_neg hc203] at hE
            refine g_ic_ne_f aX12_term_48 hc203 ?_
            refine g_bipush (x := 13) aX12_term_51 rfl ?_
            refine g_goto aX12_term_53 ?_
            exact tX12_term_J72_193 hsh ih hE
        · rw [if_neg hc138] at hE
          refine g_ic_eq_f aX12_term_30 hc138 ?_
          refine g_ldan aX12_term_33 rfl ?_
          obtain ⟨r208, s209, h210, hE⟩ := i_bd_some hE
          refine g_calV (As := []) (rest := []) aX12_term_34 (i_X_mono (by omega) (tX12_sign hsh h210)) (sR_0 hsh) (by decide +kernel) rfl rfl (Nat.le_of_ble_eq_true rfl) rfl ?_
          refine g_bipush (x := 37) aX12_term_37 rfl ?_
          by_cases hc211 : ¬ r208 = 37
          · rw [if_pos hc211] at hE
            refine g_ic_ne_t aX12_term_39 hc211 ?_
            exact tX12_term_J100 hsh hE
          · rw [if_neg hc211] at hE
            refine g_ic_ne_f aX12_term_39 hc211 ?_
            refine g_ldan aX12_term_42 rfl ?_
            obtain ⟨r212, s213, h214, hE⟩ := i_bd_some hE
            refine g_calV (As := []) (rest := []) aX12_term_43 (i_X_mono (by omega) (tX12_sign hsh h214)) (sR_0 hsh) (by decide +kernel) rfl rfl (Nat.le_of_ble_eq_true rfl) rfl ?_
            refine g_bipush (x := 42) aX12_term_46 rfl ?_
            by_cases hc276 : ¬ r212 = 42
            · rw [if_pos hc276] at hE
              refine g_ic_ne_t aX12_term_48 hc276 ?_
              refine g_ldan aX12_term_56 rfl ?_
              obtain ⟨r277, s278, h279, hE⟩ := i_bd_some hE
              refine g_calV (As := []) (rest := []) aX12_term_57 (i_X_mono (by omega) (tX12_sign hsh h279)) (sR_0 hsh) (by decide +kernel) rfl rfl (Nat.le_of_ble_eq_true rfl) rfl ?_
              refine g_bipush (x := 47) aX12_term_60 rfl ?_
              have hJ : g_R sh 4 mX12_term none τ 72 [.ref 0, x7] [.int ((if ¬ r277 = 47 then 15 else 14) : Int32)] (s278) := by
                exact tX12_term_J72_266 hsh ih hE
              clear hE
              by_cases hc279 : ¬ r277 = 47
              · (try rw [if_pos hc279] at hJ)
                refine g_ic_ne_t aX12_term_62 hc279 ?_
                refine g_bipush (x := 15) aX12_term_70 rfl ?_
                exact hJ
              · (try rw [if_neg hc279] at hJ)
                refine g_ic_ne_f aX12_term_62 hc279 ?_
                refine g_bipush (x := 14) aX12_term_65 rfl ?_
                refine g_goto aX12_term_67 ?_
                exact hJ
            · rw [if_neg hc276] at hE
              refine g_ic_ne_f aX12_term_48 hc276 ?_
              refine g_bipush (x := 13) aX12_term_51 rfl ?_
              refine g_goto aX12_term_53 ?_
              exact tX12_term_J72_266 hsh ih hE
set_option maxRecDepth 20000 in
set_option maxHeartbeats 2000000 in
theorem tX12_term {sh : List kd} {σ τ : St} {r : Unit} (hsh : rmSh sh) (hE : fX12_term sh σ = some (r, τ)) : i_X 5 147 [.ref 0] (s_h sh σ) 0 0 none (s_h sh τ) := by
  refine g_X (M := mX12_term) (loc := [.ref 0, .retAddr 0]) rfl (Nat.le_of_ble_eq_true rfl) rfl ?_
  unfold fX12_term at hE
  refine g_ldan aX12_term_0 rfl ?_
  obtain ⟨r1, s2, h3, hE⟩ := i_bd_some hE
  refine g_calV (As := []) (rest := []) aX12_term_1 (i_X_mono (by omega) (tX12_value hsh h3)) (sR_0 hsh) (by decide +kernel) rfl rfl (Nat.le_of_ble_eq_true rfl) rfl ?_
  refine g_ldan aX12_term_4 rfl ?_
  obtain ⟨r4, s5, h6, hE⟩ := i_bd_some hE
  refine g_calV (As := []) (rest := []) aX12_term_5 (i_X_mono (by omega) (tX12_blanks hsh h6)) (sR_0 hsh) (by decide +kernel) rfl rfl (Nat.le_of_ble_eq_true rfl) rfl ?_
  exact tX12_term_L8 hsh i_F _ _ hE
theorem aX12_sum_0 : i_at mX12_sum.2.2.2.2.2 0 = some (.aload_n 0, 1, 0, 0, 0, 0) := by decide +kernel
theorem aX12_sum_1 : i_at mX12_sum.2.2.2.2.2 1 = some (.invokevirtual 228, 3, 147, 0, 1355, 0) := by decide +kernel
theorem aX12_sum_4 : i_at mX12_sum.2.2.2.2.2 4 = some (.aload_n 0, 1, 0, 0, 0, 0) := by decide +kernel
theorem aX12_sum_5 : i_at mX12_sum.2.2.2.2.2 5 = some (.getfield 163, 3, 11, 21, 1108, 0) := by decide +kernel
theorem aX12_sum_8 : i_at mX12_sum.2.2.2.2.2 8 = some (.ifCond .ne 59, 3, 67, 0, 0, 0) := by decide +kernel
theorem aX12_sum_11 : i_at mX12_sum.2.2.2.2.2 11 = some (.aload_n 0, 1, 0, 0, 0, 0) := by decide +kernel
theorem aX12_sum_12 : i_at mX12_sum.2.2.2.2.2 12 = some (.invokevirtual 169, 3, 138, 0, 1279, 0) := by decide +kernel
theorem aX12_sum_15 : i_at mX12_sum.2.2.2.2.2 15 = some (.bipush 43, 2, 0, 0, 0, 0) := by decide +kernel
theorem aX12_sum_17 : i_at mX12_sum.2.2.2.2.2 17 = some (.if_icmp .eq 12, 3, 29, 0, 0, 0) := by decide +kernel
theorem aX12_sum_20 : i_at mX12_sum.2.2.2.2.2 20 = some (.aload_n 0, 1, 0, 0, 0, 0) := by decide +kernel
theorem aX12_sum_21 : i_at mX12_sum.2.2.2.2.2 21 = some (.invokevirtual 169, 3, 138, 0, 1279, 0) := by decide +kernel
theorem aX12_sum_24 : i_at mX12_sum.2.2.2.2.2 24 = some (.bipush 45, 2, 0, 0, 0, 0) := by decide +kernel
theorem aX12_sum_26 : i_at mX12_sum.2.2.2.2.2 26 = some (.if_icmp .ne 41, 3, 67, 0, 0, 0) := by decide +kernel
theorem aX12_sum_29 : i_at mX12_sum.2.2.2.2.2 29 = some (.aload_n 0, 1, 0, 0, 0, 0) := by decide +kernel
theorem aX12_sum_30 : i_at mX12_sum.2.2.2.2.2 30 = some (.invokevirtual 169, 3, 138, 0, 1279, 0) := by decide +kernel
theorem aX12_sum_33 : i_at mX12_sum.2.2.2.2.2 33 = some (.bipush 43, 2, 0, 0, 0, 0) := by decide +kernel
theorem aX12_sum_35 : i_at mX12_sum.2.2.2.2.2 35 = some (.if_icmp .ne 7, 3, 42, 0, 0, 0) := by decide +kernel
theorem aX12_sum_38 : i_at mX12_sum.2.2.2.2.2 38 = some (.iconst 2, 1, 0, 0, 0, 0) := by decide +kernel
theorem aX12_sum_39 : i_at mX12_sum.2.2.2.2.2 39 = some (.goto 4, 3, 43, 0, 0, 0) := by decide +kernel
theorem aX12_sum_42 : i_at mX12_sum.2.2.2.2.2 42 = some (.iconst 3, 1, 0, 0, 0, 0) := by decide +kernel
theorem aX12_sum_43 : i_at mX12_sum.2.2.2.2.2 43 = some (.istore_n 1, 1, 0, 0, 0, 0) := by decide +kernel
theorem aX12_sum_44 : i_at mX12_sum.2.2.2.2.2 44 = some (.aload_n 0, 1, 0, 0, 0, 0) := by decide +kernel
theorem aX12_sum_45 : i_at mX12_sum.2.2.2.2.2 45 = some (.dup, 1, 0, 0, 0, 0) := by decide +kernel
theorem aX12_sum_46 : i_at mX12_sum.2.2.2.2.2 46 = some (.getfield 166, 3, 11, 20, 1107, 0) := by decide +kernel
theorem aX12_sum_49 : i_at mX12_sum.2.2.2.2.2 49 = some (.iconst 1, 1, 0, 0, 0, 0) := by decide +kernel
theorem aX12_sum_50 : i_at mX12_sum.2.2.2.2.2 50 = some (.iadd, 1, 0, 0, 0, 0) := by decide +kernel
theorem aX12_sum_51 : i_at mX12_sum.2.2.2.2.2 51 = some (.putfield 166, 3, 11, 20, 1107, 0) := by decide +kernel
theorem aX12_sum_54 : i_at mX12_sum.2.2.2.2.2 54 = some (.aload_n 0, 1, 0, 0, 0, 0) := by decide +kernel
theorem aX12_sum_55 : i_at mX12_sum.2.2.2.2.2 55 = some (.invokevirtual 228, 3, 147, 0, 1355, 0) := by decide +kernel
theorem aX12_sum_58 : i_at mX12_sum.2.2.2.2.2 58 = some (.aload_n 0, 1, 0, 0, 0, 0) := by decide +kernel
theorem aX12_sum_59 : i_at mX12_sum.2.2.2.2.2 59 = some (.iload_n 1, 1, 0, 0, 0, 0) := by decide +kernel
theorem aX12_sum_60 : i_at mX12_sum.2.2.2.2.2 60 = some (.iconst 0, 1, 0, 0, 0, 0) := by decide +kernel
theorem aX12_sum_61 : i_at mX12_sum.2.2.2.2.2 61 = some (.invokevirtual 218, 3, 143, 2, 1367, 0) := by decide +kernel
theorem aX12_sum_64 : i_at mX12_sum.2.2.2.2.2 64 = some (.goto (-60), 3, 4, 0, 0, 0) := by decide +kernel
theorem aX12_sum_67 : i_at mX12_sum.2.2.2.2.2 67 = some (.return_, 1, 0, 0, 0, 0) := by decide +kernel
noncomputable def fX12_sum_J67 (sh : List kd) (x4 : Value) (s57 : St) : Option (Unit × St) := some ((), s57)
noncomputable def fX12_sum_L4 (sh : List kd) : Nat → Value → St → Option (Unit × St)
  | 0, _, _ => none
  | n6 + 1, x4, s5 => if ¬ (s5.1 0 21) = 0 then fX12_sum_J67 sh x4 s5 else i_bd (fX12_sign sh s5) (fun r59 s60 => if r59 = 43 then i_bd (fX12_sign sh s60) (fun r63 s64 => i_bd (fX12_term sh (s_F s64 0 20 ((s64.1 0 20) + 1))) (fun r66 s67 => i_bd (fX12_entry sh s67 ((if ¬ r63 = 43 then 3 else 2) : Int32) 0) (fun r69 s70 => (fX12_sum_L4 sh n6 (.int ((if ¬ r63 = 43 then 3 else 2) : Int32)) s70)))) else i_bd (fX12_sign sh s60) (fun r73 s74 => if ¬ r73 = 45 then fX12_sum_J67 sh x4 s74 else i_bd (fX12_sign sh s74) (fun r77 s78 => i_bd (fX12_term sh (s_F s78 0 20 ((s78.1 0 20) + 1))) (fun r80 s81 => i_bd (fX12_entry sh s81 ((if ¬ r77 = 43 then 3 else 2) : Int32) 0) (fun r83 s84 => (fX12_sum_L4 sh n6 (.int ((if ¬ r77 = 43 then 3 else 2) : Int32)) s84))))))
noncomputable def fX12_sum (sh : List kd) (σ : St) : Option (Unit × St) := i_bd (fX12_term sh σ) (fun r1 s2 => fX12_sum_L4 sh i_F (.retAddr 0) s2)
set_option maxRecDepth 20000 in
set_option maxHeartbeats 2000000 in
theorem tX12_sum_J67 {sh : List kd} {τ : St} {r : Unit} (hsh : rmSh sh) {x4 : Value} {s57 : St} (hE : fX12_sum_J67 sh x4 s57 = some (r, τ)) : g_R sh 5 mX12_sum none τ 67 [.ref 0, x4] [] (s57) := by
  unfold fX12_sum_J67 at hE
  obtain ⟨rfl, rfl⟩ := i_some_inj hE
  exact g_vret aX12_sum_67 rfl
set_option maxRecDepth 20000 in
set_option maxHeartbeats 2000000 in
theorem tX12_sum_L4 {sh : List kd} {τ : St} {r : Unit} (hsh : rmSh sh) : ∀ (n0 : Nat) (x4 : Value) (s5 : St), fX12_sum_L4 sh n0 x4 s5 = some (r, τ) → g_R sh 5 mX12_sum none τ 4 [.ref 0, x4] [] (s5) := by
  intro n0
  induction n0 with
  | zero => intro _ _ hE; cases hE
  | succ n6 ih =>
    intro x4 s5 hE
    unfold fX12_sum_L4 at hE
    refine g_ldan aX12_sum_4 rfl ?_
    refine g_getI aX12_sum_5 (sR_0 hsh) rfl ?_
    by_cases hc58 : ¬ (s5.1 0 21) = 0
    · rw [if_pos hc58] at hE
      refine g_if_ne_t aX12_sum_8 hc58 ?_
      exact tX12_sum_J67 hsh hE
    · rw [if_neg hc58] at hE
      refine g_if_ne_f aX12_sum_8 hc58 ?_
      refine g_ldan aX12_sum_11 rfl ?_
      obtain ⟨r59, s60, h61, hE⟩ := i_bd_some hE
      refine g_calV (As := []) (rest := []) aX12_sum_12 (i_X_mono (by omega) (tX12_sign hsh h61)) (sR_0 hsh) (by decide +kernel) rfl rfl (Nat.le_of_ble_eq_true rfl) rfl ?_
      refine g_bipush (x := 43) aX12_sum_15 rfl ?_
      by_cases hc62 : r59 = 43
      · rw [if_pos hc62] at hE
        refine g_ic_eq_t aX12_sum_17 hc62 ?_
        refine g_ldan aX12_sum_29 rfl ?_
        obtain ⟨r63, s64, h65, hE⟩ := i_bd_some hE
        refine g_calV (As := []) (rest := []) aX12_sum_30 (i_X_mono (by omega) (tX12_sign hsh h65)) (sR_0 hsh) (by decide +kernel) rfl rfl (Nat.le_of_ble_eq_true rfl) rfl ?_
        refine g_bipush (x := 43) aX12_sum_33 rfl ?_
        have hJ : g_R sh 5 mX12_sum none τ 43 [.ref 0, x4] [.int ((if ¬ r63 = 43 then 3 else 2) : Int32)] (s64) := by
          refine g_stin (loc2 := [.ref 0, .int ((if ¬ r63 = 43 then 3 else 2) : Int32)]) aX12_sum_43 (Nat.le_of_ble_eq_true rfl) rfl ?_
          refine g_ldan aX12_sum_44 rfl ?_
          refine g_dupa aX12_sum_45 ?_
          refine g_getI aX12_sum_46 (sR_0 hsh) rfl ?_
          refine g_iconst (x := 1) aX12_sum_49 rfl ?_
          refine g_iadd aX12_sum_50 ?_
          refine g_putI aX12_sum_51 (sR_0 hsh) rfl rfl ?_
          refine g_ldan aX12_sum_54 rfl ?_
          obtain ⟨r66, s67, h68, hE⟩ := i_bd_some hE
          refine g_calV (As := []) (rest := []) aX12_sum_55 (i_X_mono (by omega) (tX12_term hsh h68)) (sR_0 hsh) (by decide +kernel) rfl rfl (Nat.le_of_ble_eq_true rfl) rfl ?_
          refine g_ldan aX12_sum_58 rfl ?_
          refine g_ldin aX12_sum_59 rfl ?_
          refine g_iconst (x := 0) aX12_sum_60 rfl ?_
          obtain ⟨r69, s70, h71, hE⟩ := i_bd_some hE
          refine g_calV (As := [.int ((if ¬ r63 = 43 then 3 else 2) : Int32), .int 0]) (rest := []) aX12_sum_61 (i_X_mono (by omega) (tX12_entry hsh h71)) (sR_0 hsh) (by decide +kernel) rfl rfl (Nat.le_of_ble_eq_true rfl) rfl ?_
          refine g_goto aX12_sum_64 ?_
          exact ih _ _ hE
        clear hE
        by_cases hc71 : ¬ r63 = 43
        · (try rw [if_pos hc71] at hJ)
          refine g_ic_ne_t aX12_sum_35 hc71 ?_
          refine g_iconst (x := 3) aX12_sum_42 rfl ?_
          exact hJ
        · (try rw [if_neg hc71] at hJ)
          refine g_ic_ne_f aX12_sum_35 hc71 ?_
          refine g_iconst (x := 2) aX12_sum_38 rfl ?_
          refine g_goto aX12_sum_39 ?_
          exact hJ
      · rw [if_neg hc62] at hE
        refine g_ic_eq_f aX12_sum_17 hc62 ?_
        refine g_ldan aX12_sum_20 rfl ?_
        obtain ⟨r73, s74, h75, hE⟩ := i_bd_some hE
        refine g_calV (As := []) (rest := []) aX12_sum_21 (i_X_mono (by omega) (tX12_sign hsh h75)) (sR_0 hsh) (by decide +kernel) rfl rfl (Nat.le_of_ble_eq_true rfl) rfl ?_
        refine g_bipush (x := 45) aX12_sum_24 rfl ?_
        by_cases hc76 : ¬ r73 = 45
        · rw [if_pos hc76] at hE
          refine g_ic_ne_t aX12_sum_26 hc76 ?_
          exact tX12_sum_J67 hsh hE
        · rw [if_neg hc76] at hE
          refine g_ic_ne_f aX12_sum_26 hc76 ?_
          refine g_ldan aX12_sum_29 rfl ?_
          obtain ⟨r77, s78, h79, hE⟩ := i_bd_some hE
          refine g_calV (As := []) (rest := []) aX12_sum_30 (i_X_mono (by omega) (tX12_sign hsh h79)) (sR_0 hsh) (by decide +kernel) rfl rfl (Nat.le_of_ble_eq_true rfl) rfl ?_
          refine g_bipush (x := 43) aX12_sum_33 rfl ?_
          have hJ : g_R sh 5 mX12_sum none τ 43 [.ref 0, x4] [.int ((if ¬ r77 = 43 then 3 else 2) : Int32)] (s78) := by
            refine g_stin (loc2 := [.ref 0, .int ((if ¬ r77 = 43 then 3 else 2) : Int32)]) aX12_sum_43 (Nat.le_of_ble_eq_true rfl) rfl ?_
            refine g_ldan aX12_sum_44 rfl ?_
            refine g_dupa aX12_sum_45 ?_
            refine g_getI aX12_sum_46 (sR_0 hsh) rfl ?_
            refine g_iconst (x := 1) aX12_sum_49 rfl ?_
            refine g_iadd aX12_sum_50 ?_
            refine g_putI aX12_sum_51 (sR_0 hsh) rfl rfl ?_
            refine g_ldan aX12_sum_54 rfl ?_
            obtain ⟨r80, s81, h82, hE⟩ := i_bd_some hE
            refine g_calV (As := []) (rest := []) aX12_sum_55 (i_X_mono (by omega) (tX12_term hsh h82)) (sR_0 hsh) (by decide +kernel) rfl rfl (Nat.le_of_ble_eq_true rfl) rfl ?_
            refine g_ldan aX12_sum_58 rfl ?_
            refine g_ldin aX12_sum_59 rfl ?_
            refine g_iconst (x := 0) aX12_sum_60 rfl ?_
            obtain ⟨r83, s84, h85, hE⟩ := i_bd_some hE
            refine g_calV (As := [.int ((if ¬ r77 = 43 then 3 else 2) : Int32), .int 0]) (rest := []) aX12_sum_61 (i_X_mono (by omega) (tX12_entry hsh h85)) (sR_0 hsh) (by decide +kernel) rfl rfl (Nat.le_of_ble_eq_true rfl) rfl ?_
            refine g_goto aX12_sum_64 ?_
            exact ih _ _ hE
          clear hE
          by_cases hc85 : ¬ r77 = 43
          · (try rw [if_pos hc85] at hJ)
            refine g_ic_ne_t aX12_sum_35 hc85 ?_
            refine g_iconst (x := 3) aX12_sum_42 rfl ?_
            exact hJ
          · (try rw [if_neg hc85] at hJ)
            refine g_ic_ne_f aX12_sum_35 hc85 ?_
            refine g_iconst (x := 2) aX12_sum_38 rfl ?_
            refine g_goto aX12_sum_39 ?_
            exact hJ
set_option maxRecDepth 20000 in
set_option maxHeartbeats 2000000 in
theorem tX12_sum {sh : List kd} {σ τ : St} {r : Unit} (hsh : rmSh sh) (hE : fX12_sum sh σ = some (r, τ)) : i_X 6 148 [.ref 0] (s_h sh σ) 0 0 none (s_h sh τ) := by
  refine g_X (M := mX12_sum) (loc := [.ref 0, .retAddr 0]) rfl (Nat.le_of_ble_eq_true rfl) rfl ?_
  unfold fX12_sum at hE
  refine g_ldan aX12_sum_0 rfl ?_
  obtain ⟨r1, s2, h3, hE⟩ := i_bd_some hE
  refine g_calV (As := []) (rest := []) aX12_sum_1 (i_X_mono (by omega) (tX12_term hsh h3)) (sR_0 hsh) (by decide +kernel) rfl rfl (Nat.le_of_ble_eq_true rfl) rfl ?_
  exact tX12_sum_L4 hsh i_F _ _ hE
theorem aX12_compared_0 : i_at mX12_compared.2.2.2.2.2 0 = some (.aload_n 0, 1, 0, 0, 0, 0) := by decide +kernel
theorem aX12_compared_1 : i_at mX12_compared.2.2.2.2.2 1 = some (.invokevirtual 231, 3, 148, 0, 1351, 0) := by decide +kernel
theorem aX12_compared_4 : i_at mX12_compared.2.2.2.2.2 4 = some (.aload_n 0, 1, 0, 0, 0, 0) := by decide +kernel
theorem aX12_compared_5 : i_at mX12_compared.2.2.2.2.2 5 = some (.invokevirtual 169, 3, 138, 0, 1279, 0) := by decide +kernel
theorem aX12_compared_8 : i_at mX12_compared.2.2.2.2.2 8 = some (.istore_n 1, 1, 0, 0, 0, 0) := by decide +kernel
theorem aX12_compared_9 : i_at mX12_compared.2.2.2.2.2 9 = some (.iload_n 1, 1, 0, 0, 0, 0) := by decide +kernel
theorem aX12_compared_10 : i_at mX12_compared.2.2.2.2.2 10 = some (.bipush 60, 2, 0, 0, 0, 0) := by decide +kernel
theorem aX12_compared_12 : i_at mX12_compared.2.2.2.2.2 12 = some (.if_icmp .eq 25, 3, 37, 0, 0, 0) := by decide +kernel
theorem aX12_compared_15 : i_at mX12_compared.2.2.2.2.2 15 = some (.iload_n 1, 1, 0, 0, 0, 0) := by decide +kernel
theorem aX12_compared_16 : i_at mX12_compared.2.2.2.2.2 16 = some (.bipush 61, 2, 0, 0, 0, 0) := by decide +kernel
theorem aX12_compared_18 : i_at mX12_compared.2.2.2.2.2 18 = some (.if_icmp .eq 19, 3, 37, 0, 0, 0) := by decide +kernel
theorem aX12_compared_21 : i_at mX12_compared.2.2.2.2.2 21 = some (.iload_n 1, 1, 0, 0, 0, 0) := by decide +kernel
theorem aX12_compared_22 : i_at mX12_compared.2.2.2.2.2 22 = some (.bipush 62, 2, 0, 0, 0, 0) := by decide +kernel
theorem aX12_compared_24 : i_at mX12_compared.2.2.2.2.2 24 = some (.if_icmp .eq 13, 3, 37, 0, 0, 0) := by decide +kernel
theorem aX12_compared_27 : i_at mX12_compared.2.2.2.2.2 27 = some (.aload_n 0, 1, 0, 0, 0, 0) := by decide +kernel
theorem aX12_compared_28 : i_at mX12_compared.2.2.2.2.2 28 = some (.iconst 0, 1, 0, 0, 0, 0) := by decide +kernel
theorem aX12_compared_29 : i_at mX12_compared.2.2.2.2.2 29 = some (.aload_n 0, 1, 0, 0, 0, 0) := by decide +kernel
theorem aX12_compared_30 : i_at mX12_compared.2.2.2.2.2 30 = some (.getfield 166, 3, 11, 20, 1107, 0) := by decide +kernel
theorem aX12_compared_33 : i_at mX12_compared.2.2.2.2.2 33 = some (.invokevirtual 202, 3, 137, 2, 1297, 0) := by decide +kernel
theorem aX12_compared_36 : i_at mX12_compared.2.2.2.2.2 36 = some (.return_, 1, 0, 0, 0, 0) := by decide +kernel
theorem aX12_compared_37 : i_at mX12_compared.2.2.2.2.2 37 = some (.aload_n 0, 1, 0, 0, 0, 0) := by decide +kernel
theorem aX12_compared_38 : i_at mX12_compared.2.2.2.2.2 38 = some (.aload_n 0, 1, 0, 0, 0, 0) := by decide +kernel
theorem aX12_compared_39 : i_at mX12_compared.2.2.2.2.2 39 = some (.getfield 166, 3, 11, 20, 1107, 0) := by decide +kernel
theorem aX12_compared_42 : i_at mX12_compared.2.2.2.2.2 42 = some (.invokevirtual 215, 3, 144, 1, 1363, 0) := by decide +kernel
theorem aX12_compared_45 : i_at mX12_compared.2.2.2.2.2 45 = some (.aload_n 0, 1, 0, 0, 0, 0) := by decide +kernel
theorem aX12_compared_46 : i_at mX12_compared.2.2.2.2.2 46 = some (.dup, 1, 0, 0, 0, 0) := by decide +kernel
theorem aX12_compared_47 : i_at mX12_compared.2.2.2.2.2 47 = some (.getfield 166, 3, 11, 20, 1107, 0) := by decide +kernel
theorem aX12_compared_50 : i_at mX12_compared.2.2.2.2.2 50 = some (.iconst 1, 1, 0, 0, 0, 0) := by decide +kernel
theorem aX12_compared_51 : i_at mX12_compared.2.2.2.2.2 51 = some (.iadd, 1, 0, 0, 0, 0) := by decide +kernel
theorem aX12_compared_52 : i_at mX12_compared.2.2.2.2.2 52 = some (.putfield 166, 3, 11, 20, 1107, 0) := by decide +kernel
theorem aX12_compared_55 : i_at mX12_compared.2.2.2.2.2 55 = some (.iload_n 1, 1, 0, 0, 0, 0) := by decide +kernel
theorem aX12_compared_56 : i_at mX12_compared.2.2.2.2.2 56 = some (.bipush 61, 2, 0, 0, 0, 0) := by decide +kernel
theorem aX12_compared_58 : i_at mX12_compared.2.2.2.2.2 58 = some (.if_icmp .eq 16, 3, 74, 0, 0, 0) := by decide +kernel
theorem aX12_compared_61 : i_at mX12_compared.2.2.2.2.2 61 = some (.aload_n 0, 1, 0, 0, 0, 0) := by decide +kernel
theorem aX12_compared_62 : i_at mX12_compared.2.2.2.2.2 62 = some (.invokevirtual 169, 3, 138, 0, 1279, 0) := by decide +kernel
theorem aX12_compared_65 : i_at mX12_compared.2.2.2.2.2 65 = some (.bipush 61, 2, 0, 0, 0, 0) := by decide +kernel
theorem aX12_compared_67 : i_at mX12_compared.2.2.2.2.2 67 = some (.if_icmp .ne 7, 3, 74, 0, 0, 0) := by decide +kernel
theorem aX12_compared_70 : i_at mX12_compared.2.2.2.2.2 70 = some (.iconst 1, 1, 0, 0, 0, 0) := by decide +kernel
theorem aX12_compared_71 : i_at mX12_compared.2.2.2.2.2 71 = some (.goto 4, 3, 75, 0, 0, 0) := by decide +kernel
theorem aX12_compared_74 : i_at mX12_compared.2.2.2.2.2 74 = some (.iconst 0, 1, 0, 0, 0, 0) := by decide +kernel
theorem aX12_compared_75 : i_at mX12_compared.2.2.2.2.2 75 = some (.istore_n 2, 1, 0, 0, 0, 0) := by decide +kernel
theorem aX12_compared_76 : i_at mX12_compared.2.2.2.2.2 76 = some (.aload_n 0, 1, 0, 0, 0, 0) := by decide +kernel
theorem aX12_compared_77 : i_at mX12_compared.2.2.2.2.2 77 = some (.dup, 1, 0, 0, 0, 0) := by decide +kernel
theorem aX12_compared_78 : i_at mX12_compared.2.2.2.2.2 78 = some (.getfield 166, 3, 11, 20, 1107, 0) := by decide +kernel
theorem aX12_compared_81 : i_at mX12_compared.2.2.2.2.2 81 = some (.iload_n 2, 1, 0, 0, 0, 0) := by decide +kernel
theorem aX12_compared_82 : i_at mX12_compared.2.2.2.2.2 82 = some (.ifCond .eq 7, 3, 89, 0, 0, 0) := by decide +kernel
theorem aX12_compared_85 : i_at mX12_compared.2.2.2.2.2 85 = some (.iconst 1, 1, 0, 0, 0, 0) := by decide +kernel
theorem aX12_compared_86 : i_at mX12_compared.2.2.2.2.2 86 = some (.goto 4, 3, 90, 0, 0, 0) := by decide +kernel
theorem aX12_compared_89 : i_at mX12_compared.2.2.2.2.2 89 = some (.iconst 0, 1, 0, 0, 0, 0) := by decide +kernel
theorem aX12_compared_90 : i_at mX12_compared.2.2.2.2.2 90 = some (.iadd, 1, 0, 0, 0, 0) := by decide +kernel
theorem aX12_compared_91 : i_at mX12_compared.2.2.2.2.2 91 = some (.putfield 166, 3, 11, 20, 1107, 0) := by decide +kernel
theorem aX12_compared_94 : i_at mX12_compared.2.2.2.2.2 94 = some (.aload_n 0, 1, 0, 0, 0, 0) := by decide +kernel
theorem aX12_compared_95 : i_at mX12_compared.2.2.2.2.2 95 = some (.invokevirtual 231, 3, 148, 0, 1351, 0) := by decide +kernel
theorem aX12_compared_98 : i_at mX12_compared.2.2.2.2.2 98 = some (.aload_n 0, 1, 0, 0, 0, 0) := by decide +kernel
theorem aX12_compared_99 : i_at mX12_compared.2.2.2.2.2 99 = some (.iload_n 1, 1, 0, 0, 0, 0) := by decide +kernel
theorem aX12_compared_100 : i_at mX12_compared.2.2.2.2.2 100 = some (.bipush 61, 2, 0, 0, 0, 0) := by decide +kernel
theorem aX12_compared_102 : i_at mX12_compared.2.2.2.2.2 102 = some (.if_icmp .ne 8, 3, 110, 0, 0, 0) := by decide +kernel
theorem aX12_compared_105 : i_at mX12_compared.2.2.2.2.2 105 = some (.bipush 6, 2, 0, 0, 0, 0) := by decide +kernel
theorem aX12_compared_107 : i_at mX12_compared.2.2.2.2.2 107 = some (.goto 32, 3, 139, 0, 0, 0) := by decide +kernel
theorem aX12_compared_110 : i_at mX12_compared.2.2.2.2.2 110 = some (.iload_n 1, 1, 0, 0, 0, 0) := by decide +kernel
theorem aX12_compared_111 : i_at mX12_compared.2.2.2.2.2 111 = some (.bipush 60, 2, 0, 0, 0, 0) := by decide +kernel
theorem aX12_compared_113 : i_at mX12_compared.2.2.2.2.2 113 = some (.if_icmp .ne 15, 3, 128, 0, 0, 0) := by decide +kernel
theorem aX12_compared_116 : i_at mX12_compared.2.2.2.2.2 116 = some (.iload_n 2, 1, 0, 0, 0, 0) := by decide +kernel
theorem aX12_compared_117 : i_at mX12_compared.2.2.2.2.2 117 = some (.ifCond .eq 7, 3, 124, 0, 0, 0) := by decide +kernel
theorem aX12_compared_120 : i_at mX12_compared.2.2.2.2.2 120 = some (.iconst 5, 1, 0, 0, 0, 0) := by decide +kernel
theorem aX12_compared_121 : i_at mX12_compared.2.2.2.2.2 121 = some (.goto 18, 3, 139, 0, 0, 0) := by decide +kernel
theorem aX12_compared_124 : i_at mX12_compared.2.2.2.2.2 124 = some (.iconst 4, 1, 0, 0, 0, 0) := by decide +kernel
theorem aX12_compared_125 : i_at mX12_compared.2.2.2.2.2 125 = some (.goto 14, 3, 139, 0, 0, 0) := by decide +kernel
theorem aX12_compared_128 : i_at mX12_compared.2.2.2.2.2 128 = some (.iload_n 2, 1, 0, 0, 0, 0) := by decide +kernel
theorem aX12_compared_129 : i_at mX12_compared.2.2.2.2.2 129 = some (.ifCond .eq 8, 3, 137, 0, 0, 0) := by decide +kernel
theorem aX12_compared_132 : i_at mX12_compared.2.2.2.2.2 132 = some (.bipush 7, 2, 0, 0, 0, 0) := by decide +kernel
theorem aX12_compared_134 : i_at mX12_compared.2.2.2.2.2 134 = some (.goto 5, 3, 139, 0, 0, 0) := by decide +kernel
theorem aX12_compared_137 : i_at mX12_compared.2.2.2.2.2 137 = some (.bipush 8, 2, 0, 0, 0, 0) := by decide +kernel
theorem aX12_compared_139 : i_at mX12_compared.2.2.2.2.2 139 = some (.iconst 0, 1, 0, 0, 0, 0) := by decide +kernel
theorem aX12_compared_140 : i_at mX12_compared.2.2.2.2.2 140 = some (.invokevirtual 218, 3, 143, 2, 1367, 0) := by decide +kernel
theorem aX12_compared_143 : i_at mX12_compared.2.2.2.2.2 143 = some (.return_, 1, 0, 0, 0, 0) := by decide +kernel
noncomputable def fX12_compared_J75 (sh : List kd) (r4 : Int32) (x61 : Int32) (s62 : St) : Option (Unit × St) := i_bd (fX12_sum sh (s_F s62 0 20 ((s62.1 0 20) + ((if x61 = 0 then 0 else 1) : Int32)))) (fun r63 s64 => i_bd (fX12_entry sh s64 ((if ¬ r4 = 61 then (if ¬ r4 = 60 then (if x61 = 0 then 8 else 7) else (if x61 = 0 then 4 else 5)) else 6) : Int32) 0) (fun r66 s67 => some ((), s67)))
noncomputable def fX12_compared_J75_134 (sh : List kd) (r4 : Int32) (x133 : Int32) (s134 : St) : Option (Unit × St) := i_bd (fX12_sum sh (s_F s134 0 20 ((s134.1 0 20) + ((if x133 = 0 then 0 else 1) : Int32)))) (fun r135 s136 => i_bd (fX12_entry sh s136 ((if ¬ r4 = 61 then (if ¬ r4 = 60 then (if x133 = 0 then 8 else 7) else (if x133 = 0 then 4 else 5)) else 6) : Int32) 0) (fun r138 s139 => some ((), s139)))
noncomputable def fX12_compared_J75_206 (sh : List kd) (r4 : Int32) (x205 : Int32) (s206 : St) : Option (Unit × St) := i_bd (fX12_sum sh (s_F s206 0 20 ((s206.1 0 20) + ((if x205 = 0 then 0 else 1) : Int32)))) (fun r207 s208 => i_bd (fX12_entry sh s208 ((if ¬ r4 = 61 then (if ¬ r4 = 60 then (if x205 = 0 then 8 else 7) else (if x205 = 0 then 4 else 5)) else 6) : Int32) 0) (fun r210 s211 => some ((), s211)))
noncomputable def fX12_compared (sh : List kd) (σ : St) : Option (Unit × St) := i_bd (fX12_sum sh σ) (fun r1 s2 => i_bd (fX12_sign sh s2) (fun r4 s5 => if r4 = 60 then i_bd (fX12_isCounted sh s5 (s5.1 0 20)) (fun r8 s9 => if r4 = 61 then fX12_compared_J75 sh r4 0 (s_F s9 0 20 ((s9.1 0 20) + 1)) else i_bd (fX12_sign sh (s_F s9 0 20 ((s9.1 0 20) + 1))) (fun r75 s76 => fX12_compared_J75 sh r4 ((if ¬ r75 = 61 then 0 else 1) : Int32) s76)) else if r4 = 61 then i_bd (fX12_isCounted sh s5 (s5.1 0 20)) (fun r80 s81 => if r4 = 61 then fX12_compared_J75_134 sh r4 0 (s_F s81 0 20 ((s81.1 0 20) + 1)) else i_bd (fX12_sign sh (s_F s81 0 20 ((s81.1 0 20) + 1))) (fun r147 s148 => fX12_compared_J75_134 sh r4 ((if ¬ r147 = 61 then 0 else 1) : Int32) s148)) else if r4 = 62 then i_bd (fX12_isCounted sh s5 (s5.1 0 20)) (fun r152 s153 => if r4 = 61 then fX12_compared_J75_206 sh r4 0 (s_F s153 0 20 ((s153.1 0 20) + 1)) else i_bd (fX12_sign sh (s_F s153 0 20 ((s153.1 0 20) + 1))) (fun r219 s220 => fX12_compared_J75_206 sh r4 ((if ¬ r219 = 61 then 0 else 1) : Int32) s220)) else i_bd (fX12_fails sh s5 0 (s5.1 0 20)) (fun r223 s224 => some ((), s224))))
set_option maxRecDepth 20000 in
set_option maxHeartbeats 2000000 in
theorem tX12_compared_J75 {sh : List kd} {τ : St} {r : Unit} (hsh : rmSh sh) {r4 : Int32} {x61 : Int32} {s62 : St} (hE : fX12_compared_J75 sh r4 x61 s62 = some (r, τ)) : g_R sh 6 mX12_compared none τ 75 [.ref 0, .int r4, .retAddr 0] [.int x61] (s62) := by
  unfold fX12_compared_J75 at hE
  refine g_stin (loc2 := [.ref 0, .int r4, .int x61]) aX12_compared_75 (Nat.le_of_ble_eq_true rfl) rfl ?_
  refine g_ldan aX12_compared_76 rfl ?_
  refine g_dupa aX12_compared_77 ?_
  refine g_getI aX12_compared_78 (sR_0 hsh) rfl ?_
  refine g_ldin aX12_compared_81 rfl ?_
  have hJ : g_R sh 6 mX12_compared none τ 90 [.ref 0, .int r4, .int x61] [.int ((if x61 = 0 then 0 else 1) : Int32), .int (s62.1 0 20), .ref 0] (s62) := by
    refine g_iadd aX12_compared_90 ?_
    refine g_putI aX12_compared_91 (sR_0 hsh) rfl rfl ?_
    refine g_ldan aX12_compared_94 rfl ?_
    obtain ⟨r63, s64, h65, hE⟩ := i_bd_some hE
    refine g_calV (As := []) (rest := []) aX12_compared_95 (i_X_mono (by omega) (tX12_sum hsh h65)) (sR_0 hsh) (by decide +kernel) rfl rfl (Nat.le_of_ble_eq_true rfl) rfl ?_
    refine g_ldan aX12_compared_98 rfl ?_
    refine g_ldin aX12_compared_99 rfl ?_
    refine g_bipush (x := 61) aX12_compared_100 rfl ?_
    have hJ : g_R sh 6 mX12_compared none τ 139 [.ref 0, .int r4, .int x61] [.int ((if ¬ r4 = 61 then (if ¬ r4 = 60 then (if x61 = 0 then 8 else 7) else (if x61 = 0 then 4 else 5)) else 6) : Int32), .ref 0] (s64) := by
      refine g_iconst (x := 0) aX12_compared_139 rfl ?_
      obtain ⟨r66, s67, h68, hE⟩ := i_bd_some hE
      refine g_calV (As := [.int ((if ¬ r4 = 61 then (if ¬ r4 = 60 then (if x61 = 0 then 8 else 7) else (if x61 = 0 then 4 else 5)) else 6) : Int32), .int 0]) (rest := []) aX12_compared_140 (i_X_mono (by omega) (tX12_entry hsh h68)) (sR_0 hsh) (by decide +kernel) rfl rfl (Nat.le_of_ble_eq_true rfl) rfl ?_
      obtain ⟨rfl, rfl⟩ := i_some_inj hE
      exact g_vret aX12_compared_143 rfl
    clear hE
    by_cases hc68 : ¬ r4 = 61
    · (try rw [if_pos hc68] at hJ)
      refine g_ic_ne_t aX12_compared_102 hc68 ?_
      refine g_ldin aX12_compared_110 rfl ?_
      refine g_bipush (x := 60) aX12_compared_111 rfl ?_
      by_cases hc69 : ¬ r4 = 60
      · (try rw [if_pos hc69] at hJ)
        refine g_ic_ne_t aX12_compared_113 hc69 ?_
        refine g_ldin aX12_compared_128 rfl ?_
        by_cases hc70 : x61 = 0
        · (try rw [if_pos hc70] at hJ)
          refine g_if_eq_t aX12_compared_129 hc70 ?_
          refine g_bipush (x := 8) aX12_compared_137 rfl ?_
          exact hJ
        · (try rw [if_neg hc70] at hJ)
          refine g_if_eq_f aX12_compared_129 hc70 ?_
          refine g_bipush (x := 7) aX12_compared_132 rfl ?_
          refine g_goto aX12_compared_134 ?_
          exact hJ
      · (try rw [if_neg hc69] at hJ)
        refine g_ic_ne_f aX12_compared_113 hc69 ?_
        refine g_ldin aX12_compared_116 rfl ?_
        by_cases hc71 : x61 = 0
        · (try rw [if_pos hc71] at hJ)
          refine g_if_eq_t aX12_compared_117 hc71 ?_
          refine g_iconst (x := 4) aX12_compared_124 rfl ?_
          refine g_goto aX12_compared_125 ?_
          exact hJ
        · (try rw [if_neg hc71] at hJ)
          refine g_if_eq_f aX12_compared_117 hc71 ?_
          refine g_iconst (x := 5) aX12_compared_120 rfl ?_
          refine g_goto aX12_compared_121 ?_
          exact hJ
    · (try rw [if_neg hc68] at hJ)
      refine g_ic_ne_f aX12_compared_102 hc68 ?_
      refine g_bipush (x := 6) aX12_compared_105 rfl ?_
      refine g_goto aX12_compared_107 ?_
      exact hJ
  clear hE
  by_cases hc72 : x61 = 0
  · (try rw [if_pos hc72] at hJ)
    refine g_if_eq_t aX12_compared_82 hc72 ?_
    refine g_iconst (x := 0) aX12_compared_89 rfl ?_
    exact hJ
  · (try rw [if_neg hc72] at hJ)
    refine g_if_eq_f aX12_compared_82 hc72 ?_
    refine g_iconst (x := 1) aX12_compared_85 rfl ?_
    refine g_goto aX12_compared_86 ?_
    exact hJ
set_option maxRecDepth 20000 in
set_option maxHeartbeats 2000000 in
theorem tX12_compared_J75_134 {sh : List kd} {τ : St} {r : Unit} (hsh : rmSh sh) {r4 : Int32} {x133 : Int32} {s134 : St} (hE : fX12_compared_J75_134 sh r4 x133 s134 = some (r, τ)) : g_R sh 6 mX12_compared none τ 75 [.ref 0, .int r4, .retAddr 0] [.int x133] (s134) := by
  unfold fX12_compared_J75_134 at hE
  refine g_stin (loc2 := [.ref 0, .int r4, .int x133]) aX12_compared_75 (Nat.le_of_ble_eq_true rfl) rfl ?_
  refine g_ldan aX12_compared_76 rfl ?_
  refine g_dupa aX12_compared_77 ?_
  refine g_getI aX12_compared_78 (sR_0 hsh) rfl ?_
  refine g_ldin aX12_compared_81 rfl ?_
  have hJ : g_R sh 6 mX12_compared none τ 90 [.ref 0, .int r4, .int x133] [.int ((if x133 = 0 then 0 else 1) : Int32), .int (s134.1 0 20), .ref 0] (s134) := by
    refine g_iadd aX12_compared_90 ?_
    refine g_putI aX12_compared_91 (sR_0 hsh) rfl rfl ?_
    refine g_ldan aX12_compared_94 rfl ?_
    obtain ⟨r135, s136, h137, hE⟩ := i_bd_some hE
    refine g_calV (As := []) (rest := []) aX12_compared_95 (i_X_mono (by omega) (tX12_sum hsh h137)) (sR_0 hsh) (by decide +kernel) rfl rfl (Nat.le_of_ble_eq_true rfl) rfl ?_
    refine g_ldan aX12_compared_98 rfl ?_
    refine g_ldin aX12_compared_99 rfl ?_
    refine g_bipush (x := 61) aX12_compared_100 rfl ?_
    have hJ : g_R sh 6 mX12_compared none τ 139 [.ref 0, .int r4, .int x133] [.int ((if ¬ r4 = 61 then (if ¬ r4 = 60 then (if x133 = 0 then 8 else 7) else (if x133 = 0 then 4 else 5)) else 6) : Int32), .ref 0] (s136) := by
      refine g_iconst (x := 0) aX12_compared_139 rfl ?_
      obtain ⟨r138, s139, h140, hE⟩ := i_bd_some hE
      refine g_calV (As := [.int ((if ¬ r4 = 61 then (if ¬ r4 = 60 then (if x133 = 0 then 8 else 7) else (if x133 = 0 then 4 else 5)) else 6) : Int32), .int 0]) (rest := []) aX12_compared_140 (i_X_mono (by omega) (tX12_entry hsh h140)) (sR_0 hsh) (by decide +kernel) rfl rfl (Nat.le_of_ble_eq_true rfl) rfl ?_
      obtain ⟨rfl, rfl⟩ := i_some_inj hE
      exact g_vret aX12_compared_143 rfl
    clear hE
    by_cases hc140 : ¬ r4 = 61
    · (try rw [if_pos hc140] at hJ)
      refine g_ic_ne_t aX12_compared_102 hc140 ?_
      refine g_ldin aX12_compared_110 rfl ?_
      refine g_bipush (x := 60) aX12_compared_111 rfl ?_
      by_cases hc141 : ¬ r4 = 60
      · (try rw [if_pos hc141] at hJ)
        refine g_ic_ne_t aX12_compared_113 hc141 ?_
        refine g_ldin aX12_compared_128 rfl ?_
        by_cases hc142 : x133 = 0
        · (try rw [if_pos hc142] at hJ)
          refine g_if_eq_t aX12_compared_129 hc142 ?_
          refine g_bipush (x := 8) aX12_compared_137 rfl ?_
          exact hJ
        · (try rw [if_neg hc142] at hJ)
          refine g_if_eq_f aX12_compared_129 hc142 ?_
          refine g_bipush (x := 7) aX12_compared_132 rfl ?_
          refine g_goto aX12_compared_134 ?_
          exact hJ
      · (try rw [if_neg hc141] at hJ)
        refine g_ic_ne_f aX12_compared_113 hc141 ?_
        refine g_ldin aX12_compared_116 rfl ?_
        by_cases hc143 : x133 = 0
        · (try rw [if_pos hc143] at hJ)
          refine g_if_eq_t aX12_compared_117 hc143 ?_
          refine g_iconst (x := 4) aX12_compared_124 rfl ?_
          refine g_goto aX12_compared_125 ?_
          exact hJ
        · (try rw [if_neg hc143] at hJ)
          refine g_if_eq_f aX12_compared_117 hc143 ?_
          refine g_iconst (x := 5) aX12_compared_120 rfl ?_
          refine g_goto aX12_compared_121 ?_
          exact hJ
    · (try rw [if_neg hc140] at hJ)
      refine g_ic_ne_f aX12_compared_102 hc140 ?_
      refine g_bipush (x := 6) aX12_compared_105 rfl ?_
      refine g_goto aX12_compared_107 ?_
      exact hJ
  clear hE
  by_cases hc144 : x133 = 0
  · (try rw [if_pos hc144] at hJ)
    refine g_if_eq_t aX12_compared_82 hc144 ?_
    refine g_iconst (x := 0) aX12_compared_89 rfl ?_
    exact hJ
  · (try rw [if_neg hc144] at hJ)
    refine g_if_eq_f aX12_compared_82 hc144 ?_
    refine g_iconst (x := 1) aX12_compared_85 rfl ?_
    refine g_goto aX12_compared_86 ?_
    exact hJ
set_option maxRecDepth 20000 in
set_option maxHeartbeats 2000000 in
theorem tX12_compared_J75_206 {sh : List kd} {τ : St} {r : Unit} (hsh : rmSh sh) {r4 : Int32} {x205 : Int32} {s206 : St} (hE : fX12_compared_J75_206 sh r4 x205 s206 = some (r, τ)) : g_R sh 6 mX12_compared none τ 75 [.ref 0, .int r4, .retAddr 0] [.int x205] (s206) := by
  unfold fX12_compared_J75_206 at hE
  refine g_stin (loc2 := [.ref 0, .int r4, .int x205]) aX12_compared_75 (Nat.le_of_ble_eq_true rfl) rfl ?_
  refine g_ldan aX12_compared_76 rfl ?_
  refine g_dupa aX12_compared_77 ?_
  refine g_getI aX12_compared_78 (sR_0 hsh) rfl ?_
  refine g_ldin aX12_compared_81 rfl ?_
  have hJ : g_R sh 6 mX12_compared none τ 90 [.ref 0, .int r4, .int x205] [.int ((if x205 = 0 then 0 else 1) : Int32), .int (s206.1 0 20), .ref 0] (s206) := by
    refine g_iadd aX12_compared_90 ?_
    refine g_putI aX12_compared_91 (sR_0 hsh) rfl rfl ?_
    refine g_ldan aX12_compared_94 rfl ?_
    obtain ⟨r207, s208, h209, hE⟩ := i_bd_some hE
    refine g_calV (As := []) (rest := []) aX12_compared_95 (i_X_mono (by omega) (tX12_sum hsh h209)) (sR_0 hsh) (by decide +kernel) rfl rfl (Nat.le_of_ble_eq_true rfl) rfl ?_
    refine g_ldan aX12_compared_98 rfl ?_
    refine g_ldin aX12_compared_99 rfl ?_
    refine g_bipush (x := 61) aX12_compared_100 rfl ?_
    have hJ : g_R sh 6 mX12_compared none τ 139 [.ref 0, .int r4, .int x205] [.int ((if ¬ r4 = 61 then (if ¬ r4 = 60 then (if x205 = 0 then 8 else 7) else (if x205 = 0 then 4 else 5)) else 6) : Int32), .ref 0] (s208) := by
      refine g_iconst (x := 0) aX12_compared_139 rfl ?_
      obtain ⟨r210, s211, h212, hE⟩ := i_bd_some hE
      refine g_calV (As := [.int ((if ¬ r4 = 61 then (if ¬ r4 = 60 then (if x205 = 0 then 8 else 7) else (if x205 = 0 then 4 else 5)) else 6) : Int32), .int 0]) (rest := []) aX12_compared_140 (i_X_mono (by omega) (tX12_entry hsh h212)) (sR_0 hsh) (by decide +kernel) rfl rfl (Nat.le_of_ble_eq_true rfl) rfl ?_
      obtain ⟨rfl, rfl⟩ := i_some_inj hE
      exact g_vret aX12_compared_143 rfl
    clear hE
    by_cases hc212 : ¬ r4 = 61
    · (try rw [if_pos hc212] at hJ)
      refine g_ic_ne_t aX12_compared_102 hc212 ?_
      refine g_ldin aX12_compared_110 rfl ?_
      refine g_bipush (x := 60) aX12_compared_111 rfl ?_
      by_cases hc213 : ¬ r4 = 60
      · (try rw [if_pos hc213] at hJ)
        refine g_ic_ne_t aX12_compared_113 hc213 ?_
        refine g_ldin aX12_compared_128 rfl ?_
        by_cases hc214 : x205 = 0
        · (try rw [if_pos hc214] at hJ)
          refine g_if_eq_t aX12_compared_129 hc214 ?_
          refine g_bipush (x := 8) aX12_compared_137 rfl ?_
          exact hJ
        · (try rw [if_neg hc214] at hJ)
          refine g_if_eq_f aX12_compared_129 hc214 ?_
          refine g_bipush (x := 7) aX12_compared_132 rfl ?_
          refine g_goto aX12_compared_134 ?_
          exact hJ
      · (try rw [if_neg hc213] at hJ)
        refine g_ic_ne_f aX12_compared_113 hc213 ?_
        refine g_ldin aX12_compared_116 rfl ?_
        by_cases hc215 : x205 = 0
        · (try rw [if_pos hc215] at hJ)
          refine g_if_eq_t aX12_compared_117 hc215 ?_
          refine g_iconst (x := 4) aX12_compared_124 rfl ?_
          refine g_goto aX12_compared_125 ?_
          exact hJ
        · (try rw [if_neg hc215] at hJ)
          refine g_if_eq_f aX12_compared_117 hc215 ?_
          refine g_iconst (x := 5) aX12_compared_120 rfl ?_
          refine g_goto aX12_compared_121 ?_
          exact hJ
    · (try rw [if_neg hc212] at hJ)
      refine g_ic_ne_f aX12_compared_102 hc212 ?_
      refine g_bipush (x := 6) aX12_compared_105 rfl ?_
      refine g_goto aX12_compared_107 ?_
      exact hJ
  clear hE
  by_cases hc216 : x205 = 0
  · (try rw [if_pos hc216] at hJ)
    refine g_if_eq_t aX12_compared_82 hc216 ?_
    refine g_iconst (x := 0) aX12_compared_89 rfl ?_
    exact hJ
  · (try rw [if_neg hc216] at hJ)
    refine g_if_eq_f aX12_compared_82 hc216 ?_
    refine g_iconst (x := 1) aX12_compared_85 rfl ?_
    refine g_goto aX12_compared_86 ?_
    exact hJ
set_option maxRecDepth 20000 in
set_option maxHeartbeats 2000000 in
theorem tX12_compared {sh : List kd} {σ τ : St} {r : Unit} (hsh : rmSh sh) (hE : fX12_compared sh σ = some (r, τ)) : i_X 7 149 [.ref 0] (s_h sh σ) 0 0 none (s_h sh τ) := by
  refine g_X (M := mX12_compared) (loc := [.ref 0, .retAddr 0, .retAddr 0]) rfl (Nat.le_of_ble_eq_true rfl) rfl ?_
  unfold fX12_compared at hE
  refine g_ldan aX12_compared_0 rfl ?_
  obtain ⟨r1, s2, h3, hE⟩ := i_bd_some hE
  refine g_calV (As := []) (rest := []) aX12_compared_1 (i_X_mono (by omega) (tX12_sum hsh h3)) (sR_0 hsh) (by decide +kernel) rfl rfl (Nat.le_of_ble_eq_true rfl) rfl ?_
  refine g_ldan aX12_compared_4 rfl ?_
  obtain ⟨r4, s5, h6, hE⟩ := i_bd_some hE
  refine g_calV (As := []) (rest := []) aX12_compared_5 (i_X_mono (by omega) (tX12_sign hsh h6)) (sR_0 hsh) (by decide +kernel) rfl rfl (Nat.le_of_ble_eq_true rfl) rfl ?_
  refine g_stin (loc2 := [.ref 0, .int r4, .retAddr 0]) aX12_compared_8 (Nat.le_of_ble_eq_true rfl) rfl ?_
  refine g_ldin aX12_compared_9 rfl ?_
  refine g_bipush (x := 60) aX12_compared_10 rfl ?_
  by_cases hc7 : r4 = 60
  · rw [if_pos hc7] at hE
    refine g_ic_eq_t aX12_compared_12 hc7 ?_
    refine g_ldan aX12_compared_37 rfl ?_
    refine g_ldan aX12_compared_38 rfl ?_
    refine g_getI aX12_compared_39 (sR_0 hsh) rfl ?_
    obtain ⟨r8, s9, h10, hE⟩ := i_bd_some hE
    refine g_calV (As := [.int (s5.1 0 20)]) (rest := []) aX12_compared_42 (i_X_mono (by omega) (tX12_isCounted hsh h10)) (sR_0 hsh) (by decide +kernel) rfl rfl (Nat.le_of_ble_eq_true rfl) rfl ?_
    refine g_ldan aX12_compared_45 rfl ?_
    refine g_dupa aX12_compared_46 ?_
    refine g_getI aX12_compared_47 (sR_0 hsh) rfl ?_
    refine g_iconst (x := 1) aX12_compared_50 rfl ?_
    refine g_iadd aX12_compared_51 ?_
    refine g_putI aX12_compared_52 (sR_0 hsh) rfl rfl ?_
    refine g_ldin aX12_compared_55 rfl ?_
    refine g_bipush (x := 61) aX12_compared_56 rfl ?_
    by_cases hc74 : r4 = 61
    · rw [if_pos hc74] at hE
      refine g_ic_eq_t aX12_compared_58 hc74 ?_
      refine g_iconst (x := 0) aX12_compared_74 rfl ?_
      exact tX12_compared_J75 hsh hE
    · rw [if_neg hc74] at hE
      refine g_ic_eq_f aX12_compared_58 hc74 ?_
      refine g_ldan aX12_compared_61 rfl ?_
      obtain ⟨r75, s76, h77, hE⟩ := i_bd_some hE
      refine g_calV (As := []) (rest := []) aX12_compared_62 (i_X_mono (by omega) (tX12_sign hsh h77)) (sR_0 hsh) (by decide +kernel) rfl rfl (Nat.le_of_ble_eq_true rfl) rfl ?_
      refine g_bipush (x := 61) aX12_compared_65 rfl ?_
      have hJ : g_R sh 6 mX12_compared none τ 75 [.ref 0, .int r4, .retAddr 0] [.int ((if ¬ r75 = 61 then 0 else 1) : Int32)] (s76) := by
        exact tX12_compared_J75 hsh hE
      clear hE
      by_cases hc77 : ¬ r75 = 61
      · (try rw [if_pos hc77] at hJ)
        refine g_ic_ne_t aX12_compared_67 hc77 ?_
        refine g_iconst (x := 0) aX12_compared_74 rfl ?_
        exact hJ
      · (try rw [if_neg hc77] at hJ)
        refine g_ic_ne_f aX12_compared_67 hc77 ?_
        refine g_iconst (x := 1) aX12_compared_70 rfl ?_
        refine g_goto aX12_compared_71 ?_
        exact hJ
  · rw [if_neg hc7] at hE
    refine g_ic_eq_f aX12_compared_12 hc7 ?_
    refine g_ldin aX12_compared_15 rfl ?_
    refine g_bipush (x := 61) aX12_compared_16 rfl ?_
    by_cases hc79 : r4 = 61
    · rw [if_pos hc79] at hE
      refine g_ic_eq_t aX12_compared_18 hc79 ?_
      refine g_ldan aX12_compared_37 rfl ?_
      refine g_ldan aX12_compared_38 rfl ?_
      refine g_getI aX12_compared_39 (sR_0 hsh) rfl ?_
      obtain ⟨r80, s81, h82, hE⟩ := i_bd_some hE
      refine g_calV (As := [.int (s5.1 0 20)]) (rest := []) aX12_compared_42 (i_X_mono (by omega) (tX12_isCounted hsh h82)) (sR_0 hsh) (by decide +kernel) rfl rfl (Nat.le_of_ble_eq_true rfl) rfl ?_
      refine g_ldan aX12_compared_45 rfl ?_
      refine g_dupa aX12_compared_46 ?_
      refine g_getI aX12_compared_47 (sR_0 hsh) rfl ?_
      refine g_iconst (x := 1) aX12_compared_50 rfl ?_
      refine g_iadd aX12_compared_51 ?_
      refine g_putI aX12_compared_52 (sR_0 hsh) rfl rfl ?_
      refine g_ldin aX12_compared_55 rfl ?_
      refine g_bipush (x := 61) aX12_compared_56 rfl ?_
      by_cases hc146 : r4 = 61
      · rw [if_pos hc146] at hE
        refine g_ic_eq_t aX12_compared_58 hc146 ?_
        refine g_iconst (x := 0) aX12_compared_74 rfl ?_
        exact tX12_compared_J75_134 hsh hE
      · rw [if_neg hc146] at hE
        refine g_ic_eq_f aX12_compared_58 hc146 ?_
        refine g_ldan aX12_compared_61 rfl ?_
        obtain ⟨r147, s148, h149, hE⟩ := i_bd_some hE
        refine g_calV (As := []) (rest := []) aX12_compared_62 (i_X_mono (by omega) (tX12_sign hsh h149)) (sR_0 hsh) (by decide +kernel) rfl rfl (Nat.le_of_ble_eq_true rfl) rfl ?_
        refine g_bipush (x := 61) aX12_compared_65 rfl ?_
        have hJ : g_R sh 6 mX12_compared none τ 75 [.ref 0, .int r4, .retAddr 0] [.int ((if ¬ r147 = 61 then 0 else 1) : Int32)] (s148) := by
          exact tX12_compared_J75_134 hsh hE
        clear hE
        by_cases hc149 : ¬ r147 = 61
        · (try rw [if_pos hc149] at hJ)
          refine g_ic_ne_t aX12_compared_67 hc149 ?_
          refine g_iconst (x := 0) aX12_compared_74 rfl ?_
          exact hJ
        · (try rw [if_neg hc149] at hJ)
          refine g_ic_ne_f aX12_compared_67 hc149 ?_
          refine g_iconst (x := 1) aX12_compared_70 rfl ?_
          refine g_goto aX12_compared_71 ?_
          exact hJ
    · rw [if_neg hc79] at hE
      refine g_ic_eq_f aX12_compared_18 hc79 ?_
      refine g_ldin aX12_compared_21 rfl ?_
      refine g_bipush (x := 62) aX12_compared_22 rfl ?_
      by_cases hc151 : r4 = 62
      · rw [if_pos hc151] at hE
        refine g_ic_eq_t aX12_compared_24 hc151 ?_
        refine g_ldan aX12_compared_37 rfl ?_
        refine g_ldan aX12_compared_38 rfl ?_
        refine g_getI aX12_compared_39 (sR_0 hsh) rfl ?_
        obtain ⟨r152, s153, h154, hE⟩ := i_bd_some hE
        refine g_calV (As := [.int (s5.1 0 20)]) (rest := []) aX12_compared_42 (i_X_mono (by omega) (tX12_isCounted hsh h154)) (sR_0 hsh) (by decide +kernel) rfl rfl (Nat.le_of_ble_eq_true rfl) rfl ?_
        refine g_ldan aX12_compared_45 rfl ?_
        refine g_dupa aX12_compared_46 ?_
        refine g_getI aX12_compared_47 (sR_0 hsh) rfl ?_
        refine g_iconst (x := 1) aX12_compared_50 rfl ?_
        refine g_iadd aX12_compared_51 ?_
        refine g_putI aX12_compared_52 (sR_0 hsh) rfl rfl ?_
        refine g_ldin aX12_compared_55 rfl ?_
        refine g_bipush (x := 61) aX12_compared_56 rfl ?_
        by_cases hc218 : r4 = 61
        · rw [if_pos hc218] at hE
          refine g_ic_eq_t aX12_compared_58 hc218 ?_
          refine g_iconst (x := 0) aX12_compared_74 rfl ?_
          exact tX12_compared_J75_206 hsh hE
        · rw [if_neg hc218] at hE
          refine g_ic_eq_f aX12_compared_58 hc218 ?_
          refine g_ldan aX12_compared_61 rfl ?_
          obtain ⟨r219, s220, h221, hE⟩ := i_bd_some hE
          refine g_calV (As := []) (rest := []) aX12_compared_62 (i_X_mono (by omega) (tX12_sign hsh h221)) (sR_0 hsh) (by decide +kernel) rfl rfl (Nat.le_of_ble_eq_true rfl) rfl ?_
          refine g_bipush (x := 61) aX12_compared_65 rfl ?_
          have hJ : g_R sh 6 mX12_compared none τ 75 [.ref 0, .int r4, .retAddr 0] [.int ((if ¬ r219 = 61 then 0 else 1) : Int32)] (s220) := by
            exact tX12_compared_J75_206 hsh hE
          clear hE
          by_cases hc221 : ¬ r219 = 61
          · (try rw [if_pos hc221] at hJ)
            refine g_ic_ne_t aX12_compared_67 hc221 ?_
            refine g_iconst (x := 0) aX12_compared_74 rfl ?_
            exact hJ
          · (try rw [if_neg hc221] at hJ)
            refine g_ic_ne_f aX12_compared_67 hc221 ?_
            refine g_iconst (x := 1) aX12_compared_70 rfl ?_
            refine g_goto aX12_compared_71 ?_
            exact hJ
      · rw [if_neg hc151] at hE
        refine g_ic_eq_f aX12_compared_24 hc151 ?_
        refine g_ldan aX12_compared_27 rfl ?_
        refine g_iconst (x := 0) aX12_compared_28 rfl ?_
        refine g_ldan aX12_compared_29 rfl ?_
        refine g_getI aX12_compared_30 (sR_0 hsh) rfl ?_
        obtain ⟨r223, s224, h225, hE⟩ := i_bd_some hE
        refine g_calV (As := [.int 0, .int (s5.1 0 20)]) (rest := []) aX12_compared_33 (i_X_mono (by omega) (tX12_fails hsh h225)) (sR_0 hsh) (by decide +kernel) rfl rfl (Nat.le_of_ble_eq_true rfl) rfl ?_
        obtain ⟨rfl, rfl⟩ := i_some_inj hE
        exact g_vret aX12_compared_36 rfl
theorem aX12_top_0 : i_at mX12_top.2.2.2.2.2 0 = some (.aload_n 0, 1, 0, 0, 0, 0) := by decide +kernel
theorem aX12_top_1 : i_at mX12_top.2.2.2.2.2 1 = some (.getfield 234, 3, 11, 27, 1114, 0) := by decide +kernel
theorem aX12_top_4 : i_at mX12_top.2.2.2.2.2 4 = some (.ifCond .ne 7, 3, 11, 0, 0, 0) := by decide +kernel
theorem aX12_top_7 : i_at mX12_top.2.2.2.2.2 7 = some (.iconst (-1), 1, 0, 0, 0, 0) := by decide +kernel
theorem aX12_top_8 : i_at mX12_top.2.2.2.2.2 8 = some (.goto 14, 3, 22, 0, 0, 0) := by decide +kernel
theorem aX12_top_11 : i_at mX12_top.2.2.2.2.2 11 = some (.aload_n 0, 1, 0, 0, 0, 0) := by decide +kernel
theorem aX12_top_12 : i_at mX12_top.2.2.2.2.2 12 = some (.getfield 90, 3, 11, 36, 1123, 0) := by decide +kernel
theorem aX12_top_15 : i_at mX12_top.2.2.2.2.2 15 = some (.aload_n 0, 1, 0, 0, 0, 0) := by decide +kernel
theorem aX12_top_16 : i_at mX12_top.2.2.2.2.2 16 = some (.getfield 234, 3, 11, 27, 1114, 0) := by decide +kernel
theorem aX12_top_19 : i_at mX12_top.2.2.2.2.2 19 = some (.iconst 1, 1, 0, 0, 0, 0) := by decide +kernel
theorem aX12_top_20 : i_at mX12_top.2.2.2.2.2 20 = some (.isub, 1, 0, 0, 0, 0) := by decide +kernel
theorem aX12_top_21 : i_at mX12_top.2.2.2.2.2 21 = some (.iaload, 1, 0, 0, 0, 0) := by decide +kernel
theorem aX12_top_22 : i_at mX12_top.2.2.2.2.2 22 = some (.ireturn, 1, 0, 0, 0, 0) := by decide +kernel
noncomputable def fX12_top_J22 (sh : List kd) (σ : St) (x51 : Int32) : Option (Int32 × St) := some (x51, σ)
noncomputable def fX12_top (sh : List kd) (σ : St) : Option (Int32 × St) := if ¬ (σ.1 0 27) = 0 then if i_ok ((σ.1 0 27) - 1) 402 then fX12_top_J22 sh σ (σ.2.1 26 ((σ.1 0 27) - 1).toNatClampNeg) else none else fX12_top_J22 sh σ (-1)
set_option maxRecDepth 20000 in
set_option maxHeartbeats 2000000 in
theorem tX12_top_J22 {sh : List kd} {τ : St} {r : Int32} (hsh : rmSh sh) {σ : St} {x51 : Int32} (hE : fX12_top_J22 sh σ x51 = some (r, τ)) : g_R sh 0 mX12_top (some (.int r)) τ 22 [.ref 0] [.int x51] (σ) := by
  unfold fX12_top_J22 at hE
  obtain ⟨rfl, rfl⟩ := i_some_inj hE
  exact g_iret aX12_top_22 rfl rfl
set_option maxRecDepth 20000 in
set_option maxHeartbeats 2000000 in
theorem tX12_top {sh : List kd} {σ τ : St} {r : Int32} (hsh : rmSh sh) (hE : fX12_top sh σ = some (r, τ)) : i_X 1 150 [.ref 0] (s_h sh σ) 0 0 (some (.int r)) (s_h sh τ) := by
  refine g_X (M := mX12_top) (loc := [.ref 0]) rfl (Nat.le_of_ble_eq_true rfl) rfl ?_
  unfold fX12_top at hE
  refine g_ldan aX12_top_0 rfl ?_
  refine g_getI aX12_top_1 (sR_0 hsh) rfl ?_
  by_cases hc52 : ¬ (σ.1 0 27) = 0
  · rw [if_pos hc52] at hE
    refine g_if_ne_t aX12_top_4 hc52 ?_
    refine g_ldan aX12_top_11 rfl ?_
    refine g_getR aX12_top_12 (sR_0 hsh) rfl ?_
    refine g_ldan aX12_top_15 rfl ?_
    refine g_getI aX12_top_16 (sR_0 hsh) rfl ?_
    refine g_iconst (x := 1) aX12_top_19 rfl ?_
    refine g_isub aX12_top_20 ?_
    obtain ⟨h53, hE⟩ := i_ifn hE
    refine g_ild aX12_top_21 (sR_26 hsh) h53 ?_
    exact tX12_top_J22 hsh hE
  · rw [if_neg hc52] at hE
    refine g_if_ne_f aX12_top_4 hc52 ?_
    refine g_iconst (x := (-1)) aX12_top_7 rfl ?_
    refine g_goto aX12_top_8 ?_
    exact tX12_top_J22 hsh hE
theorem aX12_opens_0 : i_at mX12_opens.2.2.2.2.2 0 = some (.iload_n 1, 1, 0, 0, 0, 0) := by decide +kernel
theorem aX12_opens_1 : i_at mX12_opens.2.2.2.2.2 1 = some (.bipush 9, 2, 0, 0, 0, 0) := by decide +kernel
theorem aX12_opens_3 : i_at mX12_opens.2.2.2.2.2 3 = some (.if_icmp .eq 9, 3, 12, 0, 0, 0) := by decide +kernel
theorem aX12_opens_6 : i_at mX12_opens.2.2.2.2.2 6 = some (.iload_n 1, 1, 0, 0, 0, 0) := by decide +kernel
theorem aX12_opens_7 : i_at mX12_opens.2.2.2.2.2 7 = some (.bipush 12, 2, 0, 0, 0, 0) := by decide +kernel
theorem aX12_opens_9 : i_at mX12_opens.2.2.2.2.2 9 = some (.if_icmp .ne 31, 3, 40, 0, 0, 0) := by decide +kernel
theorem aX12_opens_12 : i_at mX12_opens.2.2.2.2.2 12 = some (.aload_n 0, 1, 0, 0, 0, 0) := by decide +kernel
theorem aX12_opens_13 : i_at mX12_opens.2.2.2.2.2 13 = some (.getfield 237, 3, 11, 25, 1112, 0) := by decide +kernel
theorem aX12_opens_16 : i_at mX12_opens.2.2.2.2.2 16 = some (.bipush 10, 2, 0, 0, 0, 0) := by decide +kernel
theorem aX12_opens_18 : i_at mX12_opens.2.2.2.2.2 18 = some (.if_icmp .ne 12, 3, 30, 0, 0, 0) := by decide +kernel
theorem aX12_opens_21 : i_at mX12_opens.2.2.2.2.2 21 = some (.aload_n 0, 1, 0, 0, 0, 0) := by decide +kernel
theorem aX12_opens_22 : i_at mX12_opens.2.2.2.2.2 22 = some (.iconst 2, 1, 0, 0, 0, 0) := by decide +kernel
theorem aX12_opens_23 : i_at mX12_opens.2.2.2.2.2 23 = some (.aload_n 0, 1, 0, 0, 0, 0) := by decide +kernel
theorem aX12_opens_24 : i_at mX12_opens.2.2.2.2.2 24 = some (.getfield 166, 3, 11, 20, 1107, 0) := by decide +kernel
theorem aX12_opens_27 : i_at mX12_opens.2.2.2.2.2 27 = some (.invokevirtual 202, 3, 137, 2, 1297, 0) := by decide +kernel
theorem aX12_opens_30 : i_at mX12_opens.2.2.2.2.2 30 = some (.aload_n 0, 1, 0, 0, 0, 0) := by decide +kernel
theorem aX12_opens_31 : i_at mX12_opens.2.2.2.2.2 31 = some (.dup, 1, 0, 0, 0, 0) := by decide +kernel
theorem aX12_opens_32 : i_at mX12_opens.2.2.2.2.2 32 = some (.getfield 237, 3, 11, 25, 1112, 0) := by decide +kernel
theorem aX12_opens_35 : i_at mX12_opens.2.2.2.2.2 35 = some (.iconst 1, 1, 0, 0, 0, 0) := by decide +kernel
theorem aX12_opens_36 : i_at mX12_opens.2.2.2.2.2 36 = some (.iadd, 1, 0, 0, 0, 0) := by decide +kernel
theorem aX12_opens_37 : i_at mX12_opens.2.2.2.2.2 37 = some (.putfield 237, 3, 11, 25, 1112, 0) := by decide +kernel
theorem aX12_opens_40 : i_at mX12_opens.2.2.2.2.2 40 = some (.aload_n 0, 1, 0, 0, 0, 0) := by decide +kernel
theorem aX12_opens_41 : i_at mX12_opens.2.2.2.2.2 41 = some (.getfield 90, 3, 11, 36, 1123, 0) := by decide +kernel
theorem aX12_opens_44 : i_at mX12_opens.2.2.2.2.2 44 = some (.aload_n 0, 1, 0, 0, 0, 0) := by decide +kernel
theorem aX12_opens_45 : i_at mX12_opens.2.2.2.2.2 45 = some (.getfield 234, 3, 11, 27, 1114, 0) := by decide +kernel
theorem aX12_opens_48 : i_at mX12_opens.2.2.2.2.2 48 = some (.iload_n 1, 1, 0, 0, 0, 0) := by decide +kernel
theorem aX12_opens_49 : i_at mX12_opens.2.2.2.2.2 49 = some (.iastore, 1, 0, 0, 0, 0) := by decide +kernel
theorem aX12_opens_50 : i_at mX12_opens.2.2.2.2.2 50 = some (.aload_n 0, 1, 0, 0, 0, 0) := by decide +kernel
theorem aX12_opens_51 : i_at mX12_opens.2.2.2.2.2 51 = some (.dup, 1, 0, 0, 0, 0) := by decide +kernel
theorem aX12_opens_52 : i_at mX12_opens.2.2.2.2.2 52 = some (.getfield 234, 3, 11, 27, 1114, 0) := by decide +kernel
theorem aX12_opens_55 : i_at mX12_opens.2.2.2.2.2 55 = some (.iconst 1, 1, 0, 0, 0, 0) := by decide +kernel
theorem aX12_opens_56 : i_at mX12_opens.2.2.2.2.2 56 = some (.iadd, 1, 0, 0, 0, 0) := by decide +kernel
theorem aX12_opens_57 : i_at mX12_opens.2.2.2.2.2 57 = some (.putfield 234, 3, 11, 27, 1114, 0) := by decide +kernel
theorem aX12_opens_60 : i_at mX12_opens.2.2.2.2.2 60 = some (.return_, 1, 0, 0, 0, 0) := by decide +kernel
noncomputable def fX12_opens_J30 (sh : List kd) (p1 : Int32) (s102 : St) : Option (Unit × St) := if i_ok ((s_F s102 0 25 ((s102.1 0 25) + 1)).1 0 27) 402 then i_jp (s_F (s_A (s_F s102 0 25 ((s102.1 0 25) + 1)) 26 ((s_F s102 0 25 ((s102.1 0 25) + 1)).1 0 27).toNatClampNeg p1) 0 27 (((s_A (s_F s102 0 25 ((s102.1 0 25) + 1)) 26 ((s_F s102 0 25 ((s102.1 0 25) + 1)).1 0 27).toNatClampNeg p1).1 0 27) + 1)) (fun (s104 : St) => some ((), s104)) else none
noncomputable def fX12_opens_J30_212 (sh : List kd) (p1 : Int32) (s212 : St) : Option (Unit × St) := if i_ok ((s_F s212 0 25 ((s212.1 0 25) + 1)).1 0 27) 402 then i_jp (s_F (s_A (s_F s212 0 25 ((s212.1 0 25) + 1)) 26 ((s_F s212 0 25 ((s212.1 0 25) + 1)).1 0 27).toNatClampNeg p1) 0 27 (((s_A (s_F s212 0 25 ((s212.1 0 25) + 1)) 26 ((s_F s212 0 25 ((s212.1 0 25) + 1)).1 0 27).toNatClampNeg p1).1 0 27) + 1)) (fun (s214 : St) => some ((), s214)) else none
noncomputable def fX12_opens (sh : List kd) (σ : St) (p1 : Int32) : Option (Unit × St) := if p1 = 9 then if ¬ (σ.1 0 25) = 10 then fX12_opens_J30 sh p1 σ else i_bd (fX12_fails sh σ 2 (σ.1 0 20)) (fun r107 s108 => fX12_opens_J30 sh p1 s108) else if ¬ p1 = 12 then if i_ok (σ.1 0 27) 402 then some ((), s_F (s_A σ 26 (σ.1 0 27).toNatClampNeg p1) 0 27 (((s_A σ 26 (σ.1 0 27).toNatClampNeg p1).1 0 27) + 1)) else none else if ¬ (σ.1 0 25) = 10 then fX12_opens_J30_212 sh p1 σ else i_bd (fX12_fails sh σ 2 (σ.1 0 20)) (fun r217 s218 => fX12_opens_J30_212 sh p1 s218)
set_option maxRecDepth 20000 in
set_option maxHeartbeats 2000000 in
theorem tX12_opens_J30 {sh : List kd} {τ : St} {r : Unit} (hsh : rmSh sh) {p1 : Int32} {s102 : St} (hE : fX12_opens_J30 sh p1 s102 = some (r, τ)) : g_R sh 1 mX12_opens none τ 30 [.ref 0, .int p1] [] (s102) := by
  unfold fX12_opens_J30 at hE
  refine g_ldan aX12_opens_30 rfl ?_
  refine g_dupa aX12_opens_31 ?_
  refine g_getI aX12_opens_32 (sR_0 hsh) rfl ?_
  refine g_iconst (x := 1) aX12_opens_35 rfl ?_
  refine g_iadd aX12_opens_36 ?_
  refine g_putI aX12_opens_37 (sR_0 hsh) rfl rfl ?_
  refine g_ldan aX12_opens_40 rfl ?_
  refine g_getR aX12_opens_41 (sR_0 hsh) rfl ?_
  refine g_ldan aX12_opens_44 rfl ?_
  refine g_getI aX12_opens_45 (sR_0 hsh) rfl ?_
  refine g_ldin aX12_opens_48 rfl ?_
  obtain ⟨h103, hE⟩ := i_ifn hE
  refine g_ist aX12_opens_49 (sR_26 hsh) h103 ?_
  refine g_ldan aX12_opens_50 rfl ?_
  refine g_dupa aX12_opens_51 ?_
  refine g_getI aX12_opens_52 (sR_0 hsh) rfl ?_
  refine g_iconst (x := 1) aX12_opens_55 rfl ?_
  refine g_iadd aX12_opens_56 ?_
  refine g_putI aX12_opens_57 (sR_0 hsh) rfl rfl ?_
  obtain ⟨s104, h105, hE⟩ := i_jp_some hE
  rw [← h105]
  obtain ⟨rfl, rfl⟩ := i_some_inj hE
  exact g_vret aX12_opens_60 rfl
set_option maxRecDepth 20000 in
set_option maxHeartbeats 2000000 in
theorem tX12_opens_J30_212 {sh : List kd} {τ : St} {r : Unit} (hsh : rmSh sh) {p1 : Int32} {s212 : St} (hE : fX12_opens_J30_212 sh p1 s212 = some (r, τ)) : g_R sh 1 mX12_opens none τ 30 [.ref 0, .int p1] [] (s212) := by
  unfold fX12_opens_J30_212 at hE
  refine g_ldan aX12_opens_30 rfl ?_
  refine g_dupa aX12_opens_31 ?_
  refine g_getI aX12_opens_32 (sR_0 hsh) rfl ?_
  refine g_iconst (x := 1) aX12_opens_35 rfl ?_
  refine g_iadd aX12_opens_36 ?_
  refine g_putI aX12_opens_37 (sR_0 hsh) rfl rfl ?_
  refine g_ldan aX12_opens_40 rfl ?_
  refine g_getR aX12_opens_41 (sR_0 hsh) rfl ?_
  refine g_ldan aX12_opens_44 rfl ?_
  refine g_getI aX12_opens_45 (sR_0 hsh) rfl ?_
  refine g_ldin aX12_opens_48 rfl ?_
  obtain ⟨h213, hE⟩ := i_ifn hE
  refine g_ist aX12_opens_49 (sR_26 hsh) h213 ?_
  refine g_ldan aX12_opens_50 rfl ?_
  refine g_dupa aX12_opens_51 ?_
  refine g_getI aX12_opens_52 (sR_0 hsh) rfl ?_
  refine g_iconst (x := 1) aX12_opens_55 rfl ?_
  refine g_iadd aX12_opens_56 ?_
  refine g_putI aX12_opens_57 (sR_0 hsh) rfl rfl ?_
  obtain ⟨s214, h215, hE⟩ := i_jp_some hE
  rw [← h215]
  obtain ⟨rfl, rfl⟩ := i_some_inj hE
  exact g_vret aX12_opens_60 rfl
set_option maxRecDepth 20000 in
set_option maxHeartbeats 2000000 in
theorem tX12_opens {sh : List kd} {σ τ : St} {r : Unit} (hsh : rmSh sh) {p1 : Int32} (hE : fX12_opens sh σ p1 = some (r, τ)) : i_X 2 151 [.ref 0, .int p1] (s_h sh σ) 0 0 none (s_h sh τ) := by
  refine g_X (M := mX12_opens) (loc := [.ref 0, .int p1]) rfl (Nat.le_of_ble_eq_true rfl) rfl ?_
  unfold fX12_opens at hE
  refine g_ldin aX12_opens_0 rfl ?_
  refine g_bipush (x := 9) aX12_opens_1 rfl ?_
  by_cases hc51 : p1 = 9
  · rw [if_pos hc51] at hE
    refine g_ic_eq_t aX12_opens_3 hc51 ?_
    refine g_ldan aX12_opens_12 rfl ?_
    refine g_getI aX12_opens_13 (sR_0 hsh) rfl ?_
    refine g_bipush (x := 10) aX12_opens_16 rfl ?_
    by_cases hc106 : ¬ (σ.1 0 25) = 10
    · rw [if_pos hc106] at hE
      refine g_ic_ne_t aX12_opens_18 hc106 ?_
      exact tX12_opens_J30 hsh hE
    · rw [if_neg hc106] at hE
      refine g_ic_ne_f aX12_opens_18 hc106 ?_
      refine g_ldan aX12_opens_21 rfl ?_
      refine g_iconst (x := 2) aX12_opens_22 rfl ?_
      refine g_ldan aX12_opens_23 rfl ?_
      refine g_getI aX12_opens_24 (sR_0 hsh) rfl ?_
      obtain ⟨r107, s108, h109, hE⟩ := i_bd_some hE
      refine g_calV (As := [.int 2, .int (σ.1 0 20)]) (rest := []) aX12_opens_27 (i_X_mono (by omega) (tX12_fails hsh h109)) (sR_0 hsh) (by decide +kernel) rfl rfl (Nat.le_of_ble_eq_true rfl) rfl ?_
      exact tX12_opens_J30 hsh hE
  · rw [if_neg hc51] at hE
    refine g_ic_eq_f aX12_opens_3 hc51 ?_
    refine g_ldin aX12_opens_6 rfl ?_
    refine g_bipush (x := 12) aX12_opens_7 rfl ?_
    by_cases hc160 : ¬ p1 = 12
    · rw [if_pos hc160] at hE
      refine g_ic_ne_t aX12_opens_9 hc160 ?_
      refine g_ldan aX12_opens_40 rfl ?_
      refine g_getR aX12_opens_41 (sR_0 hsh) rfl ?_
      refine g_ldan aX12_opens_44 rfl ?_
      refine g_getI aX12_opens_45 (sR_0 hsh) rfl ?_
      refine g_ldin aX12_opens_48 rfl ?_
      obtain ⟨h161, hE⟩ := i_ifn hE
      refine g_ist aX12_opens_49 (sR_26 hsh) h161 ?_
      refine g_ldan aX12_opens_50 rfl ?_
      refine g_dupa aX12_opens_51 ?_
      refine g_getI aX12_opens_52 (sR_0 hsh) rfl ?_
      refine g_iconst (x := 1) aX12_opens_55 rfl ?_
      refine g_iadd aX12_opens_56 ?_
      refine g_putI aX12_opens_57 (sR_0 hsh) rfl rfl ?_
      obtain ⟨rfl, rfl⟩ := i_some_inj hE
      exact g_vret aX12_opens_60 rfl
    · rw [if_neg hc160] at hE
      refine g_ic_ne_f aX12_opens_9 hc160 ?_
      refine g_ldan aX12_opens_12 rfl ?_
      refine g_getI aX12_opens_13 (sR_0 hsh) rfl ?_
      refine g_bipush (x := 10) aX12_opens_16 rfl ?_
      by_cases hc216 : ¬ (σ.1 0 25) = 10
      · rw [if_pos hc216] at hE
        refine g_ic_ne_t aX12_opens_18 hc216 ?_
        exact tX12_opens_J30_212 hsh hE
      · rw [if_neg hc216] at hE
        refine g_ic_ne_f aX12_opens_18 hc216 ?_
        refine g_ldan aX12_opens_21 rfl ?_
        refine g_iconst (x := 2) aX12_opens_22 rfl ?_
        refine g_ldan aX12_opens_23 rfl ?_
        refine g_getI aX12_opens_24 (sR_0 hsh) rfl ?_
        obtain ⟨r217, s218, h219, hE⟩ := i_bd_some hE
        refine g_calV (As := [.int 2, .int (σ.1 0 20)]) (rest := []) aX12_opens_27 (i_X_mono (by omega) (tX12_fails hsh h219)) (sR_0 hsh) (by decide +kernel) rfl rfl (Nat.le_of_ble_eq_true rfl) rfl ?_
        exact tX12_opens_J30_212 hsh hE
theorem aX12_answers_0 : i_at mX12_answers.2.2.2.2.2 0 = some (.aload_n 0, 1, 0, 0, 0, 0) := by decide +kernel
theorem aX12_answers_1 : i_at mX12_answers.2.2.2.2.2 1 = some (.invokevirtual 240, 3, 150, 0, 1411, 0) := by decide +kernel
theorem aX12_answers_4 : i_at mX12_answers.2.2.2.2.2 4 = some (.iload_n 1, 1, 0, 0, 0, 0) := by decide +kernel
theorem aX12_answers_5 : i_at mX12_answers.2.2.2.2.2 5 = some (.if_icmp .ne 49, 3, 54, 0, 0, 0) := by decide +kernel
theorem aX12_answers_8 : i_at mX12_answers.2.2.2.2.2 8 = some (.aload_n 0, 1, 0, 0, 0, 0) := by decide +kernel
theorem aX12_answers_9 : i_at mX12_answers.2.2.2.2.2 9 = some (.getfield 163, 3, 11, 21, 1108, 0) := by decide +kernel
theorem aX12_answers_12 : i_at mX12_answers.2.2.2.2.2 12 = some (.ifCond .ne 42, 3, 54, 0, 0, 0) := by decide +kernel
theorem aX12_answers_15 : i_at mX12_answers.2.2.2.2.2 15 = some (.aload_n 0, 1, 0, 0, 0, 0) := by decide +kernel
theorem aX12_answers_16 : i_at mX12_answers.2.2.2.2.2 16 = some (.iload_n 1, 1, 0, 0, 0, 0) := by decide +kernel
theorem aX12_answers_17 : i_at mX12_answers.2.2.2.2.2 17 = some (.iconst 0, 1, 0, 0, 0, 0) := by decide +kernel
theorem aX12_answers_18 : i_at mX12_answers.2.2.2.2.2 18 = some (.invokevirtual 218, 3, 143, 2, 1367, 0) := by decide +kernel
theorem aX12_answers_21 : i_at mX12_answers.2.2.2.2.2 21 = some (.aload_n 0, 1, 0, 0, 0, 0) := by decide +kernel
theorem aX12_answers_22 : i_at mX12_answers.2.2.2.2.2 22 = some (.dup, 1, 0, 0, 0, 0) := by decide +kernel
theorem aX12_answers_23 : i_at mX12_answers.2.2.2.2.2 23 = some (.getfield 234, 3, 11, 27, 1114, 0) := by decide +kernel
theorem aX12_answers_26 : i_at mX12_answers.2.2.2.2.2 26 = some (.iconst 1, 1, 0, 0, 0, 0) := by decide +kernel
theorem aX12_answers_27 : i_at mX12_answers.2.2.2.2.2 27 = some (.isub, 1, 0, 0, 0, 0) := by decide +kernel
theorem aX12_answers_28 : i_at mX12_answers.2.2.2.2.2 28 = some (.putfield 234, 3, 11, 27, 1114, 0) := by decide +kernel
theorem aX12_answers_31 : i_at mX12_answers.2.2.2.2.2 31 = some (.aload_n 0, 1, 0, 0, 0, 0) := by decide +kernel
theorem aX12_answers_32 : i_at mX12_answers.2.2.2.2.2 32 = some (.dup, 1, 0, 0, 0, 0) := by decide +kernel
theorem aX12_answers_33 : i_at mX12_answers.2.2.2.2.2 33 = some (.getfield 237, 3, 11, 25, 1112, 0) := by decide +kernel
theorem aX12_answers_36 : i_at mX12_answers.2.2.2.2.2 36 = some (.iload_n 1, 1, 0, 0, 0, 0) := by decide +kernel
theorem aX12_answers_37 : i_at mX12_answers.2.2.2.2.2 37 = some (.bipush 9, 2, 0, 0, 0, 0) := by decide +kernel
theorem aX12_answers_39 : i_at mX12_answers.2.2.2.2.2 39 = some (.if_icmp .ne 7, 3, 46, 0, 0, 0) := by decide +kernel
theorem aX12_answers_42 : i_at mX12_answers.2.2.2.2.2 42 = some (.iconst 1, 1, 0, 0, 0, 0) := by decide +kernel
theorem aX12_answers_43 : i_at mX12_answers.2.2.2.2.2 43 = some (.goto 4, 3, 47, 0, 0, 0) := by decide +kernel
theorem aX12_answers_46 : i_at mX12_answers.2.2.2.2.2 46 = some (.iconst 0, 1, 0, 0, 0, 0) := by decide +kernel
theorem aX12_answers_47 : i_at mX12_answers.2.2.2.2.2 47 = some (.isub, 1, 0, 0, 0, 0) := by decide +kernel
theorem aX12_answers_48 : i_at mX12_answers.2.2.2.2.2 48 = some (.putfield 237, 3, 11, 25, 1112, 0) := by decide +kernel
theorem aX12_answers_51 : i_at mX12_answers.2.2.2.2.2 51 = some (.goto (-51), 3, 0, 0, 0, 0) := by decide +kernel
theorem aX12_answers_54 : i_at mX12_answers.2.2.2.2.2 54 = some (.return_, 1, 0, 0, 0, 0) := by decide +kernel
noncomputable def fX12_answers_J54 (sh : List kd) (p1 : Int32) (s4 : St) : Option (Unit × St) := some ((), s4)
noncomputable def fX12_answers_L0 (sh : List kd) (p1 : Int32) : Nat → St → Option (Unit × St)
  | 0, _ => none
  | n2 + 1, s1 => i_bd (fX12_top sh s1) (fun r3 s4 => if ¬ r3 = p1 then fX12_answers_J54 sh p1 s4 else if ¬ (s4.1 0 21) = 0 then fX12_answers_J54 sh p1 s4 else i_bd (fX12_entry sh s4 p1 0) (fun r58 s59 => i_jp (s_F (s_F s59 0 27 ((s59.1 0 27) - 1)) 0 25 (((s_F s59 0 27 ((s59.1 0 27) - 1)).1 0 25) - ((if ¬ p1 = 9 then 0 else 1) : Int32))) (fun (s61 : St) => (fX12_answers_L0 sh p1 n2 s61))))
noncomputable def fX12_answers (sh : List kd) (σ : St) (p1 : Int32) : Option (Unit × St) := fX12_answers_L0 sh p1 i_F σ
set_option maxRecDepth 20000 in
set_option maxHeartbeats 2000000 in
theorem tX12_answers_J54 {sh : List kd} {τ : St} {r : Unit} (hsh : rmSh sh) {p1 : Int32} {s4 : St} (hE : fX12_answers_J54 sh p1 s4 = some (r, τ)) : g_R sh 1 mX12_answers none τ 54 [.ref 0, .int p1] [] (s4) := by
  unfold fX12_answers_J54 at hE
  obtain ⟨rfl, rfl⟩ := i_some_inj hE
  exact g_vret aX12_answers_54 rfl
set_option maxRecDepth 20000 in
set_option maxHeartbeats 2000000 in
theorem tX12_answers_L0 {sh : List kd} {τ : St} {r : Unit} (hsh : rmSh sh) {p1 : Int32} : ∀ (n0 : Nat) (s1 : St), fX12_answers_L0 sh p1 n0 s1 = some (r, τ) → g_R sh 1 mX12_answers none τ 0 [.ref 0, .int p1] [] (s1) := by
  intro n0
  induction n0 with
  | zero => intro _ hE; cases hE
  | succ n2 ih =>
    intro s1 hE
    unfold fX12_answers_L0 at hE
    refine g_ldan aX12_answers_0 rfl ?_
    obtain ⟨r3, s4, h5, hE⟩ := i_bd_some hE
    refine g_calV (As := []) (rest := []) aX12_answers_1 (i_X_mono (by omega) (tX12_top hsh h5)) (sR_0 hsh) (by decide +kernel) rfl rfl (Nat.le_of_ble_eq_true rfl) rfl ?_
    refine g_ldin aX12_answers_4 rfl ?_
    by_cases hc56 : ¬ r3 = p1
    · rw [if_pos hc56] at hE
      refine g_ic_ne_t aX12_answers_5 hc56 ?_
      exact tX12_answers_J54 hsh hE
    · rw [if_neg hc56] at hE
      refine g_ic_ne_f aX12_answers_5 hc56 ?_
      refine g_ldan aX12_answers_8 rfl ?_
      refine g_getI aX12_answers_9 (sR_0 hsh) rfl ?_
      by_cases hc57 : ¬ (s4.1 0 21) = 0
      · rw [if_pos hc57] at hE
        refine g_if_ne_t aX12_answers_12 hc57 ?_
        exact tX12_answers_J54 hsh hE
      · rw [if_neg hc57] at hE
        refine g_if_ne_f aX12_answers_12 hc57 ?_
        refine g_ldan aX12_answers_15 rfl ?_
        refine g_ldin aX12_answers_16 rfl ?_
        refine g_iconst (x := 0) aX12_answers_17 rfl ?_
        obtain ⟨r58, s59, h60, hE⟩ := i_bd_some hE
        refine g_calV (As := [.int p1, .int 0]) (rest := []) aX12_answers_18 (i_X_mono (by omega) (tX12_entry hsh h60)) (sR_0 hsh) (by decide +kernel) rfl rfl (Nat.le_of_ble_eq_true rfl) rfl ?_
        refine g_ldan aX12_answers_21 rfl ?_
        refine g_dupa aX12_answers_22 ?_
        refine g_getI aX12_answers_23 (sR_0 hsh) rfl ?_
        refine g_iconst (x := 1) aX12_answers_26 rfl ?_
        refine g_isub aX12_answers_27 ?_
        refine g_putI aX12_answers_28 (sR_0 hsh) rfl rfl ?_
        refine g_ldan aX12_answers_31 rfl ?_
        refine g_dupa aX12_answers_32 ?_
        refine g_getI aX12_answers_33 (sR_0 hsh) rfl ?_
        refine g_ldin aX12_answers_36 rfl ?_
        refine g_bipush (x := 9) aX12_answers_37 rfl ?_
        have hJ : g_R sh 1 mX12_answers none τ 47 [.ref 0, .int p1] [.int ((if ¬ p1 = 9 then 0 else 1) : Int32), .int ((s_F s59 0 27 ((s59.1 0 27) - 1)).1 0 25), .ref 0] (s_F s59 0 27 ((s59.1 0 27) - 1)) := by
          refine g_isub aX12_answers_47 ?_
          refine g_putI aX12_answers_48 (sR_0 hsh) rfl rfl ?_
          obtain ⟨s61, h62, hE⟩ := i_jp_some hE
          rw [← h62]
          refine g_goto aX12_answers_51 ?_
          exact ih _ hE
        clear hE
        by_cases hc62 : ¬ p1 = 9
        · (try rw [if_pos hc62] at hJ)
          refine g_ic_ne_t aX12_answers_39 hc62 ?_
          refine g_iconst (x := 0) aX12_answers_46 rfl ?_
          exact hJ
        · (try rw [if_neg hc62] at hJ)
          refine g_ic_ne_f aX12_answers_39 hc62 ?_
          refine g_iconst (x := 1) aX12_answers_42 rfl ?_
          refine g_goto aX12_answers_43 ?_
          exact hJ
set_option maxRecDepth 20000 in
set_option maxHeartbeats 2000000 in
theorem tX12_answers {sh : List kd} {σ τ : St} {r : Unit} (hsh : rmSh sh) {p1 : Int32} (hE : fX12_answers sh σ p1 = some (r, τ)) : i_X 2 152 [.ref 0, .int p1] (s_h sh σ) 0 0 none (s_h sh τ) := by
  refine g_X (M := mX12_answers) (loc := [.ref 0, .int p1]) rfl (Nat.le_of_ble_eq_true rfl) rfl ?_
  unfold fX12_answers at hE
  exact tX12_answers_L0 hsh i_F _ hE
theorem aX12_fact_0 : i_at mX12_fact.2.2.2.2.2 0 = some (.aload_n 0, 1, 0, 0, 0, 0) := by decide +kernel
theorem aX12_fact_1 : i_at mX12_fact.2.2.2.2.2 1 = some (.invokevirtual 186, 3, 139, 0, 1275, 0) := by decide +kernel
theorem aX12_fact_4 : i_at mX12_fact.2.2.2.2.2 4 = some (.aload_n 0, 1, 0, 0, 0, 0) := by decide +kernel
theorem aX12_fact_5 : i_at mX12_fact.2.2.2.2.2 5 = some (.ldc 243, 2, 1, 25, 0, 0) := by decide +kernel
theorem aX12_fact_7 : i_at mX12_fact.2.2.2.2.2 7 = some (.invokevirtual 189, 3, 141, 1, 1291, 0) := by decide +kernel
theorem aX12_fact_10 : i_at mX12_fact.2.2.2.2.2 10 = some (.ifCond .eq 21, 3, 31, 0, 0, 0) := by decide +kernel
theorem aX12_fact_13 : i_at mX12_fact.2.2.2.2.2 13 = some (.aload_n 0, 1, 0, 0, 0, 0) := by decide +kernel
theorem aX12_fact_14 : i_at mX12_fact.2.2.2.2.2 14 = some (.bipush 9, 2, 0, 0, 0, 0) := by decide +kernel
theorem aX12_fact_16 : i_at mX12_fact.2.2.2.2.2 16 = some (.invokevirtual 245, 3, 151, 1, 1399, 0) := by decide +kernel
theorem aX12_fact_19 : i_at mX12_fact.2.2.2.2.2 19 = some (.aload_n 0, 1, 0, 0, 0, 0) := by decide +kernel
theorem aX12_fact_20 : i_at mX12_fact.2.2.2.2.2 20 = some (.dup, 1, 0, 0, 0, 0) := by decide +kernel
theorem aX12_fact_21 : i_at mX12_fact.2.2.2.2.2 21 = some (.getfield 166, 3, 11, 20, 1107, 0) := by decide +kernel
theorem aX12_fact_24 : i_at mX12_fact.2.2.2.2.2 24 = some (.iconst 3, 1, 0, 0, 0, 0) := by decide +kernel
theorem aX12_fact_25 : i_at mX12_fact.2.2.2.2.2 25 = some (.iadd, 1, 0, 0, 0, 0) := by decide +kernel
theorem aX12_fact_26 : i_at mX12_fact.2.2.2.2.2 26 = some (.putfield 166, 3, 11, 20, 1107, 0) := by decide +kernel
theorem aX12_fact_29 : i_at mX12_fact.2.2.2.2.2 29 = some (.iconst 0, 1, 0, 0, 0, 0) := by decide +kernel
theorem aX12_fact_30 : i_at mX12_fact.2.2.2.2.2 30 = some (.ireturn, 1, 0, 0, 0, 0) := by decide +kernel
theorem aX12_fact_31 : i_at mX12_fact.2.2.2.2.2 31 = some (.aload_n 0, 1, 0, 0, 0, 0) := by decide +kernel
theorem aX12_fact_32 : i_at mX12_fact.2.2.2.2.2 32 = some (.invokevirtual 169, 3, 138, 0, 1279, 0) := by decide +kernel
theorem aX12_fact_35 : i_at mX12_fact.2.2.2.2.2 35 = some (.bipush 91, 2, 0, 0, 0, 0) := by decide +kernel
theorem aX12_fact_37 : i_at mX12_fact.2.2.2.2.2 37 = some (.if_icmp .ne 21, 3, 58, 0, 0, 0) := by decide +kernel
theorem aX12_fact_40 : i_at mX12_fact.2.2.2.2.2 40 = some (.aload_n 0, 1, 0, 0, 0, 0) := by decide +kernel
theorem aX12_fact_41 : i_at mX12_fact.2.2.2.2.2 41 = some (.bipush 12, 2, 0, 0, 0, 0) := by decide +kernel
theorem aX12_fact_43 : i_at mX12_fact.2.2.2.2.2 43 = some (.invokevirtual 245, 3, 151, 1, 1399, 0) := by decide +kernel
theorem aX12_fact_46 : i_at mX12_fact.2.2.2.2.2 46 = some (.aload_n 0, 1, 0, 0, 0, 0) := by decide +kernel
theorem aX12_fact_47 : i_at mX12_fact.2.2.2.2.2 47 = some (.dup, 1, 0, 0, 0, 0) := by decide +kernel
theorem aX12_fact_48 : i_at mX12_fact.2.2.2.2.2 48 = some (.getfield 166, 3, 11, 20, 1107, 0) := by decide +kernel
theorem aX12_fact_51 : i_at mX12_fact.2.2.2.2.2 51 = some (.iconst 1, 1, 0, 0, 0, 0) := by decide +kernel
theorem aX12_fact_52 : i_at mX12_fact.2.2.2.2.2 52 = some (.iadd, 1, 0, 0, 0, 0) := by decide +kernel
theorem aX12_fact_53 : i_at mX12_fact.2.2.2.2.2 53 = some (.putfield 166, 3, 11, 20, 1107, 0) := by decide +kernel
theorem aX12_fact_56 : i_at mX12_fact.2.2.2.2.2 56 = some (.iconst 0, 1, 0, 0, 0, 0) := by decide +kernel
theorem aX12_fact_57 : i_at mX12_fact.2.2.2.2.2 57 = some (.ireturn, 1, 0, 0, 0, 0) := by decide +kernel
theorem aX12_fact_58 : i_at mX12_fact.2.2.2.2.2 58 = some (.aload_n 0, 1, 0, 0, 0, 0) := by decide +kernel
theorem aX12_fact_59 : i_at mX12_fact.2.2.2.2.2 59 = some (.invokevirtual 248, 3, 149, 0, 1403, 0) := by decide +kernel
theorem aX12_fact_62 : i_at mX12_fact.2.2.2.2.2 62 = some (.iconst 1, 1, 0, 0, 0, 0) := by decide +kernel
theorem aX12_fact_63 : i_at mX12_fact.2.2.2.2.2 63 = some (.ireturn, 1, 0, 0, 0, 0) := by decide +kernel
noncomputable def fX12_fact (sh : List kd) (σ : St) : Option (Int32 × St) := i_bd (fX12_blanks sh σ) (fun r1 s2 => i_bd (fX12_stood sh s2 25) (fun r4 s5 => if r4 = 0 then i_bd (fX12_sign sh s5) (fun r8 s9 => if ¬ r8 = 91 then i_bd (fX12_compared sh s9) (fun r12 s13 => some (1, s13)) else i_bd (fX12_opens sh s9 12) (fun r15 s16 => some (0, s_F s16 0 20 ((s16.1 0 20) + 1)))) else i_bd (fX12_opens sh s5 9) (fun r18 s19 => some (0, s_F s19 0 20 ((s19.1 0 20) + 3)))))
set_option maxRecDepth 20000 in
set_option maxHeartbeats 2000000 in
theorem tX12_fact {sh : List kd} {σ τ : St} {r : Int32} (hsh : rmSh sh) (hE : fX12_fact sh σ = some (r, τ)) : i_X 8 153 [.ref 0] (s_h sh σ) 0 0 (some (.int r)) (s_h sh τ) := by
  refine g_X (M := mX12_fact) (loc := [.ref 0]) rfl (Nat.le_of_ble_eq_true rfl) rfl ?_
  unfold fX12_fact at hE
  refine g_ldan aX12_fact_0 rfl ?_
  obtain ⟨r1, s2, h3, hE⟩ := i_bd_some hE
  refine g_calV (As := []) (rest := []) aX12_fact_1 (i_X_mono (by omega) (tX12_blanks hsh h3)) (sR_0 hsh) (by decide +kernel) rfl rfl (Nat.le_of_ble_eq_true rfl) rfl ?_
  refine g_ldan aX12_fact_4 rfl ?_
  refine g_ldcS aX12_fact_5 rfl ?_
  obtain ⟨r4, s5, h6, hE⟩ := i_bd_some hE
  refine g_calV (As := [.ref (i_SB + 25)]) (rest := []) aX12_fact_7 (i_X_mono (by omega) (tX12_stood hsh h6)) (sR_0 hsh) (by decide +kernel) rfl rfl (Nat.le_of_ble_eq_true rfl) rfl ?_
  by_cases hc7 : r4 = 0
  · rw [if_pos hc7] at hE
    refine g_if_eq_t aX12_fact_10 hc7 ?_
    refine g_ldan aX12_fact_31 rfl ?_
    obtain ⟨r8, s9, h10, hE⟩ := i_bd_some hE
    refine g_calV (As := []) (rest := []) aX12_fact_32 (i_X_mono (by omega) (tX12_sign hsh h10)) (sR_0 hsh) (by decide +kernel) rfl rfl (Nat.le_of_ble_eq_true rfl) rfl ?_
    refine g_bipush (x := 91) aX12_fact_35 rfl ?_
    by_cases hc11 : ¬ r8 = 91
    · rw [if_pos hc11] at hE
      refine g_ic_ne_t aX12_fact_37 hc11 ?_
      refine g_ldan aX12_fact_58 rfl ?_
      obtain ⟨r12, s13, h14, hE⟩ := i_bd_some hE
      refine g_calV (As := []) (rest := []) aX12_fact_59 (i_X_mono (by omega) (tX12_compared hsh h14)) (sR_0 hsh) (by decide +kernel) rfl rfl (Nat.le_of_ble_eq_true rfl) rfl ?_
      refine g_iconst (x := 1) aX12_fact_62 rfl ?_
      obtain ⟨rfl, rfl⟩ := i_some_inj hE
      exact g_iret aX12_fact_63 rfl rfl
    · rw [if_neg hc11] at hE
      refine g_ic_ne_f aX12_fact_37 hc11 ?_
      refine g_ldan aX12_fact_40 rfl ?_
      refine g_bipush (x := 12) aX12_fact_41 rfl ?_
      obtain ⟨r15, s16, h17, hE⟩ := i_bd_some hE
      refine g_calV (As := [.int 12]) (rest := []) aX12_fact_43 (i_X_mono (by omega) (tX12_opens hsh h17)) (sR_0 hsh) (by decide +kernel) rfl rfl (Nat.le_of_ble_eq_true rfl) rfl ?_
      refine g_ldan aX12_fact_46 rfl ?_
      refine g_dupa aX12_fact_47 ?_
      refine g_getI aX12_fact_48 (sR_0 hsh) rfl ?_
      refine g_iconst (x := 1) aX12_fact_51 rfl ?_
      refine g_iadd aX12_fact_52 ?_
      refine g_putI aX12_fact_53 (sR_0 hsh) rfl rfl ?_
      refine g_iconst (x := 0) aX12_fact_56 rfl ?_
      obtain ⟨rfl, rfl⟩ := i_some_inj hE
      exact g_iret aX12_fact_57 rfl rfl
  · rw [if_neg hc7] at hE
    refine g_if_eq_f aX12_fact_10 hc7 ?_
    refine g_ldan aX12_fact_13 rfl ?_
    refine g_bipush (x := 9) aX12_fact_14 rfl ?_
    obtain ⟨r18, s19, h20, hE⟩ := i_bd_some hE
    refine g_calV (As := [.int 9]) (rest := []) aX12_fact_16 (i_X_mono (by omega) (tX12_opens hsh h20)) (sR_0 hsh) (by decide +kernel) rfl rfl (Nat.le_of_ble_eq_true rfl) rfl ?_
    refine g_ldan aX12_fact_19 rfl ?_
    refine g_dupa aX12_fact_20 ?_
    refine g_getI aX12_fact_21 (sR_0 hsh) rfl ?_
    refine g_iconst (x := 3) aX12_fact_24 rfl ?_
    refine g_iadd aX12_fact_25 ?_
    refine g_putI aX12_fact_26 (sR_0 hsh) rfl rfl ?_
    refine g_iconst (x := 0) aX12_fact_29 rfl ?_
    obtain ⟨rfl, rfl⟩ := i_some_inj hE
    exact g_iret aX12_fact_30 rfl rfl
