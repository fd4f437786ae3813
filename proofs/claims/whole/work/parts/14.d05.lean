/-! X12_rule X12_force X12_truth X12_both X12_answer X12_knightsOf X12_thing X12_usual X12_rankOf X12_person X12_knights X12_upTo X12_moves X12_movesRow -/
theorem aX12_rule_0 : i_at mX12_rule.2.2.2.2.2 0 = some (.aload_n 0, 1, 0, 0, 0, 0) := by decide +kernel
theorem aX12_rule_1 : i_at mX12_rule.2.2.2.2.2 1 = some (.getfield 318, 3, 11, 23, 1110, 0) := by decide +kernel
theorem aX12_rule_4 : i_at mX12_rule.2.2.2.2.2 4 = some (.bipush 6, 2, 0, 0, 0, 0) := by decide +kernel
theorem aX12_rule_6 : i_at mX12_rule.2.2.2.2.2 6 = some (.if_icmp .ne 5, 3, 11, 0, 0, 0) := by decide +kernel
theorem aX12_rule_9 : i_at mX12_rule.2.2.2.2.2 9 = some (.iconst (-1), 1, 0, 0, 0, 0) := by decide +kernel
theorem aX12_rule_10 : i_at mX12_rule.2.2.2.2.2 10 = some (.ireturn, 1, 0, 0, 0, 0) := by decide +kernel
theorem aX12_rule_11 : i_at mX12_rule.2.2.2.2.2 11 = some (.aload_n 0, 1, 0, 0, 0, 0) := by decide +kernel
theorem aX12_rule_12 : i_at mX12_rule.2.2.2.2.2 12 = some (.aload_n 0, 1, 0, 0, 0, 0) := by decide +kernel
theorem aX12_rule_13 : i_at mX12_rule.2.2.2.2.2 13 = some (.getfield 318, 3, 11, 23, 1110, 0) := by decide +kernel
theorem aX12_rule_16 : i_at mX12_rule.2.2.2.2.2 16 = some (.putfield 193, 3, 11, 22, 1109, 0) := by decide +kernel
theorem aX12_rule_19 : i_at mX12_rule.2.2.2.2.2 19 = some (.aload_n 0, 1, 0, 0, 0, 0) := by decide +kernel
theorem aX12_rule_20 : i_at mX12_rule.2.2.2.2.2 20 = some (.invokevirtual 286, 3, 163, 0, 1267, 0) := by decide +kernel
theorem aX12_rule_23 : i_at mX12_rule.2.2.2.2.2 23 = some (.iconst 0, 1, 0, 0, 0, 0) := by decide +kernel
theorem aX12_rule_24 : i_at mX12_rule.2.2.2.2.2 24 = some (.istore_n 1, 1, 0, 0, 0, 0) := by decide +kernel
theorem aX12_rule_25 : i_at mX12_rule.2.2.2.2.2 25 = some (.iconst 1, 1, 0, 0, 0, 0) := by decide +kernel
theorem aX12_rule_26 : i_at mX12_rule.2.2.2.2.2 26 = some (.istore_n 2, 1, 0, 0, 0, 0) := by decide +kernel
theorem aX12_rule_27 : i_at mX12_rule.2.2.2.2.2 27 = some (.iload_n 2, 1, 0, 0, 0, 0) := by decide +kernel
theorem aX12_rule_28 : i_at mX12_rule.2.2.2.2.2 28 = some (.ifCond .eq 19, 3, 47, 0, 0, 0) := by decide +kernel
theorem aX12_rule_31 : i_at mX12_rule.2.2.2.2.2 31 = some (.aload_n 0, 1, 0, 0, 0, 0) := by decide +kernel
theorem aX12_rule_32 : i_at mX12_rule.2.2.2.2.2 32 = some (.iload_n 1, 1, 0, 0, 0, 0) := by decide +kernel
theorem aX12_rule_33 : i_at mX12_rule.2.2.2.2.2 33 = some (.invokevirtual 321, 3, 167, 1, 1346, 0) := by decide +kernel
theorem aX12_rule_36 : i_at mX12_rule.2.2.2.2.2 36 = some (.iinc 1 1, 3, 0, 0, 0, 0) := by decide +kernel
theorem aX12_rule_39 : i_at mX12_rule.2.2.2.2.2 39 = some (.aload_n 0, 1, 0, 0, 0, 0) := by decide +kernel
theorem aX12_rule_40 : i_at mX12_rule.2.2.2.2.2 40 = some (.invokevirtual 292, 3, 162, 0, 1331, 0) := by decide +kernel
theorem aX12_rule_43 : i_at mX12_rule.2.2.2.2.2 43 = some (.istore_n 2, 1, 0, 0, 0, 0) := by decide +kernel
theorem aX12_rule_44 : i_at mX12_rule.2.2.2.2.2 44 = some (.goto (-17), 3, 27, 0, 0, 0) := by decide +kernel
theorem aX12_rule_47 : i_at mX12_rule.2.2.2.2.2 47 = some (.aload_n 0, 1, 0, 0, 0, 0) := by decide +kernel
theorem aX12_rule_48 : i_at mX12_rule.2.2.2.2.2 48 = some (.iconst 0, 1, 0, 0, 0, 0) := by decide +kernel
theorem aX12_rule_49 : i_at mX12_rule.2.2.2.2.2 49 = some (.putfield 135, 3, 11, 19, 1106, 0) := by decide +kernel
theorem aX12_rule_52 : i_at mX12_rule.2.2.2.2.2 52 = some (.aload_n 0, 1, 0, 0, 0, 0) := by decide +kernel
theorem aX12_rule_53 : i_at mX12_rule.2.2.2.2.2 53 = some (.getfield 78, 3, 11, 32, 1119, 0) := by decide +kernel
theorem aX12_rule_56 : i_at mX12_rule.2.2.2.2.2 56 = some (.aload_n 0, 1, 0, 0, 0, 0) := by decide +kernel
theorem aX12_rule_57 : i_at mX12_rule.2.2.2.2.2 57 = some (.getfield 193, 3, 11, 22, 1109, 0) := by decide +kernel
theorem aX12_rule_60 : i_at mX12_rule.2.2.2.2.2 60 = some (.iload_n 1, 1, 0, 0, 0, 0) := by decide +kernel
theorem aX12_rule_61 : i_at mX12_rule.2.2.2.2.2 61 = some (.iastore, 1, 0, 0, 0, 0) := by decide +kernel
theorem aX12_rule_62 : i_at mX12_rule.2.2.2.2.2 62 = some (.aload_n 0, 1, 0, 0, 0, 0) := by decide +kernel
theorem aX12_rule_63 : i_at mX12_rule.2.2.2.2.2 63 = some (.dup, 1, 0, 0, 0, 0) := by decide +kernel
theorem aX12_rule_64 : i_at mX12_rule.2.2.2.2.2 64 = some (.getfield 318, 3, 11, 23, 1110, 0) := by decide +kernel
theorem aX12_rule_67 : i_at mX12_rule.2.2.2.2.2 67 = some (.aload_n 0, 1, 0, 0, 0, 0) := by decide +kernel
theorem aX12_rule_68 : i_at mX12_rule.2.2.2.2.2 68 = some (.getfield 163, 3, 11, 21, 1108, 0) := by decide +kernel
theorem aX12_rule_71 : i_at mX12_rule.2.2.2.2.2 71 = some (.ifCond .ne 7, 3, 78, 0, 0, 0) := by decide +kernel
theorem aX12_rule_74 : i_at mX12_rule.2.2.2.2.2 74 = some (.iconst 1, 1, 0, 0, 0, 0) := by decide +kernel
theorem aX12_rule_75 : i_at mX12_rule.2.2.2.2.2 75 = some (.goto 4, 3, 79, 0, 0, 0) := by decide +kernel
theorem aX12_rule_78 : i_at mX12_rule.2.2.2.2.2 78 = some (.iconst 0, 1, 0, 0, 0, 0) := by decide +kernel
theorem aX12_rule_79 : i_at mX12_rule.2.2.2.2.2 79 = some (.iadd, 1, 0, 0, 0, 0) := by decide +kernel
theorem aX12_rule_80 : i_at mX12_rule.2.2.2.2.2 80 = some (.putfield 318, 3, 11, 23, 1110, 0) := by decide +kernel
theorem aX12_rule_83 : i_at mX12_rule.2.2.2.2.2 83 = some (.aload_n 0, 1, 0, 0, 0, 0) := by decide +kernel
theorem aX12_rule_84 : i_at mX12_rule.2.2.2.2.2 84 = some (.getfield 163, 3, 11, 21, 1108, 0) := by decide +kernel
theorem aX12_rule_87 : i_at mX12_rule.2.2.2.2.2 87 = some (.ifCond .le 13, 3, 100, 0, 0, 0) := by decide +kernel
theorem aX12_rule_90 : i_at mX12_rule.2.2.2.2.2 90 = some (.bipush (-2), 2, 0, 0, 0, 0) := by decide +kernel
theorem aX12_rule_92 : i_at mX12_rule.2.2.2.2.2 92 = some (.aload_n 0, 1, 0, 0, 0, 0) := by decide +kernel
theorem aX12_rule_93 : i_at mX12_rule.2.2.2.2.2 93 = some (.getfield 163, 3, 11, 21, 1108, 0) := by decide +kernel
theorem aX12_rule_96 : i_at mX12_rule.2.2.2.2.2 96 = some (.isub, 1, 0, 0, 0, 0) := by decide +kernel
theorem aX12_rule_97 : i_at mX12_rule.2.2.2.2.2 97 = some (.goto 9, 3, 106, 0, 0, 0) := by decide +kernel
theorem aX12_rule_100 : i_at mX12_rule.2.2.2.2.2 100 = some (.aload_n 0, 1, 0, 0, 0, 0) := by decide +kernel
theorem aX12_rule_101 : i_at mX12_rule.2.2.2.2.2 101 = some (.getfield 318, 3, 11, 23, 1110, 0) := by decide +kernel
theorem aX12_rule_104 : i_at mX12_rule.2.2.2.2.2 104 = some (.iconst 1, 1, 0, 0, 0, 0) := by decide +kernel
theorem aX12_rule_105 : i_at mX12_rule.2.2.2.2.2 105 = some (.isub, 1, 0, 0, 0, 0) := by decide +kernel
theorem aX12_rule_106 : i_at mX12_rule.2.2.2.2.2 106 = some (.ireturn, 1, 0, 0, 0, 0) := by decide +kernel
noncomputable def fX12_rule_L27 (sh : List kd) (k47 : Int32 → Int32 → St → Option (Int32 × St)) : Nat → Int32 → Int32 → St → Option (Int32 × St)
  | 0, _, _, _ => none
  | n61 + 1, x5, x6, s7 => if x6 = 0 then k47 x5 x6 s7 else i_bd (fX12_ruleClause sh s7 x5) (fun r63 s64 => i_bd (fX12_goesOn sh s64) (fun r66 s67 => (fX12_rule_L27 sh k47 n61 (x5 + 1) r66 s67)))
noncomputable def fX12_rule_X47 (sh : List kd) (x58 : Int32) (x59 : Int32) (s60 : St) : Option (Int32 × St) := if i_ok ((s_F s60 0 19 0).1 0 22) 6 then i_jp (s_F (s_A (s_F s60 0 19 0) 22 ((s_F s60 0 19 0).1 0 22).toNatClampNeg x58) 0 23 (((s_A (s_F s60 0 19 0) 22 ((s_F s60 0 19 0).1 0 22).toNatClampNeg x58).1 0 23) + ((if ¬ ((s_A (s_F s60 0 19 0) 22 ((s_F s60 0 19 0).1 0 22).toNatClampNeg x58).1 0 21) = 0 then 0 else 1) : Int32))) (fun (s70 : St) => some (((if (s70.1 0 21) ≤ 0 then ((s70.1 0 23) - 1) else ((-2) - (s70.1 0 21))) : Int32), s70)) else none
noncomputable def fX12_rule (sh : List kd) (σ : St) : Option (Int32 × St) := if ¬ (σ.1 0 23) = 6 then i_bd (fX12_starts sh (s_F σ 0 22 (σ.1 0 23))) (fun r2 s3 => fX12_rule_L27 sh (fun (x58 : Int32) (x59 : Int32) (s60 : St) => fX12_rule_X47 sh x58 x59 s60) i_F 0 1 s3) else some ((-1), σ)
set_option maxRecDepth 20000 in
set_option maxHeartbeats 2000000 in
theorem tX12_rule_L27 {sh : List kd} {τ : St} {r : Int32} (hsh : rmSh sh) {k47 : Int32 → Int32 → St → Option (Int32 × St)} (hk47 : ∀ (x58 : Int32) (x59 : Int32) (s60 : St), k47 x58 x59 s60 = some (r, τ) → g_R sh 10 mX12_rule (some (.int r)) τ 47 [.ref 0, .int x58, .int x59] [] (s60)) : ∀ (n0 : Nat) (x5 : Int32) (x6 : Int32) (s7 : St), fX12_rule_L27 sh k47 n0 x5 x6 s7 = some (r, τ) → g_R sh 10 mX12_rule (some (.int r)) τ 27 [.ref 0, .int x5, .int x6] [] (s7) := by
  intro n0
  induction n0 with
  | zero => intro _ _ _ hE; cases hE
  | succ n61 ih =>
    intro x5 x6 s7 hE
    unfold fX12_rule_L27 at hE
    refine g_ldin aX12_rule_27 rfl ?_
    by_cases hc62 : x6 = 0
    · rw [if_pos hc62] at hE
      refine g_if_eq_t aX12_rule_28 hc62 ?_
      exact hk47 _ _ _ hE
    · rw [if_neg hc62] at hE
      refine g_if_eq_f aX12_rule_28 hc62 ?_
      refine g_ldan aX12_rule_31 rfl ?_
      refine g_ldin aX12_rule_32 rfl ?_
      obtain ⟨r63, s64, h65, hE⟩ := i_bd_some hE
      refine g_calV (As := [.int x5]) (rest := []) aX12_rule_33 (i_X_mono (by omega) (tX12_ruleClause hsh h65)) (sR_0 hsh) (by decide +kernel) rfl rfl (Nat.le_of_ble_eq_true rfl) rfl ?_
      refine g_iinc (y := 1) (loc2 := [.ref 0, .int (x5 + 1), .int x6]) aX12_rule_36 rfl rfl rfl ?_
      refine g_ldan aX12_rule_39 rfl ?_
      obtain ⟨r66, s67, h68, hE⟩ := i_bd_some hE
      refine g_calV (As := []) (rest := []) aX12_rule_40 (i_X_mono (by omega) (tX12_goesOn hsh h68)) (sR_0 hsh) (by decide +kernel) rfl rfl (Nat.le_of_ble_eq_true rfl) rfl ?_
      refine g_stin (loc2 := [.ref 0, .int (x5 + 1), .int r66]) aX12_rule_43 (Nat.le_of_ble_eq_true rfl) rfl ?_
      refine g_goto aX12_rule_44 ?_
      exact ih _ _ _ hE
set_option maxRecDepth 20000 in
set_option maxHeartbeats 2000000 in
theorem tX12_rule_X47 {sh : List kd} {τ : St} {r : Int32} (hsh : rmSh sh) {x58 : Int32} {x59 : Int32} {s60 : St} (hE : fX12_rule_X47 sh x58 x59 s60 = some (r, τ)) : g_R sh 10 mX12_rule (some (.int r)) τ 47 [.ref 0, .int x58, .int x59] [] (s60) := by
  unfold fX12_rule_X47 at hE
  refine g_ldan aX12_rule_47 rfl ?_
  refine g_iconst (x := 0) aX12_rule_48 rfl ?_
  refine g_putI aX12_rule_49 (sR_0 hsh) rfl rfl ?_
  refine g_ldan aX12_rule_52 rfl ?_
  refine g_getR aX12_rule_53 (sR_0 hsh) rfl ?_
  refine g_ldan aX12_rule_56 rfl ?_
  refine g_getI aX12_rule_57 (sR_0 hsh) rfl ?_
  refine g_ldin aX12_rule_60 rfl ?_
  obtain ⟨h69, hE⟩ := i_ifn hE
  refine g_ist aX12_rule_61 (sR_22 hsh) h69 ?_
  refine g_ldan aX12_rule_62 rfl ?_
  refine g_dupa aX12_rule_63 ?_
  refine g_getI aX12_rule_64 (sR_0 hsh) rfl ?_
  refine g_ldan aX12_rule_67 rfl ?_
  refine g_getI aX12_rule_68 (sR_0 hsh) rfl ?_
  have hJ : g_R sh 10 mX12_rule (some (.int r)) τ 79 [.ref 0, .int x58, .int x59] [.int ((if ¬ ((s_A (s_F s60 0 19 0) 22 ((s_F s60 0 19 0).1 0 22).toNatClampNeg x58).1 0 21) = 0 then 0 else 1) : Int32), .int ((s_A (s_F s60 0 19 0) 22 ((s_F s60 0 19 0).1 0 22).toNatClampNeg x58).1 0 23), .ref 0] (s_A (s_F s60 0 19 0) 22 ((s_F s60 0 19 0).1 0 22).toNatClampNeg x58) := by
    refine g_iadd aX12_rule_79 ?_
    refine g_putI aX12_rule_80 (sR_0 hsh) rfl rfl ?_
    obtain ⟨s70, h71, hE⟩ := i_jp_some hE
    rw [← h71]
    refine g_ldan aX12_rule_83 rfl ?_
    refine g_getI aX12_rule_84 (sR_0 hsh) rfl ?_
    have hJ : g_R sh 10 mX12_rule (some (.int r)) τ 106 [.ref 0, .int x58, .int x59] [.int ((if (s70.1 0 21) ≤ 0 then ((s70.1 0 23) - 1) else ((-2) - (s70.1 0 21))) : Int32)] (s70) := by
      obtain ⟨rfl, rfl⟩ := i_some_inj hE
      exact g_iret aX12_rule_106 rfl rfl
    clear hE
    by_cases hc71 : (s70.1 0 21) ≤ 0
    · (try rw [if_pos hc71] at hJ)
      refine g_if_le_t aX12_rule_87 hc71 ?_
      refine g_ldan aX12_rule_100 rfl ?_
      refine g_getI aX12_rule_101 (sR_0 hsh) rfl ?_
      refine g_iconst (x := 1) aX12_rule_104 rfl ?_
      refine g_isub aX12_rule_105 ?_
      exact hJ
    · (try rw [if_neg hc71] at hJ)
      refine g_if_le_f aX12_rule_87 hc71 ?_
      refine g_bipush (x := (-2)) aX12_rule_90 rfl ?_
      refine g_ldan aX12_rule_92 rfl ?_
      refine g_getI aX12_rule_93 (sR_0 hsh) rfl ?_
      refine g_isub aX12_rule_96 ?_
      refine g_goto aX12_rule_97 ?_
      exact hJ
  clear hE
  by_cases hc72 : ¬ ((s_A (s_F s60 0 19 0) 22 ((s_F s60 0 19 0).1 0 22).toNatClampNeg x58).1 0 21) = 0
  · (try rw [if_pos hc72] at hJ)
    refine g_if_ne_t aX12_rule_71 hc72 ?_
    refine g_iconst (x := 0) aX12_rule_78 rfl ?_
    exact hJ
  · (try rw [if_neg hc72] at hJ)
    refine g_if_ne_f aX12_rule_71 hc72 ?_
    refine g_iconst (x := 1) aX12_rule_74 rfl ?_
    refine g_goto aX12_rule_75 ?_
    exact hJ
set_option maxRecDepth 20000 in
set_option maxHeartbeats 2000000 in
theorem tX12_rule {sh : List kd} {σ τ : St} {r : Int32} (hsh : rmSh sh) (hE : fX12_rule sh σ = some (r, τ)) : i_X 11 168 [.ref 0] (s_h sh σ) 0 0 (some (.int r)) (s_h sh τ) := by
  refine g_X (M := mX12_rule) (loc := [.ref 0, .retAddr 0, .retAddr 0]) rfl (Nat.le_of_ble_eq_true rfl) rfl ?_
  unfold fX12_rule at hE
  refine g_ldan aX12_rule_0 rfl ?_
  refine g_getI aX12_rule_1 (sR_0 hsh) rfl ?_
  refine g_bipush (x := 6) aX12_rule_4 rfl ?_
  by_cases hc1 : ¬ (σ.1 0 23) = 6
  · rw [if_pos hc1] at hE
    refine g_ic_ne_t aX12_rule_6 hc1 ?_
    refine g_ldan aX12_rule_11 rfl ?_
    refine g_ldan aX12_rule_12 rfl ?_
    refine g_getI aX12_rule_13 (sR_0 hsh) rfl ?_
    refine g_putI aX12_rule_16 (sR_0 hsh) rfl rfl ?_
    refine g_ldan aX12_rule_19 rfl ?_
    obtain ⟨r2, s3, h4, hE⟩ := i_bd_some hE
    refine g_calV (As := []) (rest := []) aX12_rule_20 (i_X_mono (by omega) (tX12_starts hsh h4)) (sR_0 hsh) (by decide +kernel) rfl rfl (Nat.le_of_ble_eq_true rfl) rfl ?_
    refine g_iconst (x := 0) aX12_rule_23 rfl ?_
    refine g_stin (loc2 := [.ref 0, .int 0, .retAddr 0]) aX12_rule_24 (Nat.le_of_ble_eq_true rfl) rfl ?_
    refine g_iconst (x := 1) aX12_rule_25 rfl ?_
    refine g_stin (loc2 := [.ref 0, .int 0, .int 1]) aX12_rule_26 (Nat.le_of_ble_eq_true rfl) rfl ?_
    exact tX12_rule_L27 hsh (fun x58 x59 s60 hE => tX12_rule_X47 hsh hE) i_F _ _ _ hE
  · rw [if_neg hc1] at hE
    refine g_ic_ne_f aX12_rule_6 hc1 ?_
    refine g_iconst (x := (-1)) aX12_rule_9 rfl ?_
    obtain ⟨rfl, rfl⟩ := i_some_inj hE
    exact g_iret aX12_rule_10 rfl rfl
theorem aX12_force_0 : i_at mX12_force.2.2.2.2.2 0 = some (.iload_n 1, 1, 0, 0, 0, 0) := by decide +kernel
theorem aX12_force_1 : i_at mX12_force.2.2.2.2.2 1 = some (.i2l, 1, 0, 0, 0, 0) := by decide +kernel
theorem aX12_force_2 : i_at mX12_force.2.2.2.2.2 2 = some (.ldc2_w 324, 3, 0, 0, 1421, (-1)) := by decide +kernel
theorem aX12_force_5 : i_at mX12_force.2.2.2.2.2 5 = some (.aload_n 0, 1, 0, 0, 0, 0) := by decide +kernel
theorem aX12_force_6 : i_at mX12_force.2.2.2.2.2 6 = some (.getfield 318, 3, 11, 23, 1110, 0) := by decide +kernel
theorem aX12_force_9 : i_at mX12_force.2.2.2.2.2 9 = some (.iconst 1, 1, 0, 0, 0, 0) := by decide +kernel
theorem aX12_force_10 : i_at mX12_force.2.2.2.2.2 10 = some (.isub, 1, 0, 0, 0, 0) := by decide +kernel
theorem aX12_force_11 : i_at mX12_force.2.2.2.2.2 11 = some (.i2l, 1, 0, 0, 0, 0) := by decide +kernel
theorem aX12_force_12 : i_at mX12_force.2.2.2.2.2 12 = some (.invokestatic 131, 3, 127, 3, 1324, 0) := by decide +kernel
theorem aX12_force_15 : i_at mX12_force.2.2.2.2.2 15 = some (.ifCond .ne 6, 3, 21, 0, 0, 0) := by decide +kernel
theorem aX12_force_18 : i_at mX12_force.2.2.2.2.2 18 = some (.bipush (-2), 2, 0, 0, 0, 0) := by decide +kernel
theorem aX12_force_20 : i_at mX12_force.2.2.2.2.2 20 = some (.ireturn, 1, 0, 0, 0, 0) := by decide +kernel
theorem aX12_force_21 : i_at mX12_force.2.2.2.2.2 21 = some (.aload_n 0, 1, 0, 0, 0, 0) := by decide +kernel
theorem aX12_force_22 : i_at mX12_force.2.2.2.2.2 22 = some (.getfield 9, 3, 11, 1, 1088, 0) := by decide +kernel
theorem aX12_force_25 : i_at mX12_force.2.2.2.2.2 25 = some (.bipush 10, 2, 0, 0, 0, 0) := by decide +kernel
theorem aX12_force_27 : i_at mX12_force.2.2.2.2.2 27 = some (.iaload, 1, 0, 0, 0, 0) := by decide +kernel
theorem aX12_force_28 : i_at mX12_force.2.2.2.2.2 28 = some (.istore_n 2, 1, 0, 0, 0, 0) := by decide +kernel
theorem aX12_force_29 : i_at mX12_force.2.2.2.2.2 29 = some (.aload_n 0, 1, 0, 0, 0, 0) := by decide +kernel
theorem aX12_force_30 : i_at mX12_force.2.2.2.2.2 30 = some (.getfield 9, 3, 11, 1, 1088, 0) := by decide +kernel
theorem aX12_force_33 : i_at mX12_force.2.2.2.2.2 33 = some (.bipush 10, 2, 0, 0, 0, 0) := by decide +kernel
theorem aX12_force_35 : i_at mX12_force.2.2.2.2.2 35 = some (.iload_n 1, 1, 0, 0, 0, 0) := by decide +kernel
theorem aX12_force_36 : i_at mX12_force.2.2.2.2.2 36 = some (.iastore, 1, 0, 0, 0, 0) := by decide +kernel
theorem aX12_force_37 : i_at mX12_force.2.2.2.2.2 37 = some (.iload_n 2, 1, 0, 0, 0, 0) := by decide +kernel
theorem aX12_force_38 : i_at mX12_force.2.2.2.2.2 38 = some (.ireturn, 1, 0, 0, 0, 0) := by decide +kernel
noncomputable def fX12_force (sh : List kd) (σ : St) (p1 : Int32) : Option (Int32 × St) := i_bd (fX12_in sh σ p1.toInt64 (-1) (((σ.1 0 23) - 1).toInt64)) (fun r1 s2 => if ¬ r1 = 0 then if i_ok 10 11 then if i_ok 10 11 then some ((s2.2.1 1 (10 : Int32).toNatClampNeg), s_A s2 1 (10 : Int32).toNatClampNeg p1) else none else none else some ((-2), s2))
set_option maxRecDepth 20000 in
set_option maxHeartbeats 2000000 in
theorem tX12_force {sh : List kd} {σ τ : St} {r : Int32} (hsh : rmSh sh) {p1 : Int32} (hE : fX12_force sh σ p1 = some (r, τ)) : i_X 2 169 [.ref 0, .int p1] (s_h sh σ) 0 0 (some (.int r)) (s_h sh τ) := by
  refine g_X (M := mX12_force) (loc := [.ref 0, .int p1, .retAddr 0]) rfl (Nat.le_of_ble_eq_true rfl) rfl ?_
  unfold fX12_force at hE
  refine g_ldin aX12_force_0 rfl ?_
  refine g_i2l aX12_force_1 ?_
  refine g_ldc2 (x := (-1)) aX12_force_2 rfl ?_
  refine g_ldan aX12_force_5 rfl ?_
  refine g_getI aX12_force_6 (sR_0 hsh) rfl ?_
  refine g_iconst (x := 1) aX12_force_9 rfl ?_
  refine g_isub aX12_force_10 ?_
  refine g_i2l aX12_force_11 ?_
  obtain ⟨r1, s2, h3, hE⟩ := i_bd_some hE
  refine g_calS (As := [.long p1.toInt64, .long (-1), .long (((σ.1 0 23) - 1).toInt64)]) (rest := []) aX12_force_12 (i_X_mono (by omega) (tX12_in hsh h3)) rfl rfl (Nat.le_of_ble_eq_true rfl) rfl ?_
  by_cases hc4 : ¬ r1 = 0
  · rw [if_pos hc4] at hE
    refine g_if_ne_t aX12_force_15 hc4 ?_
    refine g_ldan aX12_force_21 rfl ?_
    refine g_getR aX12_force_22 (sR_0 hsh) rfl ?_
    refine g_bipush (x := 10) aX12_force_25 rfl ?_
    obtain ⟨h5, hE⟩ := i_ifn hE
    refine g_ild aX12_force_27 (sR_1 hsh) h5 ?_
    refine g_stin (loc2 := [.ref 0, .int p1, .int (s2.2.1 1 (10 : Int32).toNatClampNeg)]) aX12_force_28 (Nat.le_of_ble_eq_true rfl) rfl ?_
    refine g_ldan aX12_force_29 rfl ?_
    refine g_getR aX12_force_30 (sR_0 hsh) rfl ?_
    refine g_bipush (x := 10) aX12_force_33 rfl ?_
    refine g_ldin aX12_force_35 rfl ?_
    obtain ⟨h6, hE⟩ := i_ifn hE
    refine g_ist aX12_force_36 (sR_1 hsh) h6 ?_
    refine g_ldin aX12_force_37 rfl ?_
    obtain ⟨rfl, rfl⟩ := i_some_inj hE
    exact g_iret aX12_force_38 rfl rfl
  · rw [if_neg hc4] at hE
    refine g_if_ne_f aX12_force_15 hc4 ?_
    refine g_bipush (x := (-2)) aX12_force_18 rfl ?_
    obtain ⟨rfl, rfl⟩ := i_some_inj hE
    exact g_iret aX12_force_20 rfl rfl
theorem aX12_truth_0 : i_at mX12_truth.2.2.2.2.2 0 = some (.iload_n 0, 1, 0, 0, 0, 0) := by decide +kernel
theorem aX12_truth_1 : i_at mX12_truth.2.2.2.2.2 1 = some (.ifCond .eq 7, 3, 8, 0, 0, 0) := by decide +kernel
theorem aX12_truth_4 : i_at mX12_truth.2.2.2.2.2 4 = some (.lconst 1, 1, 0, 0, 0, 0) := by decide +kernel
theorem aX12_truth_5 : i_at mX12_truth.2.2.2.2.2 5 = some (.goto 4, 3, 9, 0, 0, 0) := by decide +kernel
theorem aX12_truth_8 : i_at mX12_truth.2.2.2.2.2 8 = some (.lconst 0, 1, 0, 0, 0, 0) := by decide +kernel
theorem aX12_truth_9 : i_at mX12_truth.2.2.2.2.2 9 = some (.lreturn, 1, 0, 0, 0, 0) := by decide +kernel
noncomputable def fX12_truth (sh : List kd) (σ : St) (p0 : Int32) : Option (Int64 × St) := some (((if p0 = 0 then 0 else 1) : Int64), σ)
set_option maxRecDepth 20000 in
set_option maxHeartbeats 2000000 in
theorem tX12_truth {sh : List kd} {σ τ : St} {r : Int64} (hsh : rmSh sh) {p0 : Int32} (hE : fX12_truth sh σ p0 = some (r, τ)) : i_X 1 171 [.int p0] (s_h sh σ) 0 0 (some (.long r)) (s_h sh τ) := by
  refine g_X (M := mX12_truth) (loc := [.int p0]) rfl (Nat.le_of_ble_eq_true rfl) rfl ?_
  unfold fX12_truth at hE
  refine g_ldin aX12_truth_0 rfl ?_
  have hJ : g_R sh 0 mX12_truth (some (.long r)) τ 9 [.int p0] [.long ((if p0 = 0 then 0 else 1) : Int64)] (σ) := by
    obtain ⟨rfl, rfl⟩ := i_some_inj hE
    exact g_lret aX12_truth_9 rfl
  clear hE
  by_cases hc0 : p0 = 0
  · (try rw [if_pos hc0] at hJ)
    refine g_if_eq_t aX12_truth_1 hc0 ?_
    refine g_lconst (x := 0) aX12_truth_8 rfl ?_
    exact hJ
  · (try rw [if_neg hc0] at hJ)
    refine g_if_eq_f aX12_truth_1 hc0 ?_
    refine g_lconst (x := 1) aX12_truth_4 rfl ?_
    refine g_goto aX12_truth_5 ?_
    exact hJ
theorem aX12_both_0 : i_at mX12_both.2.2.2.2.2 0 = some (.iload_n 0, 1, 0, 0, 0, 0) := by decide +kernel
theorem aX12_both_1 : i_at mX12_both.2.2.2.2.2 1 = some (.tableswitch 190 2 15 #[71, 75, 111, 126, 141, 156, 171, 190, 186, 190, 190, 79, 83, 97], 71, 0, 0, 0, 0) := by decide +kernel
theorem aX12_both_72 : i_at mX12_both.2.2.2.2.2 72 = some (.lload_n 1, 1, 0, 0, 0, 0) := by decide +kernel
theorem aX12_both_73 : i_at mX12_both.2.2.2.2.2 73 = some (.lload_n 3, 1, 0, 0, 0, 0) := by decide +kernel
theorem aX12_both_74 : i_at mX12_both.2.2.2.2.2 74 = some (.ladd, 1, 0, 0, 0, 0) := by decide +kernel
theorem aX12_both_75 : i_at mX12_both.2.2.2.2.2 75 = some (.lreturn, 1, 0, 0, 0, 0) := by decide +kernel
theorem aX12_both_76 : i_at mX12_both.2.2.2.2.2 76 = some (.lload_n 1, 1, 0, 0, 0, 0) := by decide +kernel
theorem aX12_both_77 : i_at mX12_both.2.2.2.2.2 77 = some (.lload_n 3, 1, 0, 0, 0, 0) := by decide +kernel
theorem aX12_both_78 : i_at mX12_both.2.2.2.2.2 78 = some (.lsub, 1, 0, 0, 0, 0) := by decide +kernel
theorem aX12_both_79 : i_at mX12_both.2.2.2.2.2 79 = some (.lreturn, 1, 0, 0, 0, 0) := by decide +kernel
theorem aX12_both_80 : i_at mX12_both.2.2.2.2.2 80 = some (.lload_n 1, 1, 0, 0, 0, 0) := by decide +kernel
theorem aX12_both_81 : i_at mX12_both.2.2.2.2.2 81 = some (.lload_n 3, 1, 0, 0, 0, 0) := by decide +kernel
theorem aX12_both_82 : i_at mX12_both.2.2.2.2.2 82 = some (.lmul, 1, 0, 0, 0, 0) := by decide +kernel
theorem aX12_both_83 : i_at mX12_both.2.2.2.2.2 83 = some (.lreturn, 1, 0, 0, 0, 0) := by decide +kernel
theorem aX12_both_84 : i_at mX12_both.2.2.2.2.2 84 = some (.lload_n 3, 1, 0, 0, 0, 0) := by decide +kernel
theorem aX12_both_85 : i_at mX12_both.2.2.2.2.2 85 = some (.lconst 0, 1, 0, 0, 0, 0) := by decide +kernel
theorem aX12_both_86 : i_at mX12_both.2.2.2.2.2 86 = some (.lcmp, 1, 0, 0, 0, 0) := by decide +kernel
theorem aX12_both_87 : i_at mX12_both.2.2.2.2.2 87 = some (.ifCond .ne 7, 3, 94, 0, 0, 0) := by decide +kernel
theorem aX12_both_90 : i_at mX12_both.2.2.2.2.2 90 = some (.lconst 0, 1, 0, 0, 0, 0) := by decide +kernel
theorem aX12_both_91 : i_at mX12_both.2.2.2.2.2 91 = some (.goto 6, 3, 97, 0, 0, 0) := by decide +kernel
theorem aX12_both_94 : i_at mX12_both.2.2.2.2.2 94 = some (.lload_n 1, 1, 0, 0, 0, 0) := by decide +kernel
theorem aX12_both_95 : i_at mX12_both.2.2.2.2.2 95 = some (.lload_n 3, 1, 0, 0, 0, 0) := by decide +kernel
theorem aX12_both_96 : i_at mX12_both.2.2.2.2.2 96 = some (.ldiv, 1, 0, 0, 0, 0) := by decide +kernel
theorem aX12_both_97 : i_at mX12_both.2.2.2.2.2 97 = some (.lreturn, 1, 0, 0, 0, 0) := by decide +kernel
theorem aX12_both_98 : i_at mX12_both.2.2.2.2.2 98 = some (.lload_n 3, 1, 0, 0, 0, 0) := by decide +kernel
theorem aX12_both_99 : i_at mX12_both.2.2.2.2.2 99 = some (.lconst 0, 1, 0, 0, 0, 0) := by decide +kernel
theorem aX12_both_100 : i_at mX12_both.2.2.2.2.2 100 = some (.lcmp, 1, 0, 0, 0, 0) := by decide +kernel
theorem aX12_both_101 : i_at mX12_both.2.2.2.2.2 101 = some (.ifCond .ne 7, 3, 108, 0, 0, 0) := by decide +kernel
theorem aX12_both_104 : i_at mX12_both.2.2.2.2.2 104 = some (.lconst 0, 1, 0, 0, 0, 0) := by decide +kernel
theorem aX12_both_105 : i_at mX12_both.2.2.2.2.2 105 = some (.goto 6, 3, 111, 0, 0, 0) := by decide +kernel
theorem aX12_both_108 : i_at mX12_both.2.2.2.2.2 108 = some (.lload_n 1, 1, 0, 0, 0, 0) := by decide +kernel
theorem aX12_both_109 : i_at mX12_both.2.2.2.2.2 109 = some (.lload_n 3, 1, 0, 0, 0, 0) := by decide +kernel
theorem aX12_both_110 : i_at mX12_both.2.2.2.2.2 110 = some (.lrem, 1, 0, 0, 0, 0) := by decide +kernel
theorem aX12_both_111 : i_at mX12_both.2.2.2.2.2 111 = some (.lreturn, 1, 0, 0, 0, 0) := by decide +kernel
theorem aX12_both_112 : i_at mX12_both.2.2.2.2.2 112 = some (.lload_n 1, 1, 0, 0, 0, 0) := by decide +kernel
theorem aX12_both_113 : i_at mX12_both.2.2.2.2.2 113 = some (.lload_n 3, 1, 0, 0, 0, 0) := by decide +kernel
theorem aX12_both_114 : i_at mX12_both.2.2.2.2.2 114 = some (.lcmp, 1, 0, 0, 0, 0) := by decide +kernel
theorem aX12_both_115 : i_at mX12_both.2.2.2.2.2 115 = some (.ifCond .ge 7, 3, 122, 0, 0, 0) := by decide +kernel
theorem aX12_both_118 : i_at mX12_both.2.2.2.2.2 118 = some (.iconst 1, 1, 0, 0, 0, 0) := by decide +kernel
theorem aX12_both_119 : i_at mX12_both.2.2.2.2.2 119 = some (.goto 4, 3, 123, 0, 0, 0) := by decide +kernel
theorem aX12_both_122 : i_at mX12_both.2.2.2.2.2 122 = some (.iconst 0, 1, 0, 0, 0, 0) := by decide +kernel
theorem aX12_both_123 : i_at mX12_both.2.2.2.2.2 123 = some (.invokestatic 330, 3, 171, 1, 1511, 0) := by decide +kernel
theorem aX12_both_126 : i_at mX12_both.2.2.2.2.2 126 = some (.lreturn, 1, 0, 0, 0, 0) := by decide +kernel
theorem aX12_both_127 : i_at mX12_both.2.2.2.2.2 127 = some (.lload_n 1, 1, 0, 0, 0, 0) := by decide +kernel
theorem aX12_both_128 : i_at mX12_both.2.2.2.2.2 128 = some (.lload_n 3, 1, 0, 0, 0, 0) := by decide +kernel
theorem aX12_both_129 : i_at mX12_both.2.2.2.2.2 129 = some (.lcmp, 1, 0, 0, 0, 0) := by decide +kernel
theorem aX12_both_130 : i_at mX12_both.2.2.2.2.2 130 = some (.ifCond .gt 7, 3, 137, 0, 0, 0) := by decide +kernel
theorem aX12_both_133 : i_at mX12_both.2.2.2.2.2 133 = some (.iconst 1, 1, 0, 0, 0, 0) := by decide +kernel
theorem aX12_both_134 : i_at mX12_both.2.2.2.2.2 134 = some (.goto 4, 3, 138, 0, 0, 0) := by decide +kernel
theorem aX12_both_137 : i_at mX12_both.2.2.2.2.2 137 = some (.iconst 0, 1, 0, 0, 0, 0) := by decide +kernel
theorem aX12_both_138 : i_at mX12_both.2.2.2.2.2 138 = some (.invokestatic 330, 3, 171, 1, 1511, 0) := by decide +kernel
theorem aX12_both_141 : i_at mX12_both.2.2.2.2.2 141 = some (.lreturn, 1, 0, 0, 0, 0) := by decide +kernel
theorem aX12_both_142 : i_at mX12_both.2.2.2.2.2 142 = some (.lload_n 1, 1, 0, 0, 0, 0) := by decide +kernel
theorem aX12_both_143 : i_at mX12_both.2.2.2.2.2 143 = some (.lload_n 3, 1, 0, 0, 0, 0) := by decide +kernel
theorem aX12_both_144 : i_at mX12_both.2.2.2.2.2 144 = some (.lcmp, 1, 0, 0, 0, 0) := by decide +kernel
theorem aX12_both_145 : i_at mX12_both.2.2.2.2.2 145 = some (.ifCond .ne 7, 3, 152, 0, 0, 0) := by decide +kernel
theorem aX12_both_148 : i_at mX12_both.2.2.2.2.2 148 = some (.iconst 1, 1, 0, 0, 0, 0) := by decide +kernel
theorem aX12_both_149 : i_at mX12_both.2.2.2.2.2 149 = some (.goto 4, 3, 153, 0, 0, 0) := by decide +kernel
theorem aX12_both_152 : i_at mX12_both.2.2.2.2.2 152 = some (.iconst 0, 1, 0, 0, 0, 0) := by decide +kernel
theorem aX12_both_153 : i_at mX12_both.2.2.2.2.2 153 = some (.invokestatic 330, 3, 171, 1, 1511, 0) := by decide +kernel
theorem aX12_both_156 : i_at mX12_both.2.2.2.2.2 156 = some (.lreturn, 1, 0, 0, 0, 0) := by decide +kernel
theorem aX12_both_157 : i_at mX12_both.2.2.2.2.2 157 = some (.lload_n 1, 1, 0, 0, 0, 0) := by decide +kernel
theorem aX12_both_158 : i_at mX12_both.2.2.2.2.2 158 = some (.lload_n 3, 1, 0, 0, 0, 0) := by decide +kernel
theorem aX12_both_159 : i_at mX12_both.2.2.2.2.2 159 = some (.lcmp, 1, 0, 0, 0, 0) := by decide +kernel
theorem aX12_both_160 : i_at mX12_both.2.2.2.2.2 160 = some (.ifCond .lt 7, 3, 167, 0, 0, 0) := by decide +kernel
theorem aX12_both_163 : i_at mX12_both.2.2.2.2.2 163 = some (.iconst 1, 1, 0, 0, 0, 0) := by decide +kernel
theorem aX12_both_164 : i_at mX12_both.2.2.2.2.2 164 = some (.goto 4, 3, 168, 0, 0, 0) := by decide +kernel
theorem aX12_both_167 : i_at mX12_both.2.2.2.2.2 167 = some (.iconst 0, 1, 0, 0, 0, 0) := by decide +kernel
theorem aX12_both_168 : i_at mX12_both.2.2.2.2.2 168 = some (.invokestatic 330, 3, 171, 1, 1511, 0) := by decide +kernel
theorem aX12_both_171 : i_at mX12_both.2.2.2.2.2 171 = some (.lreturn, 1, 0, 0, 0, 0) := by decide +kernel
theorem aX12_both_172 : i_at mX12_both.2.2.2.2.2 172 = some (.lload_n 1, 1, 0, 0, 0, 0) := by decide +kernel
theorem aX12_both_173 : i_at mX12_both.2.2.2.2.2 173 = some (.lload_n 3, 1, 0, 0, 0, 0) := by decide +kernel
theorem aX12_both_174 : i_at mX12_both.2.2.2.2.2 174 = some (.lcmp, 1, 0, 0, 0, 0) := by decide +kernel
theorem aX12_both_175 : i_at mX12_both.2.2.2.2.2 175 = some (.ifCond .le 7, 3, 182, 0, 0, 0) := by decide +kernel
theorem aX12_both_178 : i_at mX12_both.2.2.2.2.2 178 = some (.iconst 1, 1, 0, 0, 0, 0) := by decide +kernel
theorem aX12_both_179 : i_at mX12_both.2.2.2.2.2 179 = some (.goto 4, 3, 183, 0, 0, 0) := by decide +kernel
theorem aX12_both_182 : i_at mX12_both.2.2.2.2.2 182 = some (.iconst 0, 1, 0, 0, 0, 0) := by decide +kernel
theorem aX12_both_183 : i_at mX12_both.2.2.2.2.2 183 = some (.invokestatic 330, 3, 171, 1, 1511, 0) := by decide +kernel
theorem aX12_both_186 : i_at mX12_both.2.2.2.2.2 186 = some (.lreturn, 1, 0, 0, 0, 0) := by decide +kernel
theorem aX12_both_187 : i_at mX12_both.2.2.2.2.2 187 = some (.lload_n 1, 1, 0, 0, 0, 0) := by decide +kernel
theorem aX12_both_188 : i_at mX12_both.2.2.2.2.2 188 = some (.lload_n 3, 1, 0, 0, 0, 0) := by decide +kernel
theorem aX12_both_189 : i_at mX12_both.2.2.2.2.2 189 = some (.land, 1, 0, 0, 0, 0) := by decide +kernel
theorem aX12_both_190 : i_at mX12_both.2.2.2.2.2 190 = some (.lreturn, 1, 0, 0, 0, 0) := by decide +kernel
theorem aX12_both_191 : i_at mX12_both.2.2.2.2.2 191 = some (.lload_n 1, 1, 0, 0, 0, 0) := by decide +kernel
theorem aX12_both_192 : i_at mX12_both.2.2.2.2.2 192 = some (.lload_n 3, 1, 0, 0, 0, 0) := by decide +kernel
theorem aX12_both_193 : i_at mX12_both.2.2.2.2.2 193 = some (.lor, 1, 0, 0, 0, 0) := by decide +kernel
theorem aX12_both_194 : i_at mX12_both.2.2.2.2.2 194 = some (.lreturn, 1, 0, 0, 0, 0) := by decide +kernel
noncomputable def fX12_both_J97 (sh : List kd) (p0 : Int32) (p1 : Int64) (p2 : Int64) (σ : St) (x84 : Int64) : Option (Int64 × St) := some (x84, σ)
noncomputable def fX12_both_J111 (sh : List kd) (p0 : Int32) (p1 : Int64) (p2 : Int64) (σ : St) (x138 : Int64) : Option (Int64 × St) := some (x138, σ)
noncomputable def fX12_both (sh : List kd) (σ : St) (p0 : Int32) (p1 : Int64) (p2 : Int64) : Option (Int64 × St) := if p0 = 2 then some ((p1 + p2), σ) else if p0 = 3 then some ((p1 - p2), σ) else if p0 = 4 then i_bd (fX12_truth sh σ ((if 0 ≤ (lg_cmp p1 p2) then 0 else 1) : Int32)) (fun r4 s5 => some (r4, s5)) else if p0 = 5 then i_bd (fX12_truth sh σ ((if 0 < (lg_cmp p1 p2) then 0 else 1) : Int32)) (fun r9 s10 => some (r9, s10)) else if p0 = 6 then i_bd (fX12_truth sh σ ((if ¬ (lg_cmp p1 p2) = 0 then 0 else 1) : Int32)) (fun r14 s15 => some (r14, s15)) else if p0 = 7 then i_bd (fX12_truth sh σ ((if (lg_cmp p1 p2) < 0 then 0 else 1) : Int32)) (fun r19 s20 => some (r19, s20)) else if p0 = 8 then i_bd (fX12_truth sh σ ((if (lg_cmp p1 p2) ≤ 0 then 0 else 1) : Int32)) (fun r24 s25 => some (r24, s25)) else if p0 = 9 then some ((p1 ||| p2), σ) else if p0 = 10 then some ((p1 &&& p2), σ) else if p0 = 11 then some ((p1 ||| p2), σ) else if p0 = 12 then some ((p1 ||| p2), σ) else if p0 = 13 then some ((p1 * p2), σ) else if p0 = 14 then if ¬ (lg_cmp p2 0) = 0 then if p2 = 0 then none else fX12_both_J97 sh p0 p1 p2 σ (p1 / p2) else fX12_both_J97 sh p0 p1 p2 σ 0 else if p0 = 15 then if ¬ (lg_cmp p2 0) = 0 then if p2 = 0 then none else fX12_both_J111 sh p0 p1 p2 σ (p1 - p1 / p2 * p2) else fX12_both_J111 sh p0 p1 p2 σ 0 else some ((p1 ||| p2), σ)
set_option maxRecDepth 20000 in
set_option maxHeartbeats 2000000 in
theorem tX12_both_J97 {sh : List kd} {τ : St} {r : Int64} (hsh : rmSh sh) {p0 : Int32} {p1 : Int64} {p2 : Int64} {σ : St} {x84 : Int64} (hE : fX12_both_J97 sh p0 p1 p2 σ x84 = some (r, τ)) : g_R sh 1 mX12_both (some (.long r)) τ 97 [.int p0, .long p1, .retAddr 0, .long p2, .retAddr 0] [.long x84] (σ) := by
  unfold fX12_both_J97 at hE
  obtain ⟨rfl, rfl⟩ := i_some_inj hE
  exact g_lret aX12_both_97 rfl
set_option maxRecDepth 20000 in
set_option maxHeartbeats 2000000 in
theorem tX12_both_J111 {sh : List kd} {τ : St} {r : Int64} (hsh : rmSh sh) {p0 : Int32} {p1 : Int64} {p2 : Int64} {σ : St} {x138 : Int64} (hE : fX12_both_J111 sh p0 p1 p2 σ x138 = some (r, τ)) : g_R sh 1 mX12_both (some (.long r)) τ 111 [.int p0, .long p1, .retAddr 0, .long p2, .retAddr 0] [.long x138] (σ) := by
  unfold fX12_both_J111 at hE
  obtain ⟨rfl, rfl⟩ := i_some_inj hE
  exact g_lret aX12_both_111 rfl
set_option maxRecDepth 20000 in
set_option maxHeartbeats 2000000 in
theorem tX12_both {sh : List kd} {σ τ : St} {r : Int64} (hsh : rmSh sh) {p0 : Int32} {p1 : Int64} {p2 : Int64} (hE : fX12_both sh σ p0 p1 p2 = some (r, τ)) : i_X 2 172 [.int p0, .long p1, .long p2] (s_h sh σ) 0 0 (some (.long r)) (s_h sh τ) := by
  refine g_X (M := mX12_both) (loc := [.int p0, .long p1, .retAddr 0, .long p2, .retAddr 0]) rfl (Nat.le_of_ble_eq_true rfl) rfl ?_
  unfold fX12_both at hE
  refine g_ldin aX12_both_0 rfl ?_
  by_cases hc1 : p0 = 2
  · rw [if_pos hc1] at hE
    refine g_tabIn (i := 2) aX12_both_1 (by rw [hc1]; decide) (by decide) rfl rfl ?_
    refine g_ldln aX12_both_72 rfl ?_
    refine g_ldln aX12_both_73 rfl ?_
    refine g_ladd aX12_both_74 ?_
    obtain ⟨rfl, rfl⟩ := i_some_inj hE
    exact g_lret aX12_both_75 rfl
  · rw [if_neg hc1] at hE
    by_cases hc2 : p0 = 3
    · rw [if_pos hc2] at hE
      refine g_tabIn (i := 3) aX12_both_1 (by rw [hc2]; decide) (by decide) rfl rfl ?_
      refine g_ldln aX12_both_76 rfl ?_
      refine g_ldln aX12_both_77 rfl ?_
      refine g_lsub aX12_both_78 ?_
      obtain ⟨rfl, rfl⟩ := i_some_inj hE
      exact g_lret aX12_both_79 rfl
    · rw [if_neg hc2] at hE
      by_cases hc3 : p0 = 4
      · rw [if_pos hc3] at hE
        refine g_tabIn (i := 4) aX12_both_1 (by rw [hc3]; decide) (by decide) rfl rfl ?_
        refine g_ldln aX12_both_112 rfl ?_
        refine g_ldln aX12_both_113 rfl ?_
        refine g_lcmp aX12_both_114 ?_
        have hJ : g_R sh 1 mX12_both (some (.long r)) τ 123 [.int p0, .long p1, .retAddr 0, .long p2, .retAddr 0] [.int ((if 0 ≤ (lg_cmp p1 p2) then 0 else 1) : Int32)] (σ) := by
          obtain ⟨r4, s5, h6, hE⟩ := i_bd_some hE
          refine g_calS (As := [.int ((if 0 ≤ (lg_cmp p1 p2) then 0 else 1) : Int32)]) (rest := []) aX12_both_123 (i_X_mono (by omega) (tX12_truth hsh h6)) rfl rfl (Nat.le_of_ble_eq_true rfl) rfl ?_
          obtain ⟨rfl, rfl⟩ := i_some_inj hE
          exact g_lret aX12_both_126 rfl
        clear hE
        by_cases hc6 : 0 ≤ (lg_cmp p1 p2)
        · (try rw [if_pos hc6] at hJ)
          refine g_if_ge_t aX12_both_115 hc6 ?_
          refine g_iconst (x := 0) aX12_both_122 rfl ?_
          exact hJ
        · (try rw [if_neg hc6] at hJ)
          refine g_if_ge_f aX12_both_115 hc6 ?_
          refine g_iconst (x := 1) aX12_both_118 rfl ?_
          refine g_goto aX12_both_119 ?_
          exact hJ
      · rw [if_neg hc3] at hE
        by_cases hc8 : p0 = 5
        · rw [if_pos hc8] at hE
          refine g_tabIn (i := 5) aX12_both_1 (by rw [hc8]; decide) (by decide) rfl rfl ?_
          refine g_ldln aX12_both_127 rfl ?_
          refine g_ldln aX12_both_128 rfl ?_
          refine g_lcmp aX12_both_129 ?_
          have hJ : g_R sh 1 mX12_both (some (.long r)) τ 138 [.int p0, .long p1, .retAddr 0, .long p2, .retAddr 0] [.int ((if 0 < (lg_cmp p1 p2) then 0 else 1) : Int32)] (σ) := by
            obtain ⟨r9, s10, h11, hE⟩ := i_bd_some hE
            refine g_calS (As := [.int ((if 0 < (lg_cmp p1 p2) then 0 else 1) : Int32)]) (rest := []) aX12_both_138 (i_X_mono (by omega) (tX12_truth hsh h11)) rfl rfl (Nat.le_of_ble_eq_true rfl) rfl ?_
            obtain ⟨rfl, rfl⟩ := i_some_inj hE
            exact g_lret aX12_both_141 rfl
          clear hE
          by_cases hc11 : 0 < (lg_cmp p1 p2)
          · (try rw [if_pos hc11] at hJ)
            refine g_if_gt_t aX12_both_130 hc11 ?_
            refine g_iconst (x := 0) aX12_both_137 rfl ?_
            exact hJ
          · (try rw [if_neg hc11] at hJ)
            refine g_if_gt_f aX12_both_130 hc11 ?_
            refine g_iconst (x := 1) aX12_both_133 rfl ?_
            refine g_goto aX12_both_134 ?_
            exact hJ
        · rw [if_neg hc8] at hE
          by_cases hc13 : p0 = 6
          · rw [if_pos hc13] at hE
            refine g_tabIn (i := 6) aX12_both_1 (by rw [hc13]; decide) (by decide) rfl rfl ?_
            refine g_ldln aX12_both_142 rfl ?_
            refine g_ldln aX12_both_143 rfl ?_
            refine g_lcmp aX12_both_144 ?_
            have hJ : g_R sh 1 mX12_both (some (.long r)) τ 153 [.int p0, .long p1, .retAddr 0, .long p2, .retAddr 0] [.int ((if ¬ (lg_cmp p1 p2) = 0 then 0 else 1) : Int32)] (σ) := by
              obtain ⟨r14, s15, h16, hE⟩ := i_bd_some hE
              refine g_calS (As := [.int ((if ¬ (lg_cmp p1 p2) = 0 then 0 else 1) : Int32)]) (rest := []) aX12_both_153 (i_X_mono (by omega) (tX12_truth hsh h16)) rfl rfl (Nat.le_of_ble_eq_true rfl) rfl ?_
              obtain ⟨rfl, rfl⟩ := i_some_inj hE
              exact g_lret aX12_both_156 rfl
            clear hE
            by_cases hc16 : ¬ (lg_cmp p1 p2) = 0
            · (try rw [if_pos hc16] at hJ)
              refine g_if_ne_t aX12_both_145 hc16 ?_
              refine g_iconst (x := 0) aX12_both_152 rfl ?_
              exact hJ
            · (try rw [if_neg hc16] at hJ)
              refine g_if_ne_f aX12_both_145 hc16 ?_
              refine g_iconst (x := 1) aX12_both_148 rfl ?_
              refine g_goto aX12_both_149 ?_
              exact hJ
          · rw [if_neg hc13] at hE
            by_cases hc18 : p0 = 7
            · rw [if_pos hc18] at hE
              refine g_tabIn (i := 7) aX12_both_1 (by rw [hc18]; decide) (by decide) rfl rfl ?_
              refine g_ldln aX12_both_157 rfl ?_
              refine g_ldln aX12_both_158 rfl ?_
              refine g_lcmp aX12_both_159 ?_
              have hJ : g_R sh 1 mX12_both (some (.long r)) τ 168 [.int p0, .long p1, .retAddr 0, .long p2, .retAddr 0] [.int ((if (lg_cmp p1 p2) < 0 then 0 else 1) : Int32)] (σ) := by
                obtain ⟨r19, s20, h21, hE⟩ := i_bd_some hE
                refine g_calS (As := [.int ((if (lg_cmp p1 p2) < 0 then 0 else 1) : Int32)]) (rest := []) aX12_both_168 (i_X_mono (by omega) (tX12_truth hsh h21)) rfl rfl (Nat.le_of_ble_eq_true rfl) rfl ?_
                obtain ⟨rfl, rfl⟩ := i_some_inj hE
                exact g_lret aX12_both_171 rfl
              clear hE
              by_cases hc21 : (lg_cmp p1 p2) < 0
              · (try rw [if_pos hc21] at hJ)
                refine g_if_lt_t aX12_both_160 hc21 ?_
                refine g_iconst (x := 0) aX12_both_167 rfl ?_
                exact hJ
              · (try rw [if_neg hc21] at hJ)
                refine g_if_lt_f aX12_both_160 hc21 ?_
                refine g_iconst (x := 1) aX12_both_163 rfl ?_
                refine g_goto aX12_both_164 ?_
                exact hJ
            · rw [if_neg hc18] at hE
              by_cases hc23 : p0 = 8
              · rw [if_pos hc23] at hE
                refine g_tabIn (i := 8) aX12_both_1 (by rw [hc23]; decide) (by decide) rfl rfl ?_
                refine g_ldln aX12_both_172 rfl ?_
                refine g_ldln aX12_both_173 rfl ?_
                refine g_lcmp aX12_both_174 ?_
                have hJ : g_R sh 1 mX12_both (some (.long r)) τ 183 [.int p0, .long p1, .retAddr 0, .long p2, .retAddr 0] [.int ((if (lg_cmp p1 p2) ≤ 0 then 0 else 1) : Int32)] (σ) := by
                  obtain ⟨r24, s25, h26, hE⟩ := i_bd_some hE
                  refine g_calS (As := [.int ((if (lg_cmp p1 p2) ≤ 0 then 0 else 1) : Int32)]) (rest := []) aX12_both_183 (i_X_mono (by omega) (tX12_truth hsh h26)) rfl rfl (Nat.le_of_ble_eq_true rfl) rfl ?_
                  obtain ⟨rfl, rfl⟩ := i_some_inj hE
                  exact g_lret aX12_both_186 rfl
                clear hE
                by_cases hc26 : (lg_cmp p1 p2) ≤ 0
                · (try rw [if_pos hc26] at hJ)
                  refine g_if_le_t aX12_both_175 hc26 ?_
                  refine g_iconst (x := 0) aX12_both_182 rfl ?_
                  exact hJ
                · (try rw [if_neg hc26] at hJ)
                  refine g_if_le_f aX12_both_175 hc26 ?_
                  refine g_iconst (x := 1) aX12_both_178 rfl ?_
                  refine g_goto aX12_both_179 ?_
                  exact hJ
              · rw [if_neg hc23] at hE
                by_cases hc28 : p0 = 9
                · rw [if_pos hc28] at hE
                  refine g_tabIn (i := 9) aX12_both_1 (by rw [hc28]; decide) (by decide) rfl rfl ?_
                  refine g_ldln aX12_both_191 rfl ?_
                  refine g_ldln aX12_both_192 rfl ?_
                  refine g_lor aX12_both_193 ?_
                  obtain ⟨rfl, rfl⟩ := i_some_inj hE
                  exact g_lret aX12_both_194 rfl
                · rw [if_neg hc28] at hE
                  by_cases hc29 : p0 = 10
                  · rw [if_pos hc29] at hE
                    refine g_tabIn (i := 10) aX12_both_1 (by rw [hc29]; decide) (by decide) rfl rfl ?_
                    refine g_ldln aX12_both_187 rfl ?_
                    refine g_ldln aX12_both_188 rfl ?_
                    refine g_land aX12_both_189 ?_
                    obtain ⟨rfl, rfl⟩ := i_some_inj hE
                    exact g_lret aX12_both_190 rfl
                  · rw [if_neg hc29] at hE
                    by_cases hc30 : p0 = 11
                    · rw [if_pos hc30] at hE
                      refine g_tabIn (i := 11) aX12_both_1 (by rw [hc30]; decide) (by decide) rfl rfl ?_
                      refine g_ldln aX12_both_191 rfl ?_
                      refine g_ldln aX12_both_192 rfl ?_
                      refine g_lor aX12_both_193 ?_
                      obtain ⟨rfl, rfl⟩ := i_some_inj hE
                      exact g_lret aX12_both_194 rfl
                    · rw [if_neg hc30] at hE
                      by_cases hc31 : p0 = 12
                      · rw [if_pos hc31] at hE
                        refine g_tabIn (i := 12) aX12_both_1 (by rw [hc31]; decide) (by decide) rfl rfl ?_
                        refine g_ldln aX12_both_191 rfl ?_
                        refine g_ldln aX12_both_192 rfl ?_
                        refine g_lor aX12_both_193 ?_
                        obtain ⟨rfl, rfl⟩ := i_some_inj hE
                        exact g_lret aX12_both_194 rfl
                      · rw [if_neg hc31] at hE
                        by_cases hc32 : p0 = 13
                        · rw [if_pos hc32] at hE
                          refine g_tabIn (i := 13) aX12_both_1 (by rw [hc32]; decide) (by decide) rfl rfl ?_
                          refine g_ldln aX12_both_80 rfl ?_
                          refine g_ldln aX12_both_81 rfl ?_
                          refine g_lmul aX12_both_82 ?_
                          obtain ⟨rfl, rfl⟩ := i_some_inj hE
                          exact g_lret aX12_both_83 rfl
                        · rw [if_neg hc32] at hE
                          by_cases hc33 : p0 = 14
                          · rw [if_pos hc33] at hE
                            refine g_tabIn (i := 14) aX12_both_1 (by rw [hc33]; decide) (by decide) rfl rfl ?_
                            refine g_ldln aX12_both_84 rfl ?_
                            refine g_lconst (x := 0) aX12_both_85 rfl ?_
                            refine g_lcmp aX12_both_86 ?_
                            by_cases hc85 : ¬ (lg_cmp p2 0) = 0
                            · rw [if_pos hc85] at hE
                              refine g_if_ne_t aX12_both_87 hc85 ?_
                              refine g_ldln aX12_both_94 rfl ?_
                              refine g_ldln aX12_both_95 rfl ?_
                              obtain ⟨h86, hE⟩ := i_nif hE
                              refine g_ldiv aX12_both_96 h86 ?_
                              exact tX12_both_J97 hsh hE
                            · rw [if_neg hc85] at hE
                              refine g_if_ne_f aX12_both_87 hc85 ?_
                              refine g_lconst (x := 0) aX12_both_90 rfl ?_
                              refine g_goto aX12_both_91 ?_
                              exact tX12_both_J97 hsh hE
                          · rw [if_neg hc33] at hE
                            by_cases hc87 : p0 = 15
                            · rw [if_pos hc87] at hE
                              refine g_tabIn (i := 15) aX12_both_1 (by rw [hc87]; decide) (by decide) rfl rfl ?_
                              refine g_ldln aX12_both_98 rfl ?_
                              refine g_lconst (x := 0) aX12_both_99 rfl ?_
                              refine g_lcmp aX12_both_100 ?_
                              by_cases hc139 : ¬ (lg_cmp p2 0) = 0
                              · rw [if_pos hc139] at hE
                                refine g_if_ne_t aX12_both_101 hc139 ?_
                                refine g_ldln aX12_both_108 rfl ?_
                                refine g_ldln aX12_both_109 rfl ?_
                                obtain ⟨h140, hE⟩ := i_nif hE
                                refine g_lrem aX12_both_110 h140 ?_
                                exact tX12_both_J111 hsh hE
                              · rw [if_neg hc139] at hE
                                refine g_if_ne_f aX12_both_101 hc139 ?_
                                refine g_lconst (x := 0) aX12_both_104 rfl ?_
                                refine g_goto aX12_both_105 ?_
                                exact tX12_both_J111 hsh hE
                            · rw [if_neg hc87] at hE
                              have hto141 : p0.toInt < ((2 : Nat) : Int) ∨ ((15 : Nat) : Int) < p0.toInt := by
                                refine i_tabo (x := p0) 2 15 (by decide) (fun k k1 k2 => ?_)
                                rcases (show k = 2 ∨ k = 3 ∨ k = 4 ∨ k = 5 ∨ k = 6 ∨ k = 7 ∨ k = 8 ∨ k = 9 ∨ k = 10 ∨ k = 11 ∨ k = 12 ∨ k = 13 ∨ k = 14 ∨ k = 15 by omega) with rfl | rfl | rfl | rfl | rfl | rfl | rfl | rfl | rfl | rfl | rfl | rfl | rfl | rfl
                                · exact fun hz => hc1 hz
                                · exact fun hz => hc2 hz
                                · exact fun hz => hc3 hz
                                · exact fun hz => hc8 hz
                                · exact fun hz => hc13 hz
                                · exact fun hz => hc18 hz
                                · exact fun hz => hc23 hz
                                · exact fun hz => hc28 hz
                                · exact fun hz => hc29 hz
                                · exact fun hz => hc30 hz
                                · exact fun hz => hc31 hz
                                · exact fun hz => hc32 hz
                                · exact fun hz => hc33 hz
                                · exact fun hz => hc87 hz
                              refine g_tabOut aX12_both_1 hto141 rfl ?_
                              refine g_ldln aX12_both_191 rfl ?_
                              refine g_ldln aX12_both_192 rfl ?_
                              refine g_lor aX12_both_193 ?_
                              obtain ⟨rfl, rfl⟩ := i_some_inj hE
                              exact g_lret aX12_both_194 rfl
theorem aX12_answer_0 : i_at mX12_answer.2.2.2.2.2 0 = some (.iconst 0, 1, 0, 0, 0, 0) := by decide +kernel
theorem aX12_answer_1 : i_at mX12_answer.2.2.2.2.2 1 = some (.istore 4, 2, 0, 0, 0, 0) := by decide +kernel
theorem aX12_answer_3 : i_at mX12_answer.2.2.2.2.2 3 = some (.iload_n 2, 1, 0, 0, 0, 0) := by decide +kernel
theorem aX12_answer_4 : i_at mX12_answer.2.2.2.2.2 4 = some (.istore 5, 2, 0, 0, 0, 0) := by decide +kernel
theorem aX12_answer_6 : i_at mX12_answer.2.2.2.2.2 6 = some (.iload 5, 2, 0, 0, 0, 0) := by decide +kernel
theorem aX12_answer_8 : i_at mX12_answer.2.2.2.2.2 8 = some (.iload_n 3, 1, 0, 0, 0, 0) := by decide +kernel
theorem aX12_answer_9 : i_at mX12_answer.2.2.2.2.2 9 = some (.if_icmp .ge 144, 3, 153, 0, 0, 0) := by decide +kernel
theorem aX12_answer_12 : i_at mX12_answer.2.2.2.2.2 12 = some (.aload_n 0, 1, 0, 0, 0, 0) := by decide +kernel
theorem aX12_answer_13 : i_at mX12_answer.2.2.2.2.2 13 = some (.getfield 72, 3, 11, 30, 1117, 0) := by decide +kernel
theorem aX12_answer_16 : i_at mX12_answer.2.2.2.2.2 16 = some (.sipush 300, 3, 0, 0, 0, 0) := by decide +kernel
theorem aX12_answer_19 : i_at mX12_answer.2.2.2.2.2 19 = some (.iload_n 1, 1, 0, 0, 0, 0) := by decide +kernel
theorem aX12_answer_20 : i_at mX12_answer.2.2.2.2.2 20 = some (.imul, 1, 0, 0, 0, 0) := by decide +kernel
theorem aX12_answer_21 : i_at mX12_answer.2.2.2.2.2 21 = some (.iload 5, 2, 0, 0, 0, 0) := by decide +kernel
theorem aX12_answer_23 : i_at mX12_answer.2.2.2.2.2 23 = some (.iadd, 1, 0, 0, 0, 0) := by decide +kernel
theorem aX12_answer_24 : i_at mX12_answer.2.2.2.2.2 24 = some (.iaload, 1, 0, 0, 0, 0) := by decide +kernel
theorem aX12_answer_25 : i_at mX12_answer.2.2.2.2.2 25 = some (.istore 6, 2, 0, 0, 0, 0) := by decide +kernel
theorem aX12_answer_27 : i_at mX12_answer.2.2.2.2.2 27 = some (.aload_n 0, 1, 0, 0, 0, 0) := by decide +kernel
theorem aX12_answer_28 : i_at mX12_answer.2.2.2.2.2 28 = some (.getfield 75, 3, 11, 31, 1118, 0) := by decide +kernel
theorem aX12_answer_31 : i_at mX12_answer.2.2.2.2.2 31 = some (.sipush 300, 3, 0, 0, 0, 0) := by decide +kernel
theorem aX12_answer_34 : i_at mX12_answer.2.2.2.2.2 34 = some (.iload_n 1, 1, 0, 0, 0, 0) := by decide +kernel
theorem aX12_answer_35 : i_at mX12_answer.2.2.2.2.2 35 = some (.imul, 1, 0, 0, 0, 0) := by decide +kernel
theorem aX12_answer_36 : i_at mX12_answer.2.2.2.2.2 36 = some (.iload 5, 2, 0, 0, 0, 0) := by decide +kernel
theorem aX12_answer_38 : i_at mX12_answer.2.2.2.2.2 38 = some (.iadd, 1, 0, 0, 0, 0) := by decide +kernel
theorem aX12_answer_39 : i_at mX12_answer.2.2.2.2.2 39 = some (.iaload, 1, 0, 0, 0, 0) := by decide +kernel
theorem aX12_answer_40 : i_at mX12_answer.2.2.2.2.2 40 = some (.istore 7, 2, 0, 0, 0, 0) := by decide +kernel
theorem aX12_answer_42 : i_at mX12_answer.2.2.2.2.2 42 = some (.iload 6, 2, 0, 0, 0, 0) := by decide +kernel
theorem aX12_answer_44 : i_at mX12_answer.2.2.2.2.2 44 = some (.ifCond .eq 9, 3, 53, 0, 0, 0) := by decide +kernel
theorem aX12_answer_47 : i_at mX12_answer.2.2.2.2.2 47 = some (.iload 6, 2, 0, 0, 0, 0) := by decide +kernel
theorem aX12_answer_49 : i_at mX12_answer.2.2.2.2.2 49 = some (.iconst 1, 1, 0, 0, 0, 0) := by decide +kernel
theorem aX12_answer_50 : i_at mX12_answer.2.2.2.2.2 50 = some (.if_icmp .ne 34, 3, 84, 0, 0, 0) := by decide +kernel
theorem aX12_answer_53 : i_at mX12_answer.2.2.2.2.2 53 = some (.aload_n 0, 1, 0, 0, 0, 0) := by decide +kernel
theorem aX12_answer_54 : i_at mX12_answer.2.2.2.2.2 54 = some (.getfield 97, 3, 11, 38, 1125, 0) := by decide +kernel
theorem aX12_answer_57 : i_at mX12_answer.2.2.2.2.2 57 = some (.iload 4, 2, 0, 0, 0, 0) := by decide +kernel
theorem aX12_answer_59 : i_at mX12_answer.2.2.2.2.2 59 = some (.iload 6, 2, 0, 0, 0, 0) := by decide +kernel
theorem aX12_answer_61 : i_at mX12_answer.2.2.2.2.2 61 = some (.ifCond .ne 9, 3, 70, 0, 0, 0) := by decide +kernel
theorem aX12_answer_64 : i_at mX12_answer.2.2.2.2.2 64 = some (.iload 7, 2, 0, 0, 0, 0) := by decide +kernel
theorem aX12_answer_66 : i_at mX12_answer.2.2.2.2.2 66 = some (.i2l, 1, 0, 0, 0, 0) := by decide +kernel
theorem aX12_answer_67 : i_at mX12_answer.2.2.2.2.2 67 = some (.goto 10, 3, 77, 0, 0, 0) := by decide +kernel
theorem aX12_answer_70 : i_at mX12_answer.2.2.2.2.2 70 = some (.aload_n 0, 1, 0, 0, 0, 0) := by decide +kernel
theorem aX12_answer_71 : i_at mX12_answer.2.2.2.2.2 71 = some (.getfield 93, 3, 11, 37, 1124, 0) := by decide +kernel
theorem aX12_answer_74 : i_at mX12_answer.2.2.2.2.2 74 = some (.iload 7, 2, 0, 0, 0, 0) := by decide +kernel
theorem aX12_answer_76 : i_at mX12_answer.2.2.2.2.2 76 = some (.laload, 1, 0, 0, 0, 0) := by decide +kernel
theorem aX12_answer_77 : i_at mX12_answer.2.2.2.2.2 77 = some (.lastore, 1, 0, 0, 0, 0) := by decide +kernel
theorem aX12_answer_78 : i_at mX12_answer.2.2.2.2.2 78 = some (.iinc 4 1, 3, 0, 0, 0, 0) := by decide +kernel
theorem aX12_answer_81 : i_at mX12_answer.2.2.2.2.2 81 = some (.goto 66, 3, 147, 0, 0, 0) := by decide +kernel
theorem aX12_answer_84 : i_at mX12_answer.2.2.2.2.2 84 = some (.iload 6, 2, 0, 0, 0, 0) := by decide +kernel
theorem aX12_answer_86 : i_at mX12_answer.2.2.2.2.2 86 = some (.bipush 9, 2, 0, 0, 0, 0) := by decide +kernel
theorem aX12_answer_88 : i_at mX12_answer.2.2.2.2.2 88 = some (.if_icmp .ne 26, 3, 114, 0, 0, 0) := by decide +kernel
theorem aX12_answer_91 : i_at mX12_answer.2.2.2.2.2 91 = some (.aload_n 0, 1, 0, 0, 0, 0) := by decide +kernel
theorem aX12_answer_92 : i_at mX12_answer.2.2.2.2.2 92 = some (.getfield 97, 3, 11, 38, 1125, 0) := by decide +kernel
theorem aX12_answer_95 : i_at mX12_answer.2.2.2.2.2 95 = some (.iload 4, 2, 0, 0, 0, 0) := by decide +kernel
theorem aX12_answer_97 : i_at mX12_answer.2.2.2.2.2 97 = some (.iconst 1, 1, 0, 0, 0, 0) := by decide +kernel
theorem aX12_answer_98 : i_at mX12_answer.2.2.2.2.2 98 = some (.isub, 1, 0, 0, 0, 0) := by decide +kernel
theorem aX12_answer_99 : i_at mX12_answer.2.2.2.2.2 99 = some (.lconst 1, 1, 0, 0, 0, 0) := by decide +kernel
theorem aX12_answer_100 : i_at mX12_answer.2.2.2.2.2 100 = some (.aload_n 0, 1, 0, 0, 0, 0) := by decide +kernel
theorem aX12_answer_101 : i_at mX12_answer.2.2.2.2.2 101 = some (.getfield 97, 3, 11, 38, 1125, 0) := by decide +kernel
theorem aX12_answer_104 : i_at mX12_answer.2.2.2.2.2 104 = some (.iload 4, 2, 0, 0, 0, 0) := by decide +kernel
theorem aX12_answer_106 : i_at mX12_answer.2.2.2.2.2 106 = some (.iconst 1, 1, 0, 0, 0, 0) := by decide +kernel
theorem aX12_answer_107 : i_at mX12_answer.2.2.2.2.2 107 = some (.isub, 1, 0, 0, 0, 0) := by decide +kernel
theorem aX12_answer_108 : i_at mX12_answer.2.2.2.2.2 108 = some (.laload, 1, 0, 0, 0, 0) := by decide +kernel
theorem aX12_answer_109 : i_at mX12_answer.2.2.2.2.2 109 = some (.lsub, 1, 0, 0, 0, 0) := by decide +kernel
theorem aX12_answer_110 : i_at mX12_answer.2.2.2.2.2 110 = some (.lastore, 1, 0, 0, 0, 0) := by decide +kernel
theorem aX12_answer_111 : i_at mX12_answer.2.2.2.2.2 111 = some (.goto 36, 3, 147, 0, 0, 0) := by decide +kernel
theorem aX12_answer_114 : i_at mX12_answer.2.2.2.2.2 114 = some (.iinc 4 (-1), 3, 0, 0, 0, 0) := by decide +kernel
theorem aX12_answer_117 : i_at mX12_answer.2.2.2.2.2 117 = some (.aload_n 0, 1, 0, 0, 0, 0) := by decide +kernel
theorem aX12_answer_118 : i_at mX12_answer.2.2.2.2.2 118 = some (.getfield 97, 3, 11, 38, 1125, 0) := by decide +kernel
theorem aX12_answer_121 : i_at mX12_answer.2.2.2.2.2 121 = some (.iload 4, 2, 0, 0, 0, 0) := by decide +kernel
theorem aX12_answer_123 : i_at mX12_answer.2.2.2.2.2 123 = some (.iconst 1, 1, 0, 0, 0, 0) := by decide +kernel
theorem aX12_answer_124 : i_at mX12_answer.2.2.2.2.2 124 = some (.isub, 1, 0, 0, 0, 0) := by decide +kernel
theorem aX12_answer_125 : i_at mX12_answer.2.2.2.2.2 125 = some (.iload 6, 2, 0, 0, 0, 0) := by decide +kernel
theorem aX12_answer_127 : i_at mX12_answer.2.2.2.2.2 127 = some (.aload_n 0, 1, 0, 0, 0, 0) := by decide +kernel
theorem aX12_answer_128 : i_at mX12_answer.2.2.2.2.2 128 = some (.getfield 97, 3, 11, 38, 1125, 0) := by decide +kernel
theorem aX12_answer_131 : i_at mX12_answer.2.2.2.2.2 131 = some (.iload 4, 2, 0, 0, 0, 0) := by decide +kernel
theorem aX12_answer_133 : i_at mX12_answer.2.2.2.2.2 133 = some (.iconst 1, 1, 0, 0, 0, 0) := by decide +kernel
theorem aX12_answer_134 : i_at mX12_answer.2.2.2.2.2 134 = some (.isub, 1, 0, 0, 0, 0) := by decide +kernel
theorem aX12_answer_135 : i_at mX12_answer.2.2.2.2.2 135 = some (.laload, 1, 0, 0, 0, 0) := by decide +kernel
theorem aX12_answer_136 : i_at mX12_answer.2.2.2.2.2 136 = some (.aload_n 0, 1, 0, 0, 0, 0) := by decide +kernel
theorem aX12_answer_137 : i_at mX12_answer.2.2.2.2.2 137 = some (.getfield 97, 3, 11, 38, 1125, 0) := by decide +kernel
theorem aX12_answer_140 : i_at mX12_answer.2.2.2.2.2 140 = some (.iload 4, 2, 0, 0, 0, 0) := by decide +kernel
theorem aX12_answer_142 : i_at mX12_answer.2.2.2.2.2 142 = some (.laload, 1, 0, 0, 0, 0) := by decide +kernel
theorem aX12_answer_143 : i_at mX12_answer.2.2.2.2.2 143 = some (.invokestatic 334, 3, 172, 3, 1508, 0) := by decide +kernel
theorem aX12_answer_146 : i_at mX12_answer.2.2.2.2.2 146 = some (.lastore, 1, 0, 0, 0, 0) := by decide +kernel
theorem aX12_answer_147 : i_at mX12_answer.2.2.2.2.2 147 = some (.iinc 5 1, 3, 0, 0, 0, 0) := by decide +kernel
theorem aX12_answer_150 : i_at mX12_answer.2.2.2.2.2 150 = some (.goto (-144), 3, 6, 0, 0, 0) := by decide +kernel
theorem aX12_answer_153 : i_at mX12_answer.2.2.2.2.2 153 = some (.aload_n 0, 1, 0, 0, 0, 0) := by decide +kernel
theorem aX12_answer_154 : i_at mX12_answer.2.2.2.2.2 154 = some (.getfield 97, 3, 11, 38, 1125, 0) := by decide +kernel
theorem aX12_answer_157 : i_at mX12_answer.2.2.2.2.2 157 = some (.iconst 0, 1, 0, 0, 0, 0) := by decide +kernel
theorem aX12_answer_158 : i_at mX12_answer.2.2.2.2.2 158 = some (.laload, 1, 0, 0, 0, 0) := by decide +kernel
theorem aX12_answer_159 : i_at mX12_answer.2.2.2.2.2 159 = some (.lreturn, 1, 0, 0, 0, 0) := by decide +kernel
noncomputable def fX12_answer_J147 (sh : List kd) (p1 : Int32) (p2 : Int32) (p3 : Int32) (x2 : Int32) (s5 : St) (k6 : Int32 → Int32 → Value → Value → St → Option (Int64 × St)) (x115 : Int32) (s116 : St) : Option (Int64 × St) := k6 x115 (x2 + 1) (.int (s5.2.1 20 ((300 * p1) + x2).toNatClampNeg)) (.int (s5.2.1 21 ((300 * p1) + x2).toNatClampNeg)) s116
noncomputable def fX12_answer_J77 (sh : List kd) (p1 : Int32) (p2 : Int32) (p3 : Int32) (x1 : Int32) (x2 : Int32) (s5 : St) (k147 : Int32 → St → Option (Int64 × St)) (x168 : Int64) : Option (Int64 × St) := if i_ok x1 300 then k147 (x1 + 1) (s_L s5 28 x1.toNatClampNeg x168) else none
noncomputable def fX12_answer_J77_232 (sh : List kd) (p1 : Int32) (p2 : Int32) (p3 : Int32) (x1 : Int32) (x2 : Int32) (s5 : St) (k147 : Int32 → St → Option (Int64 × St)) (x232 : Int64) : Option (Int64 × St) := if i_ok x1 300 then k147 (x1 + 1) (s_L s5 28 x1.toNatClampNeg x232) else none
noncomputable def fX12_answer_L6 (sh : List kd) (p1 : Int32) (p2 : Int32) (p3 : Int32) (k153 : Int32 → Int32 → Value → Value → St → Option (Int64 × St)) : Nat → Int32 → Int32 → Value → Value → St → Option (Int64 × St)
  | 0, _, _, _, _, _ => none
  | n61 + 1, x1, x2, x3, x4, s5 => if p3 ≤ x2 then k153 x1 x2 x3 x4 s5 else if i_ok ((300 * p1) + x2) 1800 then if i_ok ((300 * p1) + x2) 1800 then if (s5.2.1 20 ((300 * p1) + x2).toNatClampNeg) = 0 then if ¬ (s5.2.1 20 ((300 * p1) + x2).toNatClampNeg) = 0 then if i_ok (s5.2.1 21 ((300 * p1) + x2).toNatClampNeg) 12 then fX12_answer_J77 sh p1 p2 p3 x1 x2 s5 (fX12_answer_J147 sh p1 p2 p3 x2 s5 (fX12_answer_L6 sh p1 p2 p3 k153 n61)) (s5.2.2.1 27 (s5.2.1 21 ((300 * p1) + x2).toNatClampNeg).toNatClampNeg) else none else fX12_answer_J77 sh p1 p2 p3 x1 x2 s5 (fX12_answer_J147 sh p1 p2 p3 x2 s5 (fX12_answer_L6 sh p1 p2 p3 k153 n61)) ((s5.2.1 21 ((300 * p1) + x2).toNatClampNeg).toInt64) else if ¬ (s5.2.1 20 ((300 * p1) + x2).toNatClampNeg) = 1 then if ¬ (s5.2.1 20 ((300 * p1) + x2).toNatClampNeg) = 9 then if i_ok ((x1 + (-1)) - 1) 300 then if i_ok (x1 + (-1)) 300 then i_bd (fX12_both sh s5 (s5.2.1 20 ((300 * p1) + x2).toNatClampNeg) (s5.2.2.1 28 ((x1 + (-1)) - 1).toNatClampNeg) (s5.2.2.1 28 (x1 + (-1)).toNatClampNeg)) (fun r176 s177 => if i_ok ((x1 + (-1)) - 1) 300 then fX12_answer_J147 sh p1 p2 p3 x2 s5 (fX12_answer_L6 sh p1 p2 p3 k153 n61) (x1 + (-1)) (s_L s177 28 ((x1 + (-1)) - 1).toNatClampNeg r176) else none) else none else none else if i_ok (x1 - 1) 300 then if i_ok (x1 - 1) 300 then fX12_answer_J147 sh p1 p2 p3 x2 s5 (fX12_answer_L6 sh p1 p2 p3 k153 n61) x1 (s_L s5 28 (x1 - 1).toNatClampNeg (1 - (s5.2.2.1 28 (x1 - 1).toNatClampNeg))) else none else none else if ¬ (s5.2.1 20 ((300 * p1) + x2).toNatClampNeg) = 0 then if i_ok (s5.2.1 21 ((300 * p1) + x2).toNatClampNeg) 12 then fX12_answer_J77_232 sh p1 p2 p3 x1 x2 s5 (fX12_answer_J147 sh p1 p2 p3 x2 s5 (fX12_answer_L6 sh p1 p2 p3 k153 n61)) (s5.2.2.1 27 (s5.2.1 21 ((300 * p1) + x2).toNatClampNeg).toNatClampNeg) else none else fX12_answer_J77_232 sh p1 p2 p3 x1 x2 s5 (fX12_answer_J147 sh p1 p2 p3 x2 s5 (fX12_answer_L6 sh p1 p2 p3 k153 n61)) ((s5.2.1 21 ((300 * p1) + x2).toNatClampNeg).toInt64) else none else none
noncomputable def fX12_answer_X153 (sh : List kd) (p1 : Int32) (p2 : Int32) (p3 : Int32) (x56 : Int32) (x57 : Int32) (x58 : Value) (x59 : Value) (s60 : St) : Option (Int64 × St) := if i_ok 0 300 then some ((s60.2.2.1 28 (0 : Int32).toNatClampNeg), s60) else none
noncomputable def fX12_answer (sh : List kd) (σ : St) (p1 : Int32) (p2 : Int32) (p3 : Int32) : Option (Int64 × St) := fX12_answer_L6 sh p1 p2 p3 (fun (x56 : Int32) (x57 : Int32) (x58 : Value) (x59 : Value) (s60 : St) => fX12_answer_X153 sh p1 p2 p3 x56 x57 x58 x59 s60) i_F 0 p2 (.retAddr 0) (.retAddr 0) σ
set_option maxRecDepth 20000 in
set_option maxHeartbeats 2000000 in
theorem tX12_answer_J147 {sh : List kd} {τ : St} {r : Int64} (hsh : rmSh sh) {p1 : Int32} {p2 : Int32} {p3 : Int32} {x2 : Int32} {s5 : St} {x115 : Int32} {s116 : St} {k6 : Int32 → Int32 → Value → Value → St → Option (Int64 × St)} (hk6 : ∀ (x1 : Int32) (x2 : Int32) (x3 : Value) (x4 : Value) (s5 : St), k6 x1 x2 x3 x4 s5 = some (r, τ) → g_R sh 2 mX12_answer (some (.long r)) τ 6 [.ref 0, .int p1, .int p2, .int p3, .int x1, .int x2, x3, x4] [] (s5)) (hE : fX12_answer_J147 sh p1 p2 p3 x2 s5 k6 x115 s116 = some (r, τ)) : g_R sh 2 mX12_answer (some (.long r)) τ 147 [.ref 0, .int p1, .int p2, .int p3, .int x115, .int x2, .int (s5.2.1 20 ((300 * p1) + x2).toNatClampNeg), .int (s5.2.1 21 ((300 * p1) + x2).toNatClampNeg)] [] (s116) := by
  unfold fX12_answer_J147 at hE
  refine g_iinc (y := 1) (loc2 := [.ref 0, .int p1, .int p2, .int p3, .int x115, .int (x2 + 1), .int (s5.2.1 20 ((300 * p1) + x2).toNatClampNeg), .int (s5.2.1 21 ((300 * p1) + x2).toNatClampNeg)]) aX12_answer_147 rfl rfl rfl ?_
  refine g_goto aX12_answer_150 ?_
  exact hk6 _ _ _ _ _ hE
set_option maxRecDepth 20000 in
set_option maxHeartbeats 2000000 in
theorem tX12_answer_J77 {sh : List kd} {τ : St} {r : Int64} (hsh : rmSh sh) {p1 : Int32} {p2 : Int32} {p3 : Int32} {x1 : Int32} {x2 : Int32} {s5 : St} {x168 : Int64} {k147 : Int32 → St → Option (Int64 × St)} (hk147 : ∀ (x115 : Int32) (s116 : St), k147 x115 s116 = some (r, τ) → g_R sh 2 mX12_answer (some (.long r)) τ 147 [.ref 0, .int p1, .int p2, .int p3, .int x115, .int x2, .int (s5.2.1 20 ((300 * p1) + x2).toNatClampNeg), .int (s5.2.1 21 ((300 * p1) + x2).toNatClampNeg)] [] (s116)) (hE : fX12_answer_J77 sh p1 p2 p3 x1 x2 s5 k147 x168 = some (r, τ)) : g_R sh 2 mX12_answer (some (.long r)) τ 77 [.ref 0, .int p1, .int p2, .int p3, .int x1, .int x2, .int (s5.2.1 20 ((300 * p1) + x2).toNatClampNeg), .int (s5.2.1 21 ((300 * p1) + x2).toNatClampNeg)] [.long x168, .int x1, .ref 28] (s5) := by
  unfold fX12_answer_J77 at hE
  obtain ⟨h169, hE⟩ := i_ifn hE
  refine g_lst aX12_answer_77 (sR_28 hsh) h169 ?_
  refine g_iinc (y := 1) (loc2 := [.ref 0, .int p1, .int p2, .int p3, .int (x1 + 1), .int x2, .int (s5.2.1 20 ((300 * p1) + x2).toNatClampNeg), .int (s5.2.1 21 ((300 * p1) + x2).toNatClampNeg)]) aX12_answer_78 rfl rfl rfl ?_
  refine g_goto aX12_answer_81 ?_
  exact hk147 _ _ hE
set_option maxRecDepth 20000 in
set_option maxHeartbeats 2000000 in
theorem tX12_answer_J77_232 {sh : List kd} {τ : St} {r : Int64} (hsh : rmSh sh) {p1 : Int32} {p2 : Int32} {p3 : Int32} {x1 : Int32} {x2 : Int32} {s5 : St} {x232 : Int64} {k147 : Int32 → St → Option (Int64 × St)} (hk147 : ∀ (x115 : Int32) (s116 : St), k147 x115 s116 = some (r, τ) → g_R sh 2 mX12_answer (some (.long r)) τ 147 [.ref 0, .int p1, .int p2, .int p3, .int x115, .int x2, .int (s5.2.1 20 ((300 * p1) + x2).toNatClampNeg), .int (s5.2.1 21 ((300 * p1) + x2).toNatClampNeg)] [] (s116)) (hE : fX12_answer_J77_232 sh p1 p2 p3 x1 x2 s5 k147 x232 = some (r, τ)) : g_R sh 2 mX12_answer (some (.long r)) τ 77 [.ref 0, .int p1, .int p2, .int p3, .int x1, .int x2, .int (s5.2.1 20 ((300 * p1) + x2).toNatClampNeg), .int (s5.2.1 21 ((300 * p1) + x2).toNatClampNeg)] [.long x232, .int x1, .ref 28] (s5) := by
  unfold fX12_answer_J77_232 at hE
  obtain ⟨h233, hE⟩ := i_ifn hE
  refine g_lst aX12_answer_77 (sR_28 hsh) h233 ?_
  refine g_iinc (y := 1) (loc2 := [.ref 0, .int p1, .int p2, .int p3, .int (x1 + 1), .int x2, .int (s5.2.1 20 ((300 * p1) + x2).toNatClampNeg), .int (s5.2.1 21 ((300 * p1) + x2).toNatClampNeg)]) aX12_answer_78 rfl rfl rfl ?_
  refine g_goto aX12_answer_81 ?_
  exact hk147 _ _ hE
set_option maxRecDepth 20000 in
set_option maxHeartbeats 2000000 in
theorem tX12_answer_L6 {sh : List kd} {τ : St} {r : Int64} (hsh : rmSh sh) {p1 : Int32} {p2 : Int32} {p3 : Int32} {k153 : Int32 → Int32 → Value → Value → St → Option (Int64 × St)} (hk153 : ∀ (x56 : Int32) (x57 : Int32) (x58 : Value) (x59 : Value) (s60 : St), k153 x56 x57 x58 x59 s60 = some (r, τ) → g_R sh 2 mX12_answer (some (.long r)) τ 153 [.ref 0, .int p1, .int p2, .int p3, .int x56, .int x57, x58, x59] [] (s60)) : ∀ (n0 : Nat) (x1 : Int32) (x2 : Int32) (x3 : Value) (x4 : Value) (s5 : St), fX12_answer_L6 sh p1 p2 p3 k153 n0 x1 x2 x3 x4 s5 = some (r, τ) → g_R sh 2 mX12_answer (some (.long r)) τ 6 [.ref 0, .int p1, .int p2, .int p3, .int x1, .int x2, x3, x4] [] (s5) := by
  intro n0
  induction n0 with
  | zero => intro _ _ _ _ _ hE; cases hE
  | succ n61 ih =>
    intro x1 x2 x3 x4 s5 hE
    unfold fX12_answer_L6 at hE
    refine g_ldi aX12_answer_6 rfl ?_
    refine g_ldin aX12_answer_8 rfl ?_
    by_cases hc62 : p3 ≤ x2
    · rw [if_pos hc62] at hE
      refine g_ic_ge_t aX12_answer_9 hc62 ?_
      exact hk153 _ _ _ _ _ hE
    · rw [if_neg hc62] at hE
      refine g_ic_ge_f aX12_answer_9 hc62 ?_
      refine g_ldan aX12_answer_12 rfl ?_
      refine g_getR aX12_answer_13 (sR_0 hsh) rfl ?_
      refine g_sipush (x := 300) aX12_answer_16 rfl ?_
      refine g_ldin aX12_answer_19 rfl ?_
      refine g_imul aX12_answer_20 ?_
      refine g_ldi aX12_answer_21 rfl ?_
      refine g_iadd aX12_answer_23 ?_
      obtain ⟨h63, hE⟩ := i_ifn hE
      refine g_ild aX12_answer_24 (sR_20 hsh) h63 ?_
      refine g_sti (loc2 := [.ref 0, .int p1, .int p2, .int p3, .int x1, .int x2, .int (s5.2.1 20 ((300 * p1) + x2).toNatClampNeg), x4]) aX12_answer_25 (Nat.le_of_ble_eq_true rfl) rfl ?_
      refine g_ldan aX12_answer_27 rfl ?_
      refine g_getR aX12_answer_28 (sR_0 hsh) rfl ?_
      refine g_sipush (x := 300) aX12_answer_31 rfl ?_
      refine g_ldin aX12_answer_34 rfl ?_
      refine g_imul aX12_answer_35 ?_
      refine g_ldi aX12_answer_36 rfl ?_
      refine g_iadd aX12_answer_38 ?_
      obtain ⟨h64, hE⟩ := i_ifn hE
      refine g_ild aX12_answer_39 (sR_21 hsh) h64 ?_
      refine g_sti (loc2 := [.ref 0, .int p1, .int p2, .int p3, .int x1, .int x2, .int (s5.2.1 20 ((300 * p1) + x2).toNatClampNeg), .int (s5.2.1 21 ((300 * p1) + x2).toNatClampNeg)]) aX12_answer_40 (Nat.le_of_ble_eq_true rfl) rfl ?_
      refine g_ldi aX12_answer_42 rfl ?_
      by_cases hc117 : (s5.2.1 20 ((300 * p1) + x2).toNatClampNeg) = 0
      · rw [if_pos hc117] at hE
        refine g_if_eq_t aX12_answer_44 hc117 ?_
        refine g_ldan aX12_answer_53 rfl ?_
        refine g_getR aX12_answer_54 (sR_0 hsh) rfl ?_
        refine g_ldi aX12_answer_57 rfl ?_
        refine g_ldi aX12_answer_59 rfl ?_
        by_cases hc170 : ¬ (s5.2.1 20 ((300 * p1) + x2).toNatClampNeg) = 0
        · rw [if_pos hc170] at hE
          refine g_if_ne_t aX12_answer_61 hc170 ?_
          refine g_ldan aX12_answer_70 rfl ?_
          refine g_getR aX12_answer_71 (sR_0 hsh) rfl ?_
          refine g_ldi aX12_answer_74 rfl ?_
          obtain ⟨h171, hE⟩ := i_ifn hE
          refine g_lld aX12_answer_76 (sR_27 hsh) h171 ?_
          exact tX12_answer_J77 hsh (fun _ _ hE => tX12_answer_J147 hsh ih hE) hE
        · rw [if_neg hc170] at hE
          refine g_if_ne_f aX12_answer_61 hc170 ?_
          refine g_ldi aX12_answer_64 rfl ?_
          refine g_i2l aX12_answer_66 ?_
          refine g_goto aX12_answer_67 ?_
          exact tX12_answer_J77 hsh (fun _ _ hE => tX12_answer_J147 hsh ih hE) hE
      · rw [if_neg hc117] at hE
        refine g_if_eq_f aX12_answer_44 hc117 ?_
        refine g_ldi aX12_answer_47 rfl ?_
        refine g_iconst (x := 1) aX12_answer_49 rfl ?_
        by_cases hc172 : ¬ (s5.2.1 20 ((300 * p1) + x2).toNatClampNeg) = 1
        · rw [if_pos hc172] at hE
          refine g_ic_ne_t aX12_answer_50 hc172 ?_
          refine g_ldi aX12_answer_84 rfl ?_
          refine g_bipush (x := 9) aX12_answer_86 rfl ?_
          by_cases hc173 : ¬ (s5.2.1 20 ((300 * p1) + x2).toNatClampNeg) = 9
          · rw [if_pos hc173] at hE
            refine g_ic_ne_t aX12_answer_88 hc173 ?_
            refine g_iinc (y := (-1)) (loc2 := [.ref 0, .int p1, .int p2, .int p3, .int (x1 + (-1)), .int x2, .int (s5.2.1 20 ((300 * p1) + x2).toNatClampNeg), .int (s5.2.1 21 ((300 * p1) + x2).toNatClampNeg)]) aX12_answer_114 rfl rfl rfl ?_
            refine g_ldan aX12_answer_117 rfl ?_
            refine g_getR aX12_answer_118 (sR_0 hsh) rfl ?_
            refine g_ldi aX12_answer_121 rfl ?_
            refine g_iconst (x := 1) aX12_answer_123 rfl ?_
            refine g_isub aX12_answer_124 ?_
            refine g_ldi aX12_answer_125 rfl ?_
            refine g_ldan aX12_answer_127 rfl ?_
            refine g_getR aX12_answer_128 (sR_0 hsh) rfl ?_
            refine g_ldi aX12_answer_131 rfl ?_
            refine g_iconst (x := 1) aX12_answer_133 rfl ?_
            refine g_isub aX12_answer_134 ?_
            obtain ⟨h174, hE⟩ := i_ifn hE
            refine g_lld aX12_answer_135 (sR_28 hsh) h174 ?_
            refine g_ldan aX12_answer_136 rfl ?_
            refine g_getR aX12_answer_137 (sR_0 hsh) rfl ?_
            refine g_ldi aX12_answer_140 rfl ?_
            obtain ⟨h175, hE⟩ := i_ifn hE
            refine g_lld aX12_answer_142 (sR_28 hsh) h175 ?_
            obtain ⟨r176, s177, h178, hE⟩ := i_bd_some hE
            refine g_calS (As := [.int (s5.2.1 20 ((300 * p1) + x2).toNatClampNeg), .long (s5.2.2.1 28 ((x1 + (-1)) - 1).toNatClampNeg), .long (s5.2.2.1 28 (x1 + (-1)).toNatClampNeg)]) (rest := [.int ((x1 + (-1)) - 1), .ref 28]) aX12_answer_143 (i_X_mono (by omega) (tX12_both hsh h178)) rfl rfl (Nat.le_of_ble_eq_true rfl) rfl ?_
            obtain ⟨h179, hE⟩ := i_ifn hE
            refine g_lst aX12_answer_146 (sR_28 hsh) h179 ?_
            exact tX12_answer_J147 hsh ih hE
          · rw [if_neg hc173] at hE
            refine g_ic_ne_f aX12_answer_88 hc173 ?_
            refine g_ldan aX12_answer_91 rfl ?_
            refine g_getR aX12_answer_92 (sR_0 hsh) rfl ?_
            refine g_ldi aX12_answer_95 rfl ?_
            refine g_iconst (x := 1) aX12_answer_97 rfl ?_
            refine g_isub aX12_answer_98 ?_
            refine g_lconst (x := 1) aX12_answer_99 rfl ?_
            refine g_ldan aX12_answer_100 rfl ?_
            refine g_getR aX12_answer_101 (sR_0 hsh) rfl ?_
            refine g_ldi aX12_answer_104 rfl ?_
            refine g_iconst (x := 1) aX12_answer_106 rfl ?_
            refine g_isub aX12_answer_107 ?_
            obtain ⟨h180, hE⟩ := i_ifn hE
            refine g_lld aX12_answer_108 (sR_28 hsh) h180 ?_
            refine g_lsub aX12_answer_109 ?_
            obtain ⟨h181, hE⟩ := i_ifn hE
            refine g_lst aX12_answer_110 (sR_28 hsh) h181 ?_
            refine g_goto aX12_answer_111 ?_
            exact tX12_answer_J147 hsh ih hE
        · rw [if_neg hc172] at hE
          refine g_ic_ne_f aX12_answer_50 hc172 ?_
          refine g_ldan aX12_answer_53 rfl ?_
          refine g_getR aX12_answer_54 (sR_0 hsh) rfl ?_
          refine g_ldi aX12_answer_57 rfl ?_
          refine g_ldi aX12_answer_59 rfl ?_
          by_cases hc234 : ¬ (s5.2.1 20 ((300 * p1) + x2).toNatClampNeg) = 0
          · rw [if_pos hc234] at hE
            refine g_if_ne_t aX12_answer_61 hc234 ?_
            refine g_ldan aX12_answer_70 rfl ?_
            refine g_getR aX12_answer_71 (sR_0 hsh) rfl ?_
            refine g_ldi aX12_answer_74 rfl ?_
            obtain ⟨h235, hE⟩ := i_ifn hE
            refine g_lld aX12_answer_76 (sR_27 hsh) h235 ?_
            exact tX12_answer_J77_232 hsh (fun _ _ hE => tX12_answer_J147 hsh ih hE) hE
          · rw [if_neg hc234] at hE
            refine g_if_ne_f aX12_answer_61 hc234 ?_
            refine g_ldi aX12_answer_64 rfl ?_
            refine g_i2l aX12_answer_66 ?_
            refine g_goto aX12_answer_67 ?_
            exact tX12_answer_J77_232 hsh (fun _ _ hE => tX12_answer_J147 hsh ih hE) hE
set_option maxRecDepth 20000 in
set_option maxHeartbeats 2000000 in
theorem tX12_answer_X153 {sh : List kd} {τ : St} {r : Int64} (hsh : rmSh sh) {p1 : Int32} {p2 : Int32} {p3 : Int32} {x56 : Int32} {x57 : Int32} {x58 : Value} {x59 : Value} {s60 : St} (hE : fX12_answer_X153 sh p1 p2 p3 x56 x57 x58 x59 s60 = some (r, τ)) : g_R sh 2 mX12_answer (some (.long r)) τ 153 [.ref 0, .int p1, .int p2, .int p3, .int x56, .int x57, x58, x59] [] (s60) := by
  unfold fX12_answer_X153 at hE
  refine g_ldan aX12_answer_153 rfl ?_
  refine g_getR aX12_answer_154 (sR_0 hsh) rfl ?_
  refine g_iconst (x := 0) aX12_answer_157 rfl ?_
  obtain ⟨h236, hE⟩ := i_ifn hE
  refine g_lld aX12_answer_158 (sR_28 hsh) h236 ?_
  obtain ⟨rfl, rfl⟩ := i_some_inj hE
  exact g_lret aX12_answer_159 rfl
set_option maxRecDepth 20000 in
set_option maxHeartbeats 2000000 in
theorem tX12_answer {sh : List kd} {σ τ : St} {r : Int64} (hsh : rmSh sh) {p1 : Int32} {p2 : Int32} {p3 : Int32} (hE : fX12_answer sh σ p1 p2 p3 = some (r, τ)) : i_X 3 173 [.ref 0, .int p1, .int p2, .int p3] (s_h sh σ) 0 0 (some (.long r)) (s_h sh τ) := by
  refine g_X (M := mX12_answer) (loc := [.ref 0, .int p1, .int p2, .int p3, .retAddr 0, .retAddr 0, .retAddr 0, .retAddr 0]) rfl (Nat.le_of_ble_eq_true rfl) rfl ?_
  unfold fX12_answer at hE
  refine g_iconst (x := 0) aX12_answer_0 rfl ?_
  refine g_sti (loc2 := [.ref 0, .int p1, .int p2, .int p3, .int 0, .retAddr 0, .retAddr 0, .retAddr 0]) aX12_answer_1 (Nat.le_of_ble_eq_true rfl) rfl ?_
  refine g_ldin aX12_answer_3 rfl ?_
  refine g_sti (loc2 := [.ref 0, .int p1, .int p2, .int p3, .int 0, .int p2, .retAddr 0, .retAddr 0]) aX12_answer_4 (Nat.le_of_ble_eq_true rfl) rfl ?_
  exact tX12_answer_L6 hsh (fun x56 x57 x58 x59 s60 hE => tX12_answer_X153 hsh hE) i_F _ _ _ _ _ hE
theorem aX12_knightsOf_0 : i_at mX12_knightsOf.2.2.2.2.2 0 = some (.iconst 0, 1, 0, 0, 0, 0) := by decide +kernel
theorem aX12_knightsOf_1 : i_at mX12_knightsOf.2.2.2.2.2 1 = some (.istore_n 2, 1, 0, 0, 0, 0) := by decide +kernel
theorem aX12_knightsOf_2 : i_at mX12_knightsOf.2.2.2.2.2 2 = some (.iconst 0, 1, 0, 0, 0, 0) := by decide +kernel
theorem aX12_knightsOf_3 : i_at mX12_knightsOf.2.2.2.2.2 3 = some (.istore_n 3, 1, 0, 0, 0, 0) := by decide +kernel
theorem aX12_knightsOf_4 : i_at mX12_knightsOf.2.2.2.2.2 4 = some (.iload_n 3, 1, 0, 0, 0, 0) := by decide +kernel
theorem aX12_knightsOf_5 : i_at mX12_knightsOf.2.2.2.2.2 5 = some (.aload_n 0, 1, 0, 0, 0, 0) := by decide +kernel
theorem aX12_knightsOf_6 : i_at mX12_knightsOf.2.2.2.2.2 6 = some (.getfield 9, 3, 11, 1, 1088, 0) := by decide +kernel
theorem aX12_knightsOf_9 : i_at mX12_knightsOf.2.2.2.2.2 9 = some (.iconst 3, 1, 0, 0, 0, 0) := by decide +kernel
theorem aX12_knightsOf_10 : i_at mX12_knightsOf.2.2.2.2.2 10 = some (.iaload, 1, 0, 0, 0, 0) := by decide +kernel
theorem aX12_knightsOf_11 : i_at mX12_knightsOf.2.2.2.2.2 11 = some (.if_icmp .ge 22, 3, 33, 0, 0, 0) := by decide +kernel
theorem aX12_knightsOf_14 : i_at mX12_knightsOf.2.2.2.2.2 14 = some (.iload_n 2, 1, 0, 0, 0, 0) := by decide +kernel
theorem aX12_knightsOf_15 : i_at mX12_knightsOf.2.2.2.2.2 15 = some (.aload_n 0, 1, 0, 0, 0, 0) := by decide +kernel
theorem aX12_knightsOf_16 : i_at mX12_knightsOf.2.2.2.2.2 16 = some (.getfield 31, 3, 11, 8, 1095, 0) := by decide +kernel
theorem aX12_knightsOf_19 : i_at mX12_knightsOf.2.2.2.2.2 19 = some (.iload_n 3, 1, 0, 0, 0, 0) := by decide +kernel
theorem aX12_knightsOf_20 : i_at mX12_knightsOf.2.2.2.2.2 20 = some (.iaload, 1, 0, 0, 0, 0) := by decide +kernel
theorem aX12_knightsOf_21 : i_at mX12_knightsOf.2.2.2.2.2 21 = some (.iload_n 1, 1, 0, 0, 0, 0) := by decide +kernel
theorem aX12_knightsOf_22 : i_at mX12_knightsOf.2.2.2.2.2 22 = some (.ishr, 1, 0, 0, 0, 0) := by decide +kernel
theorem aX12_knightsOf_23 : i_at mX12_knightsOf.2.2.2.2.2 23 = some (.iconst 1, 1, 0, 0, 0, 0) := by decide +kernel
theorem aX12_knightsOf_24 : i_at mX12_knightsOf.2.2.2.2.2 24 = some (.iand, 1, 0, 0, 0, 0) := by decide +kernel
theorem aX12_knightsOf_25 : i_at mX12_knightsOf.2.2.2.2.2 25 = some (.iadd, 1, 0, 0, 0, 0) := by decide +kernel
theorem aX12_knightsOf_26 : i_at mX12_knightsOf.2.2.2.2.2 26 = some (.istore_n 2, 1, 0, 0, 0, 0) := by decide +kernel
theorem aX12_knightsOf_27 : i_at mX12_knightsOf.2.2.2.2.2 27 = some (.iinc 3 1, 3, 0, 0, 0, 0) := by decide +kernel
theorem aX12_knightsOf_30 : i_at mX12_knightsOf.2.2.2.2.2 30 = some (.goto (-26), 3, 4, 0, 0, 0) := by decide +kernel
theorem aX12_knightsOf_33 : i_at mX12_knightsOf.2.2.2.2.2 33 = some (.iload_n 2, 1, 0, 0, 0, 0) := by decide +kernel
theorem aX12_knightsOf_34 : i_at mX12_knightsOf.2.2.2.2.2 34 = some (.ireturn, 1, 0, 0, 0, 0) := by decide +kernel
noncomputable def fX12_knightsOf_L4 (sh : List kd) (p1 : Int32) (σ : St) : Nat → Int32 → Int32 → Option (Int32 × St)
  | 0, _, _ => none
  | n3 + 1, x1, x2 => if i_ok 3 11 then if (σ.2.1 1 (3 : Int32).toNatClampNeg) ≤ x2 then some (x1, σ) else if i_ok x2 6 then (fX12_knightsOf_L4 sh p1 σ n3 (x1 + (((σ.2.1 8 x2.toNatClampNeg) >>> (p1 &&& 31)) &&& 1)) (x2 + 1)) else none else none
noncomputable def fX12_knightsOf (sh : List kd) (σ : St) (p1 : Int32) : Option (Int32 × St) := fX12_knightsOf_L4 sh p1 σ i_F 0 0
set_option maxRecDepth 20000 in
set_option maxHeartbeats 2000000 in
theorem tX12_knightsOf_L4 {sh : List kd} {τ : St} {r : Int32} (hsh : rmSh sh) {p1 : Int32} {σ : St} : ∀ (n0 : Nat) (x1 : Int32) (x2 : Int32), fX12_knightsOf_L4 sh p1 σ n0 x1 x2 = some (r, τ) → g_R sh 0 mX12_knightsOf (some (.int r)) τ 4 [.ref 0, .int p1, .int x1, .int x2] [] (σ) := by
  intro n0
  induction n0 with
  | zero => intro _ _ hE; cases hE
  | succ n3 ih =>
    intro x1 x2 hE
    unfold fX12_knightsOf_L4 at hE
    refine g_ldin aX12_knightsOf_4 rfl ?_
    refine g_ldan aX12_knightsOf_5 rfl ?_
    refine g_getR aX12_knightsOf_6 (sR_0 hsh) rfl ?_
    refine g_iconst (x := 3) aX12_knightsOf_9 rfl ?_
    obtain ⟨h4, hE⟩ := i_ifn hE
    refine g_ild aX12_knightsOf_10 (sR_1 hsh) h4 ?_
    by_cases hc55 : (σ.2.1 1 (3 : Int32).toNatClampNeg) ≤ x2
    · rw [if_pos hc55] at hE
      refine g_ic_ge_t aX12_knightsOf_11 hc55 ?_
      refine g_ldin aX12_knightsOf_33 rfl ?_
      obtain ⟨rfl, rfl⟩ := i_some_inj hE
      exact g_iret aX12_knightsOf_34 rfl rfl
    · rw [if_neg hc55] at hE
      refine g_ic_ge_f aX12_knightsOf_11 hc55 ?_
      refine g_ldin aX12_knightsOf_14 rfl ?_
      refine g_ldan aX12_knightsOf_15 rfl ?_
      refine g_getR aX12_knightsOf_16 (sR_0 hsh) rfl ?_
      refine g_ldin aX12_knightsOf_19 rfl ?_
      obtain ⟨h56, hE⟩ := i_ifn hE
      refine g_ild aX12_knightsOf_20 (sR_8 hsh) h56 ?_
      refine g_ldin aX12_knightsOf_21 rfl ?_
      refine g_ishr aX12_knightsOf_22 ?_
      refine g_iconst (x := 1) aX12_knightsOf_23 rfl ?_
      refine g_iand aX12_knightsOf_24 ?_
      refine g_iadd aX12_knightsOf_25 ?_
      refine g_stin (loc2 := [.ref 0, .int p1, .int (x1 + (((σ.2.1 8 x2.toNatClampNeg) >>> (p1 &&& 31)) &&& 1)), .int x2]) aX12_knightsOf_26 (Nat.le_of_ble_eq_true rfl) rfl ?_
      refine g_iinc (y := 1) (loc2 := [.ref 0, .int p1, .int (x1 + (((σ.2.1 8 x2.toNatClampNeg) >>> (p1 &&& 31)) &&& 1)), .int (x2 + 1)]) aX12_knightsOf_27 rfl rfl rfl ?_
      refine g_goto aX12_knightsOf_30 ?_
      exact ih _ _ hE
set_option maxRecDepth 20000 in
set_option maxHeartbeats 2000000 in
theorem tX12_knightsOf {sh : List kd} {σ τ : St} {r : Int32} (hsh : rmSh sh) {p1 : Int32} (hE : fX12_knightsOf sh σ p1 = some (r, τ)) : i_X 1 174 [.ref 0, .int p1] (s_h sh σ) 0 0 (some (.int r)) (s_h sh τ) := by
  refine g_X (M := mX12_knightsOf) (loc := [.ref 0, .int p1, .retAddr 0, .retAddr 0]) rfl (Nat.le_of_ble_eq_true rfl) rfl ?_
  unfold fX12_knightsOf at hE
  refine g_iconst (x := 0) aX12_knightsOf_0 rfl ?_
  refine g_stin (loc2 := [.ref 0, .int p1, .int 0, .retAddr 0]) aX12_knightsOf_1 (Nat.le_of_ble_eq_true rfl) rfl ?_
  refine g_iconst (x := 0) aX12_knightsOf_2 rfl ?_
  refine g_stin (loc2 := [.ref 0, .int p1, .int 0, .int 0]) aX12_knightsOf_3 (Nat.le_of_ble_eq_true rfl) rfl ?_
  exact tX12_knightsOf_L4 hsh i_F _ _ hE
theorem aX12_thing_0 : i_at mX12_thing.2.2.2.2.2 0 = some (.aload_n 0, 1, 0, 0, 0, 0) := by decide +kernel
theorem aX12_thing_1 : i_at mX12_thing.2.2.2.2.2 1 = some (.iload_n 1, 1, 0, 0, 0, 0) := by decide +kernel
theorem aX12_thing_2 : i_at mX12_thing.2.2.2.2.2 2 = some (.invokevirtual 338, 3, 131, 1, 1426, 0) := by decide +kernel
theorem aX12_thing_5 : i_at mX12_thing.2.2.2.2.2 5 = some (.ifCond .ne 5, 3, 10, 0, 0, 0) := by decide +kernel
theorem aX12_thing_8 : i_at mX12_thing.2.2.2.2.2 8 = some (.iconst (-1), 1, 0, 0, 0, 0) := by decide +kernel
theorem aX12_thing_9 : i_at mX12_thing.2.2.2.2.2 9 = some (.ireturn, 1, 0, 0, 0, 0) := by decide +kernel
theorem aX12_thing_10 : i_at mX12_thing.2.2.2.2.2 10 = some (.iload_n 2, 1, 0, 0, 0, 0) := by decide +kernel
theorem aX12_thing_11 : i_at mX12_thing.2.2.2.2.2 11 = some (.tableswitch 56 0 3 #[29, 36, 43, 49], 29, 0, 0, 0, 0) := by decide +kernel
theorem aX12_thing_40 : i_at mX12_thing.2.2.2.2.2 40 = some (.aload_n 0, 1, 0, 0, 0, 0) := by decide +kernel
theorem aX12_thing_41 : i_at mX12_thing.2.2.2.2.2 41 = some (.getfield 13, 3, 11, 2, 1089, 0) := by decide +kernel
theorem aX12_thing_44 : i_at mX12_thing.2.2.2.2.2 44 = some (.iload_n 1, 1, 0, 0, 0, 0) := by decide +kernel
theorem aX12_thing_45 : i_at mX12_thing.2.2.2.2.2 45 = some (.iaload, 1, 0, 0, 0, 0) := by decide +kernel
theorem aX12_thing_46 : i_at mX12_thing.2.2.2.2.2 46 = some (.ireturn, 1, 0, 0, 0, 0) := by decide +kernel
theorem aX12_thing_47 : i_at mX12_thing.2.2.2.2.2 47 = some (.aload_n 0, 1, 0, 0, 0, 0) := by decide +kernel
theorem aX12_thing_48 : i_at mX12_thing.2.2.2.2.2 48 = some (.getfield 19, 3, 11, 4, 1091, 0) := by decide +kernel
theorem aX12_thing_51 : i_at mX12_thing.2.2.2.2.2 51 = some (.iload_n 1, 1, 0, 0, 0, 0) := by decide +kernel
theorem aX12_thing_52 : i_at mX12_thing.2.2.2.2.2 52 = some (.iaload, 1, 0, 0, 0, 0) := by decide +kernel
theorem aX12_thing_53 : i_at mX12_thing.2.2.2.2.2 53 = some (.ireturn, 1, 0, 0, 0, 0) := by decide +kernel
theorem aX12_thing_54 : i_at mX12_thing.2.2.2.2.2 54 = some (.aload_n 0, 1, 0, 0, 0, 0) := by decide +kernel
theorem aX12_thing_55 : i_at mX12_thing.2.2.2.2.2 55 = some (.iload_n 1, 1, 0, 0, 0, 0) := by decide +kernel
theorem aX12_thing_56 : i_at mX12_thing.2.2.2.2.2 56 = some (.invokevirtual 342, 3, 174, 1, 1430, 0) := by decide +kernel
theorem aX12_thing_59 : i_at mX12_thing.2.2.2.2.2 59 = some (.ireturn, 1, 0, 0, 0, 0) := by decide +kernel
theorem aX12_thing_60 : i_at mX12_thing.2.2.2.2.2 60 = some (.aload_n 0, 1, 0, 0, 0, 0) := by decide +kernel
theorem aX12_thing_61 : i_at mX12_thing.2.2.2.2.2 61 = some (.getfield 16, 3, 11, 3, 1090, 0) := by decide +kernel
theorem aX12_thing_64 : i_at mX12_thing.2.2.2.2.2 64 = some (.iload_n 1, 1, 0, 0, 0, 0) := by decide +kernel
theorem aX12_thing_65 : i_at mX12_thing.2.2.2.2.2 65 = some (.iaload, 1, 0, 0, 0, 0) := by decide +kernel
theorem aX12_thing_66 : i_at mX12_thing.2.2.2.2.2 66 = some (.ireturn, 1, 0, 0, 0, 0) := by decide +kernel
theorem aX12_thing_67 : i_at mX12_thing.2.2.2.2.2 67 = some (.iconst (-1), 1, 0, 0, 0, 0) := by decide +kernel
theorem aX12_thing_68 : i_at mX12_thing.2.2.2.2.2 68 = some (.ireturn, 1, 0, 0, 0, 0) := by decide +kernel
noncomputable def fX12_thing (sh : List kd) (σ : St) (p1 : Int32) (p2 : Int32) : Option (Int32 × St) := i_bd (fX12_isThing sh σ p1) (fun r1 s2 => if ¬ r1 = 0 then if p2 = 0 then if i_ok p1 6 then some ((s2.2.1 2 p1.toNatClampNeg), s2) else none else if p2 = 1 then if i_ok p1 6 then some ((s2.2.1 4 p1.toNatClampNeg), s2) else none else if p2 = 2 then i_bd (fX12_knightsOf sh s2 p1) (fun r10 s11 => some (r10, s11)) else if p2 = 3 then if i_ok p1 6 then some ((s2.2.1 3 p1.toNatClampNeg), s2) else none else some ((-1), s2) else some ((-1), s2))
set_option maxRecDepth 20000 in
set_option maxHeartbeats 2000000 in
theorem tX12_thing {sh : List kd} {σ τ : St} {r : Int32} (hsh : rmSh sh) {p1 : Int32} {p2 : Int32} (hE : fX12_thing sh σ p1 p2 = some (r, τ)) : i_X 3 175 [.ref 0, .int p1, .int p2] (s_h sh σ) 0 0 (some (.int r)) (s_h sh τ) := by
  refine g_X (M := mX12_thing) (loc := [.ref 0, .int p1, .int p2]) rfl (Nat.le_of_ble_eq_true rfl) rfl ?_
  unfold fX12_thing at hE
  refine g_ldan aX12_thing_0 rfl ?_
  refine g_ldin aX12_thing_1 rfl ?_
  obtain ⟨r1, s2, h3, hE⟩ := i_bd_some hE
  refine g_calV (As := [.int p1]) (rest := []) aX12_thing_2 (i_X_mono (by omega) (tX12_isThing hsh h3)) (sR_0 hsh) (by decide +kernel) rfl rfl (Nat.le_of_ble_eq_true rfl) rfl ?_
  by_cases hc4 : ¬ r1 = 0
  · rw [if_pos hc4] at hE
    refine g_if_ne_t aX12_thing_5 hc4 ?_
    refine g_ldin aX12_thing_10 rfl ?_
    by_cases hc5 : p2 = 0
    · rw [if_pos hc5] at hE
      refine g_tabIn (i := 0) aX12_thing_11 (by rw [hc5]; decide) (by decide) rfl rfl ?_
      refine g_ldan aX12_thing_40 rfl ?_
      refine g_getR aX12_thing_41 (sR_0 hsh) rfl ?_
      refine g_ldin aX12_thing_44 rfl ?_
      obtain ⟨h6, hE⟩ := i_ifn hE
      refine g_ild aX12_thing_45 (sR_2 hsh) h6 ?_
      obtain ⟨rfl, rfl⟩ := i_some_inj hE
      exact g_iret aX12_thing_46 rfl rfl
    · rw [if_neg hc5] at hE
      by_cases hc7 : p2 = 1
      · rw [if_pos hc7] at hE
        refine g_tabIn (i := 1) aX12_thing_11 (by rw [hc7]; decide) (by decide) rfl rfl ?_
        refine g_ldan aX12_thing_47 rfl ?_
        refine g_getR aX12_thing_48 (sR_0 hsh) rfl ?_
        refine g_ldin aX12_thing_51 rfl ?_
        obtain ⟨h8, hE⟩ := i_ifn hE
        refine g_ild aX12_thing_52 (sR_4 hsh) h8 ?_
        obtain ⟨rfl, rfl⟩ := i_some_inj hE
        exact g_iret aX12_thing_53 rfl rfl
      · rw [if_neg hc7] at hE
        by_cases hc9 : p2 = 2
        · rw [if_pos hc9] at hE
          refine g_tabIn (i := 2) aX12_thing_11 (by rw [hc9]; decide) (by decide) rfl rfl ?_
          refine g_ldan aX12_thing_54 rfl ?_
          refine g_ldin aX12_thing_55 rfl ?_
          obtain ⟨r10, s11, h12, hE⟩ := i_bd_some hE
          refine g_calV (As := [.int p1]) (rest := []) aX12_thing_56 (i_X_mono (by omega) (tX12_knightsOf hsh h12)) (sR_0 hsh) (by decide +kernel) rfl rfl (Nat.le_of_ble_eq_true rfl) rfl ?_
          obtain ⟨rfl, rfl⟩ := i_some_inj hE
          exact g_iret aX12_thing_59 rfl rfl
        · rw [if_neg hc9] at hE
          by_cases hc13 : p2 = 3
          · rw [if_pos hc13] at hE
            refine g_tabIn (i := 3) aX12_thing_11 (by rw [hc13]; decide) (by decide) rfl rfl ?_
            refine g_ldan aX12_thing_60 rfl ?_
            refine g_getR aX12_thing_61 (sR_0 hsh) rfl ?_
            refine g_ldin aX12_thing_64 rfl ?_
            obtain ⟨h14, hE⟩ := i_ifn hE
            refine g_ild aX12_thing_65 (sR_3 hsh) h14 ?_
            obtain ⟨rfl, rfl⟩ := i_some_inj hE
            exact g_iret aX12_thing_66 rfl rfl
          · rw [if_neg hc13] at hE
            have hto15 : p2.toInt < ((0 : Nat) : Int) ∨ ((3 : Nat) : Int) < p2.toInt := by
              refine i_tabo (x := p2) 0 3 (by decide) (fun k k1 k2 => ?_)
              rcases (show k = 0 ∨ k = 1 ∨ k = 2 ∨ k = 3 by omega) with rfl | rfl | rfl | rfl
              · exact fun hz => hc5 hz
              · exact fun hz => hc7 hz
              · exact fun hz => hc9 hz
              · exact fun hz => hc13 hz
            refine g_tabOut aX12_thing_11 hto15 rfl ?_
            refine g_iconst (x := (-1)) aX12_thing_67 rfl ?_
            obtain ⟨rfl, rfl⟩ := i_some_inj hE
            exact g_iret aX12_thing_68 rfl rfl
  · rw [if_neg hc4] at hE
    refine g_if_ne_f aX12_thing_5 hc4 ?_
    refine g_iconst (x := (-1)) aX12_thing_8 rfl ?_
    obtain ⟨rfl, rfl⟩ := i_some_inj hE
    exact g_iret aX12_thing_9 rfl rfl
theorem aX12_usual_0 : i_at mX12_usual.2.2.2.2.2 0 = some (.aload_n 0, 1, 0, 0, 0, 0) := by decide +kernel
theorem aX12_usual_1 : i_at mX12_usual.2.2.2.2.2 1 = some (.invokevirtual 345, 3, 130, 0, 1438, 0) := by decide +kernel
theorem aX12_usual_4 : i_at mX12_usual.2.2.2.2.2 4 = some (.ifCond .eq 30, 3, 34, 0, 0, 0) := by decide +kernel
theorem aX12_usual_7 : i_at mX12_usual.2.2.2.2.2 7 = some (.iload_n 1, 1, 0, 0, 0, 0) := by decide +kernel
theorem aX12_usual_8 : i_at mX12_usual.2.2.2.2.2 8 = some (.i2l, 1, 0, 0, 0, 0) := by decide +kernel
theorem aX12_usual_9 : i_at mX12_usual.2.2.2.2.2 9 = some (.lconst 0, 1, 0, 0, 0, 0) := by decide +kernel
theorem aX12_usual_10 : i_at mX12_usual.2.2.2.2.2 10 = some (.aload_n 0, 1, 0, 0, 0, 0) := by decide +kernel
theorem aX12_usual_11 : i_at mX12_usual.2.2.2.2.2 11 = some (.getfield 9, 3, 11, 1, 1088, 0) := by decide +kernel
theorem aX12_usual_14 : i_at mX12_usual.2.2.2.2.2 14 = some (.iconst 0, 1, 0, 0, 0, 0) := by decide +kernel
theorem aX12_usual_15 : i_at mX12_usual.2.2.2.2.2 15 = some (.iaload, 1, 0, 0, 0, 0) := by decide +kernel
theorem aX12_usual_16 : i_at mX12_usual.2.2.2.2.2 16 = some (.iconst 1, 1, 0, 0, 0, 0) := by decide +kernel
theorem aX12_usual_17 : i_at mX12_usual.2.2.2.2.2 17 = some (.isub, 1, 0, 0, 0, 0) := by decide +kernel
theorem aX12_usual_18 : i_at mX12_usual.2.2.2.2.2 18 = some (.i2l, 1, 0, 0, 0, 0) := by decide +kernel
theorem aX12_usual_19 : i_at mX12_usual.2.2.2.2.2 19 = some (.invokestatic 131, 3, 127, 3, 1324, 0) := by decide +kernel
theorem aX12_usual_22 : i_at mX12_usual.2.2.2.2.2 22 = some (.ifCond .eq 12, 3, 34, 0, 0, 0) := by decide +kernel
theorem aX12_usual_25 : i_at mX12_usual.2.2.2.2.2 25 = some (.aload_n 0, 1, 0, 0, 0, 0) := by decide +kernel
theorem aX12_usual_26 : i_at mX12_usual.2.2.2.2.2 26 = some (.getfield 22, 3, 11, 5, 1092, 0) := by decide +kernel
theorem aX12_usual_29 : i_at mX12_usual.2.2.2.2.2 29 = some (.iload_n 1, 1, 0, 0, 0, 0) := by decide +kernel
theorem aX12_usual_30 : i_at mX12_usual.2.2.2.2.2 30 = some (.iaload, 1, 0, 0, 0, 0) := by decide +kernel
theorem aX12_usual_31 : i_at mX12_usual.2.2.2.2.2 31 = some (.goto 5, 3, 36, 0, 0, 0) := by decide +kernel
theorem aX12_usual_34 : i_at mX12_usual.2.2.2.2.2 34 = some (.bipush (-2), 2, 0, 0, 0, 0) := by decide +kernel
theorem aX12_usual_36 : i_at mX12_usual.2.2.2.2.2 36 = some (.ireturn, 1, 0, 0, 0, 0) := by decide +kernel
noncomputable def fX12_usual_J36 (sh : List kd) (p1 : Int32) (x54 : Int32) (s55 : St) : Option (Int32 × St) := some (x54, s55)
noncomputable def fX12_usual (sh : List kd) (σ : St) (p1 : Int32) : Option (Int32 × St) := i_bd (fX12_isCourt sh σ) (fun r1 s2 => if r1 = 0 then fX12_usual_J36 sh p1 (-2) s2 else if i_ok 0 11 then i_bd (fX12_in sh s2 p1.toInt64 0 (((s2.2.1 1 (0 : Int32).toNatClampNeg) - 1).toInt64)) (fun r58 s59 => if r58 = 0 then fX12_usual_J36 sh p1 (-2) s59 else if i_ok p1 12 then fX12_usual_J36 sh p1 (s59.2.1 5 p1.toNatClampNeg) s59 else none) else none)
set_option maxRecDepth 20000 in
set_option maxHeartbeats 2000000 in
theorem tX12_usual_J36 {sh : List kd} {τ : St} {r : Int32} (hsh : rmSh sh) {p1 : Int32} {x54 : Int32} {s55 : St} (hE : fX12_usual_J36 sh p1 x54 s55 = some (r, τ)) : g_R sh 1 mX12_usual (some (.int r)) τ 36 [.ref 0, .int p1] [.int x54] (s55) := by
  unfold fX12_usual_J36 at hE
  obtain ⟨rfl, rfl⟩ := i_some_inj hE
  exact g_iret aX12_usual_36 rfl rfl
set_option maxRecDepth 20000 in
set_option maxHeartbeats 2000000 in
theorem tX12_usual {sh : List kd} {σ τ : St} {r : Int32} (hsh : rmSh sh) {p1 : Int32} (hE : fX12_usual sh σ p1 = some (r, τ)) : i_X 2 176 [.ref 0, .int p1] (s_h sh σ) 0 0 (some (.int r)) (s_h sh τ) := by
  refine g_X (M := mX12_usual) (loc := [.ref 0, .int p1]) rfl (Nat.le_of_ble_eq_true rfl) rfl ?_
  unfold fX12_usual at hE
  refine g_ldan aX12_usual_0 rfl ?_
  obtain ⟨r1, s2, h3, hE⟩ := i_bd_some hE
  refine g_calV (As := []) (rest := []) aX12_usual_1 (i_X_mono (by omega) (tX12_isCourt hsh h3)) (sR_0 hsh) (by decide +kernel) rfl rfl (Nat.le_of_ble_eq_true rfl) rfl ?_
  by_cases hc56 : r1 = 0
  · rw [if_pos hc56] at hE
    refine g_if_eq_t aX12_usual_4 hc56 ?_
    refine g_bipush (x := (-2)) aX12_usual_34 rfl ?_
    exact tX12_usual_J36 hsh hE
  · rw [if_neg hc56] at hE
    refine g_if_eq_f aX12_usual_4 hc56 ?_
    refine g_ldin aX12_usual_7 rfl ?_
    refine g_i2l aX12_usual_8 ?_
    refine g_lconst (x := 0) aX12_usual_9 rfl ?_
    refine g_ldan aX12_usual_10 rfl ?_
    refine g_getR aX12_usual_11 (sR_0 hsh) rfl ?_
    refine g_iconst (x := 0) aX12_usual_14 rfl ?_
    obtain ⟨h57, hE⟩ := i_ifn hE
    refine g_ild aX12_usual_15 (sR_1 hsh) h57 ?_
    refine g_iconst (x := 1) aX12_usual_16 rfl ?_
    refine g_isub aX12_usual_17 ?_
    refine g_i2l aX12_usual_18 ?_
    obtain ⟨r58, s59, h60, hE⟩ := i_bd_some hE
    refine g_calS (As := [.long p1.toInt64, .long 0, .long (((s2.2.1 1 (0 : Int32).toNatClampNeg) - 1).toInt64)]) (rest := []) aX12_usual_19 (i_X_mono (by omega) (tX12_in hsh h60)) rfl rfl (Nat.le_of_ble_eq_true rfl) rfl ?_
    by_cases hc61 : r58 = 0
    · rw [if_pos hc61] at hE
      refine g_if_eq_t aX12_usual_22 hc61 ?_
      refine g_bipush (x := (-2)) aX12_usual_34 rfl ?_
      exact tX12_usual_J36 hsh hE
    · rw [if_neg hc61] at hE
      refine g_if_eq_f aX12_usual_22 hc61 ?_
      refine g_ldan aX12_usual_25 rfl ?_
      refine g_getR aX12_usual_26 (sR_0 hsh) rfl ?_
      refine g_ldin aX12_usual_29 rfl ?_
      obtain ⟨h62, hE⟩ := i_ifn hE
      refine g_ild aX12_usual_30 (sR_5 hsh) h62 ?_
      refine g_goto aX12_usual_31 ?_
      exact tX12_usual_J36 hsh hE
theorem aX12_rankOf_0 : i_at mX12_rankOf.2.2.2.2.2 0 = some (.iconst 0, 1, 0, 0, 0, 0) := by decide +kernel
theorem aX12_rankOf_1 : i_at mX12_rankOf.2.2.2.2.2 1 = some (.istore_n 2, 1, 0, 0, 0, 0) := by decide +kernel
theorem aX12_rankOf_2 : i_at mX12_rankOf.2.2.2.2.2 2 = some (.iconst 0, 1, 0, 0, 0, 0) := by decide +kernel
theorem aX12_rankOf_3 : i_at mX12_rankOf.2.2.2.2.2 3 = some (.istore_n 3, 1, 0, 0, 0, 0) := by decide +kernel
theorem aX12_rankOf_4 : i_at mX12_rankOf.2.2.2.2.2 4 = some (.iload_n 3, 1, 0, 0, 0, 0) := by decide +kernel
theorem aX12_rankOf_5 : i_at mX12_rankOf.2.2.2.2.2 5 = some (.aload_n 0, 1, 0, 0, 0, 0) := by decide +kernel
theorem aX12_rankOf_6 : i_at mX12_rankOf.2.2.2.2.2 6 = some (.getfield 9, 3, 11, 1, 1088, 0) := by decide +kernel
theorem aX12_rankOf_9 : i_at mX12_rankOf.2.2.2.2.2 9 = some (.iconst 2, 1, 0, 0, 0, 0) := by decide +kernel
theorem aX12_rankOf_10 : i_at mX12_rankOf.2.2.2.2.2 10 = some (.iaload, 1, 0, 0, 0, 0) := by decide +kernel
theorem aX12_rankOf_11 : i_at mX12_rankOf.2.2.2.2.2 11 = some (.if_icmp .ge 35, 3, 46, 0, 0, 0) := by decide +kernel
theorem aX12_rankOf_14 : i_at mX12_rankOf.2.2.2.2.2 14 = some (.iload_n 2, 1, 0, 0, 0, 0) := by decide +kernel
theorem aX12_rankOf_15 : i_at mX12_rankOf.2.2.2.2.2 15 = some (.aload_n 0, 1, 0, 0, 0, 0) := by decide +kernel
theorem aX12_rankOf_16 : i_at mX12_rankOf.2.2.2.2.2 16 = some (.getfield 31, 3, 11, 8, 1095, 0) := by decide +kernel
theorem aX12_rankOf_19 : i_at mX12_rankOf.2.2.2.2.2 19 = some (.iload_n 1, 1, 0, 0, 0, 0) := by decide +kernel
theorem aX12_rankOf_20 : i_at mX12_rankOf.2.2.2.2.2 20 = some (.iaload, 1, 0, 0, 0, 0) := by decide +kernel
theorem aX12_rankOf_21 : i_at mX12_rankOf.2.2.2.2.2 21 = some (.iload_n 3, 1, 0, 0, 0, 0) := by decide +kernel
theorem aX12_rankOf_22 : i_at mX12_rankOf.2.2.2.2.2 22 = some (.invokestatic 348, 3, 129, 2, 1454, 0) := by decide +kernel
theorem aX12_rankOf_25 : i_at mX12_rankOf.2.2.2.2.2 25 = some (.ifCond .eq 12, 3, 37, 0, 0, 0) := by decide +kernel
theorem aX12_rankOf_28 : i_at mX12_rankOf.2.2.2.2.2 28 = some (.aload_n 0, 1, 0, 0, 0, 0) := by decide +kernel
theorem aX12_rankOf_29 : i_at mX12_rankOf.2.2.2.2.2 29 = some (.getfield 13, 3, 11, 2, 1089, 0) := by decide +kernel
theorem aX12_rankOf_32 : i_at mX12_rankOf.2.2.2.2.2 32 = some (.iload_n 3, 1, 0, 0, 0, 0) := by decide +kernel
theorem aX12_rankOf_33 : i_at mX12_rankOf.2.2.2.2.2 33 = some (.iaload, 1, 0, 0, 0, 0) := by decide +kernel
theorem aX12_rankOf_34 : i_at mX12_rankOf.2.2.2.2.2 34 = some (.goto 4, 3, 38, 0, 0, 0) := by decide +kernel
theorem aX12_rankOf_37 : i_at mX12_rankOf.2.2.2.2.2 37 = some (.iconst 0, 1, 0, 0, 0, 0) := by decide +kernel
theorem aX12_rankOf_38 : i_at mX12_rankOf.2.2.2.2.2 38 = some (.iadd, 1, 0, 0, 0, 0) := by decide +kernel
theorem aX12_rankOf_39 : i_at mX12_rankOf.2.2.2.2.2 39 = some (.istore_n 2, 1, 0, 0, 0, 0) := by decide +kernel
theorem aX12_rankOf_40 : i_at mX12_rankOf.2.2.2.2.2 40 = some (.iinc 3 1, 3, 0, 0, 0, 0) := by decide +kernel
theorem aX12_rankOf_43 : i_at mX12_rankOf.2.2.2.2.2 43 = some (.goto (-39), 3, 4, 0, 0, 0) := by decide +kernel
theorem aX12_rankOf_46 : i_at mX12_rankOf.2.2.2.2.2 46 = some (.iload_n 2, 1, 0, 0, 0, 0) := by decide +kernel
theorem aX12_rankOf_47 : i_at mX12_rankOf.2.2.2.2.2 47 = some (.ireturn, 1, 0, 0, 0, 0) := by decide +kernel
noncomputable def fX12_rankOf_J38 (sh : List kd) (p1 : Int32) (x1 : Int32) (x2 : Int32) (s59 : St) (k4 : Int32 → Int32 → St → Option (Int32 × St)) (x111 : Int32) : Option (Int32 × St) := k4 (x1 + x111) (x2 + 1) s59
noncomputable def fX12_rankOf_L4 (sh : List kd) (p1 : Int32) : Nat → Int32 → Int32 → St → Option (Int32 × St)
  | 0, _, _, _ => none
  | n4 + 1, x1, x2, s3 => if i_ok 2 11 then if (s3.2.1 1 (2 : Int32).toNatClampNeg) ≤ x2 then some (x1, s3) else if i_ok p1 6 then i_bd (fX12_has sh s3 (s3.2.1 8 p1.toNatClampNeg) x2) (fun r58 s59 => if r58 = 0 then fX12_rankOf_J38 sh p1 x1 x2 s59 (fX12_rankOf_L4 sh p1 n4) 0 else if i_ok x2 6 then fX12_rankOf_J38 sh p1 x1 x2 s59 (fX12_rankOf_L4 sh p1 n4) (s59.2.1 2 x2.toNatClampNeg) else none) else none else none
noncomputable def fX12_rankOf (sh : List kd) (σ : St) (p1 : Int32) : Option (Int32 × St) := fX12_rankOf_L4 sh p1 i_F 0 0 σ
set_option maxRecDepth 20000 in
set_option maxHeartbeats 2000000 in
theorem tX12_rankOf_J38 {sh : List kd} {τ : St} {r : Int32} (hsh : rmSh sh) {p1 : Int32} {x1 : Int32} {x2 : Int32} {s59 : St} {x111 : Int32} {k4 : Int32 → Int32 → St → Option (Int32 × St)} (hk4 : ∀ (x1 : Int32) (x2 : Int32) (s3 : St), k4 x1 x2 s3 = some (r, τ) → g_R sh 1 mX12_rankOf (some (.int r)) τ 4 [.ref 0, .int p1, .int x1, .int x2] [] (s3)) (hE : fX12_rankOf_J38 sh p1 x1 x2 s59 k4 x111 = some (r, τ)) : g_R sh 1 mX12_rankOf (some (.int r)) τ 38 [.ref 0, .int p1, .int x1, .int x2] [.int x111, .int x1] (s59) := by
  unfold fX12_rankOf_J38 at hE
  refine g_iadd aX12_rankOf_38 ?_
  refine g_stin (loc2 := [.ref 0, .int p1, .int (x1 + x111), .int x2]) aX12_rankOf_39 (Nat.le_of_ble_eq_true rfl) rfl ?_
  refine g_iinc (y := 1) (loc2 := [.ref 0, .int p1, .int (x1 + x111), .int (x2 + 1)]) aX12_rankOf_40 rfl rfl rfl ?_
  refine g_goto aX12_rankOf_43 ?_
  exact hk4 _ _ _ hE
set_option maxRecDepth 20000 in
set_option maxHeartbeats 2000000 in
theorem tX12_rankOf_L4 {sh : List kd} {τ : St} {r : Int32} (hsh : rmSh sh) {p1 : Int32} : ∀ (n0 : Nat) (x1 : Int32) (x2 : Int32) (s3 : St), fX12_rankOf_L4 sh p1 n0 x1 x2 s3 = some (r, τ) → g_R sh 1 mX12_rankOf (some (.int r)) τ 4 [.ref 0, .int p1, .int x1, .int x2] [] (s3) := by
  intro n0
  induction n0 with
  | zero => intro _ _ _ hE; cases hE
  | succ n4 ih =>
    intro x1 x2 s3 hE
    unfold fX12_rankOf_L4 at hE
    refine g_ldin aX12_rankOf_4 rfl ?_
    refine g_ldan aX12_rankOf_5 rfl ?_
    refine g_getR aX12_rankOf_6 (sR_0 hsh) rfl ?_
    refine g_iconst (x := 2) aX12_rankOf_9 rfl ?_
    obtain ⟨h5, hE⟩ := i_ifn hE
    refine g_ild aX12_rankOf_10 (sR_1 hsh) h5 ?_
    by_cases hc56 : (s3.2.1 1 (2 : Int32).toNatClampNeg) ≤ x2
    · rw [if_pos hc56] at hE
      refine g_ic_ge_t aX12_rankOf_11 hc56 ?_
      refine g_ldin aX12_rankOf_46 rfl ?_
      obtain ⟨rfl, rfl⟩ := i_some_inj hE
      exact g_iret aX12_rankOf_47 rfl rfl
    · rw [if_neg hc56] at hE
      refine g_ic_ge_f aX12_rankOf_11 hc56 ?_
      refine g_ldin aX12_rankOf_14 rfl ?_
      refine g_ldan aX12_rankOf_15 rfl ?_
      refine g_getR aX12_rankOf_16 (sR_0 hsh) rfl ?_
      refine g_ldin aX12_rankOf_19 rfl ?_
      obtain ⟨h57, hE⟩ := i_ifn hE
      refine g_ild aX12_rankOf_20 (sR_8 hsh) h57 ?_
      refine g_ldin aX12_rankOf_21 rfl ?_
      obtain ⟨r58, s59, h60, hE⟩ := i_bd_some hE
      refine g_calS (As := [.int (s3.2.1 8 p1.toNatClampNeg), .int x2]) (rest := [.int x1]) aX12_rankOf_22 (i_X_mono (by omega) (tX12_has hsh h60)) rfl rfl (Nat.le_of_ble_eq_true rfl) rfl ?_
      by_cases hc112 : r58 = 0
      · rw [if_pos hc112] at hE
        refine g_if_eq_t aX12_rankOf_25 hc112 ?_
        refine g_iconst (x := 0) aX12_rankOf_37 rfl ?_
        exact tX12_rankOf_J38 hsh ih hE
      · rw [if_neg hc112] at hE
        refine g_if_eq_f aX12_rankOf_25 hc112 ?_
        refine g_ldan aX12_rankOf_28 rfl ?_
        refine g_getR aX12_rankOf_29 (sR_0 hsh) rfl ?_
        refine g_ldin aX12_rankOf_32 rfl ?_
        obtain ⟨h113, hE⟩ := i_ifn hE
        refine g_ild aX12_rankOf_33 (sR_2 hsh) h113 ?_
        refine g_goto aX12_rankOf_34 ?_
        exact tX12_rankOf_J38 hsh ih hE
set_option maxRecDepth 20000 in
set_option maxHeartbeats 2000000 in
theorem tX12_rankOf {sh : List kd} {σ τ : St} {r : Int32} (hsh : rmSh sh) {p1 : Int32} (hE : fX12_rankOf sh σ p1 = some (r, τ)) : i_X 2 177 [.ref 0, .int p1] (s_h sh σ) 0 0 (some (.int r)) (s_h sh τ) := by
  refine g_X (M := mX12_rankOf) (loc := [.ref 0, .int p1, .retAddr 0, .retAddr 0]) rfl (Nat.le_of_ble_eq_true rfl) rfl ?_
  unfold fX12_rankOf at hE
  refine g_iconst (x := 0) aX12_rankOf_0 rfl ?_
  refine g_stin (loc2 := [.ref 0, .int p1, .int 0, .retAddr 0]) aX12_rankOf_1 (Nat.le_of_ble_eq_true rfl) rfl ?_
  refine g_iconst (x := 0) aX12_rankOf_2 rfl ?_
  refine g_stin (loc2 := [.ref 0, .int p1, .int 0, .int 0]) aX12_rankOf_3 (Nat.le_of_ble_eq_true rfl) rfl ?_
  exact tX12_rankOf_L4 hsh i_F _ _ _ hE
theorem aX12_person_0 : i_at mX12_person.2.2.2.2.2 0 = some (.aload_n 0, 1, 0, 0, 0, 0) := by decide +kernel
theorem aX12_person_1 : i_at mX12_person.2.2.2.2.2 1 = some (.iload_n 1, 1, 0, 0, 0, 0) := by decide +kernel
theorem aX12_person_2 : i_at mX12_person.2.2.2.2.2 2 = some (.invokevirtual 351, 3, 132, 1, 1446, 0) := by decide +kernel
theorem aX12_person_5 : i_at mX12_person.2.2.2.2.2 5 = some (.ifCond .ne 5, 3, 10, 0, 0, 0) := by decide +kernel
theorem aX12_person_8 : i_at mX12_person.2.2.2.2.2 8 = some (.iconst (-1), 1, 0, 0, 0, 0) := by decide +kernel
theorem aX12_person_9 : i_at mX12_person.2.2.2.2.2 9 = some (.ireturn, 1, 0, 0, 0, 0) := by decide +kernel
theorem aX12_person_10 : i_at mX12_person.2.2.2.2.2 10 = some (.iload_n 2, 1, 0, 0, 0, 0) := by decide +kernel
theorem aX12_person_11 : i_at mX12_person.2.2.2.2.2 11 = some (.tableswitch 67 0 4 #[33, 40, 47, 54, 60], 33, 0, 0, 0, 0) := by decide +kernel
theorem aX12_person_44 : i_at mX12_person.2.2.2.2.2 44 = some (.aload_n 0, 1, 0, 0, 0, 0) := by decide +kernel
theorem aX12_person_45 : i_at mX12_person.2.2.2.2.2 45 = some (.getfield 25, 3, 11, 6, 1093, 0) := by decide +kernel
theorem aX12_person_48 : i_at mX12_person.2.2.2.2.2 48 = some (.iload_n 1, 1, 0, 0, 0, 0) := by decide +kernel
theorem aX12_person_49 : i_at mX12_person.2.2.2.2.2 49 = some (.iaload, 1, 0, 0, 0, 0) := by decide +kernel
theorem aX12_person_50 : i_at mX12_person.2.2.2.2.2 50 = some (.ireturn, 1, 0, 0, 0, 0) := by decide +kernel
theorem aX12_person_51 : i_at mX12_person.2.2.2.2.2 51 = some (.aload_n 0, 1, 0, 0, 0, 0) := by decide +kernel
theorem aX12_person_52 : i_at mX12_person.2.2.2.2.2 52 = some (.getfield 28, 3, 11, 7, 1094, 0) := by decide +kernel
theorem aX12_person_55 : i_at mX12_person.2.2.2.2.2 55 = some (.iload_n 1, 1, 0, 0, 0, 0) := by decide +kernel
theorem aX12_person_56 : i_at mX12_person.2.2.2.2.2 56 = some (.iaload, 1, 0, 0, 0, 0) := by decide +kernel
theorem aX12_person_57 : i_at mX12_person.2.2.2.2.2 57 = some (.ireturn, 1, 0, 0, 0, 0) := by decide +kernel
theorem aX12_person_58 : i_at mX12_person.2.2.2.2.2 58 = some (.aload_n 0, 1, 0, 0, 0, 0) := by decide +kernel
theorem aX12_person_59 : i_at mX12_person.2.2.2.2.2 59 = some (.getfield 31, 3, 11, 8, 1095, 0) := by decide +kernel
theorem aX12_person_62 : i_at mX12_person.2.2.2.2.2 62 = some (.iload_n 1, 1, 0, 0, 0, 0) := by decide +kernel
theorem aX12_person_63 : i_at mX12_person.2.2.2.2.2 63 = some (.iaload, 1, 0, 0, 0, 0) := by decide +kernel
theorem aX12_person_64 : i_at mX12_person.2.2.2.2.2 64 = some (.ireturn, 1, 0, 0, 0, 0) := by decide +kernel
theorem aX12_person_65 : i_at mX12_person.2.2.2.2.2 65 = some (.aload_n 0, 1, 0, 0, 0, 0) := by decide +kernel
theorem aX12_person_66 : i_at mX12_person.2.2.2.2.2 66 = some (.iload_n 1, 1, 0, 0, 0, 0) := by decide +kernel
theorem aX12_person_67 : i_at mX12_person.2.2.2.2.2 67 = some (.invokevirtual 354, 3, 177, 1, 1450, 0) := by decide +kernel
theorem aX12_person_70 : i_at mX12_person.2.2.2.2.2 70 = some (.ireturn, 1, 0, 0, 0, 0) := by decide +kernel
theorem aX12_person_71 : i_at mX12_person.2.2.2.2.2 71 = some (.aload_n 0, 1, 0, 0, 0, 0) := by decide +kernel
theorem aX12_person_72 : i_at mX12_person.2.2.2.2.2 72 = some (.getfield 34, 3, 11, 9, 1096, 0) := by decide +kernel
theorem aX12_person_75 : i_at mX12_person.2.2.2.2.2 75 = some (.iload_n 1, 1, 0, 0, 0, 0) := by decide +kernel
theorem aX12_person_76 : i_at mX12_person.2.2.2.2.2 76 = some (.iaload, 1, 0, 0, 0, 0) := by decide +kernel
theorem aX12_person_77 : i_at mX12_person.2.2.2.2.2 77 = some (.ireturn, 1, 0, 0, 0, 0) := by decide +kernel
theorem aX12_person_78 : i_at mX12_person.2.2.2.2.2 78 = some (.iconst (-1), 1, 0, 0, 0, 0) := by decide +kernel
theorem aX12_person_79 : i_at mX12_person.2.2.2.2.2 79 = some (.ireturn, 1, 0, 0, 0, 0) := by decide +kernel
noncomputable def fX12_person (sh : List kd) (σ : St) (p1 : Int32) (p2 : Int32) : Option (Int32 × St) := i_bd (fX12_isPerson sh σ p1) (fun r1 s2 => if ¬ r1 = 0 then if p2 = 0 then if i_ok p1 6 then some ((s2.2.1 6 p1.toNatClampNeg), s2) else none else if p2 = 1 then if i_ok p1 6 then some ((s2.2.1 7 p1.toNatClampNeg), s2) else none else if p2 = 2 then if i_ok p1 6 then some ((s2.2.1 8 p1.toNatClampNeg), s2) else none else if p2 = 3 then i_bd (fX12_rankOf sh s2 p1) (fun r12 s13 => some (r12, s13)) else if p2 = 4 then if i_ok p1 6 then some ((s2.2.1 9 p1.toNatClampNeg), s2) else none else some ((-1), s2) else some ((-1), s2))
set_option maxRecDepth 20000 in
set_option maxHeartbeats 2000000 in
theorem tX12_person {sh : List kd} {σ τ : St} {r : Int32} (hsh : rmSh sh) {p1 : Int32} {p2 : Int32} (hE : fX12_person sh σ p1 p2 = some (r, τ)) : i_X 3 178 [.ref 0, .int p1, .int p2] (s_h sh σ) 0 0 (some (.int r)) (s_h sh τ) := by
  refine g_X (M := mX12_person) (loc := [.ref 0, .int p1, .int p2]) rfl (Nat.le_of_ble_eq_true rfl) rfl ?_
  unfold fX12_person at hE
  refine g_ldan aX12_person_0 rfl ?_
  refine g_ldin aX12_person_1 rfl ?_
  obtain ⟨r1, s2, h3, hE⟩ := i_bd_some hE
  refine g_calV (As := [.int p1]) (rest := []) aX12_person_2 (i_X_mono (by omega) (tX12_isPerson hsh h3)) (sR_0 hsh) (by decide +kernel) rfl rfl (Nat.le_of_ble_eq_true rfl) rfl ?_
  by_cases hc4 : ¬ r1 = 0
  · rw [if_pos hc4] at hE
    refine g_if_ne_t aX12_person_5 hc4 ?_
    refine g_ldin aX12_person_10 rfl ?_
    by_cases hc5 : p2 = 0
    · rw [if_pos hc5] at hE
      refine g_tabIn (i := 0) aX12_person_11 (by rw [hc5]; decide) (by decide) rfl rfl ?_
      refine g_ldan aX12_person_44 rfl ?_
      refine g_getR aX12_person_45 (sR_0 hsh) rfl ?_
      refine g_ldin aX12_person_48 rfl ?_
      obtain ⟨h6, hE⟩ := i_ifn hE
      refine g_ild aX12_person_49 (sR_6 hsh) h6 ?_
      obtain ⟨rfl, rfl⟩ := i_some_inj hE
      exact g_iret aX12_person_50 rfl rfl
    · rw [if_neg hc5] at hE
      by_cases hc7 : p2 = 1
      · rw [if_pos hc7] at hE
        refine g_tabIn (i := 1) aX12_person_11 (by rw [hc7]; decide) (by decide) rfl rfl ?_
        refine g_ldan aX12_person_51 rfl ?_
        refine g_getR aX12_person_52 (sR_0 hsh) rfl ?_
        refine g_ldin aX12_person_55 rfl ?_
        obtain ⟨h8, hE⟩ := i_ifn hE
        refine g_ild aX12_person_56 (sR_7 hsh) h8 ?_
        obtain ⟨rfl, rfl⟩ := i_some_inj hE
        exact g_iret aX12_person_57 rfl rfl
      · rw [if_neg hc7] at hE
        by_cases hc9 : p2 = 2
        · rw [if_pos hc9] at hE
          refine g_tabIn (i := 2) aX12_person_11 (by rw [hc9]; decide) (by decide) rfl rfl ?_
          refine g_ldan aX12_person_58 rfl ?_
          refine g_getR aX12_person_59 (sR_0 hsh) rfl ?_
          refine g_ldin aX12_person_62 rfl ?_
          obtain ⟨h10, hE⟩ := i_ifn hE
          refine g_ild aX12_person_63 (sR_8 hsh) h10 ?_
          obtain ⟨rfl, rfl⟩ := i_some_inj hE
          exact g_iret aX12_person_64 rfl rfl
        · rw [if_neg hc9] at hE
          by_cases hc11 : p2 = 3
          · rw [if_pos hc11] at hE
            refine g_tabIn (i := 3) aX12_person_11 (by rw [hc11]; decide) (by decide) rfl rfl ?_
            refine g_ldan aX12_person_65 rfl ?_
            refine g_ldin aX12_person_66 rfl ?_
            obtain ⟨r12, s13, h14, hE⟩ := i_bd_some hE
            refine g_calV (As := [.int p1]) (rest := []) aX12_person_67 (i_X_mono (by omega) (tX12_rankOf hsh h14)) (sR_0 hsh) (by decide +kernel) rfl rfl (Nat.le_of_ble_eq_true rfl) rfl ?_
            obtain ⟨rfl, rfl⟩ := i_some_inj hE
            exact g_iret aX12_person_70 rfl rfl
          · rw [if_neg hc11] at hE
            by_cases hc15 : p2 = 4
            · rw [if_pos hc15] at hE
              refine g_tabIn (i := 4) aX12_person_11 (by rw [hc15]; decide) (by decide) rfl rfl ?_
              refine g_ldan aX12_person_71 rfl ?_
              refine g_getR aX12_person_72 (sR_0 hsh) rfl ?_
              refine g_ldin aX12_person_75 rfl ?_
              obtain ⟨h16, hE⟩ := i_ifn hE
              refine g_ild aX12_person_76 (sR_9 hsh) h16 ?_
              obtain ⟨rfl, rfl⟩ := i_some_inj hE
              exact g_iret aX12_person_77 rfl rfl
            · rw [if_neg hc15] at hE
              have hto17 : p2.toInt < ((0 : Nat) : Int) ∨ ((4 : Nat) : Int) < p2.toInt := by
                refine i_tabo (x := p2) 0 4 (by decide) (fun k k1 k2 => ?_)
                rcases (show k = 0 ∨ k = 1 ∨ k = 2 ∨ k = 3 ∨ k = 4 by omega) with rfl | rfl | rfl | rfl | rfl
                · exact fun hz => hc5 hz
                · exact fun hz => hc7 hz
                · exact fun hz => hc9 hz
                · exact fun hz => hc11 hz
                · exact fun hz => hc15 hz
              refine g_tabOut aX12_person_11 hto17 rfl ?_
              refine g_iconst (x := (-1)) aX12_person_78 rfl ?_
              obtain ⟨rfl, rfl⟩ := i_some_inj hE
              exact g_iret aX12_person_79 rfl rfl
  · rw [if_neg hc4] at hE
    refine g_if_ne_f aX12_person_5 hc4 ?_
    refine g_iconst (x := (-1)) aX12_person_8 rfl ?_
    obtain ⟨rfl, rfl⟩ := i_some_inj hE
    exact g_iret aX12_person_9 rfl rfl
theorem aX12_knights_0 : i_at mX12_knights.2.2.2.2.2 0 = some (.iconst 0, 1, 0, 0, 0, 0) := by decide +kernel
theorem aX12_knights_1 : i_at mX12_knights.2.2.2.2.2 1 = some (.istore_n 1, 1, 0, 0, 0, 0) := by decide +kernel
theorem aX12_knights_2 : i_at mX12_knights.2.2.2.2.2 2 = some (.iconst 0, 1, 0, 0, 0, 0) := by decide +kernel
theorem aX12_knights_3 : i_at mX12_knights.2.2.2.2.2 3 = some (.istore_n 2, 1, 0, 0, 0, 0) := by decide +kernel
theorem aX12_knights_4 : i_at mX12_knights.2.2.2.2.2 4 = some (.iload_n 2, 1, 0, 0, 0, 0) := by decide +kernel
theorem aX12_knights_5 : i_at mX12_knights.2.2.2.2.2 5 = some (.aload_n 0, 1, 0, 0, 0, 0) := by decide +kernel
theorem aX12_knights_6 : i_at mX12_knights.2.2.2.2.2 6 = some (.getfield 9, 3, 11, 1, 1088, 0) := by decide +kernel
theorem aX12_knights_9 : i_at mX12_knights.2.2.2.2.2 9 = some (.iconst 3, 1, 0, 0, 0, 0) := by decide +kernel
theorem aX12_knights_10 : i_at mX12_knights.2.2.2.2.2 10 = some (.iaload, 1, 0, 0, 0, 0) := by decide +kernel
theorem aX12_knights_11 : i_at mX12_knights.2.2.2.2.2 11 = some (.if_icmp .ge 28, 3, 39, 0, 0, 0) := by decide +kernel
theorem aX12_knights_14 : i_at mX12_knights.2.2.2.2.2 14 = some (.iload_n 1, 1, 0, 0, 0, 0) := by decide +kernel
theorem aX12_knights_15 : i_at mX12_knights.2.2.2.2.2 15 = some (.aload_n 0, 1, 0, 0, 0, 0) := by decide +kernel
theorem aX12_knights_16 : i_at mX12_knights.2.2.2.2.2 16 = some (.getfield 31, 3, 11, 8, 1095, 0) := by decide +kernel
theorem aX12_knights_19 : i_at mX12_knights.2.2.2.2.2 19 = some (.iload_n 2, 1, 0, 0, 0, 0) := by decide +kernel
theorem aX12_knights_20 : i_at mX12_knights.2.2.2.2.2 20 = some (.iaload, 1, 0, 0, 0, 0) := by decide +kernel
theorem aX12_knights_21 : i_at mX12_knights.2.2.2.2.2 21 = some (.ifCond .eq 9, 3, 30, 0, 0, 0) := by decide +kernel
theorem aX12_knights_24 : i_at mX12_knights.2.2.2.2.2 24 = some (.iconst 1, 1, 0, 0, 0, 0) := by decide +kernel
theorem aX12_knights_25 : i_at mX12_knights.2.2.2.2.2 25 = some (.iload_n 2, 1, 0, 0, 0, 0) := by decide +kernel
theorem aX12_knights_26 : i_at mX12_knights.2.2.2.2.2 26 = some (.ishl, 1, 0, 0, 0, 0) := by decide +kernel
theorem aX12_knights_27 : i_at mX12_knights.2.2.2.2.2 27 = some (.goto 4, 3, 31, 0, 0, 0) := by decide +kernel
theorem aX12_knights_30 : i_at mX12_knights.2.2.2.2.2 30 = some (.iconst 0, 1, 0, 0, 0, 0) := by decide +kernel
theorem aX12_knights_31 : i_at mX12_knights.2.2.2.2.2 31 = some (.ior, 1, 0, 0, 0, 0) := by decide +kernel
theorem aX12_knights_32 : i_at mX12_knights.2.2.2.2.2 32 = some (.istore_n 1, 1, 0, 0, 0, 0) := by decide +kernel
theorem aX12_knights_33 : i_at mX12_knights.2.2.2.2.2 33 = some (.iinc 2 1, 3, 0, 0, 0, 0) := by decide +kernel
theorem aX12_knights_36 : i_at mX12_knights.2.2.2.2.2 36 = some (.goto (-32), 3, 4, 0, 0, 0) := by decide +kernel
theorem aX12_knights_39 : i_at mX12_knights.2.2.2.2.2 39 = some (.iload_n 1, 1, 0, 0, 0, 0) := by decide +kernel
theorem aX12_knights_40 : i_at mX12_knights.2.2.2.2.2 40 = some (.ireturn, 1, 0, 0, 0, 0) := by decide +kernel
noncomputable def fX12_knights_L4 (sh : List kd) (σ : St) : Nat → Int32 → Int32 → Option (Int32 × St)
  | 0, _, _ => none
  | n3 + 1, x1, x2 => if i_ok 3 11 then if (σ.2.1 1 (3 : Int32).toNatClampNeg) ≤ x2 then some (x1, σ) else if i_ok x2 6 then (fX12_knights_L4 sh σ n3 (x1 ||| ((if (σ.2.1 8 x2.toNatClampNeg) = 0 then 0 else (1 <<< (x2 &&& 31))) : Int32)) (x2 + 1)) else none else none
noncomputable def fX12_knights (sh : List kd) (σ : St) : Option (Int32 × St) := fX12_knights_L4 sh σ i_F 0 0
set_option maxRecDepth 20000 in
set_option maxHeartbeats 2000000 in
theorem tX12_knights_L4 {sh : List kd} {τ : St} {r : Int32} (hsh : rmSh sh) {σ : St} : ∀ (n0 : Nat) (x1 : Int32) (x2 : Int32), fX12_knights_L4 sh σ n0 x1 x2 = some (r, τ) → g_R sh 0 mX12_knights (some (.int r)) τ 4 [.ref 0, .int x1, .int x2] [] (σ) := by
  intro n0
  induction n0 with
  | zero => intro _ _ hE; cases hE
  | succ n3 ih =>
    intro x1 x2 hE
    unfold fX12_knights_L4 at hE
    refine g_ldin aX12_knights_4 rfl ?_
    refine g_ldan aX12_knights_5 rfl ?_
    refine g_getR aX12_knights_6 (sR_0 hsh) rfl ?_
    refine g_iconst (x := 3) aX12_knights_9 rfl ?_
    obtain ⟨h4, hE⟩ := i_ifn hE
    refine g_ild aX12_knights_10 (sR_1 hsh) h4 ?_
    by_cases hc55 : (σ.2.1 1 (3 : Int32).toNatClampNeg) ≤ x2
    · rw [if_pos hc55] at hE
      refine g_ic_ge_t aX12_knights_11 hc55 ?_
      refine g_ldin aX12_knights_39 rfl ?_
      obtain ⟨rfl, rfl⟩ := i_some_inj hE
      exact g_iret aX12_knights_40 rfl rfl
    · rw [if_neg hc55] at hE
      refine g_ic_ge_f aX12_knights_11 hc55 ?_
      refine g_ldin aX12_knights_14 rfl ?_
      refine g_ldan aX12_knights_15 rfl ?_
      refine g_getR aX12_knights_16 (sR_0 hsh) rfl ?_
      refine g_ldin aX12_knights_19 rfl ?_
      obtain ⟨h56, hE⟩ := i_ifn hE
      refine g_ild aX12_knights_20 (sR_8 hsh) h56 ?_
      have hJ : g_R sh 0 mX12_knights (some (.int r)) τ 31 [.ref 0, .int x1, .int x2] [.int ((if (σ.2.1 8 x2.toNatClampNeg) = 0 then 0 else (1 <<< (x2 &&& 31))) : Int32), .int x1] (σ) := by
        refine g_ior aX12_knights_31 ?_
        refine g_stin (loc2 := [.ref 0, .int (x1 ||| ((if (σ.2.1 8 x2.toNatClampNeg) = 0 then 0 else (1 <<< (x2 &&& 31))) : Int32)), .int x2]) aX12_knights_32 (Nat.le_of_ble_eq_true rfl) rfl ?_
        refine g_iinc (y := 1) (loc2 := [.ref 0, .int (x1 ||| ((if (σ.2.1 8 x2.toNatClampNeg) = 0 then 0 else (1 <<< (x2 &&& 31))) : Int32)), .int (x2 + 1)]) aX12_knights_33 rfl rfl rfl ?_
        refine g_goto aX12_knights_36 ?_
        exact ih _ _ hE
      clear hE
      by_cases hc56 : (σ.2.1 8 x2.toNatClampNeg) = 0
      · (try rw [if_pos hc56] at hJ)
        refine g_if_eq_t aX12_knights_21 hc56 ?_
        refine g_iconst (x := 0) aX12_knights_30 rfl ?_
        exact hJ
      · (try rw [if_neg hc56] at hJ)
        refine g_if_eq_f aX12_knights_21 hc56 ?_
        refine g_iconst (x := 1) aX12_knights_24 rfl ?_
        refine g_ldin aX12_knights_25 rfl ?_
        refine g_ishl aX12_knights_26 ?_
        refine g_goto aX12_knights_27 ?_
        exact hJ
set_option maxRecDepth 20000 in
set_option maxHeartbeats 2000000 in
theorem tX12_knights {sh : List kd} {σ τ : St} {r : Int32} (hsh : rmSh sh) (hE : fX12_knights sh σ = some (r, τ)) : i_X 1 179 [.ref 0] (s_h sh σ) 0 0 (some (.int r)) (s_h sh τ) := by
  refine g_X (M := mX12_knights) (loc := [.ref 0, .retAddr 0, .retAddr 0]) rfl (Nat.le_of_ble_eq_true rfl) rfl ?_
  unfold fX12_knights at hE
  refine g_iconst (x := 0) aX12_knights_0 rfl ?_
  refine g_stin (loc2 := [.ref 0, .int 0, .retAddr 0]) aX12_knights_1 (Nat.le_of_ble_eq_true rfl) rfl ?_
  refine g_iconst (x := 0) aX12_knights_2 rfl ?_
  refine g_stin (loc2 := [.ref 0, .int 0, .int 0]) aX12_knights_3 (Nat.le_of_ble_eq_true rfl) rfl ?_
  exact tX12_knights_L4 hsh i_F _ _ hE
theorem aX12_upTo_0 : i_at mX12_upTo.2.2.2.2.2 0 = some (.iload_n 0, 1, 0, 0, 0, 0) := by decide +kernel
theorem aX12_upTo_1 : i_at mX12_upTo.2.2.2.2.2 1 = some (.iload_n 1, 1, 0, 0, 0, 0) := by decide +kernel
theorem aX12_upTo_2 : i_at mX12_upTo.2.2.2.2.2 2 = some (.if_icmp .le 7, 3, 9, 0, 0, 0) := by decide +kernel
theorem aX12_upTo_5 : i_at mX12_upTo.2.2.2.2.2 5 = some (.iload_n 1, 1, 0, 0, 0, 0) := by decide +kernel
theorem aX12_upTo_6 : i_at mX12_upTo.2.2.2.2.2 6 = some (.goto 4, 3, 10, 0, 0, 0) := by decide +kernel
theorem aX12_upTo_9 : i_at mX12_upTo.2.2.2.2.2 9 = some (.iload_n 0, 1, 0, 0, 0, 0) := by decide +kernel
theorem aX12_upTo_10 : i_at mX12_upTo.2.2.2.2.2 10 = some (.ireturn, 1, 0, 0, 0, 0) := by decide +kernel
noncomputable def fX12_upTo (sh : List kd) (σ : St) (p0 : Int32) (p1 : Int32) : Option (Int32 × St) := some (((if p0 ≤ p1 then p0 else p1) : Int32), σ)
set_option maxRecDepth 20000 in
set_option maxHeartbeats 2000000 in
theorem tX12_upTo {sh : List kd} {σ τ : St} {r : Int32} (hsh : rmSh sh) {p0 : Int32} {p1 : Int32} (hE : fX12_upTo sh σ p0 p1 = some (r, τ)) : i_X 1 182 [.int p0, .int p1] (s_h sh σ) 0 0 (some (.int r)) (s_h sh τ) := by
  refine g_X (M := mX12_upTo) (loc := [.int p0, .int p1]) rfl (Nat.le_of_ble_eq_true rfl) rfl ?_
  unfold fX12_upTo at hE
  refine g_ldin aX12_upTo_0 rfl ?_
  refine g_ldin aX12_upTo_1 rfl ?_
  have hJ : g_R sh 0 mX12_upTo (some (.int r)) τ 10 [.int p0, .int p1] [.int ((if p0 ≤ p1 then p0 else p1) : Int32)] (σ) := by
    obtain ⟨rfl, rfl⟩ := i_some_inj hE
    exact g_iret aX12_upTo_10 rfl rfl
  clear hE
  by_cases hc0 : p0 ≤ p1
  · (try rw [if_pos hc0] at hJ)
    refine g_ic_le_t aX12_upTo_2 hc0 ?_
    refine g_ldin aX12_upTo_9 rfl ?_
    exact hJ
  · (try rw [if_neg hc0] at hJ)
    refine g_ic_le_f aX12_upTo_2 hc0 ?_
    refine g_ldin aX12_upTo_5 rfl ?_
    refine g_goto aX12_upTo_6 ?_
    exact hJ
theorem aX12_moves_0 : i_at mX12_moves.2.2.2.2.2 0 = some (.aload_n 0, 1, 0, 0, 0, 0) := by decide +kernel
theorem aX12_moves_1 : i_at mX12_moves.2.2.2.2.2 1 = some (.getfield 378, 3, 11, 43, 1130, 0) := by decide +kernel
theorem aX12_moves_4 : i_at mX12_moves.2.2.2.2.2 4 = some (.ifCond .eq 15, 3, 19, 0, 0, 0) := by decide +kernel
theorem aX12_moves_7 : i_at mX12_moves.2.2.2.2.2 7 = some (.aload_n 0, 1, 0, 0, 0, 0) := by decide +kernel
theorem aX12_moves_8 : i_at mX12_moves.2.2.2.2.2 8 = some (.getfield 100, 3, 11, 39, 1126, 0) := by decide +kernel
theorem aX12_moves_11 : i_at mX12_moves.2.2.2.2.2 11 = some (.aload_n 0, 1, 0, 0, 0, 0) := by decide +kernel
theorem aX12_moves_12 : i_at mX12_moves.2.2.2.2.2 12 = some (.getfield 382, 3, 11, 42, 1129, 0) := by decide +kernel
theorem aX12_moves_15 : i_at mX12_moves.2.2.2.2.2 15 = some (.iaload, 1, 0, 0, 0, 0) := by decide +kernel
theorem aX12_moves_16 : i_at mX12_moves.2.2.2.2.2 16 = some (.goto 4, 3, 20, 0, 0, 0) := by decide +kernel
theorem aX12_moves_19 : i_at mX12_moves.2.2.2.2.2 19 = some (.iload_n 1, 1, 0, 0, 0, 0) := by decide +kernel
theorem aX12_moves_20 : i_at mX12_moves.2.2.2.2.2 20 = some (.istore_n 2, 1, 0, 0, 0, 0) := by decide +kernel
theorem aX12_moves_21 : i_at mX12_moves.2.2.2.2.2 21 = some (.aload_n 0, 1, 0, 0, 0, 0) := by decide +kernel
theorem aX12_moves_22 : i_at mX12_moves.2.2.2.2.2 22 = some (.getfield 100, 3, 11, 39, 1126, 0) := by decide +kernel
theorem aX12_moves_25 : i_at mX12_moves.2.2.2.2.2 25 = some (.aload_n 0, 1, 0, 0, 0, 0) := by decide +kernel
theorem aX12_moves_26 : i_at mX12_moves.2.2.2.2.2 26 = some (.getfield 382, 3, 11, 42, 1129, 0) := by decide +kernel
theorem aX12_moves_29 : i_at mX12_moves.2.2.2.2.2 29 = some (.iload_n 2, 1, 0, 0, 0, 0) := by decide +kernel
theorem aX12_moves_30 : i_at mX12_moves.2.2.2.2.2 30 = some (.iastore, 1, 0, 0, 0, 0) := by decide +kernel
theorem aX12_moves_31 : i_at mX12_moves.2.2.2.2.2 31 = some (.aload_n 0, 1, 0, 0, 0, 0) := by decide +kernel
theorem aX12_moves_32 : i_at mX12_moves.2.2.2.2.2 32 = some (.dup, 1, 0, 0, 0, 0) := by decide +kernel
theorem aX12_moves_33 : i_at mX12_moves.2.2.2.2.2 33 = some (.getfield 382, 3, 11, 42, 1129, 0) := by decide +kernel
theorem aX12_moves_36 : i_at mX12_moves.2.2.2.2.2 36 = some (.iconst 1, 1, 0, 0, 0, 0) := by decide +kernel
theorem aX12_moves_37 : i_at mX12_moves.2.2.2.2.2 37 = some (.iadd, 1, 0, 0, 0, 0) := by decide +kernel
theorem aX12_moves_38 : i_at mX12_moves.2.2.2.2.2 38 = some (.putfield 382, 3, 11, 42, 1129, 0) := by decide +kernel
theorem aX12_moves_41 : i_at mX12_moves.2.2.2.2.2 41 = some (.iload_n 2, 1, 0, 0, 0, 0) := by decide +kernel
theorem aX12_moves_42 : i_at mX12_moves.2.2.2.2.2 42 = some (.ireturn, 1, 0, 0, 0, 0) := by decide +kernel
noncomputable def fX12_moves_J20 (sh : List kd) (p1 : Int32) (σ : St) (x51 : Int32) : Option (Int32 × St) := if i_ok (σ.1 0 42) 560 then some (x51, s_F (s_A σ 29 (σ.1 0 42).toNatClampNeg x51) 0 42 (((s_A σ 29 (σ.1 0 42).toNatClampNeg x51).1 0 42) + 1)) else none
noncomputable def fX12_moves (sh : List kd) (σ : St) (p1 : Int32) : Option (Int32 × St) := if (σ.1 0 43) = 0 then fX12_moves_J20 sh p1 σ p1 else if i_ok (σ.1 0 42) 560 then fX12_moves_J20 sh p1 σ (σ.2.1 29 (σ.1 0 42).toNatClampNeg) else none
set_option maxRecDepth 20000 in
set_option maxHeartbeats 2000000 in
theorem tX12_moves_J20 {sh : List kd} {τ : St} {r : Int32} (hsh : rmSh sh) {p1 : Int32} {σ : St} {x51 : Int32} (hE : fX12_moves_J20 sh p1 σ x51 = some (r, τ)) : g_R sh 0 mX12_moves (some (.int r)) τ 20 [.ref 0, .int p1, .retAddr 0] [.int x51] (σ) := by
  unfold fX12_moves_J20 at hE
  refine g_stin (loc2 := [.ref 0, .int p1, .int x51]) aX12_moves_20 (Nat.le_of_ble_eq_true rfl) rfl ?_
  refine g_ldan aX12_moves_21 rfl ?_
  refine g_getR aX12_moves_22 (sR_0 hsh) rfl ?_
  refine g_ldan aX12_moves_25 rfl ?_
  refine g_getI aX12_moves_26 (sR_0 hsh) rfl ?_
  refine g_ldin aX12_moves_29 rfl ?_
  obtain ⟨h52, hE⟩ := i_ifn hE
  refine g_ist aX12_moves_30 (sR_29 hsh) h52 ?_
  refine g_ldan aX12_moves_31 rfl ?_
  refine g_dupa aX12_moves_32 ?_
  refine g_getI aX12_moves_33 (sR_0 hsh) rfl ?_
  refine g_iconst (x := 1) aX12_moves_36 rfl ?_
  refine g_iadd aX12_moves_37 ?_
  refine g_putI aX12_moves_38 (sR_0 hsh) rfl rfl ?_
  refine g_ldin aX12_moves_41 rfl ?_
  obtain ⟨rfl, rfl⟩ := i_some_inj hE
  exact g_iret aX12_moves_42 rfl rfl
set_option maxRecDepth 20000 in
set_option maxHeartbeats 2000000 in
theorem tX12_moves {sh : List kd} {σ τ : St} {r : Int32} (hsh : rmSh sh) {p1 : Int32} (hE : fX12_moves sh σ p1 = some (r, τ)) : i_X 1 185 [.ref 0, .int p1] (s_h sh σ) 0 0 (some (.int r)) (s_h sh τ) := by
  refine g_X (M := mX12_moves) (loc := [.ref 0, .int p1, .retAddr 0]) rfl (Nat.le_of_ble_eq_true rfl) rfl ?_
  unfold fX12_moves at hE
  refine g_ldan aX12_moves_0 rfl ?_
  refine g_getI aX12_moves_1 (sR_0 hsh) rfl ?_
  by_cases hc53 : (σ.1 0 43) = 0
  · rw [if_pos hc53] at hE
    refine g_if_eq_t aX12_moves_4 hc53 ?_
    refine g_ldin aX12_moves_19 rfl ?_
    exact tX12_moves_J20 hsh hE
  · rw [if_neg hc53] at hE
    refine g_if_eq_f aX12_moves_4 hc53 ?_
    refine g_ldan aX12_moves_7 rfl ?_
    refine g_getR aX12_moves_8 (sR_0 hsh) rfl ?_
    refine g_ldan aX12_moves_11 rfl ?_
    refine g_getI aX12_moves_12 (sR_0 hsh) rfl ?_
    obtain ⟨h54, hE⟩ := i_ifn hE
    refine g_ild aX12_moves_15 (sR_29 hsh) h54 ?_
    refine g_goto aX12_moves_16 ?_
    exact tX12_moves_J20 hsh hE
theorem aX12_movesRow_0 : i_at mX12_movesRow.2.2.2.2.2 0 = some (.iconst 0, 1, 0, 0, 0, 0) := by decide +kernel
theorem aX12_movesRow_1 : i_at mX12_movesRow.2.2.2.2.2 1 = some (.istore_n 2, 1, 0, 0, 0, 0) := by decide +kernel
theorem aX12_movesRow_2 : i_at mX12_movesRow.2.2.2.2.2 2 = some (.iload_n 2, 1, 0, 0, 0, 0) := by decide +kernel
theorem aX12_movesRow_3 : i_at mX12_movesRow.2.2.2.2.2 3 = some (.aload_n 1, 1, 0, 0, 0, 0) := by decide +kernel
theorem aX12_movesRow_4 : i_at mX12_movesRow.2.2.2.2.2 4 = some (.arraylength, 1, 0, 0, 0, 0) := by decide +kernel
theorem aX12_movesRow_5 : i_at mX12_movesRow.2.2.2.2.2 5 = some (.if_icmp .ge 19, 3, 24, 0, 0, 0) := by decide +kernel
theorem aX12_movesRow_8 : i_at mX12_movesRow.2.2.2.2.2 8 = some (.aload_n 1, 1, 0, 0, 0, 0) := by decide +kernel
theorem aX12_movesRow_9 : i_at mX12_movesRow.2.2.2.2.2 9 = some (.iload_n 2, 1, 0, 0, 0, 0) := by decide +kernel
theorem aX12_movesRow_10 : i_at mX12_movesRow.2.2.2.2.2 10 = some (.aload_n 0, 1, 0, 0, 0, 0) := by decide +kernel
theorem aX12_movesRow_11 : i_at mX12_movesRow.2.2.2.2.2 11 = some (.aload_n 1, 1, 0, 0, 0, 0) := by decide +kernel
theorem aX12_movesRow_12 : i_at mX12_movesRow.2.2.2.2.2 12 = some (.iload_n 2, 1, 0, 0, 0, 0) := by decide +kernel
theorem aX12_movesRow_13 : i_at mX12_movesRow.2.2.2.2.2 13 = some (.iaload, 1, 0, 0, 0, 0) := by decide +kernel
theorem aX12_movesRow_14 : i_at mX12_movesRow.2.2.2.2.2 14 = some (.invokevirtual 385, 3, 185, 1, 1465, 0) := by decide +kernel
theorem aX12_movesRow_17 : i_at mX12_movesRow.2.2.2.2.2 17 = some (.iastore, 1, 0, 0, 0, 0) := by decide +kernel
theorem aX12_movesRow_18 : i_at mX12_movesRow.2.2.2.2.2 18 = some (.iinc 2 1, 3, 0, 0, 0, 0) := by decide +kernel
theorem aX12_movesRow_21 : i_at mX12_movesRow.2.2.2.2.2 21 = some (.goto (-19), 3, 2, 0, 0, 0) := by decide +kernel
theorem aX12_movesRow_24 : i_at mX12_movesRow.2.2.2.2.2 24 = some (.return_, 1, 0, 0, 0, 0) := by decide +kernel
noncomputable def fX12_movesRow_L2 (sh : List kd) (p1 : Nat) : Nat → Int32 → St → Option (Unit × St)
  | 0, _, _ => none
  | n3 + 1, x1, s2 => i_al sh .int p1 (fun n4 => if (Int32.ofNat n4) ≤ x1 then some ((), s2) else i_al sh .int p1 (fun n57 => if i_ok x1 n57 then i_bd (fX12_moves sh s2 (s2.2.1 p1 x1.toNatClampNeg)) (fun r60 s61 => i_al sh .int p1 (fun n63 => if i_ok x1 n63 then (fX12_movesRow_L2 sh p1 n3 (x1 + 1) (s_A s61 p1 x1.toNatClampNeg r60)) else none)) else none))
noncomputable def fX12_movesRow (sh : List kd) (σ : St) (p1 : Nat) : Option (Unit × St) := fX12_movesRow_L2 sh p1 i_F 0 σ
set_option maxRecDepth 20000 in
set_option maxHeartbeats 2000000 in
theorem tX12_movesRow_L2 {sh : List kd} {τ : St} {r : Unit} (hsh : rmSh sh) {p1 : Nat} : ∀ (n0 : Nat) (x1 : Int32) (s2 : St), fX12_movesRow_L2 sh p1 n0 x1 s2 = some (r, τ) → g_R sh 1 mX12_movesRow none τ 2 [.ref 0, .ref p1, .int x1] [] (s2) := by
  intro n0
  induction n0 with
  | zero => intro _ _ hE; cases hE
  | succ n3 ih =>
    intro x1 s2 hE
    unfold fX12_movesRow_L2 at hE
    refine g_ldin aX12_movesRow_2 rfl ?_
    refine g_ldan aX12_movesRow_3 rfl ?_
    obtain ⟨n4, h5, hE⟩ := i_al_some hE
    refine g_len aX12_movesRow_4 h5 ?_
    by_cases hc56 : (Int32.ofNat n4) ≤ x1
    · rw [if_pos hc56] at hE
      refine g_ic_ge_t aX12_movesRow_5 hc56 ?_
      obtain ⟨rfl, rfl⟩ := i_some_inj hE
      exact g_vret aX12_movesRow_24 rfl
    · rw [if_neg hc56] at hE
      refine g_ic_ge_f aX12_movesRow_5 hc56 ?_
      refine g_ldan aX12_movesRow_8 rfl ?_
      refine g_ldin aX12_movesRow_9 rfl ?_
      refine g_ldan aX12_movesRow_10 rfl ?_
      refine g_ldan aX12_movesRow_11 rfl ?_
      refine g_ldin aX12_movesRow_12 rfl ?_
      obtain ⟨n57, h58, hE⟩ := i_al_some hE
      obtain ⟨h59, hE⟩ := i_ifn hE
      refine g_ild aX12_movesRow_13 (h58) h59 ?_
      obtain ⟨r60, s61, h62, hE⟩ := i_bd_some hE
      refine g_calV (As := [.int (s2.2.1 p1 x1.toNatClampNeg)]) (rest := [.int x1, .ref p1]) aX12_movesRow_14 (i_X_mono (by omega) (tX12_moves hsh h62)) (sR_0 hsh) (by decide +kernel) rfl rfl (Nat.le_of_ble_eq_true rfl) rfl ?_
      obtain ⟨n63, h64, hE⟩ := i_al_some hE
      obtain ⟨h65, hE⟩ := i_ifn hE
      refine g_ist aX12_movesRow_17 (h64) h65 ?_
      refine g_iinc (y := 1) (loc2 := [.ref 0, .ref p1, .int (x1 + 1)]) aX12_movesRow_18 rfl rfl rfl ?_
      refine g_goto aX12_movesRow_21 ?_
      exact ih _ _ hE
set_option maxRecDepth 20000 in
set_option maxHeartbeats 2000000 in
theorem tX12_movesRow {sh : List kd} {σ τ : St} {r : Unit} (hsh : rmSh sh) {p1 : Nat} (hE : fX12_movesRow sh σ p1 = some (r, τ)) : i_X 2 186 [.ref 0, .ref p1] (s_h sh σ) 0 0 none (s_h sh τ) := by
  refine g_X (M := mX12_movesRow) (loc := [.ref 0, .ref p1, .retAddr 0]) rfl (Nat.le_of_ble_eq_true rfl) rfl ?_
  unfold fX12_movesRow at hE
  refine g_iconst (x := 0) aX12_movesRow_0 rfl ?_
  refine g_stin (loc2 := [.ref 0, .ref p1, .int 0]) aX12_movesRow_1 (Nat.le_of_ble_eq_true rfl) rfl ?_
  exact tX12_movesRow_L2 hsh i_F _ _ hE
