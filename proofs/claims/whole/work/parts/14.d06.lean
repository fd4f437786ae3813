/-! X12_movesAll X12_keepsAct X12_undo X12_deed X12_slight X12_tray X12_gloves X12_strip X12_place X12_quarrel X12_isPeace X12_stripped X12_gold -/
theorem aX12_movesAll_0 : i_at mX12_movesAll.2.2.2.2.2 0 = some (.aload_n 0, 1, 0, 0, 0, 0) := by decide +kernel
theorem aX12_movesAll_1 : i_at mX12_movesAll.2.2.2.2.2 1 = some (.bipush 28, 2, 0, 0, 0, 0) := by decide +kernel
theorem aX12_movesAll_3 : i_at mX12_movesAll.2.2.2.2.2 3 = some (.iload_n 1, 1, 0, 0, 0, 0) := by decide +kernel
theorem aX12_movesAll_4 : i_at mX12_movesAll.2.2.2.2.2 4 = some (.imul, 1, 0, 0, 0, 0) := by decide +kernel
theorem aX12_movesAll_5 : i_at mX12_movesAll.2.2.2.2.2 5 = some (.putfield 382, 3, 11, 42, 1129, 0) := by decide +kernel
theorem aX12_movesAll_8 : i_at mX12_movesAll.2.2.2.2.2 8 = some (.aload_n 0, 1, 0, 0, 0, 0) := by decide +kernel
theorem aX12_movesAll_9 : i_at mX12_movesAll.2.2.2.2.2 9 = some (.iload_n 2, 1, 0, 0, 0, 0) := by decide +kernel
theorem aX12_movesAll_10 : i_at mX12_movesAll.2.2.2.2.2 10 = some (.putfield 378, 3, 11, 43, 1130, 0) := by decide +kernel
theorem aX12_movesAll_13 : i_at mX12_movesAll.2.2.2.2.2 13 = some (.iconst 4, 1, 0, 0, 0, 0) := by decide +kernel
theorem aX12_movesAll_14 : i_at mX12_movesAll.2.2.2.2.2 14 = some (.istore_n 3, 1, 0, 0, 0, 0) := by decide +kernel
theorem aX12_movesAll_15 : i_at mX12_movesAll.2.2.2.2.2 15 = some (.iload_n 3, 1, 0, 0, 0, 0) := by decide +kernel
theorem aX12_movesAll_16 : i_at mX12_movesAll.2.2.2.2.2 16 = some (.bipush 8, 2, 0, 0, 0, 0) := by decide +kernel
theorem aX12_movesAll_18 : i_at mX12_movesAll.2.2.2.2.2 18 = some (.if_icmp .ge 25, 3, 43, 0, 0, 0) := by decide +kernel
theorem aX12_movesAll_21 : i_at mX12_movesAll.2.2.2.2.2 21 = some (.aload_n 0, 1, 0, 0, 0, 0) := by decide +kernel
theorem aX12_movesAll_22 : i_at mX12_movesAll.2.2.2.2.2 22 = some (.getfield 9, 3, 11, 1, 1088, 0) := by decide +kernel
theorem aX12_movesAll_25 : i_at mX12_movesAll.2.2.2.2.2 25 = some (.iload_n 3, 1, 0, 0, 0, 0) := by decide +kernel
theorem aX12_movesAll_26 : i_at mX12_movesAll.2.2.2.2.2 26 = some (.aload_n 0, 1, 0, 0, 0, 0) := by decide +kernel
theorem aX12_movesAll_27 : i_at mX12_movesAll.2.2.2.2.2 27 = some (.aload_n 0, 1, 0, 0, 0, 0) := by decide +kernel
theorem aX12_movesAll_28 : i_at mX12_movesAll.2.2.2.2.2 28 = some (.getfield 9, 3, 11, 1, 1088, 0) := by decide +kernel
theorem aX12_movesAll_31 : i_at mX12_movesAll.2.2.2.2.2 31 = some (.iload_n 3, 1, 0, 0, 0, 0) := by decide +kernel
theorem aX12_movesAll_32 : i_at mX12_movesAll.2.2.2.2.2 32 = some (.iaload, 1, 0, 0, 0, 0) := by decide +kernel
theorem aX12_movesAll_33 : i_at mX12_movesAll.2.2.2.2.2 33 = some (.invokevirtual 385, 3, 185, 1, 1465, 0) := by decide +kernel
theorem aX12_movesAll_36 : i_at mX12_movesAll.2.2.2.2.2 36 = some (.iastore, 1, 0, 0, 0, 0) := by decide +kernel
theorem aX12_movesAll_37 : i_at mX12_movesAll.2.2.2.2.2 37 = some (.iinc 3 1, 3, 0, 0, 0, 0) := by decide +kernel
theorem aX12_movesAll_40 : i_at mX12_movesAll.2.2.2.2.2 40 = some (.goto (-25), 3, 15, 0, 0, 0) := by decide +kernel
theorem aX12_movesAll_43 : i_at mX12_movesAll.2.2.2.2.2 43 = some (.aload_n 0, 1, 0, 0, 0, 0) := by decide +kernel
theorem aX12_movesAll_44 : i_at mX12_movesAll.2.2.2.2.2 44 = some (.aload_n 0, 1, 0, 0, 0, 0) := by decide +kernel
theorem aX12_movesAll_45 : i_at mX12_movesAll.2.2.2.2.2 45 = some (.getfield 19, 3, 11, 4, 1091, 0) := by decide +kernel
theorem aX12_movesAll_48 : i_at mX12_movesAll.2.2.2.2.2 48 = some (.invokevirtual 388, 3, 186, 1, 1469, 0) := by decide +kernel
theorem aX12_movesAll_51 : i_at mX12_movesAll.2.2.2.2.2 51 = some (.aload_n 0, 1, 0, 0, 0, 0) := by decide +kernel
theorem aX12_movesAll_52 : i_at mX12_movesAll.2.2.2.2.2 52 = some (.aload_n 0, 1, 0, 0, 0, 0) := by decide +kernel
theorem aX12_movesAll_53 : i_at mX12_movesAll.2.2.2.2.2 53 = some (.getfield 25, 3, 11, 6, 1093, 0) := by decide +kernel
theorem aX12_movesAll_56 : i_at mX12_movesAll.2.2.2.2.2 56 = some (.invokevirtual 388, 3, 186, 1, 1469, 0) := by decide +kernel
theorem aX12_movesAll_59 : i_at mX12_movesAll.2.2.2.2.2 59 = some (.aload_n 0, 1, 0, 0, 0, 0) := by decide +kernel
theorem aX12_movesAll_60 : i_at mX12_movesAll.2.2.2.2.2 60 = some (.aload_n 0, 1, 0, 0, 0, 0) := by decide +kernel
theorem aX12_movesAll_61 : i_at mX12_movesAll.2.2.2.2.2 61 = some (.getfield 31, 3, 11, 8, 1095, 0) := by decide +kernel
theorem aX12_movesAll_64 : i_at mX12_movesAll.2.2.2.2.2 64 = some (.invokevirtual 388, 3, 186, 1, 1469, 0) := by decide +kernel
theorem aX12_movesAll_67 : i_at mX12_movesAll.2.2.2.2.2 67 = some (.aload_n 0, 1, 0, 0, 0, 0) := by decide +kernel
theorem aX12_movesAll_68 : i_at mX12_movesAll.2.2.2.2.2 68 = some (.aload_n 0, 1, 0, 0, 0, 0) := by decide +kernel
theorem aX12_movesAll_69 : i_at mX12_movesAll.2.2.2.2.2 69 = some (.getfield 34, 3, 11, 9, 1096, 0) := by decide +kernel
theorem aX12_movesAll_72 : i_at mX12_movesAll.2.2.2.2.2 72 = some (.invokevirtual 388, 3, 186, 1, 1469, 0) := by decide +kernel
theorem aX12_movesAll_75 : i_at mX12_movesAll.2.2.2.2.2 75 = some (.return_, 1, 0, 0, 0, 0) := by decide +kernel
noncomputable def fX12_movesAll_L15 (sh : List kd) (p1 : Int32) (p2 : Int32) (k43 : Int32 → St → Option (Unit × St)) : Nat → Int32 → St → Option (Unit × St)
  | 0, _, _ => none
  | n56 + 1, x2, s3 => if 8 ≤ x2 then k43 x2 s3 else if i_ok x2 11 then i_bd (fX12_moves sh s3 (s3.2.1 1 x2.toNatClampNeg)) (fun r59 s60 => if i_ok x2 11 then (fX12_movesAll_L15 sh p1 p2 k43 n56 (x2 + 1) (s_A s60 1 x2.toNatClampNeg r59)) else none) else none
noncomputable def fX12_movesAll_X43 (sh : List kd) (p1 : Int32) (p2 : Int32) (x54 : Int32) (s55 : St) : Option (Unit × St) := i_bd (fX12_movesRow sh s55 4) (fun r63 s64 => i_bd (fX12_movesRow sh s64 6) (fun r66 s67 => i_bd (fX12_movesRow sh s67 8) (fun r69 s70 => i_bd (fX12_movesRow sh s70 9) (fun r72 s73 => some ((), s73)))))
noncomputable def fX12_movesAll (sh : List kd) (σ : St) (p1 : Int32) (p2 : Int32) : Option (Unit × St) := if i_okf .boolean (.int p2) = true then fX12_movesAll_L15 sh p1 p2 (fun (x54 : Int32) (s55 : St) => fX12_movesAll_X43 sh p1 p2 x54 s55) i_F 4 (s_F (s_F σ 0 42 (28 * p1)) 0 43 p2) else none
set_option maxRecDepth 20000 in
set_option maxHeartbeats 2000000 in
theorem tX12_movesAll_L15 {sh : List kd} {τ : St} {r : Unit} (hsh : rmSh sh) {p1 : Int32} {p2 : Int32} {k43 : Int32 → St → Option (Unit × St)} (hk43 : ∀ (x54 : Int32) (s55 : St), k43 x54 s55 = some (r, τ) → g_R sh 2 mX12_movesAll none τ 43 [.ref 0, .int p1, .int p2, .int x54] [] (s55)) : ∀ (n0 : Nat) (x2 : Int32) (s3 : St), fX12_movesAll_L15 sh p1 p2 k43 n0 x2 s3 = some (r, τ) → g_R sh 2 mX12_movesAll none τ 15 [.ref 0, .int p1, .int p2, .int x2] [] (s3) := by
  intro n0
  induction n0 with
  | zero => intro _ _ hE; cases hE
  | succ n56 ih =>
    intro x2 s3 hE
    unfold fX12_movesAll_L15 at hE
    refine g_ldin aX12_movesAll_15 rfl ?_
    refine g_bipush (x := 8) aX12_movesAll_16 rfl ?_
    by_cases hc57 : 8 ≤ x2
    · rw [if_pos hc57] at hE
      refine g_ic_ge_t aX12_movesAll_18 hc57 ?_
      exact hk43 _ _ hE
    · rw [if_neg hc57] at hE
      refine g_ic_ge_f aX12_movesAll_18 hc57 ?_
      refine g_ldan aX12_movesAll_21 rfl ?_
      refine g_getR aX12_movesAll_22 (sR_0 hsh) rfl ?_
      refine g_ldin aX12_movesAll_25 rfl ?_
      refine g_ldan aX12_movesAll_26 rfl ?_
      refine g_ldan aX12_movesAll_27 rfl ?_
      refine g_getR aX12_movesAll_28 (sR_0 hsh) rfl ?_
      refine g_ldin aX12_movesAll_31 rfl ?_
      obtain ⟨h58, hE⟩ := i_ifn hE
      refine g_ild aX12_movesAll_32 (sR_1 hsh) h58 ?_
      obtain ⟨r59, s60, h61, hE⟩ := i_bd_some hE
      refine g_calV (As := [.int (s3.2.1 1 x2.toNatClampNeg)]) (rest := [.int x2, .ref 1]) aX12_movesAll_33 (i_X_mono (by omega) (tX12_moves hsh h61)) (sR_0 hsh) (by decide +kernel) rfl rfl (Nat.le_of_ble_eq_true rfl) rfl ?_
      obtain ⟨h62, hE⟩ := i_ifn hE
      refine g_ist aX12_movesAll_36 (sR_1 hsh) h62 ?_
      refine g_iinc (y := 1) (loc2 := [.ref 0, .int p1, .int p2, .int (x2 + 1)]) aX12_movesAll_37 rfl rfl rfl ?_
      refine g_goto aX12_movesAll_40 ?_
      exact ih _ _ hE
set_option maxRecDepth 20000 in
set_option maxHeartbeats 2000000 in
theorem tX12_movesAll_X43 {sh : List kd} {τ : St} {r : Unit} (hsh : rmSh sh) {p1 : Int32} {p2 : Int32} {x54 : Int32} {s55 : St} (hE : fX12_movesAll_X43 sh p1 p2 x54 s55 = some (r, τ)) : g_R sh 2 mX12_movesAll none τ 43 [.ref 0, .int p1, .int p2, .int x54] [] (s55) := by
  unfold fX12_movesAll_X43 at hE
  refine g_ldan aX12_movesAll_43 rfl ?_
  refine g_ldan aX12_movesAll_44 rfl ?_
  refine g_getR aX12_movesAll_45 (sR_0 hsh) rfl ?_
  obtain ⟨r63, s64, h65, hE⟩ := i_bd_some hE
  refine g_calV (As := [.ref 4]) (rest := []) aX12_movesAll_48 (i_X_mono (by omega) (tX12_movesRow hsh h65)) (sR_0 hsh) (by decide +kernel) rfl rfl (Nat.le_of_ble_eq_true rfl) rfl ?_
  refine g_ldan aX12_movesAll_51 rfl ?_
  refine g_ldan aX12_movesAll_52 rfl ?_
  refine g_getR aX12_movesAll_53 (sR_0 hsh) rfl ?_
  obtain ⟨r66, s67, h68, hE⟩ := i_bd_some hE
  refine g_calV (As := [.ref 6]) (rest := []) aX12_movesAll_56 (i_X_mono (by omega) (tX12_movesRow hsh h68)) (sR_0 hsh) (by decide +kernel) rfl rfl (Nat.le_of_ble_eq_true rfl) rfl ?_
  refine g_ldan aX12_movesAll_59 rfl ?_
  refine g_ldan aX12_movesAll_60 rfl ?_
  refine g_getR aX12_movesAll_61 (sR_0 hsh) rfl ?_
  obtain ⟨r69, s70, h71, hE⟩ := i_bd_some hE
  refine g_calV (As := [.ref 8]) (rest := []) aX12_movesAll_64 (i_X_mono (by omega) (tX12_movesRow hsh h71)) (sR_0 hsh) (by decide +kernel) rfl rfl (Nat.le_of_ble_eq_true rfl) rfl ?_
  refine g_ldan aX12_movesAll_67 rfl ?_
  refine g_ldan aX12_movesAll_68 rfl ?_
  refine g_getR aX12_movesAll_69 (sR_0 hsh) rfl ?_
  obtain ⟨r72, s73, h74, hE⟩ := i_bd_some hE
  refine g_calV (As := [.ref 9]) (rest := []) aX12_movesAll_72 (i_X_mono (by omega) (tX12_movesRow hsh h74)) (sR_0 hsh) (by decide +kernel) rfl rfl (Nat.le_of_ble_eq_true rfl) rfl ?_
  obtain ⟨rfl, rfl⟩ := i_some_inj hE
  exact g_vret aX12_movesAll_75 rfl
set_option maxRecDepth 20000 in
set_option maxHeartbeats 2000000 in
theorem tX12_movesAll {sh : List kd} {σ τ : St} {r : Unit} (hsh : rmSh sh) {p1 : Int32} {p2 : Int32} (hE : fX12_movesAll sh σ p1 p2 = some (r, τ)) : i_X 3 187 [.ref 0, .int p1, .int p2] (s_h sh σ) 0 0 none (s_h sh τ) := by
  refine g_X (M := mX12_movesAll) (loc := [.ref 0, .int p1, .int p2, .retAddr 0]) rfl (Nat.le_of_ble_eq_true rfl) rfl ?_
  unfold fX12_movesAll at hE
  refine g_ldan aX12_movesAll_0 rfl ?_
  refine g_bipush (x := 28) aX12_movesAll_1 rfl ?_
  refine g_ldin aX12_movesAll_3 rfl ?_
  refine g_imul aX12_movesAll_4 ?_
  refine g_putI aX12_movesAll_5 (sR_0 hsh) rfl rfl ?_
  refine g_ldan aX12_movesAll_8 rfl ?_
  refine g_ldin aX12_movesAll_9 rfl ?_
  obtain ⟨h1, hE⟩ := i_ifn hE
  refine g_putI aX12_movesAll_10 (sR_0 hsh) rfl h1 ?_
  refine g_iconst (x := 4) aX12_movesAll_13 rfl ?_
  refine g_stin (loc2 := [.ref 0, .int p1, .int p2, .int 4]) aX12_movesAll_14 (Nat.le_of_ble_eq_true rfl) rfl ?_
  exact tX12_movesAll_L15 hsh (fun x54 s55 hE => tX12_movesAll_X43 hsh hE) i_F _ _ hE
theorem aX12_keepsAct_0 : i_at mX12_keepsAct.2.2.2.2.2 0 = some (.aload_n 0, 1, 0, 0, 0, 0) := by decide +kernel
theorem aX12_keepsAct_1 : i_at mX12_keepsAct.2.2.2.2.2 1 = some (.getfield 305, 3, 11, 41, 1128, 0) := by decide +kernel
theorem aX12_keepsAct_4 : i_at mX12_keepsAct.2.2.2.2.2 4 = some (.bipush 20, 2, 0, 0, 0, 0) := by decide +kernel
theorem aX12_keepsAct_6 : i_at mX12_keepsAct.2.2.2.2.2 6 = some (.if_icmp .ne 44, 3, 50, 0, 0, 0) := by decide +kernel
theorem aX12_keepsAct_9 : i_at mX12_keepsAct.2.2.2.2.2 9 = some (.bipush 28, 2, 0, 0, 0, 0) := by decide +kernel
theorem aX12_keepsAct_11 : i_at mX12_keepsAct.2.2.2.2.2 11 = some (.istore_n 1, 1, 0, 0, 0, 0) := by decide +kernel
theorem aX12_keepsAct_12 : i_at mX12_keepsAct.2.2.2.2.2 12 = some (.iload_n 1, 1, 0, 0, 0, 0) := by decide +kernel
theorem aX12_keepsAct_13 : i_at mX12_keepsAct.2.2.2.2.2 13 = some (.sipush 560, 3, 0, 0, 0, 0) := by decide +kernel
theorem aX12_keepsAct_16 : i_at mX12_keepsAct.2.2.2.2.2 16 = some (.if_icmp .ge 24, 3, 40, 0, 0, 0) := by decide +kernel
theorem aX12_keepsAct_19 : i_at mX12_keepsAct.2.2.2.2.2 19 = some (.aload_n 0, 1, 0, 0, 0, 0) := by decide +kernel
theorem aX12_keepsAct_20 : i_at mX12_keepsAct.2.2.2.2.2 20 = some (.getfield 100, 3, 11, 39, 1126, 0) := by decide +kernel
theorem aX12_keepsAct_23 : i_at mX12_keepsAct.2.2.2.2.2 23 = some (.iload_n 1, 1, 0, 0, 0, 0) := by decide +kernel
theorem aX12_keepsAct_24 : i_at mX12_keepsAct.2.2.2.2.2 24 = some (.bipush 28, 2, 0, 0, 0, 0) := by decide +kernel
theorem aX12_keepsAct_26 : i_at mX12_keepsAct.2.2.2.2.2 26 = some (.isub, 1, 0, 0, 0, 0) := by decide +kernel
theorem aX12_keepsAct_27 : i_at mX12_keepsAct.2.2.2.2.2 27 = some (.aload_n 0, 1, 0, 0, 0, 0) := by decide +kernel
theorem aX12_keepsAct_28 : i_at mX12_keepsAct.2.2.2.2.2 28 = some (.getfield 100, 3, 11, 39, 1126, 0) := by decide +kernel
theorem aX12_keepsAct_31 : i_at mX12_keepsAct.2.2.2.2.2 31 = some (.iload_n 1, 1, 0, 0, 0, 0) := by decide +kernel
theorem aX12_keepsAct_32 : i_at mX12_keepsAct.2.2.2.2.2 32 = some (.iaload, 1, 0, 0, 0, 0) := by decide +kernel
theorem aX12_keepsAct_33 : i_at mX12_keepsAct.2.2.2.2.2 33 = some (.iastore, 1, 0, 0, 0, 0) := by decide +kernel
theorem aX12_keepsAct_34 : i_at mX12_keepsAct.2.2.2.2.2 34 = some (.iinc 1 1, 3, 0, 0, 0, 0) := by decide +kernel
theorem aX12_keepsAct_37 : i_at mX12_keepsAct.2.2.2.2.2 37 = some (.goto (-25), 3, 12, 0, 0, 0) := by decide +kernel
theorem aX12_keepsAct_40 : i_at mX12_keepsAct.2.2.2.2.2 40 = some (.aload_n 0, 1, 0, 0, 0, 0) := by decide +kernel
theorem aX12_keepsAct_41 : i_at mX12_keepsAct.2.2.2.2.2 41 = some (.dup, 1, 0, 0, 0, 0) := by decide +kernel
theorem aX12_keepsAct_42 : i_at mX12_keepsAct.2.2.2.2.2 42 = some (.getfield 305, 3, 11, 41, 1128, 0) := by decide +kernel
theorem aX12_keepsAct_45 : i_at mX12_keepsAct.2.2.2.2.2 45 = some (.iconst 1, 1, 0, 0, 0, 0) := by decide +kernel
theorem aX12_keepsAct_46 : i_at mX12_keepsAct.2.2.2.2.2 46 = some (.isub, 1, 0, 0, 0, 0) := by decide +kernel
theorem aX12_keepsAct_47 : i_at mX12_keepsAct.2.2.2.2.2 47 = some (.putfield 305, 3, 11, 41, 1128, 0) := by decide +kernel
theorem aX12_keepsAct_50 : i_at mX12_keepsAct.2.2.2.2.2 50 = some (.aload_n 0, 1, 0, 0, 0, 0) := by decide +kernel
theorem aX12_keepsAct_51 : i_at mX12_keepsAct.2.2.2.2.2 51 = some (.aload_n 0, 1, 0, 0, 0, 0) := by decide +kernel
theorem aX12_keepsAct_52 : i_at mX12_keepsAct.2.2.2.2.2 52 = some (.getfield 305, 3, 11, 41, 1128, 0) := by decide +kernel
theorem aX12_keepsAct_55 : i_at mX12_keepsAct.2.2.2.2.2 55 = some (.iconst 0, 1, 0, 0, 0, 0) := by decide +kernel
theorem aX12_keepsAct_56 : i_at mX12_keepsAct.2.2.2.2.2 56 = some (.invokevirtual 392, 3, 187, 2, 1461, 0) := by decide +kernel
theorem aX12_keepsAct_59 : i_at mX12_keepsAct.2.2.2.2.2 59 = some (.aload_n 0, 1, 0, 0, 0, 0) := by decide +kernel
theorem aX12_keepsAct_60 : i_at mX12_keepsAct.2.2.2.2.2 60 = some (.dup, 1, 0, 0, 0, 0) := by decide +kernel
theorem aX12_keepsAct_61 : i_at mX12_keepsAct.2.2.2.2.2 61 = some (.getfield 305, 3, 11, 41, 1128, 0) := by decide +kernel
theorem aX12_keepsAct_64 : i_at mX12_keepsAct.2.2.2.2.2 64 = some (.iconst 1, 1, 0, 0, 0, 0) := by decide +kernel
theorem aX12_keepsAct_65 : i_at mX12_keepsAct.2.2.2.2.2 65 = some (.iadd, 1, 0, 0, 0, 0) := by decide +kernel
theorem aX12_keepsAct_66 : i_at mX12_keepsAct.2.2.2.2.2 66 = some (.putfield 305, 3, 11, 41, 1128, 0) := by decide +kernel
theorem aX12_keepsAct_69 : i_at mX12_keepsAct.2.2.2.2.2 69 = some (.return_, 1, 0, 0, 0, 0) := by decide +kernel
noncomputable def fX12_keepsAct_L12 (sh : List kd) (k40 : Int32 → St → Option (Unit × St)) : Nat → Int32 → St → Option (Unit × St)
  | 0, _, _ => none
  | n109 + 1, x55, s56 => if 560 ≤ x55 then k40 x55 s56 else if i_ok x55 560 then if i_ok (x55 - 28) 560 then (fX12_keepsAct_L12 sh k40 n109 (x55 + 1) (s_A s56 29 (x55 - 28).toNatClampNeg (s56.2.1 29 x55.toNatClampNeg))) else none else none
noncomputable def fX12_keepsAct_X40 (sh : List kd) (x107 : Int32) (s108 : St) : Option (Unit × St) := i_bd (fX12_movesAll sh (s_F s108 0 41 ((s108.1 0 41) - 1)) ((s_F s108 0 41 ((s108.1 0 41) - 1)).1 0 41) 0) (fun r113 s114 => some ((), s_F s114 0 41 ((s114.1 0 41) + 1)))
noncomputable def fX12_keepsAct (sh : List kd) (σ : St) : Option (Unit × St) := if ¬ (σ.1 0 41) = 20 then i_bd (fX12_movesAll sh σ (σ.1 0 41) 0) (fun r52 s53 => some ((), s_F s53 0 41 ((s53.1 0 41) + 1))) else fX12_keepsAct_L12 sh (fun (x107 : Int32) (s108 : St) => fX12_keepsAct_X40 sh x107 s108) i_F 28 σ
set_option maxRecDepth 20000 in
set_option maxHeartbeats 2000000 in
theorem tX12_keepsAct_L12 {sh : List kd} {τ : St} {r : Unit} (hsh : rmSh sh) {k40 : Int32 → St → Option (Unit × St)} (hk40 : ∀ (x107 : Int32) (s108 : St), k40 x107 s108 = some (r, τ) → g_R sh 3 mX12_keepsAct none τ 40 [.ref 0, .int x107] [] (s108)) : ∀ (n0 : Nat) (x55 : Int32) (s56 : St), fX12_keepsAct_L12 sh k40 n0 x55 s56 = some (r, τ) → g_R sh 3 mX12_keepsAct none τ 12 [.ref 0, .int x55] [] (s56) := by
  intro n0
  induction n0 with
  | zero => intro _ _ hE; cases hE
  | succ n109 ih =>
    intro x55 s56 hE
    unfold fX12_keepsAct_L12 at hE
    refine g_ldin aX12_keepsAct_12 rfl ?_
    refine g_sipush (x := 560) aX12_keepsAct_13 rfl ?_
    by_cases hc110 : 560 ≤ x55
    · rw [if_pos hc110] at hE
      refine g_ic_ge_t aX12_keepsAct_16 hc110 ?_
      exact hk40 _ _ hE
    · rw [if_neg hc110] at hE
      refine g_ic_ge_f aX12_keepsAct_16 hc110 ?_
      refine g_ldan aX12_keepsAct_19 rfl ?_
      refine g_getR aX12_keepsAct_20 (sR_0 hsh) rfl ?_
      refine g_ldin aX12_keepsAct_23 rfl ?_
      refine g_bipush (x := 28) aX12_keepsAct_24 rfl ?_
      refine g_isub aX12_keepsAct_26 ?_
      refine g_ldan aX12_keepsAct_27 rfl ?_
      refine g_getR aX12_keepsAct_28 (sR_0 hsh) rfl ?_
      refine g_ldin aX12_keepsAct_31 rfl ?_
      obtain ⟨h111, hE⟩ := i_ifn hE
      refine g_ild aX12_keepsAct_32 (sR_29 hsh) h111 ?_
      obtain ⟨h112, hE⟩ := i_ifn hE
      refine g_ist aX12_keepsAct_33 (sR_29 hsh) h112 ?_
      refine g_iinc (y := 1) (loc2 := [.ref 0, .int (x55 + 1)]) aX12_keepsAct_34 rfl rfl rfl ?_
      refine g_goto aX12_keepsAct_37 ?_
      exact ih _ _ hE
set_option maxRecDepth 20000 in
set_option maxHeartbeats 2000000 in
theorem tX12_keepsAct_X40 {sh : List kd} {τ : St} {r : Unit} (hsh : rmSh sh) {x107 : Int32} {s108 : St} (hE : fX12_keepsAct_X40 sh x107 s108 = some (r, τ)) : g_R sh 3 mX12_keepsAct none τ 40 [.ref 0, .int x107] [] (s108) := by
  unfold fX12_keepsAct_X40 at hE
  refine g_ldan aX12_keepsAct_40 rfl ?_
  refine g_dupa aX12_keepsAct_41 ?_
  refine g_getI aX12_keepsAct_42 (sR_0 hsh) rfl ?_
  refine g_iconst (x := 1) aX12_keepsAct_45 rfl ?_
  refine g_isub aX12_keepsAct_46 ?_
  refine g_putI aX12_keepsAct_47 (sR_0 hsh) rfl rfl ?_
  refine g_ldan aX12_keepsAct_50 rfl ?_
  refine g_ldan aX12_keepsAct_51 rfl ?_
  refine g_getI aX12_keepsAct_52 (sR_0 hsh) rfl ?_
  refine g_iconst (x := 0) aX12_keepsAct_55 rfl ?_
  obtain ⟨r113, s114, h115, hE⟩ := i_bd_some hE
  refine g_calV (As := [.int ((s_F s108 0 41 ((s108.1 0 41) - 1)).1 0 41), .int 0]) (rest := []) aX12_keepsAct_56 (i_X_mono (by omega) (tX12_movesAll hsh h115)) (sR_0 hsh) (by decide +kernel) rfl rfl (Nat.le_of_ble_eq_true rfl) rfl ?_
  refine g_ldan aX12_keepsAct_59 rfl ?_
  refine g_dupa aX12_keepsAct_60 ?_
  refine g_getI aX12_keepsAct_61 (sR_0 hsh) rfl ?_
  refine g_iconst (x := 1) aX12_keepsAct_64 rfl ?_
  refine g_iadd aX12_keepsAct_65 ?_
  refine g_putI aX12_keepsAct_66 (sR_0 hsh) rfl rfl ?_
  obtain ⟨rfl, rfl⟩ := i_some_inj hE
  exact g_vret aX12_keepsAct_69 rfl
set_option maxRecDepth 20000 in
set_option maxHeartbeats 2000000 in
theorem tX12_keepsAct {sh : List kd} {σ τ : St} {r : Unit} (hsh : rmSh sh) (hE : fX12_keepsAct sh σ = some (r, τ)) : i_X 4 188 [.ref 0] (s_h sh σ) 0 0 none (s_h sh τ) := by
  refine g_X (M := mX12_keepsAct) (loc := [.ref 0, .retAddr 0]) rfl (Nat.le_of_ble_eq_true rfl) rfl ?_
  unfold fX12_keepsAct at hE
  refine g_ldan aX12_keepsAct_0 rfl ?_
  refine g_getI aX12_keepsAct_1 (sR_0 hsh) rfl ?_
  refine g_bipush (x := 20) aX12_keepsAct_4 rfl ?_
  by_cases hc51 : ¬ (σ.1 0 41) = 20
  · rw [if_pos hc51] at hE
    refine g_ic_ne_t aX12_keepsAct_6 hc51 ?_
    refine g_ldan aX12_keepsAct_50 rfl ?_
    refine g_ldan aX12_keepsAct_51 rfl ?_
    refine g_getI aX12_keepsAct_52 (sR_0 hsh) rfl ?_
    refine g_iconst (x := 0) aX12_keepsAct_55 rfl ?_
    obtain ⟨r52, s53, h54, hE⟩ := i_bd_some hE
    refine g_calV (As := [.int (σ.1 0 41), .int 0]) (rest := []) aX12_keepsAct_56 (i_X_mono (by omega) (tX12_movesAll hsh h54)) (sR_0 hsh) (by decide +kernel) rfl rfl (Nat.le_of_ble_eq_true rfl) rfl ?_
    refine g_ldan aX12_keepsAct_59 rfl ?_
    refine g_dupa aX12_keepsAct_60 ?_
    refine g_getI aX12_keepsAct_61 (sR_0 hsh) rfl ?_
    refine g_iconst (x := 1) aX12_keepsAct_64 rfl ?_
    refine g_iadd aX12_keepsAct_65 ?_
    refine g_putI aX12_keepsAct_66 (sR_0 hsh) rfl rfl ?_
    obtain ⟨rfl, rfl⟩ := i_some_inj hE
    exact g_vret aX12_keepsAct_69 rfl
  · rw [if_neg hc51] at hE
    refine g_ic_ne_f aX12_keepsAct_6 hc51 ?_
    refine g_bipush (x := 28) aX12_keepsAct_9 rfl ?_
    refine g_stin (loc2 := [.ref 0, .int 28]) aX12_keepsAct_11 (Nat.le_of_ble_eq_true rfl) rfl ?_
    exact tX12_keepsAct_L12 hsh (fun x107 s108 hE => tX12_keepsAct_X40 hsh hE) i_F _ _ hE
theorem aX12_undo_0 : i_at mX12_undo.2.2.2.2.2 0 = some (.aload_n 0, 1, 0, 0, 0, 0) := by decide +kernel
theorem aX12_undo_1 : i_at mX12_undo.2.2.2.2.2 1 = some (.getfield 305, 3, 11, 41, 1128, 0) := by decide +kernel
theorem aX12_undo_4 : i_at mX12_undo.2.2.2.2.2 4 = some (.ifCond .ne 6, 3, 10, 0, 0, 0) := by decide +kernel
theorem aX12_undo_7 : i_at mX12_undo.2.2.2.2.2 7 = some (.bipush (-2), 2, 0, 0, 0, 0) := by decide +kernel
theorem aX12_undo_9 : i_at mX12_undo.2.2.2.2.2 9 = some (.ireturn, 1, 0, 0, 0, 0) := by decide +kernel
theorem aX12_undo_10 : i_at mX12_undo.2.2.2.2.2 10 = some (.aload_n 0, 1, 0, 0, 0, 0) := by decide +kernel
theorem aX12_undo_11 : i_at mX12_undo.2.2.2.2.2 11 = some (.dup, 1, 0, 0, 0, 0) := by decide +kernel
theorem aX12_undo_12 : i_at mX12_undo.2.2.2.2.2 12 = some (.getfield 305, 3, 11, 41, 1128, 0) := by decide +kernel
theorem aX12_undo_15 : i_at mX12_undo.2.2.2.2.2 15 = some (.iconst 1, 1, 0, 0, 0, 0) := by decide +kernel
theorem aX12_undo_16 : i_at mX12_undo.2.2.2.2.2 16 = some (.isub, 1, 0, 0, 0, 0) := by decide +kernel
theorem aX12_undo_17 : i_at mX12_undo.2.2.2.2.2 17 = some (.putfield 305, 3, 11, 41, 1128, 0) := by decide +kernel
theorem aX12_undo_20 : i_at mX12_undo.2.2.2.2.2 20 = some (.aload_n 0, 1, 0, 0, 0, 0) := by decide +kernel
theorem aX12_undo_21 : i_at mX12_undo.2.2.2.2.2 21 = some (.aload_n 0, 1, 0, 0, 0, 0) := by decide +kernel
theorem aX12_undo_22 : i_at mX12_undo.2.2.2.2.2 22 = some (.getfield 305, 3, 11, 41, 1128, 0) := by decide +kernel
theorem aX12_undo_25 : i_at mX12_undo.2.2.2.2.2 25 = some (.iconst 1, 1, 0, 0, 0, 0) := by decide +kernel
theorem aX12_undo_26 : i_at mX12_undo.2.2.2.2.2 26 = some (.invokevirtual 392, 3, 187, 2, 1461, 0) := by decide +kernel
theorem aX12_undo_29 : i_at mX12_undo.2.2.2.2.2 29 = some (.aload_n 0, 1, 0, 0, 0, 0) := by decide +kernel
theorem aX12_undo_30 : i_at mX12_undo.2.2.2.2.2 30 = some (.getfield 305, 3, 11, 41, 1128, 0) := by decide +kernel
theorem aX12_undo_33 : i_at mX12_undo.2.2.2.2.2 33 = some (.ireturn, 1, 0, 0, 0, 0) := by decide +kernel
noncomputable def fX12_undo (sh : List kd) (σ : St) : Option (Int32 × St) := if ¬ (σ.1 0 41) = 0 then i_bd (fX12_movesAll sh (s_F σ 0 41 ((σ.1 0 41) - 1)) ((s_F σ 0 41 ((σ.1 0 41) - 1)).1 0 41) 1) (fun r2 s3 => some ((s3.1 0 41), s3)) else some ((-2), σ)
set_option maxRecDepth 20000 in
set_option maxHeartbeats 2000000 in
theorem tX12_undo {sh : List kd} {σ τ : St} {r : Int32} (hsh : rmSh sh) (hE : fX12_undo sh σ = some (r, τ)) : i_X 4 189 [.ref 0] (s_h sh σ) 0 0 (some (.int r)) (s_h sh τ) := by
  refine g_X (M := mX12_undo) (loc := [.ref 0]) rfl (Nat.le_of_ble_eq_true rfl) rfl ?_
  unfold fX12_undo at hE
  refine g_ldan aX12_undo_0 rfl ?_
  refine g_getI aX12_undo_1 (sR_0 hsh) rfl ?_
  by_cases hc1 : ¬ (σ.1 0 41) = 0
  · rw [if_pos hc1] at hE
    refine g_if_ne_t aX12_undo_4 hc1 ?_
    refine g_ldan aX12_undo_10 rfl ?_
    refine g_dupa aX12_undo_11 ?_
    refine g_getI aX12_undo_12 (sR_0 hsh) rfl ?_
    refine g_iconst (x := 1) aX12_undo_15 rfl ?_
    refine g_isub aX12_undo_16 ?_
    refine g_putI aX12_undo_17 (sR_0 hsh) rfl rfl ?_
    refine g_ldan aX12_undo_20 rfl ?_
    refine g_ldan aX12_undo_21 rfl ?_
    refine g_getI aX12_undo_22 (sR_0 hsh) rfl ?_
    refine g_iconst (x := 1) aX12_undo_25 rfl ?_
    obtain ⟨r2, s3, h4, hE⟩ := i_bd_some hE
    refine g_calV (As := [.int ((s_F σ 0 41 ((σ.1 0 41) - 1)).1 0 41), .int 1]) (rest := []) aX12_undo_26 (i_X_mono (by omega) (tX12_movesAll hsh h4)) (sR_0 hsh) (by decide +kernel) rfl rfl (Nat.le_of_ble_eq_true rfl) rfl ?_
    refine g_ldan aX12_undo_29 rfl ?_
    refine g_getI aX12_undo_30 (sR_0 hsh) rfl ?_
    obtain ⟨rfl, rfl⟩ := i_some_inj hE
    exact g_iret aX12_undo_33 rfl rfl
  · rw [if_neg hc1] at hE
    refine g_if_ne_f aX12_undo_4 hc1 ?_
    refine g_bipush (x := (-2)) aX12_undo_7 rfl ?_
    obtain ⟨rfl, rfl⟩ := i_some_inj hE
    exact g_iret aX12_undo_9 rfl rfl
theorem aX12_deed_0 : i_at mX12_deed.2.2.2.2.2 0 = some (.aload_n 0, 1, 0, 0, 0, 0) := by decide +kernel
theorem aX12_deed_1 : i_at mX12_deed.2.2.2.2.2 1 = some (.iload_n 1, 1, 0, 0, 0, 0) := by decide +kernel
theorem aX12_deed_2 : i_at mX12_deed.2.2.2.2.2 2 = some (.invokevirtual 351, 3, 132, 1, 1446, 0) := by decide +kernel
theorem aX12_deed_5 : i_at mX12_deed.2.2.2.2.2 5 = some (.ifCond .eq 15, 3, 20, 0, 0, 0) := by decide +kernel
theorem aX12_deed_8 : i_at mX12_deed.2.2.2.2.2 8 = some (.iload_n 2, 1, 0, 0, 0, 0) := by decide +kernel
theorem aX12_deed_9 : i_at mX12_deed.2.2.2.2.2 9 = some (.i2l, 1, 0, 0, 0, 0) := by decide +kernel
theorem aX12_deed_10 : i_at mX12_deed.2.2.2.2.2 10 = some (.lconst 1, 1, 0, 0, 0, 0) := by decide +kernel
theorem aX12_deed_11 : i_at mX12_deed.2.2.2.2.2 11 = some (.ldc2_w 399, 3, 0, 0, 1521, 99) := by decide +kernel
theorem aX12_deed_14 : i_at mX12_deed.2.2.2.2.2 14 = some (.invokestatic 131, 3, 127, 3, 1324, 0) := by decide +kernel
theorem aX12_deed_17 : i_at mX12_deed.2.2.2.2.2 17 = some (.ifCond .ne 5, 3, 22, 0, 0, 0) := by decide +kernel
theorem aX12_deed_20 : i_at mX12_deed.2.2.2.2.2 20 = some (.iconst (-1), 1, 0, 0, 0, 0) := by decide +kernel
theorem aX12_deed_21 : i_at mX12_deed.2.2.2.2.2 21 = some (.ireturn, 1, 0, 0, 0, 0) := by decide +kernel
theorem aX12_deed_22 : i_at mX12_deed.2.2.2.2.2 22 = some (.aload_n 0, 1, 0, 0, 0, 0) := by decide +kernel
theorem aX12_deed_23 : i_at mX12_deed.2.2.2.2.2 23 = some (.invokevirtual 396, 3, 188, 0, 1477, 0) := by decide +kernel
theorem aX12_deed_26 : i_at mX12_deed.2.2.2.2.2 26 = some (.aload_n 0, 1, 0, 0, 0, 0) := by decide +kernel
theorem aX12_deed_27 : i_at mX12_deed.2.2.2.2.2 27 = some (.getfield 25, 3, 11, 6, 1093, 0) := by decide +kernel
theorem aX12_deed_30 : i_at mX12_deed.2.2.2.2.2 30 = some (.iload_n 1, 1, 0, 0, 0, 0) := by decide +kernel
theorem aX12_deed_31 : i_at mX12_deed.2.2.2.2.2 31 = some (.aload_n 0, 1, 0, 0, 0, 0) := by decide +kernel
theorem aX12_deed_32 : i_at mX12_deed.2.2.2.2.2 32 = some (.getfield 25, 3, 11, 6, 1093, 0) := by decide +kernel
theorem aX12_deed_35 : i_at mX12_deed.2.2.2.2.2 35 = some (.iload_n 1, 1, 0, 0, 0, 0) := by decide +kernel
theorem aX12_deed_36 : i_at mX12_deed.2.2.2.2.2 36 = some (.iaload, 1, 0, 0, 0, 0) := by decide +kernel
theorem aX12_deed_37 : i_at mX12_deed.2.2.2.2.2 37 = some (.iload_n 2, 1, 0, 0, 0, 0) := by decide +kernel
theorem aX12_deed_38 : i_at mX12_deed.2.2.2.2.2 38 = some (.iadd, 1, 0, 0, 0, 0) := by decide +kernel
theorem aX12_deed_39 : i_at mX12_deed.2.2.2.2.2 39 = some (.sipush 999, 3, 0, 0, 0, 0) := by decide +kernel
theorem aX12_deed_42 : i_at mX12_deed.2.2.2.2.2 42 = some (.invokestatic 372, 3, 182, 2, 1514, 0) := by decide +kernel
theorem aX12_deed_45 : i_at mX12_deed.2.2.2.2.2 45 = some (.iastore, 1, 0, 0, 0, 0) := by decide +kernel
theorem aX12_deed_46 : i_at mX12_deed.2.2.2.2.2 46 = some (.aload_n 0, 1, 0, 0, 0, 0) := by decide +kernel
theorem aX12_deed_47 : i_at mX12_deed.2.2.2.2.2 47 = some (.getfield 25, 3, 11, 6, 1093, 0) := by decide +kernel
theorem aX12_deed_50 : i_at mX12_deed.2.2.2.2.2 50 = some (.iload_n 1, 1, 0, 0, 0, 0) := by decide +kernel
theorem aX12_deed_51 : i_at mX12_deed.2.2.2.2.2 51 = some (.iaload, 1, 0, 0, 0, 0) := by decide +kernel
theorem aX12_deed_52 : i_at mX12_deed.2.2.2.2.2 52 = some (.ireturn, 1, 0, 0, 0, 0) := by decide +kernel
noncomputable def fX12_deed (sh : List kd) (σ : St) (p1 : Int32) (p2 : Int32) : Option (Int32 × St) := i_bd (fX12_isPerson sh σ p1) (fun r1 s2 => if r1 = 0 then some ((-1), s2) else i_bd (fX12_in sh s2 p2.toInt64 1 99) (fun r5 s6 => if ¬ r5 = 0 then i_bd (fX12_keepsAct sh s6) (fun r9 s10 => if i_ok p1 6 then i_bd (fX12_upTo sh s10 ((s10.2.1 6 p1.toNatClampNeg) + p2) 999) (fun r13 s14 => if i_ok p1 6 then if i_ok p1 6 then some (((s_A s14 6 p1.toNatClampNeg r13).2.1 6 p1.toNatClampNeg), s_A s14 6 p1.toNatClampNeg r13) else none else none) else none) else some ((-1), s6)))
set_option maxRecDepth 20000 in
set_option maxHeartbeats 2000000 in
theorem tX12_deed {sh : List kd} {σ τ : St} {r : Int32} (hsh : rmSh sh) {p1 : Int32} {p2 : Int32} (hE : fX12_deed sh σ p1 p2 = some (r, τ)) : i_X 5 191 [.ref 0, .int p1, .int p2] (s_h sh σ) 0 0 (some (.int r)) (s_h sh τ) := by
  refine g_X (M := mX12_deed) (loc := [.ref 0, .int p1, .int p2]) rfl (Nat.le_of_ble_eq_true rfl) rfl ?_
  unfold fX12_deed at hE
  refine g_ldan aX12_deed_0 rfl ?_
  refine g_ldin aX12_deed_1 rfl ?_
  obtain ⟨r1, s2, h3, hE⟩ := i_bd_some hE
  refine g_calV (As := [.int p1]) (rest := []) aX12_deed_2 (i_X_mono (by omega) (tX12_isPerson hsh h3)) (sR_0 hsh) (by decide +kernel) rfl rfl (Nat.le_of_ble_eq_true rfl) rfl ?_
  by_cases hc4 : r1 = 0
  · rw [if_pos hc4] at hE
    refine g_if_eq_t aX12_deed_5 hc4 ?_
    refine g_iconst (x := (-1)) aX12_deed_20 rfl ?_
    obtain ⟨rfl, rfl⟩ := i_some_inj hE
    exact g_iret aX12_deed_21 rfl rfl
  · rw [if_neg hc4] at hE
    refine g_if_eq_f aX12_deed_5 hc4 ?_
    refine g_ldin aX12_deed_8 rfl ?_
    refine g_i2l aX12_deed_9 ?_
    refine g_lconst (x := 1) aX12_deed_10 rfl ?_
    refine g_ldc2 (x := 99) aX12_deed_11 rfl ?_
    obtain ⟨r5, s6, h7, hE⟩ := i_bd_some hE
    refine g_calS (As := [.long p2.toInt64, .long 1, .long 99]) (rest := []) aX12_deed_14 (i_X_mono (by omega) (tX12_in hsh h7)) rfl rfl (Nat.le_of_ble_eq_true rfl) rfl ?_
    by_cases hc8 : ¬ r5 = 0
    · rw [if_pos hc8] at hE
      refine g_if_ne_t aX12_deed_17 hc8 ?_
      refine g_ldan aX12_deed_22 rfl ?_
      obtain ⟨r9, s10, h11, hE⟩ := i_bd_some hE
      refine g_calV (As := []) (rest := []) aX12_deed_23 (i_X_mono (by omega) (tX12_keepsAct hsh h11)) (sR_0 hsh) (by decide +kernel) rfl rfl (Nat.le_of_ble_eq_true rfl) rfl ?_
      refine g_ldan aX12_deed_26 rfl ?_
      refine g_getR aX12_deed_27 (sR_0 hsh) rfl ?_
      refine g_ldin aX12_deed_30 rfl ?_
      refine g_ldan aX12_deed_31 rfl ?_
      refine g_getR aX12_deed_32 (sR_0 hsh) rfl ?_
      refine g_ldin aX12_deed_35 rfl ?_
      obtain ⟨h12, hE⟩ := i_ifn hE
      refine g_ild aX12_deed_36 (sR_6 hsh) h12 ?_
      refine g_ldin aX12_deed_37 rfl ?_
      refine g_iadd aX12_deed_38 ?_
      refine g_sipush (x := 999) aX12_deed_39 rfl ?_
      obtain ⟨r13, s14, h15, hE⟩ := i_bd_some hE
      refine g_calS (As := [.int ((s10.2.1 6 p1.toNatClampNeg) + p2), .int 999]) (rest := [.int p1, .ref 6]) aX12_deed_42 (i_X_mono (by omega) (tX12_upTo hsh h15)) rfl rfl (Nat.le_of_ble_eq_true rfl) rfl ?_
      obtain ⟨h16, hE⟩ := i_ifn hE
      refine g_ist aX12_deed_45 (sR_6 hsh) h16 ?_
      refine g_ldan aX12_deed_46 rfl ?_
      refine g_getR aX12_deed_47 (sR_0 hsh) rfl ?_
      refine g_ldin aX12_deed_50 rfl ?_
      obtain ⟨h17, hE⟩ := i_ifn hE
      refine g_ild aX12_deed_51 (sR_6 hsh) h17 ?_
      obtain ⟨rfl, rfl⟩ := i_some_inj hE
      exact g_iret aX12_deed_52 rfl rfl
    · rw [if_neg hc8] at hE
      refine g_if_ne_f aX12_deed_17 hc8 ?_
      refine g_iconst (x := (-1)) aX12_deed_20 rfl ?_
      obtain ⟨rfl, rfl⟩ := i_some_inj hE
      exact g_iret aX12_deed_21 rfl rfl
theorem aX12_slight_0 : i_at mX12_slight.2.2.2.2.2 0 = some (.aload_n 0, 1, 0, 0, 0, 0) := by decide +kernel
theorem aX12_slight_1 : i_at mX12_slight.2.2.2.2.2 1 = some (.iload_n 1, 1, 0, 0, 0, 0) := by decide +kernel
theorem aX12_slight_2 : i_at mX12_slight.2.2.2.2.2 2 = some (.invokevirtual 351, 3, 132, 1, 1446, 0) := by decide +kernel
theorem aX12_slight_5 : i_at mX12_slight.2.2.2.2.2 5 = some (.ifCond .eq 25, 3, 30, 0, 0, 0) := by decide +kernel
theorem aX12_slight_8 : i_at mX12_slight.2.2.2.2.2 8 = some (.iload_n 2, 1, 0, 0, 0, 0) := by decide +kernel
theorem aX12_slight_9 : i_at mX12_slight.2.2.2.2.2 9 = some (.i2l, 1, 0, 0, 0, 0) := by decide +kernel
theorem aX12_slight_10 : i_at mX12_slight.2.2.2.2.2 10 = some (.lconst 1, 1, 0, 0, 0, 0) := by decide +kernel
theorem aX12_slight_11 : i_at mX12_slight.2.2.2.2.2 11 = some (.ldc2_w 399, 3, 0, 0, 1521, 99) := by decide +kernel
theorem aX12_slight_14 : i_at mX12_slight.2.2.2.2.2 14 = some (.invokestatic 131, 3, 127, 3, 1324, 0) := by decide +kernel
theorem aX12_slight_17 : i_at mX12_slight.2.2.2.2.2 17 = some (.ifCond .eq 13, 3, 30, 0, 0, 0) := by decide +kernel
theorem aX12_slight_20 : i_at mX12_slight.2.2.2.2.2 20 = some (.aload_n 0, 1, 0, 0, 0, 0) := by decide +kernel
theorem aX12_slight_21 : i_at mX12_slight.2.2.2.2.2 21 = some (.getfield 25, 3, 11, 6, 1093, 0) := by decide +kernel
theorem aX12_slight_24 : i_at mX12_slight.2.2.2.2.2 24 = some (.iload_n 1, 1, 0, 0, 0, 0) := by decide +kernel
theorem aX12_slight_25 : i_at mX12_slight.2.2.2.2.2 25 = some (.iaload, 1, 0, 0, 0, 0) := by decide +kernel
theorem aX12_slight_26 : i_at mX12_slight.2.2.2.2.2 26 = some (.iload_n 2, 1, 0, 0, 0, 0) := by decide +kernel
theorem aX12_slight_27 : i_at mX12_slight.2.2.2.2.2 27 = some (.if_icmp .ge 5, 3, 32, 0, 0, 0) := by decide +kernel
theorem aX12_slight_30 : i_at mX12_slight.2.2.2.2.2 30 = some (.iconst (-1), 1, 0, 0, 0, 0) := by decide +kernel
theorem aX12_slight_31 : i_at mX12_slight.2.2.2.2.2 31 = some (.ireturn, 1, 0, 0, 0, 0) := by decide +kernel
theorem aX12_slight_32 : i_at mX12_slight.2.2.2.2.2 32 = some (.aload_n 0, 1, 0, 0, 0, 0) := by decide +kernel
theorem aX12_slight_33 : i_at mX12_slight.2.2.2.2.2 33 = some (.invokevirtual 396, 3, 188, 0, 1477, 0) := by decide +kernel
theorem aX12_slight_36 : i_at mX12_slight.2.2.2.2.2 36 = some (.aload_n 0, 1, 0, 0, 0, 0) := by decide +kernel
theorem aX12_slight_37 : i_at mX12_slight.2.2.2.2.2 37 = some (.getfield 25, 3, 11, 6, 1093, 0) := by decide +kernel
theorem aX12_slight_40 : i_at mX12_slight.2.2.2.2.2 40 = some (.iload_n 1, 1, 0, 0, 0, 0) := by decide +kernel
theorem aX12_slight_41 : i_at mX12_slight.2.2.2.2.2 41 = some (.dup2, 1, 0, 0, 0, 0) := by decide +kernel
theorem aX12_slight_42 : i_at mX12_slight.2.2.2.2.2 42 = some (.iaload, 1, 0, 0, 0, 0) := by decide +kernel
theorem aX12_slight_43 : i_at mX12_slight.2.2.2.2.2 43 = some (.iload_n 2, 1, 0, 0, 0, 0) := by decide +kernel
theorem aX12_slight_44 : i_at mX12_slight.2.2.2.2.2 44 = some (.isub, 1, 0, 0, 0, 0) := by decide +kernel
theorem aX12_slight_45 : i_at mX12_slight.2.2.2.2.2 45 = some (.iastore, 1, 0, 0, 0, 0) := by decide +kernel
theorem aX12_slight_46 : i_at mX12_slight.2.2.2.2.2 46 = some (.aload_n 0, 1, 0, 0, 0, 0) := by decide +kernel
theorem aX12_slight_47 : i_at mX12_slight.2.2.2.2.2 47 = some (.getfield 25, 3, 11, 6, 1093, 0) := by decide +kernel
theorem aX12_slight_50 : i_at mX12_slight.2.2.2.2.2 50 = some (.iload_n 1, 1, 0, 0, 0, 0) := by decide +kernel
theorem aX12_slight_51 : i_at mX12_slight.2.2.2.2.2 51 = some (.iaload, 1, 0, 0, 0, 0) := by decide +kernel
theorem aX12_slight_52 : i_at mX12_slight.2.2.2.2.2 52 = some (.ireturn, 1, 0, 0, 0, 0) := by decide +kernel
noncomputable def fX12_slight (sh : List kd) (σ : St) (p1 : Int32) (p2 : Int32) : Option (Int32 × St) := i_bd (fX12_isPerson sh σ p1) (fun r1 s2 => if r1 = 0 then some ((-1), s2) else i_bd (fX12_in sh s2 p2.toInt64 1 99) (fun r5 s6 => if r5 = 0 then some ((-1), s6) else if i_ok p1 6 then if p2 ≤ (s6.2.1 6 p1.toNatClampNeg) then i_bd (fX12_keepsAct sh s6) (fun r11 s12 => if i_ok p1 6 then if i_ok p1 6 then if i_ok p1 6 then some (((s_A s12 6 p1.toNatClampNeg ((s12.2.1 6 p1.toNatClampNeg) - p2)).2.1 6 p1.toNatClampNeg), s_A s12 6 p1.toNatClampNeg ((s12.2.1 6 p1.toNatClampNeg) - p2)) else none else none else none) else some ((-1), s6) else none))
set_option maxRecDepth 20000 in
set_option maxHeartbeats 2000000 in
theorem tX12_slight {sh : List kd} {σ τ : St} {r : Int32} (hsh : rmSh sh) {p1 : Int32} {p2 : Int32} (hE : fX12_slight sh σ p1 p2 = some (r, τ)) : i_X 5 192 [.ref 0, .int p1, .int p2] (s_h sh σ) 0 0 (some (.int r)) (s_h sh τ) := by
  refine g_X (M := mX12_slight) (loc := [.ref 0, .int p1, .int p2]) rfl (Nat.le_of_ble_eq_true rfl) rfl ?_
  unfold fX12_slight at hE
  refine g_ldan aX12_slight_0 rfl ?_
  refine g_ldin aX12_slight_1 rfl ?_
  obtain ⟨r1, s2, h3, hE⟩ := i_bd_some hE
  refine g_calV (As := [.int p1]) (rest := []) aX12_slight_2 (i_X_mono (by omega) (tX12_isPerson hsh h3)) (sR_0 hsh) (by decide +kernel) rfl rfl (Nat.le_of_ble_eq_true rfl) rfl ?_
  by_cases hc4 : r1 = 0
  · rw [if_pos hc4] at hE
    refine g_if_eq_t aX12_slight_5 hc4 ?_
    refine g_iconst (x := (-1)) aX12_slight_30 rfl ?_
    obtain ⟨rfl, rfl⟩ := i_some_inj hE
    exact g_iret aX12_slight_31 rfl rfl
  · rw [if_neg hc4] at hE
    refine g_if_eq_f aX12_slight_5 hc4 ?_
    refine g_ldin aX12_slight_8 rfl ?_
    refine g_i2l aX12_slight_9 ?_
    refine g_lconst (x := 1) aX12_slight_10 rfl ?_
    refine g_ldc2 (x := 99) aX12_slight_11 rfl ?_
    obtain ⟨r5, s6, h7, hE⟩ := i_bd_some hE
    refine g_calS (As := [.long p2.toInt64, .long 1, .long 99]) (rest := []) aX12_slight_14 (i_X_mono (by omega) (tX12_in hsh h7)) rfl rfl (Nat.le_of_ble_eq_true rfl) rfl ?_
    by_cases hc8 : r5 = 0
    · rw [if_pos hc8] at hE
      refine g_if_eq_t aX12_slight_17 hc8 ?_
      refine g_iconst (x := (-1)) aX12_slight_30 rfl ?_
      obtain ⟨rfl, rfl⟩ := i_some_inj hE
      exact g_iret aX12_slight_31 rfl rfl
    · rw [if_neg hc8] at hE
      refine g_if_eq_f aX12_slight_17 hc8 ?_
      refine g_ldan aX12_slight_20 rfl ?_
      refine g_getR aX12_slight_21 (sR_0 hsh) rfl ?_
      refine g_ldin aX12_slight_24 rfl ?_
      obtain ⟨h9, hE⟩ := i_ifn hE
      refine g_ild aX12_slight_25 (sR_6 hsh) h9 ?_
      refine g_ldin aX12_slight_26 rfl ?_
      by_cases hc10 : p2 ≤ (s6.2.1 6 p1.toNatClampNeg)
      · rw [if_pos hc10] at hE
        refine g_ic_ge_t aX12_slight_27 hc10 ?_
        refine g_ldan aX12_slight_32 rfl ?_
        obtain ⟨r11, s12, h13, hE⟩ := i_bd_some hE
        refine g_calV (As := []) (rest := []) aX12_slight_33 (i_X_mono (by omega) (tX12_keepsAct hsh h13)) (sR_0 hsh) (by decide +kernel) rfl rfl (Nat.le_of_ble_eq_true rfl) rfl ?_
        refine g_ldan aX12_slight_36 rfl ?_
        refine g_getR aX12_slight_37 (sR_0 hsh) rfl ?_
        refine g_ldin aX12_slight_40 rfl ?_
        refine g_dup2 aX12_slight_41 ?_
        obtain ⟨h14, hE⟩ := i_ifn hE
        refine g_ild aX12_slight_42 (sR_6 hsh) h14 ?_
        refine g_ldin aX12_slight_43 rfl ?_
        refine g_isub aX12_slight_44 ?_
        obtain ⟨h15, hE⟩ := i_ifn hE
        refine g_ist aX12_slight_45 (sR_6 hsh) h15 ?_
        refine g_ldan aX12_slight_46 rfl ?_
        refine g_getR aX12_slight_47 (sR_0 hsh) rfl ?_
        refine g_ldin aX12_slight_50 rfl ?_
        obtain ⟨h16, hE⟩ := i_ifn hE
        refine g_ild aX12_slight_51 (sR_6 hsh) h16 ?_
        obtain ⟨rfl, rfl⟩ := i_some_inj hE
        exact g_iret aX12_slight_52 rfl rfl
      · rw [if_neg hc10] at hE
        refine g_ic_ge_f aX12_slight_27 hc10 ?_
        refine g_iconst (x := (-1)) aX12_slight_30 rfl ?_
        obtain ⟨rfl, rfl⟩ := i_some_inj hE
        exact g_iret aX12_slight_31 rfl rfl
theorem aX12_tray_0 : i_at mX12_tray.2.2.2.2.2 0 = some (.aload_n 0, 1, 0, 0, 0, 0) := by decide +kernel
theorem aX12_tray_1 : i_at mX12_tray.2.2.2.2.2 1 = some (.invokevirtual 345, 3, 130, 0, 1438, 0) := by decide +kernel
theorem aX12_tray_4 : i_at mX12_tray.2.2.2.2.2 4 = some (.ifCond .eq 27, 3, 31, 0, 0, 0) := by decide +kernel
theorem aX12_tray_7 : i_at mX12_tray.2.2.2.2.2 7 = some (.iload_n 1, 1, 0, 0, 0, 0) := by decide +kernel
theorem aX12_tray_8 : i_at mX12_tray.2.2.2.2.2 8 = some (.iconst (-1), 1, 0, 0, 0, 0) := by decide +kernel
theorem aX12_tray_9 : i_at mX12_tray.2.2.2.2.2 9 = some (.if_icmp .eq 11, 3, 20, 0, 0, 0) := by decide +kernel
theorem aX12_tray_12 : i_at mX12_tray.2.2.2.2.2 12 = some (.aload_n 0, 1, 0, 0, 0, 0) := by decide +kernel
theorem aX12_tray_13 : i_at mX12_tray.2.2.2.2.2 13 = some (.iload_n 1, 1, 0, 0, 0, 0) := by decide +kernel
theorem aX12_tray_14 : i_at mX12_tray.2.2.2.2.2 14 = some (.invokevirtual 338, 3, 131, 1, 1426, 0) := by decide +kernel
theorem aX12_tray_17 : i_at mX12_tray.2.2.2.2.2 17 = some (.ifCond .eq 14, 3, 31, 0, 0, 0) := by decide +kernel
theorem aX12_tray_20 : i_at mX12_tray.2.2.2.2.2 20 = some (.iload_n 1, 1, 0, 0, 0, 0) := by decide +kernel
theorem aX12_tray_21 : i_at mX12_tray.2.2.2.2.2 21 = some (.aload_n 0, 1, 0, 0, 0, 0) := by decide +kernel
theorem aX12_tray_22 : i_at mX12_tray.2.2.2.2.2 22 = some (.getfield 9, 3, 11, 1, 1088, 0) := by decide +kernel
theorem aX12_tray_25 : i_at mX12_tray.2.2.2.2.2 25 = some (.bipush 6, 2, 0, 0, 0, 0) := by decide +kernel
theorem aX12_tray_27 : i_at mX12_tray.2.2.2.2.2 27 = some (.iaload, 1, 0, 0, 0, 0) := by decide +kernel
theorem aX12_tray_28 : i_at mX12_tray.2.2.2.2.2 28 = some (.if_icmp .ne 6, 3, 34, 0, 0, 0) := by decide +kernel
theorem aX12_tray_31 : i_at mX12_tray.2.2.2.2.2 31 = some (.bipush (-2), 2, 0, 0, 0, 0) := by decide +kernel
theorem aX12_tray_33 : i_at mX12_tray.2.2.2.2.2 33 = some (.ireturn, 1, 0, 0, 0, 0) := by decide +kernel
theorem aX12_tray_34 : i_at mX12_tray.2.2.2.2.2 34 = some (.aload_n 0, 1, 0, 0, 0, 0) := by decide +kernel
theorem aX12_tray_35 : i_at mX12_tray.2.2.2.2.2 35 = some (.invokevirtual 396, 3, 188, 0, 1477, 0) := by decide +kernel
theorem aX12_tray_38 : i_at mX12_tray.2.2.2.2.2 38 = some (.aload_n 0, 1, 0, 0, 0, 0) := by decide +kernel
theorem aX12_tray_39 : i_at mX12_tray.2.2.2.2.2 39 = some (.getfield 9, 3, 11, 1, 1088, 0) := by decide +kernel
theorem aX12_tray_42 : i_at mX12_tray.2.2.2.2.2 42 = some (.bipush 6, 2, 0, 0, 0, 0) := by decide +kernel
theorem aX12_tray_44 : i_at mX12_tray.2.2.2.2.2 44 = some (.iaload, 1, 0, 0, 0, 0) := by decide +kernel
theorem aX12_tray_45 : i_at mX12_tray.2.2.2.2.2 45 = some (.istore_n 2, 1, 0, 0, 0, 0) := by decide +kernel
theorem aX12_tray_46 : i_at mX12_tray.2.2.2.2.2 46 = some (.aload_n 0, 1, 0, 0, 0, 0) := by decide +kernel
theorem aX12_tray_47 : i_at mX12_tray.2.2.2.2.2 47 = some (.getfield 9, 3, 11, 1, 1088, 0) := by decide +kernel
theorem aX12_tray_50 : i_at mX12_tray.2.2.2.2.2 50 = some (.bipush 6, 2, 0, 0, 0, 0) := by decide +kernel
theorem aX12_tray_52 : i_at mX12_tray.2.2.2.2.2 52 = some (.iload_n 1, 1, 0, 0, 0, 0) := by decide +kernel
theorem aX12_tray_53 : i_at mX12_tray.2.2.2.2.2 53 = some (.iastore, 1, 0, 0, 0, 0) := by decide +kernel
theorem aX12_tray_54 : i_at mX12_tray.2.2.2.2.2 54 = some (.iload_n 2, 1, 0, 0, 0, 0) := by decide +kernel
theorem aX12_tray_55 : i_at mX12_tray.2.2.2.2.2 55 = some (.ireturn, 1, 0, 0, 0, 0) := by decide +kernel
noncomputable def fX12_tray (sh : List kd) (σ : St) (p1 : Int32) : Option (Int32 × St) := i_bd (fX12_isCourt sh σ) (fun r1 s2 => if r1 = 0 then some ((-2), s2) else if p1 = (-1) then if i_ok 6 11 then if ¬ p1 = (s2.2.1 1 (6 : Int32).toNatClampNeg) then i_bd (fX12_keepsAct sh s2) (fun r8 s9 => if i_ok 6 11 then if i_ok 6 11 then some ((s9.2.1 1 (6 : Int32).toNatClampNeg), s_A s9 1 (6 : Int32).toNatClampNeg p1) else none else none) else some ((-2), s2) else none else i_bd (fX12_isThing sh s2 p1) (fun r13 s14 => if r13 = 0 then some ((-2), s14) else if i_ok 6 11 then if ¬ p1 = (s14.2.1 1 (6 : Int32).toNatClampNeg) then i_bd (fX12_keepsAct sh s14) (fun r19 s20 => if i_ok 6 11 then if i_ok 6 11 then some ((s20.2.1 1 (6 : Int32).toNatClampNeg), s_A s20 1 (6 : Int32).toNatClampNeg p1) else none else none) else some ((-2), s14) else none))
set_option maxRecDepth 20000 in
set_option maxHeartbeats 2000000 in
theorem tX12_tray {sh : List kd} {σ τ : St} {r : Int32} (hsh : rmSh sh) {p1 : Int32} (hE : fX12_tray sh σ p1 = some (r, τ)) : i_X 5 193 [.ref 0, .int p1] (s_h sh σ) 0 0 (some (.int r)) (s_h sh τ) := by
  refine g_X (M := mX12_tray) (loc := [.ref 0, .int p1, .retAddr 0]) rfl (Nat.le_of_ble_eq_true rfl) rfl ?_
  unfold fX12_tray at hE
  refine g_ldan aX12_tray_0 rfl ?_
  obtain ⟨r1, s2, h3, hE⟩ := i_bd_some hE
  refine g_calV (As := []) (rest := []) aX12_tray_1 (i_X_mono (by omega) (tX12_isCourt hsh h3)) (sR_0 hsh) (by decide +kernel) rfl rfl (Nat.le_of_ble_eq_true rfl) rfl ?_
  by_cases hc4 : r1 = 0
  · rw [if_pos hc4] at hE
    refine g_if_eq_t aX12_tray_4 hc4 ?_
    refine g_bipush (x := (-2)) aX12_tray_31 rfl ?_
    obtain ⟨rfl, rfl⟩ := i_some_inj hE
    exact g_iret aX12_tray_33 rfl rfl
  · rw [if_neg hc4] at hE
    refine g_if_eq_f aX12_tray_4 hc4 ?_
    refine g_ldin aX12_tray_7 rfl ?_
    refine g_iconst (x := (-1)) aX12_tray_8 rfl ?_
    by_cases hc5 : p1 = (-1)
    · rw [if_pos hc5] at hE
      refine g_ic_eq_t aX12_tray_9 hc5 ?_
      refine g_ldin aX12_tray_20 rfl ?_
      refine g_ldan aX12_tray_21 rfl ?_
      refine g_getR aX12_tray_22 (sR_0 hsh) rfl ?_
      refine g_bipush (x := 6) aX12_tray_25 rfl ?_
      obtain ⟨h6, hE⟩ := i_ifn hE
      refine g_ild aX12_tray_27 (sR_1 hsh) h6 ?_
      by_cases hc7 : ¬ p1 = (s2.2.1 1 (6 : Int32).toNatClampNeg)
      · rw [if_pos hc7] at hE
        refine g_ic_ne_t aX12_tray_28 hc7 ?_
        refine g_ldan aX12_tray_34 rfl ?_
        obtain ⟨r8, s9, h10, hE⟩ := i_bd_some hE
        refine g_calV (As := []) (rest := []) aX12_tray_35 (i_X_mono (by omega) (tX12_keepsAct hsh h10)) (sR_0 hsh) (by decide +kernel) rfl rfl (Nat.le_of_ble_eq_true rfl) rfl ?_
        refine g_ldan aX12_tray_38 rfl ?_
        refine g_getR aX12_tray_39 (sR_0 hsh) rfl ?_
        refine g_bipush (x := 6) aX12_tray_42 rfl ?_
        obtain ⟨h11, hE⟩ := i_ifn hE
        refine g_ild aX12_tray_44 (sR_1 hsh) h11 ?_
        refine g_stin (loc2 := [.ref 0, .int p1, .int (s9.2.1 1 (6 : Int32).toNatClampNeg)]) aX12_tray_45 (Nat.le_of_ble_eq_true rfl) rfl ?_
        refine g_ldan aX12_tray_46 rfl ?_
        refine g_getR aX12_tray_47 (sR_0 hsh) rfl ?_
        refine g_bipush (x := 6) aX12_tray_50 rfl ?_
        refine g_ldin aX12_tray_52 rfl ?_
        obtain ⟨h12, hE⟩ := i_ifn hE
        refine g_ist aX12_tray_53 (sR_1 hsh) h12 ?_
        refine g_ldin aX12_tray_54 rfl ?_
        obtain ⟨rfl, rfl⟩ := i_some_inj hE
        exact g_iret aX12_tray_55 rfl rfl
      · rw [if_neg hc7] at hE
        refine g_ic_ne_f aX12_tray_28 hc7 ?_
        refine g_bipush (x := (-2)) aX12_tray_31 rfl ?_
        obtain ⟨rfl, rfl⟩ := i_some_inj hE
        exact g_iret aX12_tray_33 rfl rfl
    · rw [if_neg hc5] at hE
      refine g_ic_eq_f aX12_tray_9 hc5 ?_
      refine g_ldan aX12_tray_12 rfl ?_
      refine g_ldin aX12_tray_13 rfl ?_
      obtain ⟨r13, s14, h15, hE⟩ := i_bd_some hE
      refine g_calV (As := [.int p1]) (rest := []) aX12_tray_14 (i_X_mono (by omega) (tX12_isThing hsh h15)) (sR_0 hsh) (by decide +kernel) rfl rfl (Nat.le_of_ble_eq_true rfl) rfl ?_
      by_cases hc16 : r13 = 0
      · rw [if_pos hc16] at hE
        refine g_if_eq_t aX12_tray_17 hc16 ?_
        refine g_bipush (x := (-2)) aX12_tray_31 rfl ?_
        obtain ⟨rfl, rfl⟩ := i_some_inj hE
        exact g_iret aX12_tray_33 rfl rfl
      · rw [if_neg hc16] at hE
        refine g_if_eq_f aX12_tray_17 hc16 ?_
        refine g_ldin aX12_tray_20 rfl ?_
        refine g_ldan aX12_tray_21 rfl ?_
        refine g_getR aX12_tray_22 (sR_0 hsh) rfl ?_
        refine g_bipush (x := 6) aX12_tray_25 rfl ?_
        obtain ⟨h17, hE⟩ := i_ifn hE
        refine g_ild aX12_tray_27 (sR_1 hsh) h17 ?_
        by_cases hc18 : ¬ p1 = (s14.2.1 1 (6 : Int32).toNatClampNeg)
        · rw [if_pos hc18] at hE
          refine g_ic_ne_t aX12_tray_28 hc18 ?_
          refine g_ldan aX12_tray_34 rfl ?_
          obtain ⟨r19, s20, h21, hE⟩ := i_bd_some hE
          refine g_calV (As := []) (rest := []) aX12_tray_35 (i_X_mono (by omega) (tX12_keepsAct hsh h21)) (sR_0 hsh) (by decide +kernel) rfl rfl (Nat.le_of_ble_eq_true rfl) rfl ?_
          refine g_ldan aX12_tray_38 rfl ?_
          refine g_getR aX12_tray_39 (sR_0 hsh) rfl ?_
          refine g_bipush (x := 6) aX12_tray_42 rfl ?_
          obtain ⟨h22, hE⟩ := i_ifn hE
          refine g_ild aX12_tray_44 (sR_1 hsh) h22 ?_
          refine g_stin (loc2 := [.ref 0, .int p1, .int (s20.2.1 1 (6 : Int32).toNatClampNeg)]) aX12_tray_45 (Nat.le_of_ble_eq_true rfl) rfl ?_
          refine g_ldan aX12_tray_46 rfl ?_
          refine g_getR aX12_tray_47 (sR_0 hsh) rfl ?_
          refine g_bipush (x := 6) aX12_tray_50 rfl ?_
          refine g_ldin aX12_tray_52 rfl ?_
          obtain ⟨h23, hE⟩ := i_ifn hE
          refine g_ist aX12_tray_53 (sR_1 hsh) h23 ?_
          refine g_ldin aX12_tray_54 rfl ?_
          obtain ⟨rfl, rfl⟩ := i_some_inj hE
          exact g_iret aX12_tray_55 rfl rfl
        · rw [if_neg hc18] at hE
          refine g_ic_ne_f aX12_tray_28 hc18 ?_
          refine g_bipush (x := (-2)) aX12_tray_31 rfl ?_
          obtain ⟨rfl, rfl⟩ := i_some_inj hE
          exact g_iret aX12_tray_33 rfl rfl
theorem aX12_gloves_0 : i_at mX12_gloves.2.2.2.2.2 0 = some (.aload_n 0, 1, 0, 0, 0, 0) := by decide +kernel
theorem aX12_gloves_1 : i_at mX12_gloves.2.2.2.2.2 1 = some (.invokevirtual 345, 3, 130, 0, 1438, 0) := by decide +kernel
theorem aX12_gloves_4 : i_at mX12_gloves.2.2.2.2.2 4 = some (.ifCond .eq 15, 3, 19, 0, 0, 0) := by decide +kernel
theorem aX12_gloves_7 : i_at mX12_gloves.2.2.2.2.2 7 = some (.iload_n 1, 1, 0, 0, 0, 0) := by decide +kernel
theorem aX12_gloves_8 : i_at mX12_gloves.2.2.2.2.2 8 = some (.i2l, 1, 0, 0, 0, 0) := by decide +kernel
theorem aX12_gloves_9 : i_at mX12_gloves.2.2.2.2.2 9 = some (.lconst 1, 1, 0, 0, 0, 0) := by decide +kernel
theorem aX12_gloves_10 : i_at mX12_gloves.2.2.2.2.2 10 = some (.ldc2_w 401, 3, 0, 0, 1534, 9) := by decide +kernel
theorem aX12_gloves_13 : i_at mX12_gloves.2.2.2.2.2 13 = some (.invokestatic 131, 3, 127, 3, 1324, 0) := by decide +kernel
theorem aX12_gloves_16 : i_at mX12_gloves.2.2.2.2.2 16 = some (.ifCond .ne 5, 3, 21, 0, 0, 0) := by decide +kernel
theorem aX12_gloves_19 : i_at mX12_gloves.2.2.2.2.2 19 = some (.iconst (-1), 1, 0, 0, 0, 0) := by decide +kernel
theorem aX12_gloves_20 : i_at mX12_gloves.2.2.2.2.2 20 = some (.ireturn, 1, 0, 0, 0, 0) := by decide +kernel
theorem aX12_gloves_21 : i_at mX12_gloves.2.2.2.2.2 21 = some (.aload_n 0, 1, 0, 0, 0, 0) := by decide +kernel
theorem aX12_gloves_22 : i_at mX12_gloves.2.2.2.2.2 22 = some (.invokevirtual 396, 3, 188, 0, 1477, 0) := by decide +kernel
theorem aX12_gloves_25 : i_at mX12_gloves.2.2.2.2.2 25 = some (.aload_n 0, 1, 0, 0, 0, 0) := by decide +kernel
theorem aX12_gloves_26 : i_at mX12_gloves.2.2.2.2.2 26 = some (.getfield 9, 3, 11, 1, 1088, 0) := by decide +kernel
theorem aX12_gloves_29 : i_at mX12_gloves.2.2.2.2.2 29 = some (.bipush 7, 2, 0, 0, 0, 0) := by decide +kernel
theorem aX12_gloves_31 : i_at mX12_gloves.2.2.2.2.2 31 = some (.iaload, 1, 0, 0, 0, 0) := by decide +kernel
theorem aX12_gloves_32 : i_at mX12_gloves.2.2.2.2.2 32 = some (.istore_n 2, 1, 0, 0, 0, 0) := by decide +kernel
theorem aX12_gloves_33 : i_at mX12_gloves.2.2.2.2.2 33 = some (.aload_n 0, 1, 0, 0, 0, 0) := by decide +kernel
theorem aX12_gloves_34 : i_at mX12_gloves.2.2.2.2.2 34 = some (.getfield 9, 3, 11, 1, 1088, 0) := by decide +kernel
theorem aX12_gloves_37 : i_at mX12_gloves.2.2.2.2.2 37 = some (.bipush 7, 2, 0, 0, 0, 0) := by decide +kernel
theorem aX12_gloves_39 : i_at mX12_gloves.2.2.2.2.2 39 = some (.iload_n 1, 1, 0, 0, 0, 0) := by decide +kernel
theorem aX12_gloves_40 : i_at mX12_gloves.2.2.2.2.2 40 = some (.iastore, 1, 0, 0, 0, 0) := by decide +kernel
theorem aX12_gloves_41 : i_at mX12_gloves.2.2.2.2.2 41 = some (.iload_n 2, 1, 0, 0, 0, 0) := by decide +kernel
theorem aX12_gloves_42 : i_at mX12_gloves.2.2.2.2.2 42 = some (.ireturn, 1, 0, 0, 0, 0) := by decide +kernel
noncomputable def fX12_gloves (sh : List kd) (σ : St) (p1 : Int32) : Option (Int32 × St) := i_bd (fX12_isCourt sh σ) (fun r1 s2 => if r1 = 0 then some ((-1), s2) else i_bd (fX12_in sh s2 p1.toInt64 1 9) (fun r5 s6 => if ¬ r5 = 0 then i_bd (fX12_keepsAct sh s6) (fun r9 s10 => if i_ok 7 11 then if i_ok 7 11 then some ((s10.2.1 1 (7 : Int32).toNatClampNeg), s_A s10 1 (7 : Int32).toNatClampNeg p1) else none else none) else some ((-1), s6)))
set_option maxRecDepth 20000 in
set_option maxHeartbeats 2000000 in
theorem tX12_gloves {sh : List kd} {σ τ : St} {r : Int32} (hsh : rmSh sh) {p1 : Int32} (hE : fX12_gloves sh σ p1 = some (r, τ)) : i_X 5 194 [.ref 0, .int p1] (s_h sh σ) 0 0 (some (.int r)) (s_h sh τ) := by
  refine g_X (M := mX12_gloves) (loc := [.ref 0, .int p1, .retAddr 0]) rfl (Nat.le_of_ble_eq_true rfl) rfl ?_
  unfold fX12_gloves at hE
  refine g_ldan aX12_gloves_0 rfl ?_
  obtain ⟨r1, s2, h3, hE⟩ := i_bd_some hE
  refine g_calV (As := []) (rest := []) aX12_gloves_1 (i_X_mono (by omega) (tX12_isCourt hsh h3)) (sR_0 hsh) (by decide +kernel) rfl rfl (Nat.le_of_ble_eq_true rfl) rfl ?_
  by_cases hc4 : r1 = 0
  · rw [if_pos hc4] at hE
    refine g_if_eq_t aX12_gloves_4 hc4 ?_
    refine g_iconst (x := (-1)) aX12_gloves_19 rfl ?_
    obtain ⟨rfl, rfl⟩ := i_some_inj hE
    exact g_iret aX12_gloves_20 rfl rfl
  · rw [if_neg hc4] at hE
    refine g_if_eq_f aX12_gloves_4 hc4 ?_
    refine g_ldin aX12_gloves_7 rfl ?_
    refine g_i2l aX12_gloves_8 ?_
    refine g_lconst (x := 1) aX12_gloves_9 rfl ?_
    refine g_ldc2 (x := 9) aX12_gloves_10 rfl ?_
    obtain ⟨r5, s6, h7, hE⟩ := i_bd_some hE
    refine g_calS (As := [.long p1.toInt64, .long 1, .long 9]) (rest := []) aX12_gloves_13 (i_X_mono (by omega) (tX12_in hsh h7)) rfl rfl (Nat.le_of_ble_eq_true rfl) rfl ?_
    by_cases hc8 : ¬ r5 = 0
    · rw [if_pos hc8] at hE
      refine g_if_ne_t aX12_gloves_16 hc8 ?_
      refine g_ldan aX12_gloves_21 rfl ?_
      obtain ⟨r9, s10, h11, hE⟩ := i_bd_some hE
      refine g_calV (As := []) (rest := []) aX12_gloves_22 (i_X_mono (by omega) (tX12_keepsAct hsh h11)) (sR_0 hsh) (by decide +kernel) rfl rfl (Nat.le_of_ble_eq_true rfl) rfl ?_
      refine g_ldan aX12_gloves_25 rfl ?_
      refine g_getR aX12_gloves_26 (sR_0 hsh) rfl ?_
      refine g_bipush (x := 7) aX12_gloves_29 rfl ?_
      obtain ⟨h12, hE⟩ := i_ifn hE
      refine g_ild aX12_gloves_31 (sR_1 hsh) h12 ?_
      refine g_stin (loc2 := [.ref 0, .int p1, .int (s10.2.1 1 (7 : Int32).toNatClampNeg)]) aX12_gloves_32 (Nat.le_of_ble_eq_true rfl) rfl ?_
      refine g_ldan aX12_gloves_33 rfl ?_
      refine g_getR aX12_gloves_34 (sR_0 hsh) rfl ?_
      refine g_bipush (x := 7) aX12_gloves_37 rfl ?_
      refine g_ldin aX12_gloves_39 rfl ?_
      obtain ⟨h13, hE⟩ := i_ifn hE
      refine g_ist aX12_gloves_40 (sR_1 hsh) h13 ?_
      refine g_ldin aX12_gloves_41 rfl ?_
      obtain ⟨rfl, rfl⟩ := i_some_inj hE
      exact g_iret aX12_gloves_42 rfl rfl
    · rw [if_neg hc8] at hE
      refine g_if_ne_f aX12_gloves_16 hc8 ?_
      refine g_iconst (x := (-1)) aX12_gloves_19 rfl ?_
      obtain ⟨rfl, rfl⟩ := i_some_inj hE
      exact g_iret aX12_gloves_20 rfl rfl
theorem aX12_strip_0 : i_at mX12_strip.2.2.2.2.2 0 = some (.aload_n 0, 1, 0, 0, 0, 0) := by decide +kernel
theorem aX12_strip_1 : i_at mX12_strip.2.2.2.2.2 1 = some (.iload_n 1, 1, 0, 0, 0, 0) := by decide +kernel
theorem aX12_strip_2 : i_at mX12_strip.2.2.2.2.2 2 = some (.invokevirtual 351, 3, 132, 1, 1446, 0) := by decide +kernel
theorem aX12_strip_5 : i_at mX12_strip.2.2.2.2.2 5 = some (.ifCond .eq 24, 3, 29, 0, 0, 0) := by decide +kernel
theorem aX12_strip_8 : i_at mX12_strip.2.2.2.2.2 8 = some (.aload_n 0, 1, 0, 0, 0, 0) := by decide +kernel
theorem aX12_strip_9 : i_at mX12_strip.2.2.2.2.2 9 = some (.iload_n 2, 1, 0, 0, 0, 0) := by decide +kernel
theorem aX12_strip_10 : i_at mX12_strip.2.2.2.2.2 10 = some (.invokevirtual 338, 3, 131, 1, 1426, 0) := by decide +kernel
theorem aX12_strip_13 : i_at mX12_strip.2.2.2.2.2 13 = some (.ifCond .eq 16, 3, 29, 0, 0, 0) := by decide +kernel
theorem aX12_strip_16 : i_at mX12_strip.2.2.2.2.2 16 = some (.aload_n 0, 1, 0, 0, 0, 0) := by decide +kernel
theorem aX12_strip_17 : i_at mX12_strip.2.2.2.2.2 17 = some (.getfield 31, 3, 11, 8, 1095, 0) := by decide +kernel
theorem aX12_strip_20 : i_at mX12_strip.2.2.2.2.2 20 = some (.iload_n 1, 1, 0, 0, 0, 0) := by decide +kernel
theorem aX12_strip_21 : i_at mX12_strip.2.2.2.2.2 21 = some (.iaload, 1, 0, 0, 0, 0) := by decide +kernel
theorem aX12_strip_22 : i_at mX12_strip.2.2.2.2.2 22 = some (.iload_n 2, 1, 0, 0, 0, 0) := by decide +kernel
theorem aX12_strip_23 : i_at mX12_strip.2.2.2.2.2 23 = some (.invokestatic 348, 3, 129, 2, 1454, 0) := by decide +kernel
theorem aX12_strip_26 : i_at mX12_strip.2.2.2.2.2 26 = some (.ifCond .ne 5, 3, 31, 0, 0, 0) := by decide +kernel
theorem aX12_strip_29 : i_at mX12_strip.2.2.2.2.2 29 = some (.iconst (-1), 1, 0, 0, 0, 0) := by decide +kernel
theorem aX12_strip_30 : i_at mX12_strip.2.2.2.2.2 30 = some (.ireturn, 1, 0, 0, 0, 0) := by decide +kernel
theorem aX12_strip_31 : i_at mX12_strip.2.2.2.2.2 31 = some (.aload_n 0, 1, 0, 0, 0, 0) := by decide +kernel
theorem aX12_strip_32 : i_at mX12_strip.2.2.2.2.2 32 = some (.invokevirtual 396, 3, 188, 0, 1477, 0) := by decide +kernel
theorem aX12_strip_35 : i_at mX12_strip.2.2.2.2.2 35 = some (.aload_n 0, 1, 0, 0, 0, 0) := by decide +kernel
theorem aX12_strip_36 : i_at mX12_strip.2.2.2.2.2 36 = some (.getfield 31, 3, 11, 8, 1095, 0) := by decide +kernel
theorem aX12_strip_39 : i_at mX12_strip.2.2.2.2.2 39 = some (.iload_n 1, 1, 0, 0, 0, 0) := by decide +kernel
theorem aX12_strip_40 : i_at mX12_strip.2.2.2.2.2 40 = some (.dup2, 1, 0, 0, 0, 0) := by decide +kernel
theorem aX12_strip_41 : i_at mX12_strip.2.2.2.2.2 41 = some (.iaload, 1, 0, 0, 0, 0) := by decide +kernel
theorem aX12_strip_42 : i_at mX12_strip.2.2.2.2.2 42 = some (.iconst 1, 1, 0, 0, 0, 0) := by decide +kernel
theorem aX12_strip_43 : i_at mX12_strip.2.2.2.2.2 43 = some (.iload_n 2, 1, 0, 0, 0, 0) := by decide +kernel
theorem aX12_strip_44 : i_at mX12_strip.2.2.2.2.2 44 = some (.ishl, 1, 0, 0, 0, 0) := by decide +kernel
theorem aX12_strip_45 : i_at mX12_strip.2.2.2.2.2 45 = some (.iconst (-1), 1, 0, 0, 0, 0) := by decide +kernel
theorem aX12_strip_46 : i_at mX12_strip.2.2.2.2.2 46 = some (.ixor, 1, 0, 0, 0, 0) := by decide +kernel
theorem aX12_strip_47 : i_at mX12_strip.2.2.2.2.2 47 = some (.iand, 1, 0, 0, 0, 0) := by decide +kernel
theorem aX12_strip_48 : i_at mX12_strip.2.2.2.2.2 48 = some (.iastore, 1, 0, 0, 0, 0) := by decide +kernel
theorem aX12_strip_49 : i_at mX12_strip.2.2.2.2.2 49 = some (.aload_n 0, 1, 0, 0, 0, 0) := by decide +kernel
theorem aX12_strip_50 : i_at mX12_strip.2.2.2.2.2 50 = some (.getfield 31, 3, 11, 8, 1095, 0) := by decide +kernel
theorem aX12_strip_53 : i_at mX12_strip.2.2.2.2.2 53 = some (.iload_n 1, 1, 0, 0, 0, 0) := by decide +kernel
theorem aX12_strip_54 : i_at mX12_strip.2.2.2.2.2 54 = some (.iaload, 1, 0, 0, 0, 0) := by decide +kernel
theorem aX12_strip_55 : i_at mX12_strip.2.2.2.2.2 55 = some (.ireturn, 1, 0, 0, 0, 0) := by decide +kernel
noncomputable def fX12_strip (sh : List kd) (σ : St) (p1 : Int32) (p2 : Int32) : Option (Int32 × St) := i_bd (fX12_isPerson sh σ p1) (fun r1 s2 => if r1 = 0 then some ((-1), s2) else i_bd (fX12_isThing sh s2 p2) (fun r5 s6 => if r5 = 0 then some ((-1), s6) else if i_ok p1 6 then i_bd (fX12_has sh s6 (s6.2.1 8 p1.toNatClampNeg) p2) (fun r10 s11 => if ¬ r10 = 0 then i_bd (fX12_keepsAct sh s11) (fun r14 s15 => if i_ok p1 6 then if i_ok p1 6 then if i_ok p1 6 then some (((s_A s15 8 p1.toNatClampNeg ((s15.2.1 8 p1.toNatClampNeg) &&& ((1 <<< (p2 &&& 31)) ^^^ (-1)))).2.1 8 p1.toNatClampNeg), s_A s15 8 p1.toNatClampNeg ((s15.2.1 8 p1.toNatClampNeg) &&& ((1 <<< (p2 &&& 31)) ^^^ (-1)))) else none else none else none) else some ((-1), s11)) else none))
set_option maxRecDepth 20000 in
set_option maxHeartbeats 2000000 in
theorem tX12_strip {sh : List kd} {σ τ : St} {r : Int32} (hsh : rmSh sh) {p1 : Int32} {p2 : Int32} (hE : fX12_strip sh σ p1 p2 = some (r, τ)) : i_X 5 195 [.ref 0, .int p1, .int p2] (s_h sh σ) 0 0 (some (.int r)) (s_h sh τ) := by
  refine g_X (M := mX12_strip) (loc := [.ref 0, .int p1, .int p2]) rfl (Nat.le_of_ble_eq_true rfl) rfl ?_
  unfold fX12_strip at hE
  refine g_ldan aX12_strip_0 rfl ?_
  refine g_ldin aX12_strip_1 rfl ?_
  obtain ⟨r1, s2, h3, hE⟩ := i_bd_some hE
  refine g_calV (As := [.int p1]) (rest := []) aX12_strip_2 (i_X_mono (by omega) (tX12_isPerson hsh h3)) (sR_0 hsh) (by decide +kernel) rfl rfl (Nat.le_of_ble_eq_true rfl) rfl ?_
  by_cases hc4 : r1 = 0
  · rw [if_pos hc4] at hE
    refine g_if_eq_t aX12_strip_5 hc4 ?_
    refine g_iconst (x := (-1)) aX12_strip_29 rfl ?_
    obtain ⟨rfl, rfl⟩ := i_some_inj hE
    exact g_iret aX12_strip_30 rfl rfl
  · rw [if_neg hc4] at hE
    refine g_if_eq_f aX12_strip_5 hc4 ?_
    refine g_ldan aX12_strip_8 rfl ?_
    refine g_ldin aX12_strip_9 rfl ?_
    obtain ⟨r5, s6, h7, hE⟩ := i_bd_some hE
    refine g_calV (As := [.int p2]) (rest := []) aX12_strip_10 (i_X_mono (by omega) (tX12_isThing hsh h7)) (sR_0 hsh) (by decide +kernel) rfl rfl (Nat.le_of_ble_eq_true rfl) rfl ?_
    by_cases hc8 : r5 = 0
    · rw [if_pos hc8] at hE
      refine g_if_eq_t aX12_strip_13 hc8 ?_
      refine g_iconst (x := (-1)) aX12_strip_29 rfl ?_
      obtain ⟨rfl, rfl⟩ := i_some_inj hE
      exact g_iret aX12_strip_30 rfl rfl
    · rw [if_neg hc8] at hE
      refine g_if_eq_f aX12_strip_13 hc8 ?_
      refine g_ldan aX12_strip_16 rfl ?_
      refine g_getR aX12_strip_17 (sR_0 hsh) rfl ?_
      refine g_ldin aX12_strip_20 rfl ?_
      obtain ⟨h9, hE⟩ := i_ifn hE
      refine g_ild aX12_strip_21 (sR_8 hsh) h9 ?_
      refine g_ldin aX12_strip_22 rfl ?_
      obtain ⟨r10, s11, h12, hE⟩ := i_bd_some hE
      refine g_calS (As := [.int (s6.2.1 8 p1.toNatClampNeg), .int p2]) (rest := []) aX12_strip_23 (i_X_mono (by omega) (tX12_has hsh h12)) rfl rfl (Nat.le_of_ble_eq_true rfl) rfl ?_
      by_cases hc13 : ¬ r10 = 0
      · rw [if_pos hc13] at hE
        refine g_if_ne_t aX12_strip_26 hc13 ?_
        refine g_ldan aX12_strip_31 rfl ?_
        obtain ⟨r14, s15, h16, hE⟩ := i_bd_some hE
        refine g_calV (As := []) (rest := []) aX12_strip_32 (i_X_mono (by omega) (tX12_keepsAct hsh h16)) (sR_0 hsh) (by decide +kernel) rfl rfl (Nat.le_of_ble_eq_true rfl) rfl ?_
        refine g_ldan aX12_strip_35 rfl ?_
        refine g_getR aX12_strip_36 (sR_0 hsh) rfl ?_
        refine g_ldin aX12_strip_39 rfl ?_
        refine g_dup2 aX12_strip_40 ?_
        obtain ⟨h17, hE⟩ := i_ifn hE
        refine g_ild aX12_strip_41 (sR_8 hsh) h17 ?_
        refine g_iconst (x := 1) aX12_strip_42 rfl ?_
        refine g_ldin aX12_strip_43 rfl ?_
        refine g_ishl aX12_strip_44 ?_
        refine g_iconst (x := (-1)) aX12_strip_45 rfl ?_
        refine g_ixor aX12_strip_46 ?_
        refine g_iand aX12_strip_47 ?_
        obtain ⟨h18, hE⟩ := i_ifn hE
        refine g_ist aX12_strip_48 (sR_8 hsh) h18 ?_
        refine g_ldan aX12_strip_49 rfl ?_
        refine g_getR aX12_strip_50 (sR_0 hsh) rfl ?_
        refine g_ldin aX12_strip_53 rfl ?_
        obtain ⟨h19, hE⟩ := i_ifn hE
        refine g_ild aX12_strip_54 (sR_8 hsh) h19 ?_
        obtain ⟨rfl, rfl⟩ := i_some_inj hE
        exact g_iret aX12_strip_55 rfl rfl
      · rw [if_neg hc13] at hE
        refine g_if_ne_f aX12_strip_26 hc13 ?_
        refine g_iconst (x := (-1)) aX12_strip_29 rfl ?_
        obtain ⟨rfl, rfl⟩ := i_some_inj hE
        exact g_iret aX12_strip_30 rfl rfl
theorem aX12_place_0 : i_at mX12_place.2.2.2.2.2 0 = some (.aload_n 0, 1, 0, 0, 0, 0) := by decide +kernel
theorem aX12_place_1 : i_at mX12_place.2.2.2.2.2 1 = some (.iload_n 1, 1, 0, 0, 0, 0) := by decide +kernel
theorem aX12_place_2 : i_at mX12_place.2.2.2.2.2 2 = some (.invokevirtual 351, 3, 132, 1, 1446, 0) := by decide +kernel
theorem aX12_place_5 : i_at mX12_place.2.2.2.2.2 5 = some (.ifCond .ne 5, 3, 10, 0, 0, 0) := by decide +kernel
theorem aX12_place_8 : i_at mX12_place.2.2.2.2.2 8 = some (.iconst (-1), 1, 0, 0, 0, 0) := by decide +kernel
theorem aX12_place_9 : i_at mX12_place.2.2.2.2.2 9 = some (.ireturn, 1, 0, 0, 0, 0) := by decide +kernel
theorem aX12_place_10 : i_at mX12_place.2.2.2.2.2 10 = some (.iconst 0, 1, 0, 0, 0, 0) := by decide +kernel
theorem aX12_place_11 : i_at mX12_place.2.2.2.2.2 11 = some (.istore_n 2, 1, 0, 0, 0, 0) := by decide +kernel
theorem aX12_place_12 : i_at mX12_place.2.2.2.2.2 12 = some (.iconst 0, 1, 0, 0, 0, 0) := by decide +kernel
theorem aX12_place_13 : i_at mX12_place.2.2.2.2.2 13 = some (.istore_n 3, 1, 0, 0, 0, 0) := by decide +kernel
theorem aX12_place_14 : i_at mX12_place.2.2.2.2.2 14 = some (.iload_n 3, 1, 0, 0, 0, 0) := by decide +kernel
theorem aX12_place_15 : i_at mX12_place.2.2.2.2.2 15 = some (.aload_n 0, 1, 0, 0, 0, 0) := by decide +kernel
theorem aX12_place_16 : i_at mX12_place.2.2.2.2.2 16 = some (.getfield 9, 3, 11, 1, 1088, 0) := by decide +kernel
theorem aX12_place_19 : i_at mX12_place.2.2.2.2.2 19 = some (.iconst 3, 1, 0, 0, 0, 0) := by decide +kernel
theorem aX12_place_20 : i_at mX12_place.2.2.2.2.2 20 = some (.iaload, 1, 0, 0, 0, 0) := by decide +kernel
theorem aX12_place_21 : i_at mX12_place.2.2.2.2.2 21 = some (.if_icmp .ge 48, 3, 69, 0, 0, 0) := by decide +kernel
theorem aX12_place_24 : i_at mX12_place.2.2.2.2.2 24 = some (.iload_n 2, 1, 0, 0, 0, 0) := by decide +kernel
theorem aX12_place_25 : i_at mX12_place.2.2.2.2.2 25 = some (.aload_n 0, 1, 0, 0, 0, 0) := by decide +kernel
theorem aX12_place_26 : i_at mX12_place.2.2.2.2.2 26 = some (.iload_n 3, 1, 0, 0, 0, 0) := by decide +kernel
theorem aX12_place_27 : i_at mX12_place.2.2.2.2.2 27 = some (.invokevirtual 354, 3, 177, 1, 1450, 0) := by decide +kernel
theorem aX12_place_30 : i_at mX12_place.2.2.2.2.2 30 = some (.aload_n 0, 1, 0, 0, 0, 0) := by decide +kernel
theorem aX12_place_31 : i_at mX12_place.2.2.2.2.2 31 = some (.iload_n 1, 1, 0, 0, 0, 0) := by decide +kernel
theorem aX12_place_32 : i_at mX12_place.2.2.2.2.2 32 = some (.invokevirtual 354, 3, 177, 1, 1450, 0) := by decide +kernel
theorem aX12_place_35 : i_at mX12_place.2.2.2.2.2 35 = some (.if_icmp .gt 21, 3, 56, 0, 0, 0) := by decide +kernel
theorem aX12_place_38 : i_at mX12_place.2.2.2.2.2 38 = some (.aload_n 0, 1, 0, 0, 0, 0) := by decide +kernel
theorem aX12_place_39 : i_at mX12_place.2.2.2.2.2 39 = some (.iload_n 3, 1, 0, 0, 0, 0) := by decide +kernel
theorem aX12_place_40 : i_at mX12_place.2.2.2.2.2 40 = some (.invokevirtual 354, 3, 177, 1, 1450, 0) := by decide +kernel
theorem aX12_place_43 : i_at mX12_place.2.2.2.2.2 43 = some (.aload_n 0, 1, 0, 0, 0, 0) := by decide +kernel
theorem aX12_place_44 : i_at mX12_place.2.2.2.2.2 44 = some (.iload_n 1, 1, 0, 0, 0, 0) := by decide +kernel
theorem aX12_place_45 : i_at mX12_place.2.2.2.2.2 45 = some (.invokevirtual 354, 3, 177, 1, 1450, 0) := by decide +kernel
theorem aX12_place_48 : i_at mX12_place.2.2.2.2.2 48 = some (.if_icmp .ne 12, 3, 60, 0, 0, 0) := by decide +kernel
theorem aX12_place_51 : i_at mX12_place.2.2.2.2.2 51 = some (.iload_n 3, 1, 0, 0, 0, 0) := by decide +kernel
theorem aX12_place_52 : i_at mX12_place.2.2.2.2.2 52 = some (.iload_n 1, 1, 0, 0, 0, 0) := by decide +kernel
theorem aX12_place_53 : i_at mX12_place.2.2.2.2.2 53 = some (.if_icmp .ge 7, 3, 60, 0, 0, 0) := by decide +kernel
theorem aX12_place_56 : i_at mX12_place.2.2.2.2.2 56 = some (.iconst 1, 1, 0, 0, 0, 0) := by decide +kernel
theorem aX12_place_57 : i_at mX12_place.2.2.2.2.2 57 = some (.goto 4, 3, 61, 0, 0, 0) := by decide +kernel
theorem aX12_place_60 : i_at mX12_place.2.2.2.2.2 60 = some (.iconst 0, 1, 0, 0, 0, 0) := by decide +kernel
theorem aX12_place_61 : i_at mX12_place.2.2.2.2.2 61 = some (.iadd, 1, 0, 0, 0, 0) := by decide +kernel
theorem aX12_place_62 : i_at mX12_place.2.2.2.2.2 62 = some (.istore_n 2, 1, 0, 0, 0, 0) := by decide +kernel
theorem aX12_place_63 : i_at mX12_place.2.2.2.2.2 63 = some (.iinc 3 1, 3, 0, 0, 0, 0) := by decide +kernel
theorem aX12_place_66 : i_at mX12_place.2.2.2.2.2 66 = some (.goto (-52), 3, 14, 0, 0, 0) := by decide +kernel
theorem aX12_place_69 : i_at mX12_place.2.2.2.2.2 69 = some (.iload_n 2, 1, 0, 0, 0, 0) := by decide +kernel
theorem aX12_place_70 : i_at mX12_place.2.2.2.2.2 70 = some (.ireturn, 1, 0, 0, 0, 0) := by decide +kernel
noncomputable def fX12_place_J61 (sh : List kd) (p1 : Int32) (x5 : Int32) (x6 : Int32) (k14 : Int32 → Int32 → St → Option (Int32 × St)) (x117 : Int32) (s118 : St) : Option (Int32 × St) := k14 (x5 + x117) (x6 + 1) s118
noncomputable def fX12_place_L14 (sh : List kd) (p1 : Int32) : Nat → Int32 → Int32 → St → Option (Int32 × St)
  | 0, _, _, _ => none
  | n8 + 1, x5, x6, s7 => if i_ok 3 11 then if (s7.2.1 1 (3 : Int32).toNatClampNeg) ≤ x6 then some (x5, s7) else i_bd (fX12_rankOf sh s7 x6) (fun r61 s62 => i_bd (fX12_rankOf sh s62 p1) (fun r64 s65 => if r64 < r61 then fX12_place_J61 sh p1 x5 x6 (fX12_place_L14 sh p1 n8) 1 s65 else i_bd (fX12_rankOf sh s65 x6) (fun r120 s121 => i_bd (fX12_rankOf sh s121 p1) (fun r123 s124 => fX12_place_J61 sh p1 x5 x6 (fX12_place_L14 sh p1 n8) ((if ¬ r120 = r123 then 0 else (if p1 ≤ x6 then 0 else 1)) : Int32) s124)))) else none
noncomputable def fX12_place (sh : List kd) (σ : St) (p1 : Int32) : Option (Int32 × St) := i_bd (fX12_isPerson sh σ p1) (fun r1 s2 => if ¬ r1 = 0 then fX12_place_L14 sh p1 i_F 0 0 s2 else some ((-1), s2))
set_option maxRecDepth 20000 in
set_option maxHeartbeats 2000000 in
theorem tX12_place_J61 {sh : List kd} {τ : St} {r : Int32} (hsh : rmSh sh) {p1 : Int32} {x5 : Int32} {x6 : Int32} {x117 : Int32} {s118 : St} {k14 : Int32 → Int32 → St → Option (Int32 × St)} (hk14 : ∀ (x5 : Int32) (x6 : Int32) (s7 : St), k14 x5 x6 s7 = some (r, τ) → g_R sh 2 mX12_place (some (.int r)) τ 14 [.ref 0, .int p1, .int x5, .int x6] [] (s7)) (hE : fX12_place_J61 sh p1 x5 x6 k14 x117 s118 = some (r, τ)) : g_R sh 2 mX12_place (some (.int r)) τ 61 [.ref 0, .int p1, .int x5, .int x6] [.int x117, .int x5] (s118) := by
  unfold fX12_place_J61 at hE
  refine g_iadd aX12_place_61 ?_
  refine g_stin (loc2 := [.ref 0, .int p1, .int (x5 + x117), .int x6]) aX12_place_62 (Nat.le_of_ble_eq_true rfl) rfl ?_
  refine g_iinc (y := 1) (loc2 := [.ref 0, .int p1, .int (x5 + x117), .int (x6 + 1)]) aX12_place_63 rfl rfl rfl ?_
  refine g_goto aX12_place_66 ?_
  exact hk14 _ _ _ hE
set_option maxRecDepth 20000 in
set_option maxHeartbeats 2000000 in
theorem tX12_place_L14 {sh : List kd} {τ : St} {r : Int32} (hsh : rmSh sh) {p1 : Int32} : ∀ (n0 : Nat) (x5 : Int32) (x6 : Int32) (s7 : St), fX12_place_L14 sh p1 n0 x5 x6 s7 = some (r, τ) → g_R sh 2 mX12_place (some (.int r)) τ 14 [.ref 0, .int p1, .int x5, .int x6] [] (s7) := by
  intro n0
  induction n0 with
  | zero => intro _ _ _ hE; cases hE
  | succ n8 ih =>
    intro x5 x6 s7 hE
    unfold fX12_place_L14 at hE
    refine g_ldin aX12_place_14 rfl ?_
    refine g_ldan aX12_place_15 rfl ?_
    refine g_getR aX12_place_16 (sR_0 hsh) rfl ?_
    refine g_iconst (x := 3) aX12_place_19 rfl ?_
    obtain ⟨h9, hE⟩ := i_ifn hE
    refine g_ild aX12_place_20 (sR_1 hsh) h9 ?_
    by_cases hc60 : (s7.2.1 1 (3 : Int32).toNatClampNeg) ≤ x6
    · rw [if_pos hc60] at hE
      refine g_ic_ge_t aX12_place_21 hc60 ?_
      refine g_ldin aX12_place_69 rfl ?_
      obtain ⟨rfl, rfl⟩ := i_some_inj hE
      exact g_iret aX12_place_70 rfl rfl
    · rw [if_neg hc60] at hE
      refine g_ic_ge_f aX12_place_21 hc60 ?_
      refine g_ldin aX12_place_24 rfl ?_
      refine g_ldan aX12_place_25 rfl ?_
      refine g_ldin aX12_place_26 rfl ?_
      obtain ⟨r61, s62, h63, hE⟩ := i_bd_some hE
      refine g_calV (As := [.int x6]) (rest := [.int x5]) aX12_place_27 (i_X_mono (by omega) (tX12_rankOf hsh h63)) (sR_0 hsh) (by decide +kernel) rfl rfl (Nat.le_of_ble_eq_true rfl) rfl ?_
      refine g_ldan aX12_place_30 rfl ?_
      refine g_ldin aX12_place_31 rfl ?_
      obtain ⟨r64, s65, h66, hE⟩ := i_bd_some hE
      refine g_calV (As := [.int p1]) (rest := [.int r61, .int x5]) aX12_place_32 (i_X_mono (by omega) (tX12_rankOf hsh h66)) (sR_0 hsh) (by decide +kernel) rfl rfl (Nat.le_of_ble_eq_true rfl) rfl ?_
      by_cases hc119 : r64 < r61
      · rw [if_pos hc119] at hE
        refine g_ic_gt_t aX12_place_35 hc119 ?_
        refine g_iconst (x := 1) aX12_place_56 rfl ?_
        refine g_goto aX12_place_57 ?_
        exact tX12_place_J61 hsh ih hE
      · rw [if_neg hc119] at hE
        refine g_ic_gt_f aX12_place_35 hc119 ?_
        refine g_ldan aX12_place_38 rfl ?_
        refine g_ldin aX12_place_39 rfl ?_
        obtain ⟨r120, s121, h122, hE⟩ := i_bd_some hE
        refine g_calV (As := [.int x6]) (rest := [.int x5]) aX12_place_40 (i_X_mono (by omega) (tX12_rankOf hsh h122)) (sR_0 hsh) (by decide +kernel) rfl rfl (Nat.le_of_ble_eq_true rfl) rfl ?_
        refine g_ldan aX12_place_43 rfl ?_
        refine g_ldin aX12_place_44 rfl ?_
        obtain ⟨r123, s124, h125, hE⟩ := i_bd_some hE
        refine g_calV (As := [.int p1]) (rest := [.int r120, .int x5]) aX12_place_45 (i_X_mono (by omega) (tX12_rankOf hsh h125)) (sR_0 hsh) (by decide +kernel) rfl rfl (Nat.le_of_ble_eq_true rfl) rfl ?_
        have hJ : g_R sh 2 mX12_place (some (.int r)) τ 61 [.ref 0, .int p1, .int x5, .int x6] [.int ((if ¬ r120 = r123 then 0 else (if p1 ≤ x6 then 0 else 1)) : Int32), .int x5] (s124) := by
          exact tX12_place_J61 hsh ih hE
        clear hE
        by_cases hc125 : ¬ r120 = r123
        · (try rw [if_pos hc125] at hJ)
          refine g_ic_ne_t aX12_place_48 hc125 ?_
          refine g_iconst (x := 0) aX12_place_60 rfl ?_
          exact hJ
        · (try rw [if_neg hc125] at hJ)
          refine g_ic_ne_f aX12_place_48 hc125 ?_
          refine g_ldin aX12_place_51 rfl ?_
          refine g_ldin aX12_place_52 rfl ?_
          by_cases hc126 : p1 ≤ x6
          · (try rw [if_pos hc126] at hJ)
            refine g_ic_ge_t aX12_place_53 hc126 ?_
            refine g_iconst (x := 0) aX12_place_60 rfl ?_
            exact hJ
          · (try rw [if_neg hc126] at hJ)
            refine g_ic_ge_f aX12_place_53 hc126 ?_
            refine g_iconst (x := 1) aX12_place_56 rfl ?_
            refine g_goto aX12_place_57 ?_
            exact hJ
set_option maxRecDepth 20000 in
set_option maxHeartbeats 2000000 in
theorem tX12_place {sh : List kd} {σ τ : St} {r : Int32} (hsh : rmSh sh) {p1 : Int32} (hE : fX12_place sh σ p1 = some (r, τ)) : i_X 3 205 [.ref 0, .int p1] (s_h sh σ) 0 0 (some (.int r)) (s_h sh τ) := by
  refine g_X (M := mX12_place) (loc := [.ref 0, .int p1, .retAddr 0, .retAddr 0]) rfl (Nat.le_of_ble_eq_true rfl) rfl ?_
  unfold fX12_place at hE
  refine g_ldan aX12_place_0 rfl ?_
  refine g_ldin aX12_place_1 rfl ?_
  obtain ⟨r1, s2, h3, hE⟩ := i_bd_some hE
  refine g_calV (As := [.int p1]) (rest := []) aX12_place_2 (i_X_mono (by omega) (tX12_isPerson hsh h3)) (sR_0 hsh) (by decide +kernel) rfl rfl (Nat.le_of_ble_eq_true rfl) rfl ?_
  by_cases hc4 : ¬ r1 = 0
  · rw [if_pos hc4] at hE
    refine g_if_ne_t aX12_place_5 hc4 ?_
    refine g_iconst (x := 0) aX12_place_10 rfl ?_
    refine g_stin (loc2 := [.ref 0, .int p1, .int 0, .retAddr 0]) aX12_place_11 (Nat.le_of_ble_eq_true rfl) rfl ?_
    refine g_iconst (x := 0) aX12_place_12 rfl ?_
    refine g_stin (loc2 := [.ref 0, .int p1, .int 0, .int 0]) aX12_place_13 (Nat.le_of_ble_eq_true rfl) rfl ?_
    exact tX12_place_L14 hsh i_F _ _ _ hE
  · rw [if_neg hc4] at hE
    refine g_if_ne_f aX12_place_5 hc4 ?_
    refine g_iconst (x := (-1)) aX12_place_8 rfl ?_
    obtain ⟨rfl, rfl⟩ := i_some_inj hE
    exact g_iret aX12_place_9 rfl rfl
theorem aX12_quarrel_0 : i_at mX12_quarrel.2.2.2.2.2 0 = some (.iconst 0, 1, 0, 0, 0, 0) := by decide +kernel
theorem aX12_quarrel_1 : i_at mX12_quarrel.2.2.2.2.2 1 = some (.istore_n 3, 1, 0, 0, 0, 0) := by decide +kernel
theorem aX12_quarrel_2 : i_at mX12_quarrel.2.2.2.2.2 2 = some (.iload_n 3, 1, 0, 0, 0, 0) := by decide +kernel
theorem aX12_quarrel_3 : i_at mX12_quarrel.2.2.2.2.2 3 = some (.aload_n 0, 1, 0, 0, 0, 0) := by decide +kernel
theorem aX12_quarrel_4 : i_at mX12_quarrel.2.2.2.2.2 4 = some (.getfield 9, 3, 11, 1, 1088, 0) := by decide +kernel
theorem aX12_quarrel_7 : i_at mX12_quarrel.2.2.2.2.2 7 = some (.iconst 2, 1, 0, 0, 0, 0) := by decide +kernel
theorem aX12_quarrel_8 : i_at mX12_quarrel.2.2.2.2.2 8 = some (.iaload, 1, 0, 0, 0, 0) := by decide +kernel
theorem aX12_quarrel_9 : i_at mX12_quarrel.2.2.2.2.2 9 = some (.if_icmp .ge 40, 3, 49, 0, 0, 0) := by decide +kernel
theorem aX12_quarrel_12 : i_at mX12_quarrel.2.2.2.2.2 12 = some (.aload_n 0, 1, 0, 0, 0, 0) := by decide +kernel
theorem aX12_quarrel_13 : i_at mX12_quarrel.2.2.2.2.2 13 = some (.getfield 31, 3, 11, 8, 1095, 0) := by decide +kernel
theorem aX12_quarrel_16 : i_at mX12_quarrel.2.2.2.2.2 16 = some (.iload_n 1, 1, 0, 0, 0, 0) := by decide +kernel
theorem aX12_quarrel_17 : i_at mX12_quarrel.2.2.2.2.2 17 = some (.iaload, 1, 0, 0, 0, 0) := by decide +kernel
theorem aX12_quarrel_18 : i_at mX12_quarrel.2.2.2.2.2 18 = some (.iload_n 3, 1, 0, 0, 0, 0) := by decide +kernel
theorem aX12_quarrel_19 : i_at mX12_quarrel.2.2.2.2.2 19 = some (.invokestatic 348, 3, 129, 2, 1454, 0) := by decide +kernel
theorem aX12_quarrel_22 : i_at mX12_quarrel.2.2.2.2.2 22 = some (.ifCond .eq 21, 3, 43, 0, 0, 0) := by decide +kernel
theorem aX12_quarrel_25 : i_at mX12_quarrel.2.2.2.2.2 25 = some (.aload_n 0, 1, 0, 0, 0, 0) := by decide +kernel
theorem aX12_quarrel_26 : i_at mX12_quarrel.2.2.2.2.2 26 = some (.getfield 16, 3, 11, 3, 1090, 0) := by decide +kernel
theorem aX12_quarrel_29 : i_at mX12_quarrel.2.2.2.2.2 29 = some (.iload_n 3, 1, 0, 0, 0, 0) := by decide +kernel
theorem aX12_quarrel_30 : i_at mX12_quarrel.2.2.2.2.2 30 = some (.iaload, 1, 0, 0, 0, 0) := by decide +kernel
theorem aX12_quarrel_31 : i_at mX12_quarrel.2.2.2.2.2 31 = some (.aload_n 0, 1, 0, 0, 0, 0) := by decide +kernel
theorem aX12_quarrel_32 : i_at mX12_quarrel.2.2.2.2.2 32 = some (.getfield 31, 3, 11, 8, 1095, 0) := by decide +kernel
theorem aX12_quarrel_35 : i_at mX12_quarrel.2.2.2.2.2 35 = some (.iload_n 2, 1, 0, 0, 0, 0) := by decide +kernel
theorem aX12_quarrel_36 : i_at mX12_quarrel.2.2.2.2.2 36 = some (.iaload, 1, 0, 0, 0, 0) := by decide +kernel
theorem aX12_quarrel_37 : i_at mX12_quarrel.2.2.2.2.2 37 = some (.iand, 1, 0, 0, 0, 0) := by decide +kernel
theorem aX12_quarrel_38 : i_at mX12_quarrel.2.2.2.2.2 38 = some (.ifCond .eq 5, 3, 43, 0, 0, 0) := by decide +kernel
theorem aX12_quarrel_41 : i_at mX12_quarrel.2.2.2.2.2 41 = some (.iconst 1, 1, 0, 0, 0, 0) := by decide +kernel
theorem aX12_quarrel_42 : i_at mX12_quarrel.2.2.2.2.2 42 = some (.ireturn, 1, 0, 0, 0, 0) := by decide +kernel
theorem aX12_quarrel_43 : i_at mX12_quarrel.2.2.2.2.2 43 = some (.iinc 3 1, 3, 0, 0, 0, 0) := by decide +kernel
theorem aX12_quarrel_46 : i_at mX12_quarrel.2.2.2.2.2 46 = some (.goto (-44), 3, 2, 0, 0, 0) := by decide +kernel
theorem aX12_quarrel_49 : i_at mX12_quarrel.2.2.2.2.2 49 = some (.iconst 0, 1, 0, 0, 0, 0) := by decide +kernel
theorem aX12_quarrel_50 : i_at mX12_quarrel.2.2.2.2.2 50 = some (.ireturn, 1, 0, 0, 0, 0) := by decide +kernel
noncomputable def fX12_quarrel_L2 (sh : List kd) (p1 : Int32) (p2 : Int32) : Nat → Int32 → St → Option (Int32 × St)
  | 0, _, _ => none
  | n3 + 1, x1, s2 => if i_ok 2 11 then if (s2.2.1 1 (2 : Int32).toNatClampNeg) ≤ x1 then some (0, s2) else if i_ok p1 6 then i_bd (fX12_has sh s2 (s2.2.1 8 p1.toNatClampNeg) x1) (fun r7 s8 => if r7 = 0 then (fX12_quarrel_L2 sh p1 p2 n3 (x1 + 1) s8) else if i_ok x1 6 then if i_ok p2 6 then if ((s8.2.1 3 x1.toNatClampNeg) &&& (s8.2.1 8 p2.toNatClampNeg)) = 0 then (fX12_quarrel_L2 sh p1 p2 n3 (x1 + 1) s8) else some (1, s8) else none else none) else none else none
noncomputable def fX12_quarrel (sh : List kd) (σ : St) (p1 : Int32) (p2 : Int32) : Option (Int32 × St) := fX12_quarrel_L2 sh p1 p2 i_F 0 σ
set_option maxRecDepth 20000 in
set_option maxHeartbeats 2000000 in
theorem tX12_quarrel_L2 {sh : List kd} {τ : St} {r : Int32} (hsh : rmSh sh) {p1 : Int32} {p2 : Int32} : ∀ (n0 : Nat) (x1 : Int32) (s2 : St), fX12_quarrel_L2 sh p1 p2 n0 x1 s2 = some (r, τ) → g_R sh 1 mX12_quarrel (some (.int r)) τ 2 [.ref 0, .int p1, .int p2, .int x1] [] (s2) := by
  intro n0
  induction n0 with
  | zero => intro _ _ hE; cases hE
  | succ n3 ih =>
    intro x1 s2 hE
    unfold fX12_quarrel_L2 at hE
    refine g_ldin aX12_quarrel_2 rfl ?_
    refine g_ldan aX12_quarrel_3 rfl ?_
    refine g_getR aX12_quarrel_4 (sR_0 hsh) rfl ?_
    refine g_iconst (x := 2) aX12_quarrel_7 rfl ?_
    obtain ⟨h4, hE⟩ := i_ifn hE
    refine g_ild aX12_quarrel_8 (sR_1 hsh) h4 ?_
    by_cases hc5 : (s2.2.1 1 (2 : Int32).toNatClampNeg) ≤ x1
    · rw [if_pos hc5] at hE
      refine g_ic_ge_t aX12_quarrel_9 hc5 ?_
      refine g_iconst (x := 0) aX12_quarrel_49 rfl ?_
      obtain ⟨rfl, rfl⟩ := i_some_inj hE
      exact g_iret aX12_quarrel_50 rfl rfl
    · rw [if_neg hc5] at hE
      refine g_ic_ge_f aX12_quarrel_9 hc5 ?_
      refine g_ldan aX12_quarrel_12 rfl ?_
      refine g_getR aX12_quarrel_13 (sR_0 hsh) rfl ?_
      refine g_ldin aX12_quarrel_16 rfl ?_
      obtain ⟨h6, hE⟩ := i_ifn hE
      refine g_ild aX12_quarrel_17 (sR_8 hsh) h6 ?_
      refine g_ldin aX12_quarrel_18 rfl ?_
      obtain ⟨r7, s8, h9, hE⟩ := i_bd_some hE
      refine g_calS (As := [.int (s2.2.1 8 p1.toNatClampNeg), .int x1]) (rest := []) aX12_quarrel_19 (i_X_mono (by omega) (tX12_has hsh h9)) rfl rfl (Nat.le_of_ble_eq_true rfl) rfl ?_
      by_cases hc10 : r7 = 0
      · rw [if_pos hc10] at hE
        refine g_if_eq_t aX12_quarrel_22 hc10 ?_
        refine g_iinc (y := 1) (loc2 := [.ref 0, .int p1, .int p2, .int (x1 + 1)]) aX12_quarrel_43 rfl rfl rfl ?_
        refine g_goto aX12_quarrel_46 ?_
        exact ih _ _ hE
      · rw [if_neg hc10] at hE
        refine g_if_eq_f aX12_quarrel_22 hc10 ?_
        refine g_ldan aX12_quarrel_25 rfl ?_
        refine g_getR aX12_quarrel_26 (sR_0 hsh) rfl ?_
        refine g_ldin aX12_quarrel_29 rfl ?_
        obtain ⟨h11, hE⟩ := i_ifn hE
        refine g_ild aX12_quarrel_30 (sR_3 hsh) h11 ?_
        refine g_ldan aX12_quarrel_31 rfl ?_
        refine g_getR aX12_quarrel_32 (sR_0 hsh) rfl ?_
        refine g_ldin aX12_quarrel_35 rfl ?_
        obtain ⟨h12, hE⟩ := i_ifn hE
        refine g_ild aX12_quarrel_36 (sR_8 hsh) h12 ?_
        refine g_iand aX12_quarrel_37 ?_
        by_cases hc13 : ((s8.2.1 3 x1.toNatClampNeg) &&& (s8.2.1 8 p2.toNatClampNeg)) = 0
        · rw [if_pos hc13] at hE
          refine g_if_eq_t aX12_quarrel_38 hc13 ?_
          refine g_iinc (y := 1) (loc2 := [.ref 0, .int p1, .int p2, .int (x1 + 1)]) aX12_quarrel_43 rfl rfl rfl ?_
          refine g_goto aX12_quarrel_46 ?_
          exact ih _ _ hE
        · rw [if_neg hc13] at hE
          refine g_if_eq_f aX12_quarrel_38 hc13 ?_
          refine g_iconst (x := 1) aX12_quarrel_41 rfl ?_
          obtain ⟨rfl, rfl⟩ := i_some_inj hE
          exact g_iret aX12_quarrel_42 rfl rfl
set_option maxRecDepth 20000 in
set_option maxHeartbeats 2000000 in
theorem tX12_quarrel {sh : List kd} {σ τ : St} {r : Int32} (hsh : rmSh sh) {p1 : Int32} {p2 : Int32} (hE : fX12_quarrel sh σ p1 p2 = some (r, τ)) : i_X 2 206 [.ref 0, .int p1, .int p2] (s_h sh σ) 0 0 (some (.int r)) (s_h sh τ) := by
  refine g_X (M := mX12_quarrel) (loc := [.ref 0, .int p1, .int p2, .retAddr 0]) rfl (Nat.le_of_ble_eq_true rfl) rfl ?_
  unfold fX12_quarrel at hE
  refine g_iconst (x := 0) aX12_quarrel_0 rfl ?_
  refine g_stin (loc2 := [.ref 0, .int p1, .int p2, .int 0]) aX12_quarrel_1 (Nat.le_of_ble_eq_true rfl) rfl ?_
  exact tX12_quarrel_L2 hsh i_F _ _ hE
theorem aX12_isPeace_0 : i_at mX12_isPeace.2.2.2.2.2 0 = some (.iconst 0, 1, 0, 0, 0, 0) := by decide +kernel
theorem aX12_isPeace_1 : i_at mX12_isPeace.2.2.2.2.2 1 = some (.istore_n 2, 1, 0, 0, 0, 0) := by decide +kernel
theorem aX12_isPeace_2 : i_at mX12_isPeace.2.2.2.2.2 2 = some (.iload_n 2, 1, 0, 0, 0, 0) := by decide +kernel
theorem aX12_isPeace_3 : i_at mX12_isPeace.2.2.2.2.2 3 = some (.aload_n 0, 1, 0, 0, 0, 0) := by decide +kernel
theorem aX12_isPeace_4 : i_at mX12_isPeace.2.2.2.2.2 4 = some (.getfield 9, 3, 11, 1, 1088, 0) := by decide +kernel
theorem aX12_isPeace_7 : i_at mX12_isPeace.2.2.2.2.2 7 = some (.iconst 3, 1, 0, 0, 0, 0) := by decide +kernel
theorem aX12_isPeace_8 : i_at mX12_isPeace.2.2.2.2.2 8 = some (.iaload, 1, 0, 0, 0, 0) := by decide +kernel
theorem aX12_isPeace_9 : i_at mX12_isPeace.2.2.2.2.2 9 = some (.if_icmp .ge 54, 3, 63, 0, 0, 0) := by decide +kernel
theorem aX12_isPeace_12 : i_at mX12_isPeace.2.2.2.2.2 12 = some (.iload_n 2, 1, 0, 0, 0, 0) := by decide +kernel
theorem aX12_isPeace_13 : i_at mX12_isPeace.2.2.2.2.2 13 = some (.istore_n 3, 1, 0, 0, 0, 0) := by decide +kernel
theorem aX12_isPeace_14 : i_at mX12_isPeace.2.2.2.2.2 14 = some (.iload_n 3, 1, 0, 0, 0, 0) := by decide +kernel
theorem aX12_isPeace_15 : i_at mX12_isPeace.2.2.2.2.2 15 = some (.aload_n 0, 1, 0, 0, 0, 0) := by decide +kernel
theorem aX12_isPeace_16 : i_at mX12_isPeace.2.2.2.2.2 16 = some (.getfield 9, 3, 11, 1, 1088, 0) := by decide +kernel
theorem aX12_isPeace_19 : i_at mX12_isPeace.2.2.2.2.2 19 = some (.iconst 3, 1, 0, 0, 0, 0) := by decide +kernel
theorem aX12_isPeace_20 : i_at mX12_isPeace.2.2.2.2.2 20 = some (.iaload, 1, 0, 0, 0, 0) := by decide +kernel
theorem aX12_isPeace_21 : i_at mX12_isPeace.2.2.2.2.2 21 = some (.if_icmp .ge 36, 3, 57, 0, 0, 0) := by decide +kernel
theorem aX12_isPeace_24 : i_at mX12_isPeace.2.2.2.2.2 24 = some (.iload_n 1, 1, 0, 0, 0, 0) := by decide +kernel
theorem aX12_isPeace_25 : i_at mX12_isPeace.2.2.2.2.2 25 = some (.iload_n 2, 1, 0, 0, 0, 0) := by decide +kernel
theorem aX12_isPeace_26 : i_at mX12_isPeace.2.2.2.2.2 26 = some (.invokestatic 348, 3, 129, 2, 1454, 0) := by decide +kernel
theorem aX12_isPeace_29 : i_at mX12_isPeace.2.2.2.2.2 29 = some (.ifCond .ne 22, 3, 51, 0, 0, 0) := by decide +kernel
theorem aX12_isPeace_32 : i_at mX12_isPeace.2.2.2.2.2 32 = some (.iload_n 1, 1, 0, 0, 0, 0) := by decide +kernel
theorem aX12_isPeace_33 : i_at mX12_isPeace.2.2.2.2.2 33 = some (.iload_n 3, 1, 0, 0, 0, 0) := by decide +kernel
theorem aX12_isPeace_34 : i_at mX12_isPeace.2.2.2.2.2 34 = some (.invokestatic 348, 3, 129, 2, 1454, 0) := by decide +kernel
theorem aX12_isPeace_37 : i_at mX12_isPeace.2.2.2.2.2 37 = some (.ifCond .ne 14, 3, 51, 0, 0, 0) := by decide +kernel
theorem aX12_isPeace_40 : i_at mX12_isPeace.2.2.2.2.2 40 = some (.aload_n 0, 1, 0, 0, 0, 0) := by decide +kernel
theorem aX12_isPeace_41 : i_at mX12_isPeace.2.2.2.2.2 41 = some (.iload_n 2, 1, 0, 0, 0, 0) := by decide +kernel
theorem aX12_isPeace_42 : i_at mX12_isPeace.2.2.2.2.2 42 = some (.iload_n 3, 1, 0, 0, 0, 0) := by decide +kernel
theorem aX12_isPeace_43 : i_at mX12_isPeace.2.2.2.2.2 43 = some (.invokevirtual 427, 3, 206, 2, 1603, 0) := by decide +kernel
theorem aX12_isPeace_46 : i_at mX12_isPeace.2.2.2.2.2 46 = some (.ifCond .eq 5, 3, 51, 0, 0, 0) := by decide +kernel
theorem aX12_isPeace_49 : i_at mX12_isPeace.2.2.2.2.2 49 = some (.iconst 0, 1, 0, 0, 0, 0) := by decide +kernel
theorem aX12_isPeace_50 : i_at mX12_isPeace.2.2.2.2.2 50 = some (.ireturn, 1, 0, 0, 0, 0) := by decide +kernel
theorem aX12_isPeace_51 : i_at mX12_isPeace.2.2.2.2.2 51 = some (.iinc 3 1, 3, 0, 0, 0, 0) := by decide +kernel
theorem aX12_isPeace_54 : i_at mX12_isPeace.2.2.2.2.2 54 = some (.goto (-40), 3, 14, 0, 0, 0) := by decide +kernel
theorem aX12_isPeace_57 : i_at mX12_isPeace.2.2.2.2.2 57 = some (.iinc 2 1, 3, 0, 0, 0, 0) := by decide +kernel
theorem aX12_isPeace_60 : i_at mX12_isPeace.2.2.2.2.2 60 = some (.goto (-58), 3, 2, 0, 0, 0) := by decide +kernel
theorem aX12_isPeace_63 : i_at mX12_isPeace.2.2.2.2.2 63 = some (.iconst 1, 1, 0, 0, 0, 0) := by decide +kernel
theorem aX12_isPeace_64 : i_at mX12_isPeace.2.2.2.2.2 64 = some (.ireturn, 1, 0, 0, 0, 0) := by decide +kernel
noncomputable def fX12_isPeace_L14 (sh : List kd) (p1 : Int32) (x1 : Int32) (k57 : Int32 → St → Option (Int32 × St)) : Nat → Int32 → St → Option (Int32 × St)
  | 0, _, _ => none
  | n61 + 1, x7, s8 => if i_ok 3 11 then if (s8.2.1 1 (3 : Int32).toNatClampNeg) ≤ x7 then k57 x7 s8 else i_bd (fX12_has sh s8 p1 x1) (fun r64 s65 => if ¬ r64 = 0 then (fX12_isPeace_L14 sh p1 x1 k57 n61 (x7 + 1) s65) else i_bd (fX12_has sh s65 p1 x7) (fun r68 s69 => if ¬ r68 = 0 then (fX12_isPeace_L14 sh p1 x1 k57 n61 (x7 + 1) s69) else i_bd (fX12_quarrel sh s69 x1 x7) (fun r72 s73 => if r72 = 0 then (fX12_isPeace_L14 sh p1 x1 k57 n61 (x7 + 1) s73) else some (0, s73)))) else none
noncomputable def fX12_isPeace_X57 (sh : List kd) (p1 : Int32) (x1 : Int32) (k2 : Int32 → Value → St → Option (Int32 × St)) (x59 : Int32) (s60 : St) : Option (Int32 × St) := k2 (x1 + 1) (.int x59) s60
noncomputable def fX12_isPeace_L2 (sh : List kd) (p1 : Int32) : Nat → Int32 → Value → St → Option (Int32 × St)
  | 0, _, _, _ => none
  | n4 + 1, x1, x2, s3 => if i_ok 3 11 then if (s3.2.1 1 (3 : Int32).toNatClampNeg) ≤ x1 then some (1, s3) else fX12_isPeace_L14 sh p1 x1 (fun (x59 : Int32) (s60 : St) => fX12_isPeace_X57 sh p1 x1 (fX12_isPeace_L2 sh p1 n4) x59 s60) i_F x1 s3 else none
noncomputable def fX12_isPeace (sh : List kd) (σ : St) (p1 : Int32) : Option (Int32 × St) := fX12_isPeace_L2 sh p1 i_F 0 (.retAddr 0) σ
set_option maxRecDepth 20000 in
set_option maxHeartbeats 2000000 in
theorem tX12_isPeace_L14 {sh : List kd} {τ : St} {r : Int32} (hsh : rmSh sh) {p1 : Int32} {x1 : Int32} {k57 : Int32 → St → Option (Int32 × St)} (hk57 : ∀ (x59 : Int32) (s60 : St), k57 x59 s60 = some (r, τ) → g_R sh 2 mX12_isPeace (some (.int r)) τ 57 [.ref 0, .int p1, .int x1, .int x59] [] (s60)) : ∀ (n0 : Nat) (x7 : Int32) (s8 : St), fX12_isPeace_L14 sh p1 x1 k57 n0 x7 s8 = some (r, τ) → g_R sh 2 mX12_isPeace (some (.int r)) τ 14 [.ref 0, .int p1, .int x1, .int x7] [] (s8) := by
  intro n0
  induction n0 with
  | zero => intro _ _ hE; cases hE
  | succ n61 ih =>
    intro x7 s8 hE
    unfold fX12_isPeace_L14 at hE
    refine g_ldin aX12_isPeace_14 rfl ?_
    refine g_ldan aX12_isPeace_15 rfl ?_
    refine g_getR aX12_isPeace_16 (sR_0 hsh) rfl ?_
    refine g_iconst (x := 3) aX12_isPeace_19 rfl ?_
    obtain ⟨h62, hE⟩ := i_ifn hE
    refine g_ild aX12_isPeace_20 (sR_1 hsh) h62 ?_
    by_cases hc63 : (s8.2.1 1 (3 : Int32).toNatClampNeg) ≤ x7
    · rw [if_pos hc63] at hE
      refine g_ic_ge_t aX12_isPeace_21 hc63 ?_
      exact hk57 _ _ hE
    · rw [if_neg hc63] at hE
      refine g_ic_ge_f aX12_isPeace_21 hc63 ?_
      refine g_ldin aX12_isPeace_24 rfl ?_
      refine g_ldin aX12_isPeace_25 rfl ?_
      obtain ⟨r64, s65, h66, hE⟩ := i_bd_some hE
      refine g_calS (As := [.int p1, .int x1]) (rest := []) aX12_isPeace_26 (i_X_mono (by omega) (tX12_has hsh h66)) rfl rfl (Nat.le_of_ble_eq_true rfl) rfl ?_
      by_cases hc67 : ¬ r64 = 0
      · rw [if_pos hc67] at hE
        refine g_if_ne_t aX12_isPeace_29 hc67 ?_
        refine g_iinc (y := 1) (loc2 := [.ref 0, .int p1, .int x1, .int (x7 + 1)]) aX12_isPeace_51 rfl rfl rfl ?_
        refine g_goto aX12_isPeace_54 ?_
        exact ih _ _ hE
      · rw [if_neg hc67] at hE
        refine g_if_ne_f aX12_isPeace_29 hc67 ?_
        refine g_ldin aX12_isPeace_32 rfl ?_
        refine g_ldin aX12_isPeace_33 rfl ?_
        obtain ⟨r68, s69, h70, hE⟩ := i_bd_some hE
        refine g_calS (As := [.int p1, .int x7]) (rest := []) aX12_isPeace_34 (i_X_mono (by omega) (tX12_has hsh h70)) rfl rfl (Nat.le_of_ble_eq_true rfl) rfl ?_
        by_cases hc71 : ¬ r68 = 0
        · rw [if_pos hc71] at hE
          refine g_if_ne_t aX12_isPeace_37 hc71 ?_
          refine g_iinc (y := 1) (loc2 := [.ref 0, .int p1, .int x1, .int (x7 + 1)]) aX12_isPeace_51 rfl rfl rfl ?_
          refine g_goto aX12_isPeace_54 ?_
          exact ih _ _ hE
        · rw [if_neg hc71] at hE
          refine g_if_ne_f aX12_isPeace_37 hc71 ?_
          refine g_ldan aX12_isPeace_40 rfl ?_
          refine g_ldin aX12_isPeace_41 rfl ?_
          refine g_ldin aX12_isPeace_42 rfl ?_
          obtain ⟨r72, s73, h74, hE⟩ := i_bd_some hE
          refine g_calV (As := [.int x1, .int x7]) (rest := []) aX12_isPeace_43 (i_X_mono (by omega) (tX12_quarrel hsh h74)) (sR_0 hsh) (by decide +kernel) rfl rfl (Nat.le_of_ble_eq_true rfl) rfl ?_
          by_cases hc75 : r72 = 0
          · rw [if_pos hc75] at hE
            refine g_if_eq_t aX12_isPeace_46 hc75 ?_
            refine g_iinc (y := 1) (loc2 := [.ref 0, .int p1, .int x1, .int (x7 + 1)]) aX12_isPeace_51 rfl rfl rfl ?_
            refine g_goto aX12_isPeace_54 ?_
            exact ih _ _ hE
          · rw [if_neg hc75] at hE
            refine g_if_eq_f aX12_isPeace_46 hc75 ?_
            refine g_iconst (x := 0) aX12_isPeace_49 rfl ?_
            obtain ⟨rfl, rfl⟩ := i_some_inj hE
            exact g_iret aX12_isPeace_50 rfl rfl
set_option maxRecDepth 20000 in
set_option maxHeartbeats 2000000 in
theorem tX12_isPeace_X57 {sh : List kd} {τ : St} {r : Int32} (hsh : rmSh sh) {p1 : Int32} {x1 : Int32} {x59 : Int32} {s60 : St} {k2 : Int32 → Value → St → Option (Int32 × St)} (hk2 : ∀ (x1 : Int32) (x2 : Value) (s3 : St), k2 x1 x2 s3 = some (r, τ) → g_R sh 2 mX12_isPeace (some (.int r)) τ 2 [.ref 0, .int p1, .int x1, x2] [] (s3)) (hE : fX12_isPeace_X57 sh p1 x1 k2 x59 s60 = some (r, τ)) : g_R sh 2 mX12_isPeace (some (.int r)) τ 57 [.ref 0, .int p1, .int x1, .int x59] [] (s60) := by
  unfold fX12_isPeace_X57 at hE
  refine g_iinc (y := 1) (loc2 := [.ref 0, .int p1, .int (x1 + 1), .int x59]) aX12_isPeace_57 rfl rfl rfl ?_
  refine g_goto aX12_isPeace_60 ?_
  exact hk2 _ _ _ hE
set_option maxRecDepth 20000 in
set_option maxHeartbeats 2000000 in
theorem tX12_isPeace_L2 {sh : List kd} {τ : St} {r : Int32} (hsh : rmSh sh) {p1 : Int32} : ∀ (n0 : Nat) (x1 : Int32) (x2 : Value) (s3 : St), fX12_isPeace_L2 sh p1 n0 x1 x2 s3 = some (r, τ) → g_R sh 2 mX12_isPeace (some (.int r)) τ 2 [.ref 0, .int p1, .int x1, x2] [] (s3) := by
  intro n0
  induction n0 with
  | zero => intro _ _ _ hE; cases hE
  | succ n4 ih =>
    intro x1 x2 s3 hE
    unfold fX12_isPeace_L2 at hE
    refine g_ldin aX12_isPeace_2 rfl ?_
    refine g_ldan aX12_isPeace_3 rfl ?_
    refine g_getR aX12_isPeace_4 (sR_0 hsh) rfl ?_
    refine g_iconst (x := 3) aX12_isPeace_7 rfl ?_
    obtain ⟨h5, hE⟩ := i_ifn hE
    refine g_ild aX12_isPeace_8 (sR_1 hsh) h5 ?_
    by_cases hc6 : (s3.2.1 1 (3 : Int32).toNatClampNeg) ≤ x1
    · rw [if_pos hc6] at hE
      refine g_ic_ge_t aX12_isPeace_9 hc6 ?_
      refine g_iconst (x := 1) aX12_isPeace_63 rfl ?_
      obtain ⟨rfl, rfl⟩ := i_some_inj hE
      exact g_iret aX12_isPeace_64 rfl rfl
    · rw [if_neg hc6] at hE
      refine g_ic_ge_f aX12_isPeace_9 hc6 ?_
      refine g_ldin aX12_isPeace_12 rfl ?_
      refine g_stin (loc2 := [.ref 0, .int p1, .int x1, .int x1]) aX12_isPeace_13 (Nat.le_of_ble_eq_true rfl) rfl ?_
      exact tX12_isPeace_L14 hsh (fun x59 s60 hE => tX12_isPeace_X57 hsh ih hE) i_F _ _ hE
set_option maxRecDepth 20000 in
set_option maxHeartbeats 2000000 in
theorem tX12_isPeace {sh : List kd} {σ τ : St} {r : Int32} (hsh : rmSh sh) {p1 : Int32} (hE : fX12_isPeace sh σ p1 = some (r, τ)) : i_X 3 207 [.ref 0, .int p1] (s_h sh σ) 0 0 (some (.int r)) (s_h sh τ) := by
  refine g_X (M := mX12_isPeace) (loc := [.ref 0, .int p1, .retAddr 0, .retAddr 0]) rfl (Nat.le_of_ble_eq_true rfl) rfl ?_
  unfold fX12_isPeace at hE
  refine g_iconst (x := 0) aX12_isPeace_0 rfl ?_
  refine g_stin (loc2 := [.ref 0, .int p1, .int 0, .retAddr 0]) aX12_isPeace_1 (Nat.le_of_ble_eq_true rfl) rfl ?_
  exact tX12_isPeace_L2 hsh i_F _ _ _ hE
theorem aX12_stripped_0 : i_at mX12_stripped.2.2.2.2.2 0 = some (.aload_n 0, 1, 0, 0, 0, 0) := by decide +kernel
theorem aX12_stripped_1 : i_at mX12_stripped.2.2.2.2.2 1 = some (.invokevirtual 345, 3, 130, 0, 1438, 0) := by decide +kernel
theorem aX12_stripped_4 : i_at mX12_stripped.2.2.2.2.2 4 = some (.ifCond .eq 13, 3, 17, 0, 0, 0) := by decide +kernel
theorem aX12_stripped_7 : i_at mX12_stripped.2.2.2.2.2 7 = some (.iload_n 1, 1, 0, 0, 0, 0) := by decide +kernel
theorem aX12_stripped_8 : i_at mX12_stripped.2.2.2.2.2 8 = some (.i2l, 1, 0, 0, 0, 0) := by decide +kernel
theorem aX12_stripped_9 : i_at mX12_stripped.2.2.2.2.2 9 = some (.lconst 0, 1, 0, 0, 0, 0) := by decide +kernel
theorem aX12_stripped_10 : i_at mX12_stripped.2.2.2.2.2 10 = some (.lconst 1, 1, 0, 0, 0, 0) := by decide +kernel
theorem aX12_stripped_11 : i_at mX12_stripped.2.2.2.2.2 11 = some (.invokestatic 131, 3, 127, 3, 1324, 0) := by decide +kernel
theorem aX12_stripped_14 : i_at mX12_stripped.2.2.2.2.2 14 = some (.ifCond .ne 5, 3, 19, 0, 0, 0) := by decide +kernel
theorem aX12_stripped_17 : i_at mX12_stripped.2.2.2.2.2 17 = some (.iconst (-1), 1, 0, 0, 0, 0) := by decide +kernel
theorem aX12_stripped_18 : i_at mX12_stripped.2.2.2.2.2 18 = some (.ireturn, 1, 0, 0, 0, 0) := by decide +kernel
theorem aX12_stripped_19 : i_at mX12_stripped.2.2.2.2.2 19 = some (.iconst 1, 1, 0, 0, 0, 0) := by decide +kernel
theorem aX12_stripped_20 : i_at mX12_stripped.2.2.2.2.2 20 = some (.aload_n 0, 1, 0, 0, 0, 0) := by decide +kernel
theorem aX12_stripped_21 : i_at mX12_stripped.2.2.2.2.2 21 = some (.getfield 9, 3, 11, 1, 1088, 0) := by decide +kernel
theorem aX12_stripped_24 : i_at mX12_stripped.2.2.2.2.2 24 = some (.iconst 3, 1, 0, 0, 0, 0) := by decide +kernel
theorem aX12_stripped_25 : i_at mX12_stripped.2.2.2.2.2 25 = some (.iaload, 1, 0, 0, 0, 0) := by decide +kernel
theorem aX12_stripped_26 : i_at mX12_stripped.2.2.2.2.2 26 = some (.ishl, 1, 0, 0, 0, 0) := by decide +kernel
theorem aX12_stripped_27 : i_at mX12_stripped.2.2.2.2.2 27 = some (.iconst 1, 1, 0, 0, 0, 0) := by decide +kernel
theorem aX12_stripped_28 : i_at mX12_stripped.2.2.2.2.2 28 = some (.isub, 1, 0, 0, 0, 0) := by decide +kernel
theorem aX12_stripped_29 : i_at mX12_stripped.2.2.2.2.2 29 = some (.istore_n 2, 1, 0, 0, 0, 0) := by decide +kernel
theorem aX12_stripped_30 : i_at mX12_stripped.2.2.2.2.2 30 = some (.iconst 0, 1, 0, 0, 0, 0) := by decide +kernel
theorem aX12_stripped_31 : i_at mX12_stripped.2.2.2.2.2 31 = some (.istore_n 3, 1, 0, 0, 0, 0) := by decide +kernel
theorem aX12_stripped_32 : i_at mX12_stripped.2.2.2.2.2 32 = some (.iload_n 3, 1, 0, 0, 0, 0) := by decide +kernel
theorem aX12_stripped_33 : i_at mX12_stripped.2.2.2.2.2 33 = some (.iconst 1, 1, 0, 0, 0, 0) := by decide +kernel
theorem aX12_stripped_34 : i_at mX12_stripped.2.2.2.2.2 34 = some (.aload_n 0, 1, 0, 0, 0, 0) := by decide +kernel
theorem aX12_stripped_35 : i_at mX12_stripped.2.2.2.2.2 35 = some (.getfield 9, 3, 11, 1, 1088, 0) := by decide +kernel
theorem aX12_stripped_38 : i_at mX12_stripped.2.2.2.2.2 38 = some (.iconst 3, 1, 0, 0, 0, 0) := by decide +kernel
theorem aX12_stripped_39 : i_at mX12_stripped.2.2.2.2.2 39 = some (.iaload, 1, 0, 0, 0, 0) := by decide +kernel
theorem aX12_stripped_40 : i_at mX12_stripped.2.2.2.2.2 40 = some (.ishl, 1, 0, 0, 0, 0) := by decide +kernel
theorem aX12_stripped_41 : i_at mX12_stripped.2.2.2.2.2 41 = some (.if_icmp .ge 30, 3, 71, 0, 0, 0) := by decide +kernel
theorem aX12_stripped_44 : i_at mX12_stripped.2.2.2.2.2 44 = some (.iload_n 3, 1, 0, 0, 0, 0) := by decide +kernel
theorem aX12_stripped_45 : i_at mX12_stripped.2.2.2.2.2 45 = some (.invokestatic 359, 3, 128, 1, 1497, 0) := by decide +kernel
theorem aX12_stripped_48 : i_at mX12_stripped.2.2.2.2.2 48 = some (.iload_n 2, 1, 0, 0, 0, 0) := by decide +kernel
theorem aX12_stripped_49 : i_at mX12_stripped.2.2.2.2.2 49 = some (.invokestatic 359, 3, 128, 1, 1497, 0) := by decide +kernel
theorem aX12_stripped_52 : i_at mX12_stripped.2.2.2.2.2 52 = some (.if_icmp .ge 13, 3, 65, 0, 0, 0) := by decide +kernel
theorem aX12_stripped_55 : i_at mX12_stripped.2.2.2.2.2 55 = some (.aload_n 0, 1, 0, 0, 0, 0) := by decide +kernel
theorem aX12_stripped_56 : i_at mX12_stripped.2.2.2.2.2 56 = some (.iload_n 3, 1, 0, 0, 0, 0) := by decide +kernel
theorem aX12_stripped_57 : i_at mX12_stripped.2.2.2.2.2 57 = some (.invokevirtual 429, 3, 207, 1, 1599, 0) := by decide +kernel
theorem aX12_stripped_60 : i_at mX12_stripped.2.2.2.2.2 60 = some (.ifCond .eq 5, 3, 65, 0, 0, 0) := by decide +kernel
theorem aX12_stripped_63 : i_at mX12_stripped.2.2.2.2.2 63 = some (.iload_n 3, 1, 0, 0, 0, 0) := by decide +kernel
theorem aX12_stripped_64 : i_at mX12_stripped.2.2.2.2.2 64 = some (.istore_n 2, 1, 0, 0, 0, 0) := by decide +kernel
theorem aX12_stripped_65 : i_at mX12_stripped.2.2.2.2.2 65 = some (.iinc 3 1, 3, 0, 0, 0, 0) := by decide +kernel
theorem aX12_stripped_68 : i_at mX12_stripped.2.2.2.2.2 68 = some (.goto (-36), 3, 32, 0, 0, 0) := by decide +kernel
theorem aX12_stripped_71 : i_at mX12_stripped.2.2.2.2.2 71 = some (.iload_n 1, 1, 0, 0, 0, 0) := by decide +kernel
theorem aX12_stripped_72 : i_at mX12_stripped.2.2.2.2.2 72 = some (.ifCond .ne 10, 3, 82, 0, 0, 0) := by decide +kernel
theorem aX12_stripped_75 : i_at mX12_stripped.2.2.2.2.2 75 = some (.iload_n 2, 1, 0, 0, 0, 0) := by decide +kernel
theorem aX12_stripped_76 : i_at mX12_stripped.2.2.2.2.2 76 = some (.invokestatic 359, 3, 128, 1, 1497, 0) := by decide +kernel
theorem aX12_stripped_79 : i_at mX12_stripped.2.2.2.2.2 79 = some (.goto 4, 3, 83, 0, 0, 0) := by decide +kernel
theorem aX12_stripped_82 : i_at mX12_stripped.2.2.2.2.2 82 = some (.iload_n 2, 1, 0, 0, 0, 0) := by decide +kernel
theorem aX12_stripped_83 : i_at mX12_stripped.2.2.2.2.2 83 = some (.ireturn, 1, 0, 0, 0, 0) := by decide +kernel
noncomputable def fX12_stripped_J65 (sh : List kd) (p1 : Int32) (x11 : Int32) (k32 : Int32 → Int32 → St → Option (Int32 × St)) (x125 : Int32) (s126 : St) : Option (Int32 × St) := k32 x125 (x11 + 1) s126
noncomputable def fX12_stripped_L32 (sh : List kd) (p1 : Int32) (k71 : Int32 → Int32 → St → Option (Int32 × St)) : Nat → Int32 → Int32 → St → Option (Int32 × St)
  | 0, _, _, _ => none
  | n66 + 1, x10, x11, s12 => if i_ok 3 11 then if (1 <<< ((s12.2.1 1 (3 : Int32).toNatClampNeg) &&& 31)) ≤ x11 then k71 x10 x11 s12 else i_bd (fX12_bits sh s12 x11) (fun r69 s70 => i_bd (fX12_bits sh s70 x10) (fun r72 s73 => if r72 ≤ r69 then fX12_stripped_J65 sh p1 x11 (fX12_stripped_L32 sh p1 k71 n66) x10 s73 else i_bd (fX12_isPeace sh s73 x11) (fun r128 s129 => fX12_stripped_J65 sh p1 x11 (fX12_stripped_L32 sh p1 k71 n66) ((if r128 = 0 then x10 else x11) : Int32) s129))) else none
noncomputable def fX12_stripped_J83 (sh : List kd) (p1 : Int32) (x63 : Int32) (x64 : Int32) (x182 : Int32) (s183 : St) : Option (Int32 × St) := some (x182, s183)
noncomputable def fX12_stripped_X71 (sh : List kd) (p1 : Int32) (x63 : Int32) (x64 : Int32) (s65 : St) : Option (Int32 × St) := if ¬ p1 = 0 then fX12_stripped_J83 sh p1 x63 x64 x63 s65 else i_bd (fX12_bits sh s65 x63) (fun r185 s186 => fX12_stripped_J83 sh p1 x63 x64 r185 s186)
noncomputable def fX12_stripped (sh : List kd) (σ : St) (p1 : Int32) : Option (Int32 × St) := i_bd (fX12_isCourt sh σ) (fun r1 s2 => if r1 = 0 then some ((-1), s2) else i_bd (fX12_in sh s2 p1.toInt64 0 1) (fun r5 s6 => if ¬ r5 = 0 then if i_ok 3 11 then fX12_stripped_L32 sh p1 (fun (x63 : Int32) (x64 : Int32) (s65 : St) => fX12_stripped_X71 sh p1 x63 x64 s65) i_F ((1 <<< ((s6.2.1 1 (3 : Int32).toNatClampNeg) &&& 31)) - 1) 0 s6 else none else some ((-1), s6)))
set_option maxRecDepth 20000 in
set_option maxHeartbeats 2000000 in
theorem tX12_stripped_J65 {sh : List kd} {τ : St} {r : Int32} (hsh : rmSh sh) {p1 : Int32} {x11 : Int32} {x125 : Int32} {s126 : St} {k32 : Int32 → Int32 → St → Option (Int32 × St)} (hk32 : ∀ (x10 : Int32) (x11 : Int32) (s12 : St), k32 x10 x11 s12 = some (r, τ) → g_R sh 3 mX12_stripped (some (.int r)) τ 32 [.ref 0, .int p1, .int x10, .int x11] [] (s12)) (hE : fX12_stripped_J65 sh p1 x11 k32 x125 s126 = some (r, τ)) : g_R sh 3 mX12_stripped (some (.int r)) τ 65 [.ref 0, .int p1, .int x125, .int x11] [] (s126) := by
  unfold fX12_stripped_J65 at hE
  refine g_iinc (y := 1) (loc2 := [.ref 0, .int p1, .int x125, .int (x11 + 1)]) aX12_stripped_65 rfl rfl rfl ?_
  refine g_goto aX12_stripped_68 ?_
  exact hk32 _ _ _ hE
set_option maxRecDepth 20000 in
set_option maxHeartbeats 2000000 in
theorem tX12_stripped_L32 {sh : List kd} {τ : St} {r : Int32} (hsh : rmSh sh) {p1 : Int32} {k71 : Int32 → Int32 → St → Option (Int32 × St)} (hk71 : ∀ (x63 : Int32) (x64 : Int32) (s65 : St), k71 x63 x64 s65 = some (r, τ) → g_R sh 3 mX12_stripped (some (.int r)) τ 71 [.ref 0, .int p1, .int x63, .int x64] [] (s65)) : ∀ (n0 : Nat) (x10 : Int32) (x11 : Int32) (s12 : St), fX12_stripped_L32 sh p1 k71 n0 x10 x11 s12 = some (r, τ) → g_R sh 3 mX12_stripped (some (.int r)) τ 32 [.ref 0, .int p1, .int x10, .int x11] [] (s12) := by
  intro n0
  induction n0 with
  | zero => intro _ _ _ hE; cases hE
  | succ n66 ih =>
    intro x10 x11 s12 hE
    unfold fX12_stripped_L32 at hE
    refine g_ldin aX12_stripped_32 rfl ?_
    refine g_iconst (x := 1) aX12_stripped_33 rfl ?_
    refine g_ldan aX12_stripped_34 rfl ?_
    refine g_getR aX12_stripped_35 (sR_0 hsh) rfl ?_
    refine g_iconst (x := 3) aX12_stripped_38 rfl ?_
    obtain ⟨h67, hE⟩ := i_ifn hE
    refine g_ild aX12_stripped_39 (sR_1 hsh) h67 ?_
    refine g_ishl aX12_stripped_40 ?_
    by_cases hc68 : (1 <<< ((s12.2.1 1 (3 : Int32).toNatClampNeg) &&& 31)) ≤ x11
    · rw [if_pos hc68] at hE
      refine g_ic_ge_t aX12_stripped_41 hc68 ?_
      exact hk71 _ _ _ hE
    · rw [if_neg hc68] at hE
      refine g_ic_ge_f aX12_stripped_41 hc68 ?_
      refine g_ldin aX12_stripped_44 rfl ?_
      obtain ⟨r69, s70, h71, hE⟩ := i_bd_some hE
      refine g_calS (As := [.int x11]) (rest := []) aX12_stripped_45 (i_X_mono (by omega) (tX12_bits hsh h71)) rfl rfl (Nat.le_of_ble_eq_true rfl) rfl ?_
      refine g_ldin aX12_stripped_48 rfl ?_
      obtain ⟨r72, s73, h74, hE⟩ := i_bd_some hE
      refine g_calS (As := [.int x10]) (rest := [.int r69]) aX12_stripped_49 (i_X_mono (by omega) (tX12_bits hsh h74)) rfl rfl (Nat.le_of_ble_eq_true rfl) rfl ?_
      by_cases hc127 : r72 ≤ r69
      · rw [if_pos hc127] at hE
        refine g_ic_ge_t aX12_stripped_52 hc127 ?_
        exact tX12_stripped_J65 hsh ih hE
      · rw [if_neg hc127] at hE
        refine g_ic_ge_f aX12_stripped_52 hc127 ?_
        refine g_ldan aX12_stripped_55 rfl ?_
        refine g_ldin aX12_stripped_56 rfl ?_
        obtain ⟨r128, s129, h130, hE⟩ := i_bd_some hE
        refine g_calV (As := [.int x11]) (rest := []) aX12_stripped_57 (i_X_mono (by omega) (tX12_isPeace hsh h130)) (sR_0 hsh) (by decide +kernel) rfl rfl (Nat.le_of_ble_eq_true rfl) rfl ?_
        have hJ : g_R sh 3 mX12_stripped (some (.int r)) τ 65 [.ref 0, .int p1, .int ((if r128 = 0 then x10 else x11) : Int32), .int x11] [] (s129) := by
          exact tX12_stripped_J65 hsh ih hE
        clear hE
        by_cases hc130 : r128 = 0
        · (try rw [if_pos hc130] at hJ)
          refine g_if_eq_t aX12_stripped_60 hc130 ?_
          exact hJ
        · (try rw [if_neg hc130] at hJ)
          refine g_if_eq_f aX12_stripped_60 hc130 ?_
          refine g_ldin aX12_stripped_63 rfl ?_
          refine g_stin (loc2 := [.ref 0, .int p1, .int x11, .int x11]) aX12_stripped_64 (Nat.le_of_ble_eq_true rfl) rfl ?_
          exact hJ
set_option maxRecDepth 20000 in
set_option maxHeartbeats 2000000 in
theorem tX12_stripped_J83 {sh : List kd} {τ : St} {r : Int32} (hsh : rmSh sh) {p1 : Int32} {x63 : Int32} {x64 : Int32} {x182 : Int32} {s183 : St} (hE : fX12_stripped_J83 sh p1 x63 x64 x182 s183 = some (r, τ)) : g_R sh 3 mX12_stripped (some (.int r)) τ 83 [.ref 0, .int p1, .int x63, .int x64] [.int x182] (s183) := by
  unfold fX12_stripped_J83 at hE
  obtain ⟨rfl, rfl⟩ := i_some_inj hE
  exact g_iret aX12_stripped_83 rfl rfl
set_option maxRecDepth 20000 in
set_option maxHeartbeats 2000000 in
theorem tX12_stripped_X71 {sh : List kd} {τ : St} {r : Int32} (hsh : rmSh sh) {p1 : Int32} {x63 : Int32} {x64 : Int32} {s65 : St} (hE : fX12_stripped_X71 sh p1 x63 x64 s65 = some (r, τ)) : g_R sh 3 mX12_stripped (some (.int r)) τ 71 [.ref 0, .int p1, .int x63, .int x64] [] (s65) := by
  unfold fX12_stripped_X71 at hE
  refine g_ldin aX12_stripped_71 rfl ?_
  by_cases hc184 : ¬ p1 = 0
  · rw [if_pos hc184] at hE
    refine g_if_ne_t aX12_stripped_72 hc184 ?_
    refine g_ldin aX12_stripped_82 rfl ?_
    exact tX12_stripped_J83 hsh hE
  · rw [if_neg hc184] at hE
    refine g_if_ne_f aX12_stripped_72 hc184 ?_
    refine g_ldin aX12_stripped_75 rfl ?_
    obtain ⟨r185, s186, h187, hE⟩ := i_bd_some hE
    refine g_calS (As := [.int x63]) (rest := []) aX12_stripped_76 (i_X_mono (by omega) (tX12_bits hsh h187)) rfl rfl (Nat.le_of_ble_eq_true rfl) rfl ?_
    refine g_goto aX12_stripped_79 ?_
    exact tX12_stripped_J83 hsh hE
set_option maxRecDepth 20000 in
set_option maxHeartbeats 2000000 in
theorem tX12_stripped {sh : List kd} {σ τ : St} {r : Int32} (hsh : rmSh sh) {p1 : Int32} (hE : fX12_stripped sh σ p1 = some (r, τ)) : i_X 4 208 [.ref 0, .int p1] (s_h sh σ) 0 0 (some (.int r)) (s_h sh τ) := by
  refine g_X (M := mX12_stripped) (loc := [.ref 0, .int p1, .retAddr 0, .retAddr 0]) rfl (Nat.le_of_ble_eq_true rfl) rfl ?_
  unfold fX12_stripped at hE
  refine g_ldan aX12_stripped_0 rfl ?_
  obtain ⟨r1, s2, h3, hE⟩ := i_bd_some hE
  refine g_calV (As := []) (rest := []) aX12_stripped_1 (i_X_mono (by omega) (tX12_isCourt hsh h3)) (sR_0 hsh) (by decide +kernel) rfl rfl (Nat.le_of_ble_eq_true rfl) rfl ?_
  by_cases hc4 : r1 = 0
  · rw [if_pos hc4] at hE
    refine g_if_eq_t aX12_stripped_4 hc4 ?_
    refine g_iconst (x := (-1)) aX12_stripped_17 rfl ?_
    obtain ⟨rfl, rfl⟩ := i_some_inj hE
    exact g_iret aX12_stripped_18 rfl rfl
  · rw [if_neg hc4] at hE
    refine g_if_eq_f aX12_stripped_4 hc4 ?_
    refine g_ldin aX12_stripped_7 rfl ?_
    refine g_i2l aX12_stripped_8 ?_
    refine g_lconst (x := 0) aX12_stripped_9 rfl ?_
    refine g_lconst (x := 1) aX12_stripped_10 rfl ?_
    obtain ⟨r5, s6, h7, hE⟩ := i_bd_some hE
    refine g_calS (As := [.long p1.toInt64, .long 0, .long 1]) (rest := []) aX12_stripped_11 (i_X_mono (by omega) (tX12_in hsh h7)) rfl rfl (Nat.le_of_ble_eq_true rfl) rfl ?_
    by_cases hc8 : ¬ r5 = 0
    · rw [if_pos hc8] at hE
      refine g_if_ne_t aX12_stripped_14 hc8 ?_
      refine g_iconst (x := 1) aX12_stripped_19 rfl ?_
      refine g_ldan aX12_stripped_20 rfl ?_
      refine g_getR aX12_stripped_21 (sR_0 hsh) rfl ?_
      refine g_iconst (x := 3) aX12_stripped_24 rfl ?_
      obtain ⟨h9, hE⟩ := i_ifn hE
      refine g_ild aX12_stripped_25 (sR_1 hsh) h9 ?_
      refine g_ishl aX12_stripped_26 ?_
      refine g_iconst (x := 1) aX12_stripped_27 rfl ?_
      refine g_isub aX12_stripped_28 ?_
      refine g_stin (loc2 := [.ref 0, .int p1, .int ((1 <<< ((s6.2.1 1 (3 : Int32).toNatClampNeg) &&& 31)) - 1), .retAddr 0]) aX12_stripped_29 (Nat.le_of_ble_eq_true rfl) rfl ?_
      refine g_iconst (x := 0) aX12_stripped_30 rfl ?_
      refine g_stin (loc2 := [.ref 0, .int p1, .int ((1 <<< ((s6.2.1 1 (3 : Int32).toNatClampNeg) &&& 31)) - 1), .int 0]) aX12_stripped_31 (Nat.le_of_ble_eq_true rfl) rfl ?_
      exact tX12_stripped_L32 hsh (fun x63 x64 s65 hE => tX12_stripped_X71 hsh hE) i_F _ _ _ hE
    · rw [if_neg hc8] at hE
      refine g_if_ne_f aX12_stripped_14 hc8 ?_
      refine g_iconst (x := (-1)) aX12_stripped_17 rfl ?_
      obtain ⟨rfl, rfl⟩ := i_some_inj hE
      exact g_iret aX12_stripped_18 rfl rfl
theorem aX12_gold_0 : i_at mX12_gold.2.2.2.2.2 0 = some (.aload_n 0, 1, 0, 0, 0, 0) := by decide +kernel
theorem aX12_gold_1 : i_at mX12_gold.2.2.2.2.2 1 = some (.iload_n 2, 1, 0, 0, 0, 0) := by decide +kernel
theorem aX12_gold_2 : i_at mX12_gold.2.2.2.2.2 2 = some (.invokevirtual 351, 3, 132, 1, 1446, 0) := by decide +kernel
theorem aX12_gold_5 : i_at mX12_gold.2.2.2.2.2 5 = some (.ifCond .eq 15, 3, 20, 0, 0, 0) := by decide +kernel
theorem aX12_gold_8 : i_at mX12_gold.2.2.2.2.2 8 = some (.iload_n 1, 1, 0, 0, 0, 0) := by decide +kernel
theorem aX12_gold_9 : i_at mX12_gold.2.2.2.2.2 9 = some (.i2l, 1, 0, 0, 0, 0) := by decide +kernel
theorem aX12_gold_10 : i_at mX12_gold.2.2.2.2.2 10 = some (.lconst 0, 1, 0, 0, 0, 0) := by decide +kernel
theorem aX12_gold_11 : i_at mX12_gold.2.2.2.2.2 11 = some (.ldc2_w 432, 3, 0, 0, 1611, 9999) := by decide +kernel
theorem aX12_gold_14 : i_at mX12_gold.2.2.2.2.2 14 = some (.invokestatic 131, 3, 127, 3, 1324, 0) := by decide +kernel
theorem aX12_gold_17 : i_at mX12_gold.2.2.2.2.2 17 = some (.ifCond .ne 5, 3, 22, 0, 0, 0) := by decide +kernel
theorem aX12_gold_20 : i_at mX12_gold.2.2.2.2.2 20 = some (.iconst (-1), 1, 0, 0, 0, 0) := by decide +kernel
theorem aX12_gold_21 : i_at mX12_gold.2.2.2.2.2 21 = some (.ireturn, 1, 0, 0, 0, 0) := by decide +kernel
theorem aX12_gold_22 : i_at mX12_gold.2.2.2.2.2 22 = some (.iconst 0, 1, 0, 0, 0, 0) := by decide +kernel
theorem aX12_gold_23 : i_at mX12_gold.2.2.2.2.2 23 = some (.istore_n 3, 1, 0, 0, 0, 0) := by decide +kernel
theorem aX12_gold_24 : i_at mX12_gold.2.2.2.2.2 24 = some (.iconst 0, 1, 0, 0, 0, 0) := by decide +kernel
theorem aX12_gold_25 : i_at mX12_gold.2.2.2.2.2 25 = some (.istore 4, 2, 0, 0, 0, 0) := by decide +kernel
theorem aX12_gold_27 : i_at mX12_gold.2.2.2.2.2 27 = some (.iload 4, 2, 0, 0, 0, 0) := by decide +kernel
theorem aX12_gold_29 : i_at mX12_gold.2.2.2.2.2 29 = some (.aload_n 0, 1, 0, 0, 0, 0) := by decide +kernel
theorem aX12_gold_30 : i_at mX12_gold.2.2.2.2.2 30 = some (.getfield 9, 3, 11, 1, 1088, 0) := by decide +kernel
theorem aX12_gold_33 : i_at mX12_gold.2.2.2.2.2 33 = some (.iconst 3, 1, 0, 0, 0, 0) := by decide +kernel
theorem aX12_gold_34 : i_at mX12_gold.2.2.2.2.2 34 = some (.iaload, 1, 0, 0, 0, 0) := by decide +kernel
theorem aX12_gold_35 : i_at mX12_gold.2.2.2.2.2 35 = some (.if_icmp .ge 18, 3, 53, 0, 0, 0) := by decide +kernel
theorem aX12_gold_38 : i_at mX12_gold.2.2.2.2.2 38 = some (.iload_n 3, 1, 0, 0, 0, 0) := by decide +kernel
theorem aX12_gold_39 : i_at mX12_gold.2.2.2.2.2 39 = some (.aload_n 0, 1, 0, 0, 0, 0) := by decide +kernel
theorem aX12_gold_40 : i_at mX12_gold.2.2.2.2.2 40 = some (.iload 4, 2, 0, 0, 0, 0) := by decide +kernel
theorem aX12_gold_42 : i_at mX12_gold.2.2.2.2.2 42 = some (.invokevirtual 354, 3, 177, 1, 1450, 0) := by decide +kernel
theorem aX12_gold_45 : i_at mX12_gold.2.2.2.2.2 45 = some (.iadd, 1, 0, 0, 0, 0) := by decide +kernel
theorem aX12_gold_46 : i_at mX12_gold.2.2.2.2.2 46 = some (.istore_n 3, 1, 0, 0, 0, 0) := by decide +kernel
theorem aX12_gold_47 : i_at mX12_gold.2.2.2.2.2 47 = some (.iinc 4 1, 3, 0, 0, 0, 0) := by decide +kernel
theorem aX12_gold_50 : i_at mX12_gold.2.2.2.2.2 50 = some (.goto (-23), 3, 27, 0, 0, 0) := by decide +kernel
theorem aX12_gold_53 : i_at mX12_gold.2.2.2.2.2 53 = some (.iload_n 3, 1, 0, 0, 0, 0) := by decide +kernel
theorem aX12_gold_54 : i_at mX12_gold.2.2.2.2.2 54 = some (.ifCond .ne 5, 3, 59, 0, 0, 0) := by decide +kernel
theorem aX12_gold_57 : i_at mX12_gold.2.2.2.2.2 57 = some (.iconst 0, 1, 0, 0, 0, 0) := by decide +kernel
theorem aX12_gold_58 : i_at mX12_gold.2.2.2.2.2 58 = some (.ireturn, 1, 0, 0, 0, 0) := by decide +kernel
theorem aX12_gold_59 : i_at mX12_gold.2.2.2.2.2 59 = some (.iload_n 1, 1, 0, 0, 0, 0) := by decide +kernel
theorem aX12_gold_60 : i_at mX12_gold.2.2.2.2.2 60 = some (.istore 4, 2, 0, 0, 0, 0) := by decide +kernel
theorem aX12_gold_62 : i_at mX12_gold.2.2.2.2.2 62 = some (.iconst 0, 1, 0, 0, 0, 0) := by decide +kernel
theorem aX12_gold_63 : i_at mX12_gold.2.2.2.2.2 63 = some (.istore 5, 2, 0, 0, 0, 0) := by decide +kernel
theorem aX12_gold_65 : i_at mX12_gold.2.2.2.2.2 65 = some (.iconst 0, 1, 0, 0, 0, 0) := by decide +kernel
theorem aX12_gold_66 : i_at mX12_gold.2.2.2.2.2 66 = some (.istore 6, 2, 0, 0, 0, 0) := by decide +kernel
theorem aX12_gold_68 : i_at mX12_gold.2.2.2.2.2 68 = some (.iload 6, 2, 0, 0, 0, 0) := by decide +kernel
theorem aX12_gold_70 : i_at mX12_gold.2.2.2.2.2 70 = some (.aload_n 0, 1, 0, 0, 0, 0) := by decide +kernel
theorem aX12_gold_71 : i_at mX12_gold.2.2.2.2.2 71 = some (.getfield 9, 3, 11, 1, 1088, 0) := by decide +kernel
theorem aX12_gold_74 : i_at mX12_gold.2.2.2.2.2 74 = some (.iconst 3, 1, 0, 0, 0, 0) := by decide +kernel
theorem aX12_gold_75 : i_at mX12_gold.2.2.2.2.2 75 = some (.iaload, 1, 0, 0, 0, 0) := by decide +kernel
theorem aX12_gold_76 : i_at mX12_gold.2.2.2.2.2 76 = some (.if_icmp .ge 72, 3, 148, 0, 0, 0) := by decide +kernel
theorem aX12_gold_79 : i_at mX12_gold.2.2.2.2.2 79 = some (.iload 4, 2, 0, 0, 0, 0) := by decide +kernel
theorem aX12_gold_81 : i_at mX12_gold.2.2.2.2.2 81 = some (.iload_n 1, 1, 0, 0, 0, 0) := by decide +kernel
theorem aX12_gold_82 : i_at mX12_gold.2.2.2.2.2 82 = some (.aload_n 0, 1, 0, 0, 0, 0) := by decide +kernel
theorem aX12_gold_83 : i_at mX12_gold.2.2.2.2.2 83 = some (.iload 6, 2, 0, 0, 0, 0) := by decide +kernel
theorem aX12_gold_85 : i_at mX12_gold.2.2.2.2.2 85 = some (.invokevirtual 354, 3, 177, 1, 1450, 0) := by decide +kernel
theorem aX12_gold_88 : i_at mX12_gold.2.2.2.2.2 88 = some (.imul, 1, 0, 0, 0, 0) := by decide +kernel
theorem aX12_gold_89 : i_at mX12_gold.2.2.2.2.2 89 = some (.iload_n 3, 1, 0, 0, 0, 0) := by decide +kernel
theorem aX12_gold_90 : i_at mX12_gold.2.2.2.2.2 90 = some (.idiv, 1, 0, 0, 0, 0) := by decide +kernel
theorem aX12_gold_91 : i_at mX12_gold.2.2.2.2.2 91 = some (.isub, 1, 0, 0, 0, 0) := by decide +kernel
theorem aX12_gold_92 : i_at mX12_gold.2.2.2.2.2 92 = some (.istore 4, 2, 0, 0, 0, 0) := by decide +kernel
theorem aX12_gold_94 : i_at mX12_gold.2.2.2.2.2 94 = some (.iload_n 1, 1, 0, 0, 0, 0) := by decide +kernel
theorem aX12_gold_95 : i_at mX12_gold.2.2.2.2.2 95 = some (.aload_n 0, 1, 0, 0, 0, 0) := by decide +kernel
theorem aX12_gold_96 : i_at mX12_gold.2.2.2.2.2 96 = some (.iload 6, 2, 0, 0, 0, 0) := by decide +kernel
theorem aX12_gold_98 : i_at mX12_gold.2.2.2.2.2 98 = some (.invokevirtual 354, 3, 177, 1, 1450, 0) := by decide +kernel
theorem aX12_gold_101 : i_at mX12_gold.2.2.2.2.2 101 = some (.imul, 1, 0, 0, 0, 0) := by decide +kernel
theorem aX12_gold_102 : i_at mX12_gold.2.2.2.2.2 102 = some (.iload_n 3, 1, 0, 0, 0, 0) := by decide +kernel
theorem aX12_gold_103 : i_at mX12_gold.2.2.2.2.2 103 = some (.irem, 1, 0, 0, 0, 0) := by decide +kernel
theorem aX12_gold_104 : i_at mX12_gold.2.2.2.2.2 104 = some (.iload_n 1, 1, 0, 0, 0, 0) := by decide +kernel
theorem aX12_gold_105 : i_at mX12_gold.2.2.2.2.2 105 = some (.aload_n 0, 1, 0, 0, 0, 0) := by decide +kernel
theorem aX12_gold_106 : i_at mX12_gold.2.2.2.2.2 106 = some (.iload_n 2, 1, 0, 0, 0, 0) := by decide +kernel
theorem aX12_gold_107 : i_at mX12_gold.2.2.2.2.2 107 = some (.invokevirtual 354, 3, 177, 1, 1450, 0) := by decide +kernel
theorem aX12_gold_110 : i_at mX12_gold.2.2.2.2.2 110 = some (.imul, 1, 0, 0, 0, 0) := by decide +kernel
theorem aX12_gold_111 : i_at mX12_gold.2.2.2.2.2 111 = some (.iload_n 3, 1, 0, 0, 0, 0) := by decide +kernel
theorem aX12_gold_112 : i_at mX12_gold.2.2.2.2.2 112 = some (.irem, 1, 0, 0, 0, 0) := by decide +kernel
theorem aX12_gold_113 : i_at mX12_gold.2.2.2.2.2 113 = some (.isub, 1, 0, 0, 0, 0) := by decide +kernel
theorem aX12_gold_114 : i_at mX12_gold.2.2.2.2.2 114 = some (.istore 7, 2, 0, 0, 0, 0) := by decide +kernel
theorem aX12_gold_116 : i_at mX12_gold.2.2.2.2.2 116 = some (.iload 5, 2, 0, 0, 0, 0) := by decide +kernel
theorem aX12_gold_118 : i_at mX12_gold.2.2.2.2.2 118 = some (.iload 7, 2, 0, 0, 0, 0) := by decide +kernel
theorem aX12_gold_120 : i_at mX12_gold.2.2.2.2.2 120 = some (.ifCond .gt 14, 3, 134, 0, 0, 0) := by decide +kernel
theorem aX12_gold_123 : i_at mX12_gold.2.2.2.2.2 123 = some (.iload 7, 2, 0, 0, 0, 0) := by decide +kernel
theorem aX12_gold_125 : i_at mX12_gold.2.2.2.2.2 125 = some (.ifCond .ne 13, 3, 138, 0, 0, 0) := by decide +kernel
theorem aX12_gold_128 : i_at mX12_gold.2.2.2.2.2 128 = some (.iload 6, 2, 0, 0, 0, 0) := by decide +kernel
theorem aX12_gold_130 : i_at mX12_gold.2.2.2.2.2 130 = some (.iload_n 2, 1, 0, 0, 0, 0) := by decide +kernel
theorem aX12_gold_131 : i_at mX12_gold.2.2.2.2.2 131 = some (.if_icmp .ge 7, 3, 138, 0, 0, 0) := by decide +kernel
theorem aX12_gold_134 : i_at mX12_gold.2.2.2.2.2 134 = some (.iconst 1, 1, 0, 0, 0, 0) := by decide +kernel
theorem aX12_gold_135 : i_at mX12_gold.2.2.2.2.2 135 = some (.goto 4, 3, 139, 0, 0, 0) := by decide +kernel
theorem aX12_gold_138 : i_at mX12_gold.2.2.2.2.2 138 = some (.iconst 0, 1, 0, 0, 0, 0) := by decide +kernel
theorem aX12_gold_139 : i_at mX12_gold.2.2.2.2.2 139 = some (.iadd, 1, 0, 0, 0, 0) := by decide +kernel
theorem aX12_gold_140 : i_at mX12_gold.2.2.2.2.2 140 = some (.istore 5, 2, 0, 0, 0, 0) := by decide +kernel
theorem aX12_gold_142 : i_at mX12_gold.2.2.2.2.2 142 = some (.iinc 6 1, 3, 0, 0, 0, 0) := by decide +kernel
theorem aX12_gold_145 : i_at mX12_gold.2.2.2.2.2 145 = some (.goto (-77), 3, 68, 0, 0, 0) := by decide +kernel
theorem aX12_gold_148 : i_at mX12_gold.2.2.2.2.2 148 = some (.iload_n 1, 1, 0, 0, 0, 0) := by decide +kernel
theorem aX12_gold_149 : i_at mX12_gold.2.2.2.2.2 149 = some (.aload_n 0, 1, 0, 0, 0, 0) := by decide +kernel
theorem aX12_gold_150 : i_at mX12_gold.2.2.2.2.2 150 = some (.iload_n 2, 1, 0, 0, 0, 0) := by decide +kernel
theorem aX12_gold_151 : i_at mX12_gold.2.2.2.2.2 151 = some (.invokevirtual 354, 3, 177, 1, 1450, 0) := by decide +kernel
theorem aX12_gold_154 : i_at mX12_gold.2.2.2.2.2 154 = some (.imul, 1, 0, 0, 0, 0) := by decide +kernel
theorem aX12_gold_155 : i_at mX12_gold.2.2.2.2.2 155 = some (.iload_n 3, 1, 0, 0, 0, 0) := by decide +kernel
theorem aX12_gold_156 : i_at mX12_gold.2.2.2.2.2 156 = some (.idiv, 1, 0, 0, 0, 0) := by decide +kernel
theorem aX12_gold_157 : i_at mX12_gold.2.2.2.2.2 157 = some (.iload 5, 2, 0, 0, 0, 0) := by decide +kernel
theorem aX12_gold_159 : i_at mX12_gold.2.2.2.2.2 159 = some (.iload 4, 2, 0, 0, 0, 0) := by decide +kernel
theorem aX12_gold_161 : i_at mX12_gold.2.2.2.2.2 161 = some (.if_icmp .ge 7, 3, 168, 0, 0, 0) := by decide +kernel
theorem aX12_gold_164 : i_at mX12_gold.2.2.2.2.2 164 = some (.iconst 1, 1, 0, 0, 0, 0) := by decide +kernel
theorem aX12_gold_165 : i_at mX12_gold.2.2.2.2.2 165 = some (.goto 4, 3, 169, 0, 0, 0) := by decide +kernel
theorem aX12_gold_168 : i_at mX12_gold.2.2.2.2.2 168 = some (.iconst 0, 1, 0, 0, 0, 0) := by decide +kernel
theorem aX12_gold_169 : i_at mX12_gold.2.2.2.2.2 169 = some (.iadd, 1, 0, 0, 0, 0) := by decide +kernel
theorem aX12_gold_170 : i_at mX12_gold.2.2.2.2.2 170 = some (.ireturn, 1, 0, 0, 0, 0) := by decide +kernel
noncomputable def fX12_gold_L27 (sh : List kd) (p1 : Int32) (p2 : Int32) (k53 : Int32 → Int32 → St → Option (Int32 × St)) : Nat → Int32 → Int32 → St → Option (Int32 × St)
  | 0, _, _, _ => none
  | n65 + 1, x9, x10, s11 => if i_ok 3 11 then if (s11.2.1 1 (3 : Int32).toNatClampNeg) ≤ x10 then k53 x9 x10 s11 else i_bd (fX12_rankOf sh s11 x10) (fun r68 s69 => (fX12_gold_L27 sh p1 p2 k53 n65 (x9 + r68) (x10 + 1) s69)) else none
noncomputable def fX12_gold_L68 (sh : List kd) (p1 : Int32) (p2 : Int32) (x62 : Int32) (k148 : Int32 → Int32 → Int32 → Value → St → Option (Int32 × St)) : Nat → Int32 → Int32 → Int32 → Value → St → Option (Int32 × St)
  | 0, _, _, _, _, _ => none
  | n132 + 1, x72, x73, x74, x75, s76 => if i_ok 3 11 then if (s76.2.1 1 (3 : Int32).toNatClampNeg) ≤ x74 then k148 x72 x73 x74 x75 s76 else i_bd (fX12_rankOf sh s76 x74) (fun r135 s136 => if x62 = 0 then none else i_bd (fX12_rankOf sh s136 x74) (fun r139 s140 => if x62 = 0 then none else i_bd (fX12_rankOf sh s140 p2) (fun r143 s144 => if x62 = 0 then none else i_jp ((x73 + ((if 0 < (((p1 * r139) - (p1 * r139) / x62 * x62) - ((p1 * r143) - (p1 * r143) / x62 * x62)) then 1 else (if ¬ (((p1 * r139) - (p1 * r139) / x62 * x62) - ((p1 * r143) - (p1 * r143) / x62 * x62)) = 0 then 0 else (if p2 ≤ x74 then 0 else 1))) : Int32)) : Int32) (fun x147 => (fX12_gold_L68 sh p1 p2 x62 k148 n132 (x72 - ((p1 * r135) / x62)) x147 (x74 + 1) (.int (((p1 * r139) - (p1 * r139) / x62 * x62) - ((p1 * r143) - (p1 * r143) / x62 * x62))) s144))))) else none
noncomputable def fX12_gold_X148 (sh : List kd) (p1 : Int32) (p2 : Int32) (x62 : Int32) (x127 : Int32) (x128 : Int32) (x129 : Int32) (x130 : Value) (s131 : St) : Option (Int32 × St) := i_bd (fX12_rankOf sh s131 p2) (fun r152 s153 => if x62 = 0 then none else some ((((p1 * r152) / x62) + ((if x127 ≤ x128 then 0 else 1) : Int32)), s153))
noncomputable def fX12_gold_X53 (sh : List kd) (p1 : Int32) (p2 : Int32) (x62 : Int32) (x63 : Int32) (s64 : St) : Option (Int32 × St) := if ¬ x62 = 0 then fX12_gold_L68 sh p1 p2 x62 (fun (x127 : Int32) (x128 : Int32) (x129 : Int32) (x130 : Value) (s131 : St) => fX12_gold_X148 sh p1 p2 x62 x127 x128 x129 x130 s131) i_F p1 0 0 (.retAddr 0) s64 else some (0, s64)
noncomputable def fX12_gold (sh : List kd) (σ : St) (p1 : Int32) (p2 : Int32) : Option (Int32 × St) := i_bd (fX12_isPerson sh σ p2) (fun r1 s2 => if r1 = 0 then some ((-1), s2) else i_bd (fX12_in sh s2 p1.toInt64 0 9999) (fun r5 s6 => if ¬ r5 = 0 then fX12_gold_L27 sh p1 p2 (fun (x62 : Int32) (x63 : Int32) (s64 : St) => fX12_gold_X53 sh p1 p2 x62 x63 s64) i_F 0 0 s6 else some ((-1), s6)))
set_option maxRecDepth 20000 in
set_option maxHeartbeats 2000000 in
theorem tX12_gold_L27 {sh : List kd} {τ : St} {r : Int32} (hsh : rmSh sh) {p1 : Int32} {p2 : Int32} {k53 : Int32 → Int32 → St → Option (Int32 × St)} (hk53 : ∀ (x62 : Int32) (x63 : Int32) (s64 : St), k53 x62 x63 s64 = some (r, τ) → g_R sh 2 mX12_gold (some (.int r)) τ 53 [.ref 0, .int p1, .int p2, .int x62, .int x63, .retAddr 0, .retAddr 0, .retAddr 0] [] (s64)) : ∀ (n0 : Nat) (x9 : Int32) (x10 : Int32) (s11 : St), fX12_gold_L27 sh p1 p2 k53 n0 x9 x10 s11 = some (r, τ) → g_R sh 2 mX12_gold (some (.int r)) τ 27 [.ref 0, .int p1, .int p2, .int x9, .int x10, .retAddr 0, .retAddr 0, .retAddr 0] [] (s11) := by
  intro n0
  induction n0 with
  | zero => intro _ _ _ hE; cases hE
  | succ n65 ih =>
    intro x9 x10 s11 hE
    unfold fX12_gold_L27 at hE
    refine g_ldi aX12_gold_27 rfl ?_
    refine g_ldan aX12_gold_29 rfl ?_
    refine g_getR aX12_gold_30 (sR_0 hsh) rfl ?_
    refine g_iconst (x := 3) aX12_gold_33 rfl ?_
    obtain ⟨h66, hE⟩ := i_ifn hE
    refine g_ild aX12_gold_34 (sR_1 hsh) h66 ?_
    by_cases hc67 : (s11.2.1 1 (3 : Int32).toNatClampNeg) ≤ x10
    · rw [if_pos hc67] at hE
      refine g_ic_ge_t aX12_gold_35 hc67 ?_
      exact hk53 _ _ _ hE
    · rw [if_neg hc67] at hE
      refine g_ic_ge_f aX12_gold_35 hc67 ?_
      refine g_ldin aX12_gold_38 rfl ?_
      refine g_ldan aX12_gold_39 rfl ?_
      refine g_ldi aX12_gold_40 rfl ?_
      obtain ⟨r68, s69, h70, hE⟩ := i_bd_some hE
      refine g_calV (As := [.int x10]) (rest := [.int x9]) aX12_gold_42 (i_X_mono (by omega) (tX12_rankOf hsh h70)) (sR_0 hsh) (by decide +kernel) rfl rfl (Nat.le_of_ble_eq_true rfl) rfl ?_
      refine g_iadd aX12_gold_45 ?_
      refine g_stin (loc2 := [.ref 0, .int p1, .int p2, .int (x9 + r68), .int x10, .retAddr 0, .retAddr 0, .retAddr 0]) aX12_gold_46 (Nat.le_of_ble_eq_true rfl) rfl ?_
      refine g_iinc (y := 1) (loc2 := [.ref 0, .int p1, .int p2, .int (x9 + r68), .int (x10 + 1), .retAddr 0, .retAddr 0, .retAddr 0]) aX12_gold_47 rfl rfl rfl ?_
      refine g_goto aX12_gold_50 ?_
      exact ih _ _ _ hE
set_option maxRecDepth 20000 in
set_option maxHeartbeats 2000000 in
theorem tX12_gold_L68 {sh : List kd} {τ : St} {r : Int32} (hsh : rmSh sh) {p1 : Int32} {p2 : Int32} {x62 : Int32} {k148 : Int32 → Int32 → Int32 → Value → St → Option (Int32 × St)} (hk148 : ∀ (x127 : Int32) (x128 : Int32) (x129 : Int32) (x130 : Value) (s131 : St), k148 x127 x128 x129 x130 s131 = some (r, τ) → g_R sh 2 mX12_gold (some (.int r)) τ 148 [.ref 0, .int p1, .int p2, .int x62, .int x127, .int x128, .int x129, x130] [] (s131)) : ∀ (n0 : Nat) (x72 : Int32) (x73 : Int32) (x74 : Int32) (x75 : Value) (s76 : St), fX12_gold_L68 sh p1 p2 x62 k148 n0 x72 x73 x74 x75 s76 = some (r, τ) → g_R sh 2 mX12_gold (some (.int r)) τ 68 [.ref 0, .int p1, .int p2, .int x62, .int x72, .int x73, .int x74, x75] [] (s76) := by
  intro n0
  induction n0 with
  | zero => intro _ _ _ _ _ hE; cases hE
  | succ n132 ih =>
    intro x72 x73 x74 x75 s76 hE
    unfold fX12_gold_L68 at hE
    refine g_ldi aX12_gold_68 rfl ?_
    refine g_ldan aX12_gold_70 rfl ?_
    refine g_getR aX12_gold_71 (sR_0 hsh) rfl ?_
    refine g_iconst (x := 3) aX12_gold_74 rfl ?_
    obtain ⟨h133, hE⟩ := i_ifn hE
    refine g_ild aX12_gold_75 (sR_1 hsh) h133 ?_
    by_cases hc134 : (s76.2.1 1 (3 : Int32).toNatClampNeg) ≤ x74
    · rw [if_pos hc134] at hE
      refine g_ic_ge_t aX12_gold_76 hc134 ?_
      exact hk148 _ _ _ _ _ hE
    · rw [if_neg hc134] at hE
      refine g_ic_ge_f aX12_gold_76 hc134 ?_
      refine g_ldi aX12_gold_79 rfl ?_
      refine g_ldin aX12_gold_81 rfl ?_
      refine g_ldan aX12_gold_82 rfl ?_
      refine g_ldi aX12_gold_83 rfl ?_
      obtain ⟨r135, s136, h137, hE⟩ := i_bd_some hE
      refine g_calV (As := [.int x74]) (rest := [.int p1, .int x72]) aX12_gold_85 (i_X_mono (by omega) (tX12_rankOf hsh h137)) (sR_0 hsh) (by decide +kernel) rfl rfl (Nat.le_of_ble_eq_true rfl) rfl ?_
      refine g_imul aX12_gold_88 ?_
      refine g_ldin aX12_gold_89 rfl ?_
      obtain ⟨h138, hE⟩ := i_nif hE
      refine g_idiv aX12_gold_90 h138 ?_
      refine g_isub aX12_gold_91 ?_
      refine g_sti (loc2 := [.ref 0, .int p1, .int p2, .int x62, .int (x72 - ((p1 * r135) / x62)), .int x73, .int x74, x75]) aX12_gold_92 (Nat.le_of_ble_eq_true rfl) rfl ?_
      refine g_ldin aX12_gold_94 rfl ?_
      refine g_ldan aX12_gold_95 rfl ?_
      refine g_ldi aX12_gold_96 rfl ?_
      obtain ⟨r139, s140, h141, hE⟩ := i_bd_some hE
      refine g_calV (As := [.int x74]) (rest := [.int p1]) aX12_gold_98 (i_X_mono (by omega) (tX12_rankOf hsh h141)) (sR_0 hsh) (by decide +kernel) rfl rfl (Nat.le_of_ble_eq_true rfl) rfl ?_
      refine g_imul aX12_gold_101 ?_
      refine g_ldin aX12_gold_102 rfl ?_
      obtain ⟨h142, hE⟩ := i_nif hE
      refine g_irem aX12_gold_103 h142 ?_
      refine g_ldin aX12_gold_104 rfl ?_
      refine g_ldan aX12_gold_105 rfl ?_
      refine g_ldin aX12_gold_106 rfl ?_
      obtain ⟨r143, s144, h145, hE⟩ := i_bd_some hE
      refine g_calV (As := [.int p2]) (rest := [.int p1, .int ((p1 * r139) - (p1 * r139) / x62 * x62)]) aX12_gold_107 (i_X_mono (by omega) (tX12_rankOf hsh h145)) (sR_0 hsh) (by decide +kernel) rfl rfl (Nat.le_of_ble_eq_true rfl) rfl ?_
      refine g_imul aX12_gold_110 ?_
      refine g_ldin aX12_gold_111 rfl ?_
      obtain ⟨h146, hE⟩ := i_nif hE
      refine g_irem aX12_gold_112 h146 ?_
      refine g_isub aX12_gold_113 ?_
      refine g_sti (loc2 := [.ref 0, .int p1, .int p2, .int x62, .int (x72 - ((p1 * r135) / x62)), .int x73, .int x74, .int (((p1 * r139) - (p1 * r139) / x62 * x62) - ((p1 * r143) - (p1 * r143) / x62 * x62))]) aX12_gold_114 (Nat.le_of_ble_eq_true rfl) rfl ?_
      refine g_ldi aX12_gold_116 rfl ?_
      refine g_ldi aX12_gold_118 rfl ?_
      have hJ : g_R sh 2 mX12_gold (some (.int r)) τ 139 [.ref 0, .int p1, .int p2, .int x62, .int (x72 - ((p1 * r135) / x62)), .int x73, .int x74, .int (((p1 * r139) - (p1 * r139) / x62 * x62) - ((p1 * r143) - (p1 * r143) / x62 * x62))] [.int ((if 0 < (((p1 * r139) - (p1 * r139) / x62 * x62) - ((p1 * r143) - (p1 * r143) / x62 * x62)) then 1 else (if ¬ (((p1 * r139) - (p1 * r139) / x62 * x62) - ((p1 * r143) - (p1 * r143) / x62 * x62)) = 0 then 0 else (if p2 ≤ x74 then 0 else 1))) : Int32), .int x73] (s144) := by
        refine g_iadd aX12_gold_139 ?_
        obtain ⟨x147, h148, hE⟩ := i_jp_some hE
        rw [← h148]
        refine g_sti (loc2 := [.ref 0, .int p1, .int p2, .int x62, .int (x72 - ((p1 * r135) / x62)), .int x147, .int x74, .int (((p1 * r139) - (p1 * r139) / x62 * x62) - ((p1 * r143) - (p1 * r143) / x62 * x62))]) aX12_gold_140 (Nat.le_of_ble_eq_true rfl) rfl ?_
        refine g_iinc (y := 1) (loc2 := [.ref 0, .int p1, .int p2, .int x62, .int (x72 - ((p1 * r135) / x62)), .int x147, .int (x74 + 1), .int (((p1 * r139) - (p1 * r139) / x62 * x62) - ((p1 * r143) - (p1 * r143) / x62 * x62))]) aX12_gold_142 rfl rfl rfl ?_
        refine g_goto aX12_gold_145 ?_
        exact ih _ _ _ _ _ hE
      clear hE
      by_cases hc148 : 0 < (((p1 * r139) - (p1 * r139) / x62 * x62) - ((p1 * r143) - (p1 * r143) / x62 * x62))
      · (try rw [if_pos hc148] at hJ)
        refine g_if_gt_t aX12_gold_120 hc148 ?_
        refine g_iconst (x := 1) aX12_gold_134 rfl ?_
        refine g_goto aX12_gold_135 ?_
        exact hJ
      · (try rw [if_neg hc148] at hJ)
        refine g_if_gt_f aX12_gold_120 hc148 ?_
        refine g_ldi aX12_gold_123 rfl ?_
        by_cases hc149 : ¬ (((p1 * r139) - (p1 * r139) / x62 * x62) - ((p1 * r143) - (p1 * r143) / x62 * x62)) = 0
        · (try rw [if_pos hc149] at hJ)
          refine g_if_ne_t aX12_gold_125 hc149 ?_
          refine g_iconst (x := 0) aX12_gold_138 rfl ?_
          exact hJ
        · (try rw [if_neg hc149] at hJ)
          refine g_if_ne_f aX12_gold_125 hc149 ?_
          refine g_ldi aX12_gold_128 rfl ?_
          refine g_ldin aX12_gold_130 rfl ?_
          by_cases hc150 : p2 ≤ x74
          · (try rw [if_pos hc150] at hJ)
            refine g_ic_ge_t aX12_gold_131 hc150 ?_
            refine g_iconst (x := 0) aX12_gold_138 rfl ?_
            exact hJ
          · (try rw [if_neg hc150] at hJ)
            refine g_ic_ge_f aX12_gold_131 hc150 ?_
            refine g_iconst (x := 1) aX12_gold_134 rfl ?_
            refine g_goto aX12_gold_135 ?_
            exact hJ
set_option maxRecDepth 20000 in
set_option maxHeartbeats 2000000 in
theorem tX12_gold_X148 {sh : List kd} {τ : St} {r : Int32} (hsh : rmSh sh) {p1 : Int32} {p2 : Int32} {x62 : Int32} {x127 : Int32} {x128 : Int32} {x129 : Int32} {x130 : Value} {s131 : St} (hE : fX12_gold_X148 sh p1 p2 x62 x127 x128 x129 x130 s131 = some (r, τ)) : g_R sh 2 mX12_gold (some (.int r)) τ 148 [.ref 0, .int p1, .int p2, .int x62, .int x127, .int x128, .int x129, x130] [] (s131) := by
  unfold fX12_gold_X148 at hE
  refine g_ldin aX12_gold_148 rfl ?_
  refine g_ldan aX12_gold_149 rfl ?_
  refine g_ldin aX12_gold_150 rfl ?_
  obtain ⟨r152, s153, h154, hE⟩ := i_bd_some hE
  refine g_calV (As := [.int p2]) (rest := [.int p1]) aX12_gold_151 (i_X_mono (by omega) (tX12_rankOf hsh h154)) (sR_0 hsh) (by decide +kernel) rfl rfl (Nat.le_of_ble_eq_true rfl) rfl ?_
  refine g_imul aX12_gold_154 ?_
  refine g_ldin aX12_gold_155 rfl ?_
  obtain ⟨h155, hE⟩ := i_nif hE
  refine g_idiv aX12_gold_156 h155 ?_
  refine g_ldi aX12_gold_157 rfl ?_
  refine g_ldi aX12_gold_159 rfl ?_
  have hJ : g_R sh 2 mX12_gold (some (.int r)) τ 169 [.ref 0, .int p1, .int p2, .int x62, .int x127, .int x128, .int x129, x130] [.int ((if x127 ≤ x128 then 0 else 1) : Int32), .int ((p1 * r152) / x62)] (s153) := by
    refine g_iadd aX12_gold_169 ?_
    obtain ⟨rfl, rfl⟩ := i_some_inj hE
    exact g_iret aX12_gold_170 rfl rfl
  clear hE
  by_cases hc155 : x127 ≤ x128
  · (try rw [if_pos hc155] at hJ)
    refine g_ic_ge_t aX12_gold_161 hc155 ?_
    refine g_iconst (x := 0) aX12_gold_168 rfl ?_
    exact hJ
  · (try rw [if_neg hc155] at hJ)
    refine g_ic_ge_f aX12_gold_161 hc155 ?_
    refine g_iconst (x := 1) aX12_gold_164 rfl ?_
    refine g_goto aX12_gold_165 ?_
    exact hJ
set_option maxRecDepth 20000 in
set_option maxHeartbeats 2000000 in
theorem tX12_gold_X53 {sh : List kd} {τ : St} {r : Int32} (hsh : rmSh sh) {p1 : Int32} {p2 : Int32} {x62 : Int32} {x63 : Int32} {s64 : St} (hE : fX12_gold_X53 sh p1 p2 x62 x63 s64 = some (r, τ)) : g_R sh 2 mX12_gold (some (.int r)) τ 53 [.ref 0, .int p1, .int p2, .int x62, .int x63, .retAddr 0, .retAddr 0, .retAddr 0] [] (s64) := by
  unfold fX12_gold_X53 at hE
  refine g_ldin aX12_gold_53 rfl ?_
  by_cases hc71 : ¬ x62 = 0
  · rw [if_pos hc71] at hE
    refine g_if_ne_t aX12_gold_54 hc71 ?_
    refine g_ldin aX12_gold_59 rfl ?_
    refine g_sti (loc2 := [.ref 0, .int p1, .int p2, .int x62, .int p1, .retAddr 0, .retAddr 0, .retAddr 0]) aX12_gold_60 (Nat.le_of_ble_eq_true rfl) rfl ?_
    refine g_iconst (x := 0) aX12_gold_62 rfl ?_
    refine g_sti (loc2 := [.ref 0, .int p1, .int p2, .int x62, .int p1, .int 0, .retAddr 0, .retAddr 0]) aX12_gold_63 (Nat.le_of_ble_eq_true rfl) rfl ?_
    refine g_iconst (x := 0) aX12_gold_65 rfl ?_
    refine g_sti (loc2 := [.ref 0, .int p1, .int p2, .int x62, .int p1, .int 0, .int 0, .retAddr 0]) aX12_gold_66 (Nat.le_of_ble_eq_true rfl) rfl ?_
    exact tX12_gold_L68 hsh (fun x127 x128 x129 x130 s131 hE => tX12_gold_X148 hsh hE) i_F _ _ _ _ _ hE
  · rw [if_neg hc71] at hE
    refine g_if_ne_f aX12_gold_54 hc71 ?_
    refine g_iconst (x := 0) aX12_gold_57 rfl ?_
    obtain ⟨rfl, rfl⟩ := i_some_inj hE
    exact g_iret aX12_gold_58 rfl rfl
set_option maxRecDepth 20000 in
set_option maxHeartbeats 2000000 in
theorem tX12_gold {sh : List kd} {σ τ : St} {r : Int32} (hsh : rmSh sh) {p1 : Int32} {p2 : Int32} (hE : fX12_gold sh σ p1 p2 = some (r, τ)) : i_X 3 209 [.ref 0, .int p1, .int p2] (s_h sh σ) 0 0 (some (.int r)) (s_h sh τ) := by
  refine g_X (M := mX12_gold) (loc := [.ref 0, .int p1, .int p2, .retAddr 0, .retAddr 0, .retAddr 0, .retAddr 0, .retAddr 0]) rfl (Nat.le_of_ble_eq_true rfl) rfl ?_
  unfold fX12_gold at hE
  refine g_ldan aX12_gold_0 rfl ?_
  refine g_ldin aX12_gold_1 rfl ?_
  obtain ⟨r1, s2, h3, hE⟩ := i_bd_some hE
  refine g_calV (As := [.int p2]) (rest := []) aX12_gold_2 (i_X_mono (by omega) (tX12_isPerson hsh h3)) (sR_0 hsh) (by decide +kernel) rfl rfl (Nat.le_of_ble_eq_true rfl) rfl ?_
  by_cases hc4 : r1 = 0
  · rw [if_pos hc4] at hE
    refine g_if_eq_t aX12_gold_5 hc4 ?_
    refine g_iconst (x := (-1)) aX12_gold_20 rfl ?_
    obtain ⟨rfl, rfl⟩ := i_some_inj hE
    exact g_iret aX12_gold_21 rfl rfl
  · rw [if_neg hc4] at hE
    refine g_if_eq_f aX12_gold_5 hc4 ?_
    refine g_ldin aX12_gold_8 rfl ?_
    refine g_i2l aX12_gold_9 ?_
    refine g_lconst (x := 0) aX12_gold_10 rfl ?_
    refine g_ldc2 (x := 9999) aX12_gold_11 rfl ?_
    obtain ⟨r5, s6, h7, hE⟩ := i_bd_some hE
    refine g_calS (As := [.long p1.toInt64, .long 0, .long 9999]) (rest := []) aX12_gold_14 (i_X_mono (by omega) (tX12_in hsh h7)) rfl rfl (Nat.le_of_ble_eq_true rfl) rfl ?_
    by_cases hc8 : ¬ r5 = 0
    · rw [if_pos hc8] at hE
      refine g_if_ne_t aX12_gold_17 hc8 ?_
      refine g_iconst (x := 0) aX12_gold_22 rfl ?_
      refine g_stin (loc2 := [.ref 0, .int p1, .int p2, .int 0, .retAddr 0, .retAddr 0, .retAddr 0, .retAddr 0]) aX12_gold_23 (Nat.le_of_ble_eq_true rfl) rfl ?_
      refine g_iconst (x := 0) aX12_gold_24 rfl ?_
      refine g_sti (loc2 := [.ref 0, .int p1, .int p2, .int 0, .int 0, .retAddr 0, .retAddr 0, .retAddr 0]) aX12_gold_25 (Nat.le_of_ble_eq_true rfl) rfl ?_
      exact tX12_gold_L27 hsh (fun x62 x63 s64 hE => tX12_gold_X53 hsh hE) i_F _ _ _ hE
    · rw [if_neg hc8] at hE
      refine g_if_ne_f aX12_gold_17 hc8 ?_
      refine g_iconst (x := (-1)) aX12_gold_20 rfl ?_
      obtain ⟨rfl, rfl⟩ := i_some_inj hE
      exact g_iret aX12_gold_21 rfl rfl
