/-! X12_laysDeeds X12_rests X12_laysCourse X12_couldRule X12_ruled X12_look X12_years -/
theorem aX12_laysDeeds_0 : i_at mX12_laysDeeds.2.2.2.2.2 0 = some (.aload_n 0, 1, 0, 0, 0, 0) := by decide +kernel
theorem aX12_laysDeeds_1 : i_at mX12_laysDeeds.2.2.2.2.2 1 = some (.invokevirtual 410, 3, 196, 0, 1545, 0) := by decide +kernel
theorem aX12_laysDeeds_4 : i_at mX12_laysDeeds.2.2.2.2.2 4 = some (.iconst 0, 1, 0, 0, 0, 0) := by decide +kernel
theorem aX12_laysDeeds_5 : i_at mX12_laysDeeds.2.2.2.2.2 5 = some (.istore 4, 2, 0, 0, 0, 0) := by decide +kernel
theorem aX12_laysDeeds_7 : i_at mX12_laysDeeds.2.2.2.2.2 7 = some (.iload 4, 2, 0, 0, 0, 0) := by decide +kernel
theorem aX12_laysDeeds_9 : i_at mX12_laysDeeds.2.2.2.2.2 9 = some (.bipush 25, 2, 0, 0, 0, 0) := by decide +kernel
theorem aX12_laysDeeds_11 : i_at mX12_laysDeeds.2.2.2.2.2 11 = some (.if_icmp .ge 104, 3, 115, 0, 0, 0) := by decide +kernel
theorem aX12_laysDeeds_14 : i_at mX12_laysDeeds.2.2.2.2.2 14 = some (.aload_n 0, 1, 0, 0, 0, 0) := by decide +kernel
theorem aX12_laysDeeds_15 : i_at mX12_laysDeeds.2.2.2.2.2 15 = some (.getfield 25, 3, 11, 6, 1093, 0) := by decide +kernel
theorem aX12_laysDeeds_18 : i_at mX12_laysDeeds.2.2.2.2.2 18 = some (.iload_n 1, 1, 0, 0, 0, 0) := by decide +kernel
theorem aX12_laysDeeds_19 : i_at mX12_laysDeeds.2.2.2.2.2 19 = some (.aload_n 0, 1, 0, 0, 0, 0) := by decide +kernel
theorem aX12_laysDeeds_20 : i_at mX12_laysDeeds.2.2.2.2.2 20 = some (.getfield 25, 3, 11, 6, 1093, 0) := by decide +kernel
theorem aX12_laysDeeds_23 : i_at mX12_laysDeeds.2.2.2.2.2 23 = some (.iload_n 1, 1, 0, 0, 0, 0) := by decide +kernel
theorem aX12_laysDeeds_24 : i_at mX12_laysDeeds.2.2.2.2.2 24 = some (.iaload, 1, 0, 0, 0, 0) := by decide +kernel
theorem aX12_laysDeeds_25 : i_at mX12_laysDeeds.2.2.2.2.2 25 = some (.bipush 10, 2, 0, 0, 0, 0) := by decide +kernel
theorem aX12_laysDeeds_27 : i_at mX12_laysDeeds.2.2.2.2.2 27 = some (.iload 4, 2, 0, 0, 0, 0) := by decide +kernel
theorem aX12_laysDeeds_29 : i_at mX12_laysDeeds.2.2.2.2.2 29 = some (.iconst 5, 1, 0, 0, 0, 0) := by decide +kernel
theorem aX12_laysDeeds_30 : i_at mX12_laysDeeds.2.2.2.2.2 30 = some (.idiv, 1, 0, 0, 0, 0) := by decide +kernel
theorem aX12_laysDeeds_31 : i_at mX12_laysDeeds.2.2.2.2.2 31 = some (.imul, 1, 0, 0, 0, 0) := by decide +kernel
theorem aX12_laysDeeds_32 : i_at mX12_laysDeeds.2.2.2.2.2 32 = some (.iadd, 1, 0, 0, 0, 0) := by decide +kernel
theorem aX12_laysDeeds_33 : i_at mX12_laysDeeds.2.2.2.2.2 33 = some (.sipush 999, 3, 0, 0, 0, 0) := by decide +kernel
theorem aX12_laysDeeds_36 : i_at mX12_laysDeeds.2.2.2.2.2 36 = some (.invokestatic 372, 3, 182, 2, 1514, 0) := by decide +kernel
theorem aX12_laysDeeds_39 : i_at mX12_laysDeeds.2.2.2.2.2 39 = some (.iastore, 1, 0, 0, 0, 0) := by decide +kernel
theorem aX12_laysDeeds_40 : i_at mX12_laysDeeds.2.2.2.2.2 40 = some (.aload_n 0, 1, 0, 0, 0, 0) := by decide +kernel
theorem aX12_laysDeeds_41 : i_at mX12_laysDeeds.2.2.2.2.2 41 = some (.getfield 25, 3, 11, 6, 1093, 0) := by decide +kernel
theorem aX12_laysDeeds_44 : i_at mX12_laysDeeds.2.2.2.2.2 44 = some (.iload_n 2, 1, 0, 0, 0, 0) := by decide +kernel
theorem aX12_laysDeeds_45 : i_at mX12_laysDeeds.2.2.2.2.2 45 = some (.aload_n 0, 1, 0, 0, 0, 0) := by decide +kernel
theorem aX12_laysDeeds_46 : i_at mX12_laysDeeds.2.2.2.2.2 46 = some (.getfield 25, 3, 11, 6, 1093, 0) := by decide +kernel
theorem aX12_laysDeeds_49 : i_at mX12_laysDeeds.2.2.2.2.2 49 = some (.iload_n 2, 1, 0, 0, 0, 0) := by decide +kernel
theorem aX12_laysDeeds_50 : i_at mX12_laysDeeds.2.2.2.2.2 50 = some (.iaload, 1, 0, 0, 0, 0) := by decide +kernel
theorem aX12_laysDeeds_51 : i_at mX12_laysDeeds.2.2.2.2.2 51 = some (.bipush 10, 2, 0, 0, 0, 0) := by decide +kernel
theorem aX12_laysDeeds_53 : i_at mX12_laysDeeds.2.2.2.2.2 53 = some (.iload 4, 2, 0, 0, 0, 0) := by decide +kernel
theorem aX12_laysDeeds_55 : i_at mX12_laysDeeds.2.2.2.2.2 55 = some (.iconst 5, 1, 0, 0, 0, 0) := by decide +kernel
theorem aX12_laysDeeds_56 : i_at mX12_laysDeeds.2.2.2.2.2 56 = some (.irem, 1, 0, 0, 0, 0) := by decide +kernel
theorem aX12_laysDeeds_57 : i_at mX12_laysDeeds.2.2.2.2.2 57 = some (.imul, 1, 0, 0, 0, 0) := by decide +kernel
theorem aX12_laysDeeds_58 : i_at mX12_laysDeeds.2.2.2.2.2 58 = some (.iadd, 1, 0, 0, 0, 0) := by decide +kernel
theorem aX12_laysDeeds_59 : i_at mX12_laysDeeds.2.2.2.2.2 59 = some (.sipush 999, 3, 0, 0, 0, 0) := by decide +kernel
theorem aX12_laysDeeds_62 : i_at mX12_laysDeeds.2.2.2.2.2 62 = some (.invokestatic 372, 3, 182, 2, 1514, 0) := by decide +kernel
theorem aX12_laysDeeds_65 : i_at mX12_laysDeeds.2.2.2.2.2 65 = some (.iastore, 1, 0, 0, 0, 0) := by decide +kernel
theorem aX12_laysDeeds_66 : i_at mX12_laysDeeds.2.2.2.2.2 66 = some (.aload_n 0, 1, 0, 0, 0, 0) := by decide +kernel
theorem aX12_laysDeeds_67 : i_at mX12_laysDeeds.2.2.2.2.2 67 = some (.iload_n 3, 1, 0, 0, 0, 0) := by decide +kernel
theorem aX12_laysDeeds_68 : i_at mX12_laysDeeds.2.2.2.2.2 68 = some (.invokevirtual 413, 3, 184, 1, 1557, 0) := by decide +kernel
theorem aX12_laysDeeds_71 : i_at mX12_laysDeeds.2.2.2.2.2 71 = some (.aload_n 0, 1, 0, 0, 0, 0) := by decide +kernel
theorem aX12_laysDeeds_72 : i_at mX12_laysDeeds.2.2.2.2.2 72 = some (.getfield 109, 3, 11, 45, 1132, 0) := by decide +kernel
theorem aX12_laysDeeds_75 : i_at mX12_laysDeeds.2.2.2.2.2 75 = some (.iload 4, 2, 0, 0, 0, 0) := by decide +kernel
theorem aX12_laysDeeds_77 : i_at mX12_laysDeeds.2.2.2.2.2 77 = some (.aload_n 0, 1, 0, 0, 0, 0) := by decide +kernel
theorem aX12_laysDeeds_78 : i_at mX12_laysDeeds.2.2.2.2.2 78 = some (.iload_n 1, 1, 0, 0, 0, 0) := by decide +kernel
theorem aX12_laysDeeds_79 : i_at mX12_laysDeeds.2.2.2.2.2 79 = some (.invokevirtual 354, 3, 177, 1, 1450, 0) := by decide +kernel
theorem aX12_laysDeeds_82 : i_at mX12_laysDeeds.2.2.2.2.2 82 = some (.iload 4, 2, 0, 0, 0, 0) := by decide +kernel
theorem aX12_laysDeeds_84 : i_at mX12_laysDeeds.2.2.2.2.2 84 = some (.iconst 5, 1, 0, 0, 0, 0) := by decide +kernel
theorem aX12_laysDeeds_85 : i_at mX12_laysDeeds.2.2.2.2.2 85 = some (.idiv, 1, 0, 0, 0, 0) := by decide +kernel
theorem aX12_laysDeeds_86 : i_at mX12_laysDeeds.2.2.2.2.2 86 = some (.isub, 1, 0, 0, 0, 0) := by decide +kernel
theorem aX12_laysDeeds_87 : i_at mX12_laysDeeds.2.2.2.2.2 87 = some (.iastore, 1, 0, 0, 0, 0) := by decide +kernel
theorem aX12_laysDeeds_88 : i_at mX12_laysDeeds.2.2.2.2.2 88 = some (.aload_n 0, 1, 0, 0, 0, 0) := by decide +kernel
theorem aX12_laysDeeds_89 : i_at mX12_laysDeeds.2.2.2.2.2 89 = some (.getfield 112, 3, 11, 46, 1133, 0) := by decide +kernel
theorem aX12_laysDeeds_92 : i_at mX12_laysDeeds.2.2.2.2.2 92 = some (.iload 4, 2, 0, 0, 0, 0) := by decide +kernel
theorem aX12_laysDeeds_94 : i_at mX12_laysDeeds.2.2.2.2.2 94 = some (.aload_n 0, 1, 0, 0, 0, 0) := by decide +kernel
theorem aX12_laysDeeds_95 : i_at mX12_laysDeeds.2.2.2.2.2 95 = some (.iload_n 2, 1, 0, 0, 0, 0) := by decide +kernel
theorem aX12_laysDeeds_96 : i_at mX12_laysDeeds.2.2.2.2.2 96 = some (.invokevirtual 354, 3, 177, 1, 1450, 0) := by decide +kernel
theorem aX12_laysDeeds_99 : i_at mX12_laysDeeds.2.2.2.2.2 99 = some (.iload 4, 2, 0, 0, 0, 0) := by decide +kernel
theorem aX12_laysDeeds_101 : i_at mX12_laysDeeds.2.2.2.2.2 101 = some (.iconst 5, 1, 0, 0, 0, 0) := by decide +kernel
theorem aX12_laysDeeds_102 : i_at mX12_laysDeeds.2.2.2.2.2 102 = some (.irem, 1, 0, 0, 0, 0) := by decide +kernel
theorem aX12_laysDeeds_103 : i_at mX12_laysDeeds.2.2.2.2.2 103 = some (.isub, 1, 0, 0, 0, 0) := by decide +kernel
theorem aX12_laysDeeds_104 : i_at mX12_laysDeeds.2.2.2.2.2 104 = some (.iastore, 1, 0, 0, 0, 0) := by decide +kernel
theorem aX12_laysDeeds_105 : i_at mX12_laysDeeds.2.2.2.2.2 105 = some (.aload_n 0, 1, 0, 0, 0, 0) := by decide +kernel
theorem aX12_laysDeeds_106 : i_at mX12_laysDeeds.2.2.2.2.2 106 = some (.invokevirtual 416, 3, 197, 0, 1561, 0) := by decide +kernel
theorem aX12_laysDeeds_109 : i_at mX12_laysDeeds.2.2.2.2.2 109 = some (.iinc 4 1, 3, 0, 0, 0, 0) := by decide +kernel
theorem aX12_laysDeeds_112 : i_at mX12_laysDeeds.2.2.2.2.2 112 = some (.goto (-105), 3, 7, 0, 0, 0) := by decide +kernel
theorem aX12_laysDeeds_115 : i_at mX12_laysDeeds.2.2.2.2.2 115 = some (.return_, 1, 0, 0, 0, 0) := by decide +kernel
noncomputable def fX12_laysDeeds_L7 (sh : List kd) (p1 : Int32) (p2 : Int32) (p3 : Int32) : Nat → Int32 → St → Option (Unit × St)
  | 0, _, _ => none
  | n6 + 1, x4, s5 => if 25 ≤ x4 then some ((), s5) else if i_ok p1 6 then i_bd (fX12_upTo sh s5 ((s5.2.1 6 p1.toNatClampNeg) + (10 * (x4 / 5))) 999) (fun r59 s60 => if i_ok p1 6 then if i_ok p2 6 then i_bd (fX12_upTo sh (s_A s60 6 p1.toNatClampNeg r59) (((s_A s60 6 p1.toNatClampNeg r59).2.1 6 p2.toNatClampNeg) + (10 * (x4 - x4 / 5 * 5))) 999) (fun r64 s65 => if i_ok p2 6 then i_bd (fX12_goFor sh (s_A s65 6 p2.toNatClampNeg r64) p3) (fun r68 s69 => i_bd (fX12_rankOf sh s69 p1) (fun r71 s72 => if i_ok x4 25 then i_bd (fX12_rankOf sh (s_A s72 32 x4.toNatClampNeg (r71 - (x4 / 5))) p2) (fun r75 s76 => if i_ok x4 25 then i_bd (fX12_laysBack sh (s_A s76 33 x4.toNatClampNeg (r75 - (x4 - x4 / 5 * 5)))) (fun r79 s80 => (fX12_laysDeeds_L7 sh p1 p2 p3 n6 (x4 + 1) s80)) else none) else none)) else none) else none else none) else none
noncomputable def fX12_laysDeeds (sh : List kd) (σ : St) (p1 : Int32) (p2 : Int32) (p3 : Int32) : Option (Unit × St) := i_bd (fX12_keepsAll sh σ) (fun r1 s2 => fX12_laysDeeds_L7 sh p1 p2 p3 i_F 0 s2)
set_option maxRecDepth 20000 in
set_option maxHeartbeats 2000000 in
theorem tX12_laysDeeds_L7 {sh : List kd} {τ : St} {r : Unit} (hsh : rmSh sh) {p1 : Int32} {p2 : Int32} {p3 : Int32} : ∀ (n0 : Nat) (x4 : Int32) (s5 : St), fX12_laysDeeds_L7 sh p1 p2 p3 n0 x4 s5 = some (r, τ) → g_R sh 8 mX12_laysDeeds none τ 7 [.ref 0, .int p1, .int p2, .int p3, .int x4] [] (s5) := by
  intro n0
  induction n0 with
  | zero => intro _ _ hE; cases hE
  | succ n6 ih =>
    intro x4 s5 hE
    unfold fX12_laysDeeds_L7 at hE
    refine g_ldi aX12_laysDeeds_7 rfl ?_
    refine g_bipush (x := 25) aX12_laysDeeds_9 rfl ?_
    by_cases hc57 : 25 ≤ x4
    · rw [if_pos hc57] at hE
      refine g_ic_ge_t aX12_laysDeeds_11 hc57 ?_
      cases hE
      exact g_vret aX12_laysDeeds_115 rfl
    · rw [if_neg hc57] at hE
      refine g_ic_ge_f aX12_laysDeeds_11 hc57 ?_
      refine g_ldan aX12_laysDeeds_14 rfl ?_
      refine g_getR aX12_laysDeeds_15 (sR_0 hsh) rfl ?_
      refine g_ldin aX12_laysDeeds_18 rfl ?_
      refine g_ldan aX12_laysDeeds_19 rfl ?_
      refine g_getR aX12_laysDeeds_20 (sR_0 hsh) rfl ?_
      refine g_ldin aX12_laysDeeds_23 rfl ?_
      obtain ⟨h58, hE⟩ := i_ifn hE
      refine g_ild aX12_laysDeeds_24 (sR_6 hsh) h58 ?_
      refine g_bipush (x := 10) aX12_laysDeeds_25 rfl ?_
      refine g_ldi aX12_laysDeeds_27 rfl ?_
      refine g_iconst (x := 5) aX12_laysDeeds_29 rfl ?_
      refine g_idiv aX12_laysDeeds_30 (by decide) ?_
      refine g_imul aX12_laysDeeds_31 ?_
      refine g_iadd aX12_laysDeeds_32 ?_
      refine g_sipush (x := 999) aX12_laysDeeds_33 rfl ?_
      obtain ⟨r59, s60, h61, hE⟩ := i_bd_some hE
      refine g_calS (As := [.int ((s5.2.1 6 p1.toNatClampNeg) + (10 * (x4 / 5))), .int 999]) (rest := [.int p1, .ref 6]) aX12_laysDeeds_36 (i_X_mono (by omega) (tX12_upTo hsh h61)) rfl rfl (Nat.le_of_ble_eq_true rfl) rfl ?_
      obtain ⟨h62, hE⟩ := i_ifn hE
      refine g_ist aX12_laysDeeds_39 (sR_6 hsh) h62 ?_
      refine g_ldan aX12_laysDeeds_40 rfl ?_
      refine g_getR aX12_laysDeeds_41 (sR_0 hsh) rfl ?_
      refine g_ldin aX12_laysDeeds_44 rfl ?_
      refine g_ldan aX12_laysDeeds_45 rfl ?_
      refine g_getR aX12_laysDeeds_46 (sR_0 hsh) rfl ?_
      refine g_ldin aX12_laysDeeds_49 rfl ?_
      obtain ⟨h63, hE⟩ := i_ifn hE
      refine g_ild aX12_laysDeeds_50 (sR_6 hsh) h63 ?_
      refine g_bipush (x := 10) aX12_laysDeeds_51 rfl ?_
      refine g_ldi aX12_laysDeeds_53 rfl ?_
      refine g_iconst (x := 5) aX12_laysDeeds_55 rfl ?_
      refine g_irem aX12_laysDeeds_56 (by decide) ?_
      refine g_imul aX12_laysDeeds_57 ?_
      refine g_iadd aX12_laysDeeds_58 ?_
      refine g_sipush (x := 999) aX12_laysDeeds_59 rfl ?_
      obtain ⟨r64, s65, h66, hE⟩ := i_bd_some hE
      refine g_calS (As := [.int (((s_A s60 6 p1.toNatClampNeg r59).2.1 6 p2.toNatClampNeg) + (10 * (x4 - x4 / 5 * 5))), .int 999]) (rest := [.int p2, .ref 6]) aX12_laysDeeds_62 (i_X_mono (by omega) (tX12_upTo hsh h66)) rfl rfl (Nat.le_of_ble_eq_true rfl) rfl ?_
      obtain ⟨h67, hE⟩ := i_ifn hE
      refine g_ist aX12_laysDeeds_65 (sR_6 hsh) h67 ?_
      refine g_ldan aX12_laysDeeds_66 rfl ?_
      refine g_ldin aX12_laysDeeds_67 rfl ?_
      obtain ⟨r68, s69, h70, hE⟩ := i_bd_some hE
      refine g_calV (As := [.int p3]) (rest := []) aX12_laysDeeds_68 (i_X_mono (by omega) (tX12_goFor hsh h70)) (sR_0 hsh) (by decide +kernel) rfl rfl (Nat.le_of_ble_eq_true rfl) rfl ?_
      refine g_ldan aX12_laysDeeds_71 rfl ?_
      refine g_getR aX12_laysDeeds_72 (sR_0 hsh) rfl ?_
      refine g_ldi aX12_laysDeeds_75 rfl ?_
      refine g_ldan aX12_laysDeeds_77 rfl ?_
      refine g_ldin aX12_laysDeeds_78 rfl ?_
      obtain ⟨r71, s72, h73, hE⟩ := i_bd_some hE
      refine g_calV (As := [.int p1]) (rest := [.int x4, .ref 32]) aX12_laysDeeds_79 (i_X_mono (by omega) (tX12_rankOf hsh h73)) (sR_0 hsh) (by decide +kernel) rfl rfl (Nat.le_of_ble_eq_true rfl) rfl ?_
      refine g_ldi aX12_laysDeeds_82 rfl ?_
      refine g_iconst (x := 5) aX12_laysDeeds_84 rfl ?_
      refine g_idiv aX12_laysDeeds_85 (by decide) ?_
      refine g_isub aX12_laysDeeds_86 ?_
      obtain ⟨h74, hE⟩ := i_ifn hE
      refine g_ist aX12_laysDeeds_87 (sR_32 hsh) h74 ?_
      refine g_ldan aX12_laysDeeds_88 rfl ?_
      refine g_getR aX12_laysDeeds_89 (sR_0 hsh) rfl ?_
      refine g_ldi aX12_laysDeeds_92 rfl ?_
      refine g_ldan aX12_laysDeeds_94 rfl ?_
      refine g_ldin aX12_laysDeeds_95 rfl ?_
      obtain ⟨r75, s76, h77, hE⟩ := i_bd_some hE
      refine g_calV (As := [.int p2]) (rest := [.int x4, .ref 33]) aX12_laysDeeds_96 (i_X_mono (by omega) (tX12_rankOf hsh h77)) (sR_0 hsh) (by decide +kernel) rfl rfl (Nat.le_of_ble_eq_true rfl) rfl ?_
      refine g_ldi aX12_laysDeeds_99 rfl ?_
      refine g_iconst (x := 5) aX12_laysDeeds_101 rfl ?_
      refine g_irem aX12_laysDeeds_102 (by decide) ?_
      refine g_isub aX12_laysDeeds_103 ?_
      obtain ⟨h78, hE⟩ := i_ifn hE
      refine g_ist aX12_laysDeeds_104 (sR_33 hsh) h78 ?_
      refine g_ldan aX12_laysDeeds_105 rfl ?_
      obtain ⟨r79, s80, h81, hE⟩ := i_bd_some hE
      refine g_calV (As := []) (rest := []) aX12_laysDeeds_106 (i_X_mono (by omega) (tX12_laysBack hsh h81)) (sR_0 hsh) (by decide +kernel) rfl rfl (Nat.le_of_ble_eq_true rfl) rfl ?_
      refine g_iinc (y := 1) (loc2 := [.ref 0, .int p1, .int p2, .int p3, .int (x4 + 1)]) aX12_laysDeeds_109 rfl rfl rfl ?_
      refine g_goto aX12_laysDeeds_112 ?_
      exact ih _ _ hE
set_option maxRecDepth 20000 in
set_option maxHeartbeats 2000000 in
theorem tX12_laysDeeds {sh : List kd} {σ τ : St} {r : Unit} (hsh : rmSh sh) {p1 : Int32} {p2 : Int32} {p3 : Int32} (hE : fX12_laysDeeds sh σ p1 p2 p3 = some (r, τ)) : i_X 9 210 [.ref 0, .int p1, .int p2, .int p3] (s_h sh σ) 0 0 none (s_h sh τ) := by
  refine g_X (M := mX12_laysDeeds) (loc := [.ref 0, .int p1, .int p2, .int p3, .retAddr 0]) rfl (Nat.le_of_ble_eq_true rfl) rfl ?_
  unfold fX12_laysDeeds at hE
  refine g_ldan aX12_laysDeeds_0 rfl ?_
  obtain ⟨r1, s2, h3, hE⟩ := i_bd_some hE
  refine g_calV (As := []) (rest := []) aX12_laysDeeds_1 (i_X_mono (by omega) (tX12_keepsAll hsh h3)) (sR_0 hsh) (by decide +kernel) rfl rfl (Nat.le_of_ble_eq_true rfl) rfl ?_
  refine g_iconst (x := 0) aX12_laysDeeds_4 rfl ?_
  refine g_sti (loc2 := [.ref 0, .int p1, .int p2, .int p3, .int 0]) aX12_laysDeeds_5 (Nat.le_of_ble_eq_true rfl) rfl ?_
  exact tX12_laysDeeds_L7 hsh i_F _ _ hE
theorem aX12_rests_0 : i_at mX12_rests.2.2.2.2.2 0 = some (.aload_n 0, 1, 0, 0, 0, 0) := by decide +kernel
theorem aX12_rests_1 : i_at mX12_rests.2.2.2.2.2 1 = some (.iload_n 1, 1, 0, 0, 0, 0) := by decide +kernel
theorem aX12_rests_2 : i_at mX12_rests.2.2.2.2.2 2 = some (.invokevirtual 351, 3, 132, 1, 1446, 0) := by decide +kernel
theorem aX12_rests_5 : i_at mX12_rests.2.2.2.2.2 5 = some (.ifCond .eq 41, 3, 46, 0, 0, 0) := by decide +kernel
theorem aX12_rests_8 : i_at mX12_rests.2.2.2.2.2 8 = some (.aload_n 0, 1, 0, 0, 0, 0) := by decide +kernel
theorem aX12_rests_9 : i_at mX12_rests.2.2.2.2.2 9 = some (.iload_n 2, 1, 0, 0, 0, 0) := by decide +kernel
theorem aX12_rests_10 : i_at mX12_rests.2.2.2.2.2 10 = some (.invokevirtual 351, 3, 132, 1, 1446, 0) := by decide +kernel
theorem aX12_rests_13 : i_at mX12_rests.2.2.2.2.2 13 = some (.ifCond .eq 33, 3, 46, 0, 0, 0) := by decide +kernel
theorem aX12_rests_16 : i_at mX12_rests.2.2.2.2.2 16 = some (.iload_n 1, 1, 0, 0, 0, 0) := by decide +kernel
theorem aX12_rests_17 : i_at mX12_rests.2.2.2.2.2 17 = some (.iload_n 2, 1, 0, 0, 0, 0) := by decide +kernel
theorem aX12_rests_18 : i_at mX12_rests.2.2.2.2.2 18 = some (.if_icmp .eq 28, 3, 46, 0, 0, 0) := by decide +kernel
theorem aX12_rests_21 : i_at mX12_rests.2.2.2.2.2 21 = some (.iload_n 3, 1, 0, 0, 0, 0) := by decide +kernel
theorem aX12_rests_22 : i_at mX12_rests.2.2.2.2.2 22 = some (.i2l, 1, 0, 0, 0, 0) := by decide +kernel
theorem aX12_rests_23 : i_at mX12_rests.2.2.2.2.2 23 = some (.lconst 1, 1, 0, 0, 0, 0) := by decide +kernel
theorem aX12_rests_24 : i_at mX12_rests.2.2.2.2.2 24 = some (.ldc2_w 434, 3, 0, 0, 1616, 20) := by decide +kernel
theorem aX12_rests_27 : i_at mX12_rests.2.2.2.2.2 27 = some (.invokestatic 131, 3, 127, 3, 1324, 0) := by decide +kernel
theorem aX12_rests_30 : i_at mX12_rests.2.2.2.2.2 30 = some (.ifCond .eq 16, 3, 46, 0, 0, 0) := by decide +kernel
theorem aX12_rests_33 : i_at mX12_rests.2.2.2.2.2 33 = some (.iload 4, 2, 0, 0, 0, 0) := by decide +kernel
theorem aX12_rests_35 : i_at mX12_rests.2.2.2.2.2 35 = some (.i2l, 1, 0, 0, 0, 0) := by decide +kernel
theorem aX12_rests_36 : i_at mX12_rests.2.2.2.2.2 36 = some (.lconst 0, 1, 0, 0, 0, 0) := by decide +kernel
theorem aX12_rests_37 : i_at mX12_rests.2.2.2.2.2 37 = some (.ldc2_w 406, 3, 0, 0, 1543, 2) := by decide +kernel
theorem aX12_rests_40 : i_at mX12_rests.2.2.2.2.2 40 = some (.invokestatic 131, 3, 127, 3, 1324, 0) := by decide +kernel
theorem aX12_rests_43 : i_at mX12_rests.2.2.2.2.2 43 = some (.ifCond .ne 5, 3, 48, 0, 0, 0) := by decide +kernel
theorem aX12_rests_46 : i_at mX12_rests.2.2.2.2.2 46 = some (.iconst (-1), 1, 0, 0, 0, 0) := by decide +kernel
theorem aX12_rests_47 : i_at mX12_rests.2.2.2.2.2 47 = some (.ireturn, 1, 0, 0, 0, 0) := by decide +kernel
theorem aX12_rests_48 : i_at mX12_rests.2.2.2.2.2 48 = some (.aload_n 0, 1, 0, 0, 0, 0) := by decide +kernel
theorem aX12_rests_49 : i_at mX12_rests.2.2.2.2.2 49 = some (.iload_n 1, 1, 0, 0, 0, 0) := by decide +kernel
theorem aX12_rests_50 : i_at mX12_rests.2.2.2.2.2 50 = some (.iload_n 2, 1, 0, 0, 0, 0) := by decide +kernel
theorem aX12_rests_51 : i_at mX12_rests.2.2.2.2.2 51 = some (.iload_n 3, 1, 0, 0, 0, 0) := by decide +kernel
theorem aX12_rests_52 : i_at mX12_rests.2.2.2.2.2 52 = some (.invokevirtual 436, 3, 210, 3, 1617, 0) := by decide +kernel
theorem aX12_rests_55 : i_at mX12_rests.2.2.2.2.2 55 = some (.iconst 0, 1, 0, 0, 0, 0) := by decide +kernel
theorem aX12_rests_56 : i_at mX12_rests.2.2.2.2.2 56 = some (.istore 5, 2, 0, 0, 0, 0) := by decide +kernel
theorem aX12_rests_58 : i_at mX12_rests.2.2.2.2.2 58 = some (.iconst (-1), 1, 0, 0, 0, 0) := by decide +kernel
theorem aX12_rests_59 : i_at mX12_rests.2.2.2.2.2 59 = some (.istore 6, 2, 0, 0, 0, 0) := by decide +kernel
theorem aX12_rests_61 : i_at mX12_rests.2.2.2.2.2 61 = some (.iconst 0, 1, 0, 0, 0, 0) := by decide +kernel
theorem aX12_rests_62 : i_at mX12_rests.2.2.2.2.2 62 = some (.istore 7, 2, 0, 0, 0, 0) := by decide +kernel
theorem aX12_rests_64 : i_at mX12_rests.2.2.2.2.2 64 = some (.iload 7, 2, 0, 0, 0, 0) := by decide +kernel
theorem aX12_rests_66 : i_at mX12_rests.2.2.2.2.2 66 = some (.bipush 25, 2, 0, 0, 0, 0) := by decide +kernel
theorem aX12_rests_68 : i_at mX12_rests.2.2.2.2.2 68 = some (.if_icmp .ge 35, 3, 103, 0, 0, 0) := by decide +kernel
theorem aX12_rests_71 : i_at mX12_rests.2.2.2.2.2 71 = some (.aload_n 0, 1, 0, 0, 0, 0) := by decide +kernel
theorem aX12_rests_72 : i_at mX12_rests.2.2.2.2.2 72 = some (.iload 7, 2, 0, 0, 0, 0) := by decide +kernel
theorem aX12_rests_74 : i_at mX12_rests.2.2.2.2.2 74 = some (.invokevirtual 440, 3, 211, 1, 1621, 0) := by decide +kernel
theorem aX12_rests_77 : i_at mX12_rests.2.2.2.2.2 77 = some (.ifCond .eq 20, 3, 97, 0, 0, 0) := by decide +kernel
theorem aX12_rests_80 : i_at mX12_rests.2.2.2.2.2 80 = some (.iload 5, 2, 0, 0, 0, 0) := by decide +kernel
theorem aX12_rests_82 : i_at mX12_rests.2.2.2.2.2 82 = some (.ifCond .ne 8, 3, 90, 0, 0, 0) := by decide +kernel
theorem aX12_rests_85 : i_at mX12_rests.2.2.2.2.2 85 = some (.iload 7, 2, 0, 0, 0, 0) := by decide +kernel
theorem aX12_rests_87 : i_at mX12_rests.2.2.2.2.2 87 = some (.goto 5, 3, 92, 0, 0, 0) := by decide +kernel
theorem aX12_rests_90 : i_at mX12_rests.2.2.2.2.2 90 = some (.iload 6, 2, 0, 0, 0, 0) := by decide +kernel
theorem aX12_rests_92 : i_at mX12_rests.2.2.2.2.2 92 = some (.istore 6, 2, 0, 0, 0, 0) := by decide +kernel
theorem aX12_rests_94 : i_at mX12_rests.2.2.2.2.2 94 = some (.iinc 5 1, 3, 0, 0, 0, 0) := by decide +kernel
theorem aX12_rests_97 : i_at mX12_rests.2.2.2.2.2 97 = some (.iinc 7 1, 3, 0, 0, 0, 0) := by decide +kernel
theorem aX12_rests_100 : i_at mX12_rests.2.2.2.2.2 100 = some (.goto (-36), 3, 64, 0, 0, 0) := by decide +kernel
theorem aX12_rests_103 : i_at mX12_rests.2.2.2.2.2 103 = some (.iload 4, 2, 0, 0, 0, 0) := by decide +kernel
theorem aX12_rests_105 : i_at mX12_rests.2.2.2.2.2 105 = some (.ifCond .ne 6, 3, 111, 0, 0, 0) := by decide +kernel
theorem aX12_rests_108 : i_at mX12_rests.2.2.2.2.2 108 = some (.iload 5, 2, 0, 0, 0, 0) := by decide +kernel
theorem aX12_rests_110 : i_at mX12_rests.2.2.2.2.2 110 = some (.ireturn, 1, 0, 0, 0, 0) := by decide +kernel
theorem aX12_rests_111 : i_at mX12_rests.2.2.2.2.2 111 = some (.iload 6, 2, 0, 0, 0, 0) := by decide +kernel
theorem aX12_rests_113 : i_at mX12_rests.2.2.2.2.2 113 = some (.iconst (-1), 1, 0, 0, 0, 0) := by decide +kernel
theorem aX12_rests_114 : i_at mX12_rests.2.2.2.2.2 114 = some (.if_icmp .ne 8, 3, 122, 0, 0, 0) := by decide +kernel
theorem aX12_rests_117 : i_at mX12_rests.2.2.2.2.2 117 = some (.bipush (-2), 2, 0, 0, 0, 0) := by decide +kernel
theorem aX12_rests_119 : i_at mX12_rests.2.2.2.2.2 119 = some (.goto 23, 3, 142, 0, 0, 0) := by decide +kernel
theorem aX12_rests_122 : i_at mX12_rests.2.2.2.2.2 122 = some (.bipush 10, 2, 0, 0, 0, 0) := by decide +kernel
theorem aX12_rests_124 : i_at mX12_rests.2.2.2.2.2 124 = some (.iload 4, 2, 0, 0, 0, 0) := by decide +kernel
theorem aX12_rests_126 : i_at mX12_rests.2.2.2.2.2 126 = some (.iconst 1, 1, 0, 0, 0, 0) := by decide +kernel
theorem aX12_rests_127 : i_at mX12_rests.2.2.2.2.2 127 = some (.if_icmp .ne 10, 3, 137, 0, 0, 0) := by decide +kernel
theorem aX12_rests_130 : i_at mX12_rests.2.2.2.2.2 130 = some (.iload 6, 2, 0, 0, 0, 0) := by decide +kernel
theorem aX12_rests_132 : i_at mX12_rests.2.2.2.2.2 132 = some (.iconst 5, 1, 0, 0, 0, 0) := by decide +kernel
theorem aX12_rests_133 : i_at mX12_rests.2.2.2.2.2 133 = some (.idiv, 1, 0, 0, 0, 0) := by decide +kernel
theorem aX12_rests_134 : i_at mX12_rests.2.2.2.2.2 134 = some (.goto 7, 3, 141, 0, 0, 0) := by decide +kernel
theorem aX12_rests_137 : i_at mX12_rests.2.2.2.2.2 137 = some (.iload 6, 2, 0, 0, 0, 0) := by decide +kernel
theorem aX12_rests_139 : i_at mX12_rests.2.2.2.2.2 139 = some (.iconst 5, 1, 0, 0, 0, 0) := by decide +kernel
theorem aX12_rests_140 : i_at mX12_rests.2.2.2.2.2 140 = some (.irem, 1, 0, 0, 0, 0) := by decide +kernel
theorem aX12_rests_141 : i_at mX12_rests.2.2.2.2.2 141 = some (.imul, 1, 0, 0, 0, 0) := by decide +kernel
theorem aX12_rests_142 : i_at mX12_rests.2.2.2.2.2 142 = some (.ireturn, 1, 0, 0, 0, 0) := by decide +kernel
noncomputable def fX12_rests_J97 (sh : List kd) (p1 : Int32) (p2 : Int32) (p3 : Int32) (p4 : Int32) (x23 : Int32) (s82 : St) (k64 : Int32 → Int32 → Int32 → St → Option (Int32 × St)) (x134 : Int32) (x135 : Int32) : Option (Int32 × St) := k64 x134 x135 (x23 + 1) s82
noncomputable def fX12_rests_L64 (sh : List kd) (p1 : Int32) (p2 : Int32) (p3 : Int32) (p4 : Int32) (k103 : Int32 → Int32 → Int32 → St → Option (Int32 × St)) : Nat → Int32 → Int32 → Int32 → St → Option (Int32 × St)
  | 0, _, _, _, _ => none
  | n79 + 1, x21, x22, x23, s24 => if 25 ≤ x23 then k103 x21 x22 x23 s24 else i_bd (fX12_isRest sh s24 x23) (fun r81 s82 => if r81 = 0 then fX12_rests_J97 sh p1 p2 p3 p4 x23 s82 (fX12_rests_L64 sh p1 p2 p3 p4 k103 n79) x21 x22 else fX12_rests_J97 sh p1 p2 p3 p4 x23 s82 (fX12_rests_L64 sh p1 p2 p3 p4 k103 n79) (x21 + 1) ((if ¬ x21 = 0 then x22 else x23) : Int32))
noncomputable def fX12_rests_J141 (sh : List kd) (p1 : Int32) (p2 : Int32) (p3 : Int32) (p4 : Int32) (x75 : Int32) (x76 : Int32) (x77 : Int32) (s78 : St) (x240 : Int32) : Option (Int32 × St) := some ((10 * x240), s78)
noncomputable def fX12_rests_X103 (sh : List kd) (p1 : Int32) (p2 : Int32) (p3 : Int32) (p4 : Int32) (x75 : Int32) (x76 : Int32) (x77 : Int32) (s78 : St) : Option (Int32 × St) := if ¬ p4 = 0 then if ¬ x76 = (-1) then if ¬ p4 = 1 then fX12_rests_J141 sh p1 p2 p3 p4 x75 x76 x77 s78 (x76 - x76 / 5 * 5) else fX12_rests_J141 sh p1 p2 p3 p4 x75 x76 x77 s78 (x76 / 5) else some ((-2), s78) else some (x75, s78)
noncomputable def fX12_rests (sh : List kd) (σ : St) (p1 : Int32) (p2 : Int32) (p3 : Int32) (p4 : Int32) : Option (Int32 × St) := i_bd (fX12_isPerson sh σ p1) (fun r1 s2 => if r1 = 0 then some ((-1), s2) else i_bd (fX12_isPerson sh s2 p2) (fun r5 s6 => if r5 = 0 then some ((-1), s6) else if p1 = p2 then some ((-1), s6) else i_bd (fX12_in sh s6 p3.toInt64 1 20) (fun r10 s11 => if r10 = 0 then some ((-1), s11) else i_bd (fX12_in sh s11 p4.toInt64 0 2) (fun r14 s15 => if ¬ r14 = 0 then i_bd (fX12_laysDeeds sh s15 p1 p2 p3) (fun r18 s19 => fX12_rests_L64 sh p1 p2 p3 p4 (fun (x75 : Int32) (x76 : Int32) (x77 : Int32) (s78 : St) => fX12_rests_X103 sh p1 p2 p3 p4 x75 x76 x77 s78) i_F 0 (-1) 0 s19) else some ((-1), s15)))))
set_option maxRecDepth 20000 in
set_option maxHeartbeats 2000000 in
theorem tX12_rests_J97 {sh : List kd} {τ : St} {r : Int32} (hsh : rmSh sh) {p1 : Int32} {p2 : Int32} {p3 : Int32} {p4 : Int32} {x23 : Int32} {s82 : St} {x134 : Int32} {x135 : Int32} {k64 : Int32 → Int32 → Int32 → St → Option (Int32 × St)} (hk64 : ∀ (x21 : Int32) (x22 : Int32) (x23 : Int32) (s24 : St), k64 x21 x22 x23 s24 = some (r, τ) → g_R sh 9 mX12_rests (some (.int r)) τ 64 [.ref 0, .int p1, .int p2, .int p3, .int p4, .int x21, .int x22, .int x23] [] (s24)) (hE : fX12_rests_J97 sh p1 p2 p3 p4 x23 s82 k64 x134 x135 = some (r, τ)) : g_R sh 9 mX12_rests (some (.int r)) τ 97 [.ref 0, .int p1, .int p2, .int p3, .int p4, .int x134, .int x135, .int x23] [] (s82) := by
  unfold fX12_rests_J97 at hE
  refine g_iinc (y := 1) (loc2 := [.ref 0, .int p1, .int p2, .int p3, .int p4, .int x134, .int x135, .int (x23 + 1)]) aX12_rests_97 rfl rfl rfl ?_
  refine g_goto aX12_rests_100 ?_
  exact hk64 _ _ _ _ hE
set_option maxRecDepth 20000 in
set_option maxHeartbeats 2000000 in
theorem tX12_rests_L64 {sh : List kd} {τ : St} {r : Int32} (hsh : rmSh sh) {p1 : Int32} {p2 : Int32} {p3 : Int32} {p4 : Int32} {k103 : Int32 → Int32 → Int32 → St → Option (Int32 × St)} (hk103 : ∀ (x75 : Int32) (x76 : Int32) (x77 : Int32) (s78 : St), k103 x75 x76 x77 s78 = some (r, τ) → g_R sh 9 mX12_rests (some (.int r)) τ 103 [.ref 0, .int p1, .int p2, .int p3, .int p4, .int x75, .int x76, .int x77] [] (s78)) : ∀ (n0 : Nat) (x21 : Int32) (x22 : Int32) (x23 : Int32) (s24 : St), fX12_rests_L64 sh p1 p2 p3 p4 k103 n0 x21 x22 x23 s24 = some (r, τ) → g_R sh 9 mX12_rests (some (.int r)) τ 64 [.ref 0, .int p1, .int p2, .int p3, .int p4, .int x21, .int x22, .int x23] [] (s24) := by
  intro n0
  induction n0 with
  | zero => intro _ _ _ _ hE; cases hE
  | succ n79 ih =>
    intro x21 x22 x23 s24 hE
    unfold fX12_rests_L64 at hE
    refine g_ldi aX12_rests_64 rfl ?_
    refine g_bipush (x := 25) aX12_rests_66 rfl ?_
    by_cases hc80 : 25 ≤ x23
    · rw [if_pos hc80] at hE
      refine g_ic_ge_t aX12_rests_68 hc80 ?_
      exact hk103 _ _ _ _ hE
    · rw [if_neg hc80] at hE
      refine g_ic_ge_f aX12_rests_68 hc80 ?_
      refine g_ldan aX12_rests_71 rfl ?_
      refine g_ldi aX12_rests_72 rfl ?_
      obtain ⟨r81, s82, h83, hE⟩ := i_bd_some hE
      refine g_calV (As := [.int x23]) (rest := []) aX12_rests_74 (i_X_mono (by omega) (tX12_isRest hsh h83)) (sR_0 hsh) (by decide +kernel) rfl rfl (Nat.le_of_ble_eq_true rfl) rfl ?_
      by_cases hc136 : r81 = 0
      · rw [if_pos hc136] at hE
        refine g_if_eq_t aX12_rests_77 hc136 ?_
        exact tX12_rests_J97 hsh ih hE
      · rw [if_neg hc136] at hE
        refine g_if_eq_f aX12_rests_77 hc136 ?_
        refine g_ldi aX12_rests_80 rfl ?_
        have hJ : g_R sh 9 mX12_rests (some (.int r)) τ 92 [.ref 0, .int p1, .int p2, .int p3, .int p4, .int x21, .int x22, .int x23] [.int ((if ¬ x21 = 0 then x22 else x23) : Int32)] (s82) := by
          refine g_sti (loc2 := [.ref 0, .int p1, .int p2, .int p3, .int p4, .int x21, .int ((if ¬ x21 = 0 then x22 else x23) : Int32), .int x23]) aX12_rests_92 (Nat.le_of_ble_eq_true rfl) rfl ?_
          refine g_iinc (y := 1) (loc2 := [.ref 0, .int p1, .int p2, .int p3, .int p4, .int (x21 + 1), .int ((if ¬ x21 = 0 then x22 else x23) : Int32), .int x23]) aX12_rests_94 rfl rfl rfl ?_
          exact tX12_rests_J97 hsh ih hE
        clear hE
        by_cases hc136 : ¬ x21 = 0
        · (try rw [if_pos hc136] at hJ)
          refine g_if_ne_t aX12_rests_82 hc136 ?_
          refine g_ldi aX12_rests_90 rfl ?_
          exact hJ
        · (try rw [if_neg hc136] at hJ)
          refine g_if_ne_f aX12_rests_82 hc136 ?_
          refine g_ldi aX12_rests_85 rfl ?_
          refine g_goto aX12_rests_87 ?_
          exact hJ
set_option maxRecDepth 20000 in
set_option maxHeartbeats 2000000 in
theorem tX12_rests_J141 {sh : List kd} {τ : St} {r : Int32} (hsh : rmSh sh) {p1 : Int32} {p2 : Int32} {p3 : Int32} {p4 : Int32} {x75 : Int32} {x76 : Int32} {x77 : Int32} {s78 : St} {x240 : Int32} (hE : fX12_rests_J141 sh p1 p2 p3 p4 x75 x76 x77 s78 x240 = some (r, τ)) : g_R sh 9 mX12_rests (some (.int r)) τ 141 [.ref 0, .int p1, .int p2, .int p3, .int p4, .int x75, .int x76, .int x77] [.int x240, .int 10] (s78) := by
  unfold fX12_rests_J141 at hE
  refine g_imul aX12_rests_141 ?_
  cases hE
  exact g_iret aX12_rests_142 rfl rfl
set_option maxRecDepth 20000 in
set_option maxHeartbeats 2000000 in
theorem tX12_rests_X103 {sh : List kd} {τ : St} {r : Int32} (hsh : rmSh sh) {p1 : Int32} {p2 : Int32} {p3 : Int32} {p4 : Int32} {x75 : Int32} {x76 : Int32} {x77 : Int32} {s78 : St} (hE : fX12_rests_X103 sh p1 p2 p3 p4 x75 x76 x77 s78 = some (r, τ)) : g_R sh 9 mX12_rests (some (.int r)) τ 103 [.ref 0, .int p1, .int p2, .int p3, .int p4, .int x75, .int x76, .int x77] [] (s78) := by
  unfold fX12_rests_X103 at hE
  refine g_ldi aX12_rests_103 rfl ?_
  by_cases hc138 : ¬ p4 = 0
  · rw [if_pos hc138] at hE
    refine g_if_ne_t aX12_rests_105 hc138 ?_
    refine g_ldi aX12_rests_111 rfl ?_
    refine g_iconst (x := (-1)) aX12_rests_113 rfl ?_
    by_cases hc189 : ¬ x76 = (-1)
    · rw [if_pos hc189] at hE
      refine g_ic_ne_t aX12_rests_114 hc189 ?_
      refine g_bipush (x := 10) aX12_rests_122 rfl ?_
      refine g_ldi aX12_rests_124 rfl ?_
      refine g_iconst (x := 1) aX12_rests_126 rfl ?_
      by_cases hc241 : ¬ p4 = 1
      · rw [if_pos hc241] at hE
        refine g_ic_ne_t aX12_rests_127 hc241 ?_
        refine g_ldi aX12_rests_137 rfl ?_
        refine g_iconst (x := 5) aX12_rests_139 rfl ?_
        refine g_irem aX12_rests_140 (by decide) ?_
        exact tX12_rests_J141 hsh hE
      · rw [if_neg hc241] at hE
        refine g_ic_ne_f aX12_rests_127 hc241 ?_
        refine g_ldi aX12_rests_130 rfl ?_
        refine g_iconst (x := 5) aX12_rests_132 rfl ?_
        refine g_idiv aX12_rests_133 (by decide) ?_
        refine g_goto aX12_rests_134 ?_
        exact tX12_rests_J141 hsh hE
    · rw [if_neg hc189] at hE
      refine g_ic_ne_f aX12_rests_114 hc189 ?_
      refine g_bipush (x := (-2)) aX12_rests_117 rfl ?_
      refine g_goto aX12_rests_119 ?_
      cases hE
      exact g_iret aX12_rests_142 rfl rfl
  · rw [if_neg hc138] at hE
    refine g_if_ne_f aX12_rests_105 hc138 ?_
    refine g_ldi aX12_rests_108 rfl ?_
    cases hE
    exact g_iret aX12_rests_110 rfl rfl
set_option maxRecDepth 20000 in
set_option maxHeartbeats 2000000 in
theorem tX12_rests {sh : List kd} {σ τ : St} {r : Int32} (hsh : rmSh sh) {p1 : Int32} {p2 : Int32} {p3 : Int32} {p4 : Int32} (hE : fX12_rests sh σ p1 p2 p3 p4 = some (r, τ)) : i_X 10 212 [.ref 0, .int p1, .int p2, .int p3, .int p4] (s_h sh σ) 0 0 (some (.int r)) (s_h sh τ) := by
  refine g_X (M := mX12_rests) (loc := [.ref 0, .int p1, .int p2, .int p3, .int p4, .retAddr 0, .retAddr 0, .retAddr 0]) rfl (Nat.le_of_ble_eq_true rfl) rfl ?_
  unfold fX12_rests at hE
  refine g_ldan aX12_rests_0 rfl ?_
  refine g_ldin aX12_rests_1 rfl ?_
  obtain ⟨r1, s2, h3, hE⟩ := i_bd_some hE
  refine g_calV (As := [.int p1]) (rest := []) aX12_rests_2 (i_X_mono (by omega) (tX12_isPerson hsh h3)) (sR_0 hsh) (by decide +kernel) rfl rfl (Nat.le_of_ble_eq_true rfl) rfl ?_
  by_cases hc4 : r1 = 0
  · rw [if_pos hc4] at hE
    refine g_if_eq_t aX12_rests_5 hc4 ?_
    refine g_iconst (x := (-1)) aX12_rests_46 rfl ?_
    cases hE
    exact g_iret aX12_rests_47 rfl rfl
  · rw [if_neg hc4] at hE
    refine g_if_eq_f aX12_rests_5 hc4 ?_
    refine g_ldan aX12_rests_8 rfl ?_
    refine g_ldin aX12_rests_9 rfl ?_
    obtain ⟨r5, s6, h7, hE⟩ := i_bd_some hE
    refine g_calV (As := [.int p2]) (rest := []) aX12_rests_10 (i_X_mono (by omega) (tX12_isPerson hsh h7)) (sR_0 hsh) (by decide +kernel) rfl rfl (Nat.le_of_ble_eq_true rfl) rfl ?_
    by_cases hc8 : r5 = 0
    · rw [if_pos hc8] at hE
      refine g_if_eq_t aX12_rests_13 hc8 ?_
      refine g_iconst (x := (-1)) aX12_rests_46 rfl ?_
      cases hE
      exact g_iret aX12_rests_47 rfl rfl
    · rw [if_neg hc8] at hE
      refine g_if_eq_f aX12_rests_13 hc8 ?_
      refine g_ldin aX12_rests_16 rfl ?_
      refine g_ldin aX12_rests_17 rfl ?_
      by_cases hc9 : p1 = p2
      · rw [if_pos hc9] at hE
        refine g_ic_eq_t aX12_rests_18 hc9 ?_
        refine g_iconst (x := (-1)) aX12_rests_46 rfl ?_
        cases hE
        exact g_iret aX12_rests_47 rfl rfl
      · rw [if_neg hc9] at hE
        refine g_ic_eq_f aX12_rests_18 hc9 ?_
        refine g_ldin aX12_rests_21 rfl ?_
        refine g_i2l aX12_rests_22 ?_
        refine g_lconst (x := 1) aX12_rests_23 rfl ?_
        refine g_ldc2 (x := 20) aX12_rests_24 rfl ?_
        obtain ⟨r10, s11, h12, hE⟩ := i_bd_some hE
        refine g_calS (As := [.long p3.toInt64, .long 1, .long 20]) (rest := []) aX12_rests_27 (i_X_mono (by omega) (tX12_in hsh h12)) rfl rfl (Nat.le_of_ble_eq_true rfl) rfl ?_
        by_cases hc13 : r10 = 0
        · rw [if_pos hc13] at hE
          refine g_if_eq_t aX12_rests_30 hc13 ?_
          refine g_iconst (x := (-1)) aX12_rests_46 rfl ?_
          cases hE
          exact g_iret aX12_rests_47 rfl rfl
        · rw [if_neg hc13] at hE
          refine g_if_eq_f aX12_rests_30 hc13 ?_
          refine g_ldi aX12_rests_33 rfl ?_
          refine g_i2l aX12_rests_35 ?_
          refine g_lconst (x := 0) aX12_rests_36 rfl ?_
          refine g_ldc2 (x := 2) aX12_rests_37 rfl ?_
          obtain ⟨r14, s15, h16, hE⟩ := i_bd_some hE
          refine g_calS (As := [.long p4.toInt64, .long 0, .long 2]) (rest := []) aX12_rests_40 (i_X_mono (by omega) (tX12_in hsh h16)) rfl rfl (Nat.le_of_ble_eq_true rfl) rfl ?_
          by_cases hc17 : ¬ r14 = 0
          · rw [if_pos hc17] at hE
            refine g_if_ne_t aX12_rests_43 hc17 ?_
            refine g_ldan aX12_rests_48 rfl ?_
            refine g_ldin aX12_rests_49 rfl ?_
            refine g_ldin aX12_rests_50 rfl ?_
            refine g_ldin aX12_rests_51 rfl ?_
            obtain ⟨r18, s19, h20, hE⟩ := i_bd_some hE
            refine g_calV (As := [.int p1, .int p2, .int p3]) (rest := []) aX12_rests_52 (i_X_mono (by omega) (tX12_laysDeeds hsh h20)) (sR_0 hsh) (by decide +kernel) rfl rfl (Nat.le_of_ble_eq_true rfl) rfl ?_
            refine g_iconst (x := 0) aX12_rests_55 rfl ?_
            refine g_sti (loc2 := [.ref 0, .int p1, .int p2, .int p3, .int p4, .int 0, .retAddr 0, .retAddr 0]) aX12_rests_56 (Nat.le_of_ble_eq_true rfl) rfl ?_
            refine g_iconst (x := (-1)) aX12_rests_58 rfl ?_
            refine g_sti (loc2 := [.ref 0, .int p1, .int p2, .int p3, .int p4, .int 0, .int (-1), .retAddr 0]) aX12_rests_59 (Nat.le_of_ble_eq_true rfl) rfl ?_
            refine g_iconst (x := 0) aX12_rests_61 rfl ?_
            refine g_sti (loc2 := [.ref 0, .int p1, .int p2, .int p3, .int p4, .int 0, .int (-1), .int 0]) aX12_rests_62 (Nat.le_of_ble_eq_true rfl) rfl ?_
            exact tX12_rests_L64 hsh (fun x75 x76 x77 s78 hE => tX12_rests_X103 hsh hE) i_F _ _ _ _ hE
          · rw [if_neg hc17] at hE
            refine g_if_ne_f aX12_rests_43 hc17 ?_
            refine g_iconst (x := (-1)) aX12_rests_46 rfl ?_
            cases hE
            exact g_iret aX12_rests_47 rfl rfl
theorem aX12_laysCourse_0 : i_at mX12_laysCourse.2.2.2.2.2 0 = some (.iconst 0, 1, 0, 0, 0, 0) := by decide +kernel
theorem aX12_laysCourse_1 : i_at mX12_laysCourse.2.2.2.2.2 1 = some (.istore_n 1, 1, 0, 0, 0, 0) := by decide +kernel
theorem aX12_laysCourse_2 : i_at mX12_laysCourse.2.2.2.2.2 2 = some (.iload_n 1, 1, 0, 0, 0, 0) := by decide +kernel
theorem aX12_laysCourse_3 : i_at mX12_laysCourse.2.2.2.2.2 3 = some (.bipush 66, 2, 0, 0, 0, 0) := by decide +kernel
theorem aX12_laysCourse_5 : i_at mX12_laysCourse.2.2.2.2.2 5 = some (.if_icmp .ge 26, 3, 31, 0, 0, 0) := by decide +kernel
theorem aX12_laysCourse_8 : i_at mX12_laysCourse.2.2.2.2.2 8 = some (.aload_n 0, 1, 0, 0, 0, 0) := by decide +kernel
theorem aX12_laysCourse_9 : i_at mX12_laysCourse.2.2.2.2.2 9 = some (.invokevirtual 375, 3, 183, 0, 1481, 0) := by decide +kernel
theorem aX12_laysCourse_12 : i_at mX12_laysCourse.2.2.2.2.2 12 = some (.pop, 1, 0, 0, 0, 0) := by decide +kernel
theorem aX12_laysCourse_13 : i_at mX12_laysCourse.2.2.2.2.2 13 = some (.aload_n 0, 1, 0, 0, 0, 0) := by decide +kernel
theorem aX12_laysCourse_14 : i_at mX12_laysCourse.2.2.2.2.2 14 = some (.getfield 115, 3, 11, 47, 1134, 0) := by decide +kernel
theorem aX12_laysCourse_17 : i_at mX12_laysCourse.2.2.2.2.2 17 = some (.iload_n 1, 1, 0, 0, 0, 0) := by decide +kernel
theorem aX12_laysCourse_18 : i_at mX12_laysCourse.2.2.2.2.2 18 = some (.aload_n 0, 1, 0, 0, 0, 0) := by decide +kernel
theorem aX12_laysCourse_19 : i_at mX12_laysCourse.2.2.2.2.2 19 = some (.getfield 9, 3, 11, 1, 1088, 0) := by decide +kernel
theorem aX12_laysCourse_22 : i_at mX12_laysCourse.2.2.2.2.2 22 = some (.iconst 5, 1, 0, 0, 0, 0) := by decide +kernel
theorem aX12_laysCourse_23 : i_at mX12_laysCourse.2.2.2.2.2 23 = some (.iaload, 1, 0, 0, 0, 0) := by decide +kernel
theorem aX12_laysCourse_24 : i_at mX12_laysCourse.2.2.2.2.2 24 = some (.iastore, 1, 0, 0, 0, 0) := by decide +kernel
theorem aX12_laysCourse_25 : i_at mX12_laysCourse.2.2.2.2.2 25 = some (.iinc 1 1, 3, 0, 0, 0, 0) := by decide +kernel
theorem aX12_laysCourse_28 : i_at mX12_laysCourse.2.2.2.2.2 28 = some (.goto (-26), 3, 2, 0, 0, 0) := by decide +kernel
theorem aX12_laysCourse_31 : i_at mX12_laysCourse.2.2.2.2.2 31 = some (.aload_n 0, 1, 0, 0, 0, 0) := by decide +kernel
theorem aX12_laysCourse_32 : i_at mX12_laysCourse.2.2.2.2.2 32 = some (.invokevirtual 416, 3, 197, 0, 1561, 0) := by decide +kernel
theorem aX12_laysCourse_35 : i_at mX12_laysCourse.2.2.2.2.2 35 = some (.return_, 1, 0, 0, 0, 0) := by decide +kernel
noncomputable def fX12_laysCourse_L2 (sh : List kd) (k31 : Int32 → St → Option (Unit × St)) : Nat → Int32 → St → Option (Unit × St)
  | 0, _, _ => none
  | n55 + 1, x1, s2 => if 66 ≤ x1 then k31 x1 s2 else i_bd (fX12_goes sh s2) (fun r57 s58 => if i_ok 5 11 then if i_ok x1 66 then (fX12_laysCourse_L2 sh k31 n55 (x1 + 1) (s_A s58 34 x1.toNatClampNeg (s58.2.1 1 (5 : Int32).toNatClampNeg))) else none else none)
noncomputable def fX12_laysCourse_X31 (sh : List kd) (x53 : Int32) (s54 : St) : Option (Unit × St) := i_bd (fX12_laysBack sh s54) (fun r62 s63 => some ((), s63))
noncomputable def fX12_laysCourse (sh : List kd) (σ : St) : Option (Unit × St) := fX12_laysCourse_L2 sh (fun (x53 : Int32) (s54 : St) => fX12_laysCourse_X31 sh x53 s54) i_F 0 σ
set_option maxRecDepth 20000 in
set_option maxHeartbeats 2000000 in
theorem tX12_laysCourse_L2 {sh : List kd} {τ : St} {r : Unit} (hsh : rmSh sh) {k31 : Int32 → St → Option (Unit × St)} (hk31 : ∀ (x53 : Int32) (s54 : St), k31 x53 s54 = some (r, τ) → g_R sh 7 mX12_laysCourse none τ 31 [.ref 0, .int x53] [] (s54)) : ∀ (n0 : Nat) (x1 : Int32) (s2 : St), fX12_laysCourse_L2 sh k31 n0 x1 s2 = some (r, τ) → g_R sh 7 mX12_laysCourse none τ 2 [.ref 0, .int x1] [] (s2) := by
  intro n0
  induction n0 with
  | zero => intro _ _ hE; cases hE
  | succ n55 ih =>
    intro x1 s2 hE
    unfold fX12_laysCourse_L2 at hE
    refine g_ldin aX12_laysCourse_2 rfl ?_
    refine g_bipush (x := 66) aX12_laysCourse_3 rfl ?_
    by_cases hc56 : 66 ≤ x1
    · rw [if_pos hc56] at hE
      refine g_ic_ge_t aX12_laysCourse_5 hc56 ?_
      exact hk31 _ _ hE
    · rw [if_neg hc56] at hE
      refine g_ic_ge_f aX12_laysCourse_5 hc56 ?_
      refine g_ldan aX12_laysCourse_8 rfl ?_
      obtain ⟨r57, s58, h59, hE⟩ := i_bd_some hE
      refine g_calV (As := []) (rest := []) aX12_laysCourse_9 (i_X_mono (by omega) (tX12_goes hsh h59)) (sR_0 hsh) (by decide +kernel) rfl rfl (Nat.le_of_ble_eq_true rfl) rfl ?_
      refine g_popi aX12_laysCourse_12 ?_
      refine g_ldan aX12_laysCourse_13 rfl ?_
      refine g_getR aX12_laysCourse_14 (sR_0 hsh) rfl ?_
      refine g_ldin aX12_laysCourse_17 rfl ?_
      refine g_ldan aX12_laysCourse_18 rfl ?_
      refine g_getR aX12_laysCourse_19 (sR_0 hsh) rfl ?_
      refine g_iconst (x := 5) aX12_laysCourse_22 rfl ?_
      obtain ⟨h60, hE⟩ := i_ifn hE
      refine g_ild aX12_laysCourse_23 (sR_1 hsh) h60 ?_
      obtain ⟨h61, hE⟩ := i_ifn hE
      refine g_ist aX12_laysCourse_24 (sR_34 hsh) h61 ?_
      refine g_iinc (y := 1) (loc2 := [.ref 0, .int (x1 + 1)]) aX12_laysCourse_25 rfl rfl rfl ?_
      refine g_goto aX12_laysCourse_28 ?_
      exact ih _ _ hE
set_option maxRecDepth 20000 in
set_option maxHeartbeats 2000000 in
theorem tX12_laysCourse_X31 {sh : List kd} {τ : St} {r : Unit} (hsh : rmSh sh) {x53 : Int32} {s54 : St} (hE : fX12_laysCourse_X31 sh x53 s54 = some (r, τ)) : g_R sh 7 mX12_laysCourse none τ 31 [.ref 0, .int x53] [] (s54) := by
  unfold fX12_laysCourse_X31 at hE
  refine g_ldan aX12_laysCourse_31 rfl ?_
  obtain ⟨r62, s63, h64, hE⟩ := i_bd_some hE
  refine g_calV (As := []) (rest := []) aX12_laysCourse_32 (i_X_mono (by omega) (tX12_laysBack hsh h64)) (sR_0 hsh) (by decide +kernel) rfl rfl (Nat.le_of_ble_eq_true rfl) rfl ?_
  cases hE
  exact g_vret aX12_laysCourse_35 rfl
set_option maxRecDepth 20000 in
set_option maxHeartbeats 2000000 in
theorem tX12_laysCourse {sh : List kd} {σ τ : St} {r : Unit} (hsh : rmSh sh) (hE : fX12_laysCourse sh σ = some (r, τ)) : i_X 8 213 [.ref 0] (s_h sh σ) 0 0 none (s_h sh τ) := by
  refine g_X (M := mX12_laysCourse) (loc := [.ref 0, .retAddr 0]) rfl (Nat.le_of_ble_eq_true rfl) rfl ?_
  unfold fX12_laysCourse at hE
  refine g_iconst (x := 0) aX12_laysCourse_0 rfl ?_
  refine g_stin (loc2 := [.ref 0, .int 0]) aX12_laysCourse_1 (Nat.le_of_ble_eq_true rfl) rfl ?_
  exact tX12_laysCourse_L2 hsh (fun x53 s54 hE => tX12_laysCourse_X31 hsh hE) i_F _ _ hE
theorem aX12_couldRule_0 : i_at mX12_couldRule.2.2.2.2.2 0 = some (.aload_n 0, 1, 0, 0, 0, 0) := by decide +kernel
theorem aX12_couldRule_1 : i_at mX12_couldRule.2.2.2.2.2 1 = some (.getfield 9, 3, 11, 1, 1088, 0) := by decide +kernel
theorem aX12_couldRule_4 : i_at mX12_couldRule.2.2.2.2.2 4 = some (.bipush 10, 2, 0, 0, 0, 0) := by decide +kernel
theorem aX12_couldRule_6 : i_at mX12_couldRule.2.2.2.2.2 6 = some (.iload_n 1, 1, 0, 0, 0, 0) := by decide +kernel
theorem aX12_couldRule_7 : i_at mX12_couldRule.2.2.2.2.2 7 = some (.iastore, 1, 0, 0, 0, 0) := by decide +kernel
theorem aX12_couldRule_8 : i_at mX12_couldRule.2.2.2.2.2 8 = some (.aload_n 0, 1, 0, 0, 0, 0) := by decide +kernel
theorem aX12_couldRule_9 : i_at mX12_couldRule.2.2.2.2.2 9 = some (.invokevirtual 302, 3, 165, 0, 1338, 0) := by decide +kernel
theorem aX12_couldRule_12 : i_at mX12_couldRule.2.2.2.2.2 12 = some (.aload_n 0, 1, 0, 0, 0, 0) := by decide +kernel
theorem aX12_couldRule_13 : i_at mX12_couldRule.2.2.2.2.2 13 = some (.invokevirtual 443, 3, 213, 0, 1629, 0) := by decide +kernel
theorem aX12_couldRule_16 : i_at mX12_couldRule.2.2.2.2.2 16 = some (.iconst 0, 1, 0, 0, 0, 0) := by decide +kernel
theorem aX12_couldRule_17 : i_at mX12_couldRule.2.2.2.2.2 17 = some (.istore_n 2, 1, 0, 0, 0, 0) := by decide +kernel
theorem aX12_couldRule_18 : i_at mX12_couldRule.2.2.2.2.2 18 = some (.iload_n 2, 1, 0, 0, 0, 0) := by decide +kernel
theorem aX12_couldRule_19 : i_at mX12_couldRule.2.2.2.2.2 19 = some (.aload_n 0, 1, 0, 0, 0, 0) := by decide +kernel
theorem aX12_couldRule_20 : i_at mX12_couldRule.2.2.2.2.2 20 = some (.getfield 9, 3, 11, 1, 1088, 0) := by decide +kernel
theorem aX12_couldRule_23 : i_at mX12_couldRule.2.2.2.2.2 23 = some (.bipush 8, 2, 0, 0, 0, 0) := by decide +kernel
theorem aX12_couldRule_25 : i_at mX12_couldRule.2.2.2.2.2 25 = some (.iaload, 1, 0, 0, 0, 0) := by decide +kernel
theorem aX12_couldRule_26 : i_at mX12_couldRule.2.2.2.2.2 26 = some (.if_icmp .ge 31, 3, 57, 0, 0, 0) := by decide +kernel
theorem aX12_couldRule_29 : i_at mX12_couldRule.2.2.2.2.2 29 = some (.aload_n 0, 1, 0, 0, 0, 0) := by decide +kernel
theorem aX12_couldRule_30 : i_at mX12_couldRule.2.2.2.2.2 30 = some (.getfield 115, 3, 11, 47, 1134, 0) := by decide +kernel
theorem aX12_couldRule_33 : i_at mX12_couldRule.2.2.2.2.2 33 = some (.aload_n 0, 1, 0, 0, 0, 0) := by decide +kernel
theorem aX12_couldRule_34 : i_at mX12_couldRule.2.2.2.2.2 34 = some (.getfield 37, 3, 11, 10, 1097, 0) := by decide +kernel
theorem aX12_couldRule_37 : i_at mX12_couldRule.2.2.2.2.2 37 = some (.iload_n 2, 1, 0, 0, 0, 0) := by decide +kernel
theorem aX12_couldRule_38 : i_at mX12_couldRule.2.2.2.2.2 38 = some (.iaload, 1, 0, 0, 0, 0) := by decide +kernel
theorem aX12_couldRule_39 : i_at mX12_couldRule.2.2.2.2.2 39 = some (.iaload, 1, 0, 0, 0, 0) := by decide +kernel
theorem aX12_couldRule_40 : i_at mX12_couldRule.2.2.2.2.2 40 = some (.aload_n 0, 1, 0, 0, 0, 0) := by decide +kernel
theorem aX12_couldRule_41 : i_at mX12_couldRule.2.2.2.2.2 41 = some (.getfield 40, 3, 11, 11, 1098, 0) := by decide +kernel
theorem aX12_couldRule_44 : i_at mX12_couldRule.2.2.2.2.2 44 = some (.iload_n 2, 1, 0, 0, 0, 0) := by decide +kernel
theorem aX12_couldRule_45 : i_at mX12_couldRule.2.2.2.2.2 45 = some (.iaload, 1, 0, 0, 0, 0) := by decide +kernel
theorem aX12_couldRule_46 : i_at mX12_couldRule.2.2.2.2.2 46 = some (.if_icmp .eq 5, 3, 51, 0, 0, 0) := by decide +kernel
theorem aX12_couldRule_49 : i_at mX12_couldRule.2.2.2.2.2 49 = some (.iconst 0, 1, 0, 0, 0, 0) := by decide +kernel
theorem aX12_couldRule_50 : i_at mX12_couldRule.2.2.2.2.2 50 = some (.ireturn, 1, 0, 0, 0, 0) := by decide +kernel
theorem aX12_couldRule_51 : i_at mX12_couldRule.2.2.2.2.2 51 = some (.iinc 2 1, 3, 0, 0, 0, 0) := by decide +kernel
theorem aX12_couldRule_54 : i_at mX12_couldRule.2.2.2.2.2 54 = some (.goto (-36), 3, 18, 0, 0, 0) := by decide +kernel
theorem aX12_couldRule_57 : i_at mX12_couldRule.2.2.2.2.2 57 = some (.iconst 1, 1, 0, 0, 0, 0) := by decide +kernel
theorem aX12_couldRule_58 : i_at mX12_couldRule.2.2.2.2.2 58 = some (.ireturn, 1, 0, 0, 0, 0) := by decide +kernel
noncomputable def fX12_couldRule_L18 (sh : List kd) (p1 : Int32) (s6 : St) : Nat → Int32 → Option (Int32 × St)
  | 0, _ => none
  | n9 + 1, x8 => if i_ok 8 11 then if (s6.2.1 1 (8 : Int32).toNatClampNeg) ≤ x8 then some (1, s6) else if i_ok x8 10 then if i_ok (s6.2.1 10 x8.toNatClampNeg) 66 then if i_ok x8 10 then if (s6.2.1 34 (s6.2.1 10 x8.toNatClampNeg).toNatClampNeg) = (s6.2.1 11 x8.toNatClampNeg) then (fX12_couldRule_L18 sh p1 s6 n9 (x8 + 1)) else some (0, s6) else none else none else none else none
noncomputable def fX12_couldRule (sh : List kd) (σ : St) (p1 : Int32) : Option (Int32 × St) := if i_ok 10 11 then i_bd (fX12_begins sh (s_A σ 1 (10 : Int32).toNatClampNeg p1)) (fun r2 s3 => i_bd (fX12_laysCourse sh s3) (fun r5 s6 => fX12_couldRule_L18 sh p1 s6 i_F 0)) else none
set_option maxRecDepth 20000 in
set_option maxHeartbeats 2000000 in
theorem tX12_couldRule_L18 {sh : List kd} {τ : St} {r : Int32} (hsh : rmSh sh) {p1 : Int32} {s6 : St} : ∀ (n0 : Nat) (x8 : Int32), fX12_couldRule_L18 sh p1 s6 n0 x8 = some (r, τ) → g_R sh 8 mX12_couldRule (some (.int r)) τ 18 [.ref 0, .int p1, .int x8] [] (s6) := by
  intro n0
  induction n0 with
  | zero => intro _ hE; cases hE
  | succ n9 ih =>
    intro x8 hE
    unfold fX12_couldRule_L18 at hE
    refine g_ldin aX12_couldRule_18 rfl ?_
    refine g_ldan aX12_couldRule_19 rfl ?_
    refine g_getR aX12_couldRule_20 (sR_0 hsh) rfl ?_
    refine g_bipush (x := 8) aX12_couldRule_23 rfl ?_
    obtain ⟨h10, hE⟩ := i_ifn hE
    refine g_ild aX12_couldRule_25 (sR_1 hsh) h10 ?_
    by_cases hc11 : (s6.2.1 1 (8 : Int32).toNatClampNeg) ≤ x8
    · rw [if_pos hc11] at hE
      refine g_ic_ge_t aX12_couldRule_26 hc11 ?_
      refine g_iconst (x := 1) aX12_couldRule_57 rfl ?_
      cases hE
      exact g_iret aX12_couldRule_58 rfl rfl
    · rw [if_neg hc11] at hE
      refine g_ic_ge_f aX12_couldRule_26 hc11 ?_
      refine g_ldan aX12_couldRule_29 rfl ?_
      refine g_getR aX12_couldRule_30 (sR_0 hsh) rfl ?_
      refine g_ldan aX12_couldRule_33 rfl ?_
      refine g_getR aX12_couldRule_34 (sR_0 hsh) rfl ?_
      refine g_ldin aX12_couldRule_37 rfl ?_
      obtain ⟨h12, hE⟩ := i_ifn hE
      refine g_ild aX12_couldRule_38 (sR_10 hsh) h12 ?_
      obtain ⟨h13, hE⟩ := i_ifn hE
      refine g_ild aX12_couldRule_39 (sR_34 hsh) h13 ?_
      refine g_ldan aX12_couldRule_40 rfl ?_
      refine g_getR aX12_couldRule_41 (sR_0 hsh) rfl ?_
      refine g_ldin aX12_couldRule_44 rfl ?_
      obtain ⟨h14, hE⟩ := i_ifn hE
      refine g_ild aX12_couldRule_45 (sR_11 hsh) h14 ?_
      by_cases hc15 : (s6.2.1 34 (s6.2.1 10 x8.toNatClampNeg).toNatClampNeg) = (s6.2.1 11 x8.toNatClampNeg)
      · rw [if_pos hc15] at hE
        refine g_ic_eq_t aX12_couldRule_46 hc15 ?_
        refine g_iinc (y := 1) (loc2 := [.ref 0, .int p1, .int (x8 + 1)]) aX12_couldRule_51 rfl rfl rfl ?_
        refine g_goto aX12_couldRule_54 ?_
        exact ih _ hE
      · rw [if_neg hc15] at hE
        refine g_ic_eq_f aX12_couldRule_46 hc15 ?_
        refine g_iconst (x := 0) aX12_couldRule_49 rfl ?_
        cases hE
        exact g_iret aX12_couldRule_50 rfl rfl
set_option maxRecDepth 20000 in
set_option maxHeartbeats 2000000 in
theorem tX12_couldRule {sh : List kd} {σ τ : St} {r : Int32} (hsh : rmSh sh) {p1 : Int32} (hE : fX12_couldRule sh σ p1 = some (r, τ)) : i_X 9 217 [.ref 0, .int p1] (s_h sh σ) 0 0 (some (.int r)) (s_h sh τ) := by
  refine g_X (M := mX12_couldRule) (loc := [.ref 0, .int p1, .retAddr 0]) rfl (Nat.le_of_ble_eq_true rfl) rfl ?_
  unfold fX12_couldRule at hE
  refine g_ldan aX12_couldRule_0 rfl ?_
  refine g_getR aX12_couldRule_1 (sR_0 hsh) rfl ?_
  refine g_bipush (x := 10) aX12_couldRule_4 rfl ?_
  refine g_ldin aX12_couldRule_6 rfl ?_
  obtain ⟨h1, hE⟩ := i_ifn hE
  refine g_ist aX12_couldRule_7 (sR_1 hsh) h1 ?_
  refine g_ldan aX12_couldRule_8 rfl ?_
  obtain ⟨r2, s3, h4, hE⟩ := i_bd_some hE
  refine g_calV (As := []) (rest := []) aX12_couldRule_9 (i_X_mono (by omega) (tX12_begins hsh h4)) (sR_0 hsh) (by decide +kernel) rfl rfl (Nat.le_of_ble_eq_true rfl) rfl ?_
  refine g_ldan aX12_couldRule_12 rfl ?_
  obtain ⟨r5, s6, h7, hE⟩ := i_bd_some hE
  refine g_calV (As := []) (rest := []) aX12_couldRule_13 (i_X_mono (by omega) (tX12_laysCourse hsh h7)) (sR_0 hsh) (by decide +kernel) rfl rfl (Nat.le_of_ble_eq_true rfl) rfl ?_
  refine g_iconst (x := 0) aX12_couldRule_16 rfl ?_
  refine g_stin (loc2 := [.ref 0, .int p1, .int 0]) aX12_couldRule_17 (Nat.le_of_ble_eq_true rfl) rfl ?_
  exact tX12_couldRule_L18 hsh i_F _ hE
theorem aX12_ruled_0 : i_at mX12_ruled.2.2.2.2.2 0 = some (.aload_n 0, 1, 0, 0, 0, 0) := by decide +kernel
theorem aX12_ruled_1 : i_at mX12_ruled.2.2.2.2.2 1 = some (.invokevirtual 345, 3, 130, 0, 1438, 0) := by decide +kernel
theorem aX12_ruled_4 : i_at mX12_ruled.2.2.2.2.2 4 = some (.ifCond .eq 13, 3, 17, 0, 0, 0) := by decide +kernel
theorem aX12_ruled_7 : i_at mX12_ruled.2.2.2.2.2 7 = some (.iload_n 1, 1, 0, 0, 0, 0) := by decide +kernel
theorem aX12_ruled_8 : i_at mX12_ruled.2.2.2.2.2 8 = some (.i2l, 1, 0, 0, 0, 0) := by decide +kernel
theorem aX12_ruled_9 : i_at mX12_ruled.2.2.2.2.2 9 = some (.lconst 0, 1, 0, 0, 0, 0) := by decide +kernel
theorem aX12_ruled_10 : i_at mX12_ruled.2.2.2.2.2 10 = some (.lconst 1, 1, 0, 0, 0, 0) := by decide +kernel
theorem aX12_ruled_11 : i_at mX12_ruled.2.2.2.2.2 11 = some (.invokestatic 131, 3, 127, 3, 1324, 0) := by decide +kernel
theorem aX12_ruled_14 : i_at mX12_ruled.2.2.2.2.2 14 = some (.ifCond .ne 6, 3, 20, 0, 0, 0) := by decide +kernel
theorem aX12_ruled_17 : i_at mX12_ruled.2.2.2.2.2 17 = some (.bipush (-3), 2, 0, 0, 0, 0) := by decide +kernel
theorem aX12_ruled_19 : i_at mX12_ruled.2.2.2.2.2 19 = some (.ireturn, 1, 0, 0, 0, 0) := by decide +kernel
theorem aX12_ruled_20 : i_at mX12_ruled.2.2.2.2.2 20 = some (.aload_n 0, 1, 0, 0, 0, 0) := by decide +kernel
theorem aX12_ruled_21 : i_at mX12_ruled.2.2.2.2.2 21 = some (.invokevirtual 410, 3, 196, 0, 1545, 0) := by decide +kernel
theorem aX12_ruled_24 : i_at mX12_ruled.2.2.2.2.2 24 = some (.iconst 0, 1, 0, 0, 0, 0) := by decide +kernel
theorem aX12_ruled_25 : i_at mX12_ruled.2.2.2.2.2 25 = some (.istore_n 2, 1, 0, 0, 0, 0) := by decide +kernel
theorem aX12_ruled_26 : i_at mX12_ruled.2.2.2.2.2 26 = some (.bipush (-2), 2, 0, 0, 0, 0) := by decide +kernel
theorem aX12_ruled_28 : i_at mX12_ruled.2.2.2.2.2 28 = some (.istore_n 3, 1, 0, 0, 0, 0) := by decide +kernel
theorem aX12_ruled_29 : i_at mX12_ruled.2.2.2.2.2 29 = some (.iconst (-1), 1, 0, 0, 0, 0) := by decide +kernel
theorem aX12_ruled_30 : i_at mX12_ruled.2.2.2.2.2 30 = some (.istore 4, 2, 0, 0, 0, 0) := by decide +kernel
theorem aX12_ruled_32 : i_at mX12_ruled.2.2.2.2.2 32 = some (.iload 4, 2, 0, 0, 0, 0) := by decide +kernel
theorem aX12_ruled_34 : i_at mX12_ruled.2.2.2.2.2 34 = some (.aload_n 0, 1, 0, 0, 0, 0) := by decide +kernel
theorem aX12_ruled_35 : i_at mX12_ruled.2.2.2.2.2 35 = some (.getfield 318, 3, 11, 23, 1110, 0) := by decide +kernel
theorem aX12_ruled_38 : i_at mX12_ruled.2.2.2.2.2 38 = some (.if_icmp .ge 32, 3, 70, 0, 0, 0) := by decide +kernel
theorem aX12_ruled_41 : i_at mX12_ruled.2.2.2.2.2 41 = some (.aload_n 0, 1, 0, 0, 0, 0) := by decide +kernel
theorem aX12_ruled_42 : i_at mX12_ruled.2.2.2.2.2 42 = some (.iload 4, 2, 0, 0, 0, 0) := by decide +kernel
theorem aX12_ruled_44 : i_at mX12_ruled.2.2.2.2.2 44 = some (.invokevirtual 449, 3, 217, 1, 1645, 0) := by decide +kernel
theorem aX12_ruled_47 : i_at mX12_ruled.2.2.2.2.2 47 = some (.ifCond .eq 17, 3, 64, 0, 0, 0) := by decide +kernel
theorem aX12_ruled_50 : i_at mX12_ruled.2.2.2.2.2 50 = some (.iload_n 2, 1, 0, 0, 0, 0) := by decide +kernel
theorem aX12_ruled_51 : i_at mX12_ruled.2.2.2.2.2 51 = some (.ifCond .ne 8, 3, 59, 0, 0, 0) := by decide +kernel
theorem aX12_ruled_54 : i_at mX12_ruled.2.2.2.2.2 54 = some (.iload 4, 2, 0, 0, 0, 0) := by decide +kernel
theorem aX12_ruled_56 : i_at mX12_ruled.2.2.2.2.2 56 = some (.goto 4, 3, 60, 0, 0, 0) := by decide +kernel
theorem aX12_ruled_59 : i_at mX12_ruled.2.2.2.2.2 59 = some (.iload_n 3, 1, 0, 0, 0, 0) := by decide +kernel
theorem aX12_ruled_60 : i_at mX12_ruled.2.2.2.2.2 60 = some (.istore_n 3, 1, 0, 0, 0, 0) := by decide +kernel
theorem aX12_ruled_61 : i_at mX12_ruled.2.2.2.2.2 61 = some (.iinc 2 1, 3, 0, 0, 0, 0) := by decide +kernel
theorem aX12_ruled_64 : i_at mX12_ruled.2.2.2.2.2 64 = some (.iinc 4 1, 3, 0, 0, 0, 0) := by decide +kernel
theorem aX12_ruled_67 : i_at mX12_ruled.2.2.2.2.2 67 = some (.goto (-35), 3, 32, 0, 0, 0) := by decide +kernel
theorem aX12_ruled_70 : i_at mX12_ruled.2.2.2.2.2 70 = some (.iload_n 1, 1, 0, 0, 0, 0) := by decide +kernel
theorem aX12_ruled_71 : i_at mX12_ruled.2.2.2.2.2 71 = some (.ifCond .ne 7, 3, 78, 0, 0, 0) := by decide +kernel
theorem aX12_ruled_74 : i_at mX12_ruled.2.2.2.2.2 74 = some (.iload_n 2, 1, 0, 0, 0, 0) := by decide +kernel
theorem aX12_ruled_75 : i_at mX12_ruled.2.2.2.2.2 75 = some (.goto 4, 3, 79, 0, 0, 0) := by decide +kernel
theorem aX12_ruled_78 : i_at mX12_ruled.2.2.2.2.2 78 = some (.iload_n 3, 1, 0, 0, 0, 0) := by decide +kernel
theorem aX12_ruled_79 : i_at mX12_ruled.2.2.2.2.2 79 = some (.ireturn, 1, 0, 0, 0, 0) := by decide +kernel
noncomputable def fX12_ruled_J64 (sh : List kd) (p1 : Int32) (x14 : Int32) (s73 : St) (k32 : Int32 → Int32 → Int32 → St → Option (Int32 × St)) (x125 : Int32) (x126 : Int32) : Option (Int32 × St) := k32 x125 x126 (x14 + 1) s73
noncomputable def fX12_ruled_L32 (sh : List kd) (p1 : Int32) (k70 : Int32 → Int32 → Int32 → St → Option (Int32 × St)) : Nat → Int32 → Int32 → Int32 → St → Option (Int32 × St)
  | 0, _, _, _, _ => none
  | n70 + 1, x12, x13, x14, s15 => if (s15.1 0 23) ≤ x14 then k70 x12 x13 x14 s15 else i_bd (fX12_couldRule sh s15 x14) (fun r72 s73 => if r72 = 0 then fX12_ruled_J64 sh p1 x14 s73 (fX12_ruled_L32 sh p1 k70 n70) x12 x13 else fX12_ruled_J64 sh p1 x14 s73 (fX12_ruled_L32 sh p1 k70 n70) (x12 + 1) ((if ¬ x12 = 0 then x13 else x14) : Int32))
noncomputable def fX12_ruled_X70 (sh : List kd) (p1 : Int32) (x66 : Int32) (x67 : Int32) (x68 : Int32) (s69 : St) : Option (Int32 × St) := some (((if ¬ p1 = 0 then x67 else x66) : Int32), s69)
noncomputable def fX12_ruled (sh : List kd) (σ : St) (p1 : Int32) : Option (Int32 × St) := i_bd (fX12_isCourt sh σ) (fun r1 s2 => if r1 = 0 then some ((-3), s2) else i_bd (fX12_in sh s2 p1.toInt64 0 1) (fun r5 s6 => if ¬ r5 = 0 then i_bd (fX12_keepsAll sh s6) (fun r9 s10 => fX12_ruled_L32 sh p1 (fun (x66 : Int32) (x67 : Int32) (x68 : Int32) (s69 : St) => fX12_ruled_X70 sh p1 x66 x67 x68 s69) i_F 0 (-2) (-1) s10) else some ((-3), s6)))
set_option maxRecDepth 20000 in
set_option maxHeartbeats 2000000 in
theorem tX12_ruled_J64 {sh : List kd} {τ : St} {r : Int32} (hsh : rmSh sh) {p1 : Int32} {x14 : Int32} {s73 : St} {x125 : Int32} {x126 : Int32} {k32 : Int32 → Int32 → Int32 → St → Option (Int32 × St)} (hk32 : ∀ (x12 : Int32) (x13 : Int32) (x14 : Int32) (s15 : St), k32 x12 x13 x14 s15 = some (r, τ) → g_R sh 9 mX12_ruled (some (.int r)) τ 32 [.ref 0, .int p1, .int x12, .int x13, .int x14] [] (s15)) (hE : fX12_ruled_J64 sh p1 x14 s73 k32 x125 x126 = some (r, τ)) : g_R sh 9 mX12_ruled (some (.int r)) τ 64 [.ref 0, .int p1, .int x125, .int x126, .int x14] [] (s73) := by
  unfold fX12_ruled_J64 at hE
  refine g_iinc (y := 1) (loc2 := [.ref 0, .int p1, .int x125, .int x126, .int (x14 + 1)]) aX12_ruled_64 rfl rfl rfl ?_
  refine g_goto aX12_ruled_67 ?_
  exact hk32 _ _ _ _ hE
set_option maxRecDepth 20000 in
set_option maxHeartbeats 2000000 in
theorem tX12_ruled_L32 {sh : List kd} {τ : St} {r : Int32} (hsh : rmSh sh) {p1 : Int32} {k70 : Int32 → Int32 → Int32 → St → Option (Int32 × St)} (hk70 : ∀ (x66 : Int32) (x67 : Int32) (x68 : Int32) (s69 : St), k70 x66 x67 x68 s69 = some (r, τ) → g_R sh 9 mX12_ruled (some (.int r)) τ 70 [.ref 0, .int p1, .int x66, .int x67, .int x68] [] (s69)) : ∀ (n0 : Nat) (x12 : Int32) (x13 : Int32) (x14 : Int32) (s15 : St), fX12_ruled_L32 sh p1 k70 n0 x12 x13 x14 s15 = some (r, τ) → g_R sh 9 mX12_ruled (some (.int r)) τ 32 [.ref 0, .int p1, .int x12, .int x13, .int x14] [] (s15) := by
  intro n0
  induction n0 with
  | zero => intro _ _ _ _ hE; cases hE
  | succ n70 ih =>
    intro x12 x13 x14 s15 hE
    unfold fX12_ruled_L32 at hE
    refine g_ldi aX12_ruled_32 rfl ?_
    refine g_ldan aX12_ruled_34 rfl ?_
    refine g_getI aX12_ruled_35 (sR_0 hsh) rfl ?_
    by_cases hc71 : (s15.1 0 23) ≤ x14
    · rw [if_pos hc71] at hE
      refine g_ic_ge_t aX12_ruled_38 hc71 ?_
      exact hk70 _ _ _ _ hE
    · rw [if_neg hc71] at hE
      refine g_ic_ge_f aX12_ruled_38 hc71 ?_
      refine g_ldan aX12_ruled_41 rfl ?_
      refine g_ldi aX12_ruled_42 rfl ?_
      obtain ⟨r72, s73, h74, hE⟩ := i_bd_some hE
      refine g_calV (As := [.int x14]) (rest := []) aX12_ruled_44 (i_X_mono (by omega) (tX12_couldRule hsh h74)) (sR_0 hsh) (by decide +kernel) rfl rfl (Nat.le_of_ble_eq_true rfl) rfl ?_
      by_cases hc127 : r72 = 0
      · rw [if_pos hc127] at hE
        refine g_if_eq_t aX12_ruled_47 hc127 ?_
        exact tX12_ruled_J64 hsh ih hE
      · rw [if_neg hc127] at hE
        refine g_if_eq_f aX12_ruled_47 hc127 ?_
        refine g_ldin aX12_ruled_50 rfl ?_
        have hJ : g_R sh 9 mX12_ruled (some (.int r)) τ 60 [.ref 0, .int p1, .int x12, .int x13, .int x14] [.int ((if ¬ x12 = 0 then x13 else x14) : Int32)] (s73) := by
          refine g_stin (loc2 := [.ref 0, .int p1, .int x12, .int ((if ¬ x12 = 0 then x13 else x14) : Int32), .int x14]) aX12_ruled_60 (Nat.le_of_ble_eq_true rfl) rfl ?_
          refine g_iinc (y := 1) (loc2 := [.ref 0, .int p1, .int (x12 + 1), .int ((if ¬ x12 = 0 then x13 else x14) : Int32), .int x14]) aX12_ruled_61 rfl rfl rfl ?_
          exact tX12_ruled_J64 hsh ih hE
        clear hE
        by_cases hc127 : ¬ x12 = 0
        · (try rw [if_pos hc127] at hJ)
          refine g_if_ne_t aX12_ruled_51 hc127 ?_
          refine g_ldin aX12_ruled_59 rfl ?_
          exact hJ
        · (try rw [if_neg hc127] at hJ)
          refine g_if_ne_f aX12_ruled_51 hc127 ?_
          refine g_ldi aX12_ruled_54 rfl ?_
          refine g_goto aX12_ruled_56 ?_
          exact hJ
set_option maxRecDepth 20000 in
set_option maxHeartbeats 2000000 in
theorem tX12_ruled_X70 {sh : List kd} {τ : St} {r : Int32} (hsh : rmSh sh) {p1 : Int32} {x66 : Int32} {x67 : Int32} {x68 : Int32} {s69 : St} (hE : fX12_ruled_X70 sh p1 x66 x67 x68 s69 = some (r, τ)) : g_R sh 9 mX12_ruled (some (.int r)) τ 70 [.ref 0, .int p1, .int x66, .int x67, .int x68] [] (s69) := by
  unfold fX12_ruled_X70 at hE
  refine g_ldin aX12_ruled_70 rfl ?_
  have hJ : g_R sh 9 mX12_ruled (some (.int r)) τ 79 [.ref 0, .int p1, .int x66, .int x67, .int x68] [.int ((if ¬ p1 = 0 then x67 else x66) : Int32)] (s69) := by
    cases hE
    exact g_iret aX12_ruled_79 rfl rfl
  clear hE
  by_cases hc128 : ¬ p1 = 0
  · (try rw [if_pos hc128] at hJ)
    refine g_if_ne_t aX12_ruled_71 hc128 ?_
    refine g_ldin aX12_ruled_78 rfl ?_
    exact hJ
  · (try rw [if_neg hc128] at hJ)
    refine g_if_ne_f aX12_ruled_71 hc128 ?_
    refine g_ldin aX12_ruled_74 rfl ?_
    refine g_goto aX12_ruled_75 ?_
    exact hJ
set_option maxRecDepth 20000 in
set_option maxHeartbeats 2000000 in
theorem tX12_ruled {sh : List kd} {σ τ : St} {r : Int32} (hsh : rmSh sh) {p1 : Int32} (hE : fX12_ruled sh σ p1 = some (r, τ)) : i_X 10 218 [.ref 0, .int p1] (s_h sh σ) 0 0 (some (.int r)) (s_h sh τ) := by
  refine g_X (M := mX12_ruled) (loc := [.ref 0, .int p1, .retAddr 0, .retAddr 0, .retAddr 0]) rfl (Nat.le_of_ble_eq_true rfl) rfl ?_
  unfold fX12_ruled at hE
  refine g_ldan aX12_ruled_0 rfl ?_
  obtain ⟨r1, s2, h3, hE⟩ := i_bd_some hE
  refine g_calV (As := []) (rest := []) aX12_ruled_1 (i_X_mono (by omega) (tX12_isCourt hsh h3)) (sR_0 hsh) (by decide +kernel) rfl rfl (Nat.le_of_ble_eq_true rfl) rfl ?_
  by_cases hc4 : r1 = 0
  · rw [if_pos hc4] at hE
    refine g_if_eq_t aX12_ruled_4 hc4 ?_
    refine g_bipush (x := (-3)) aX12_ruled_17 rfl ?_
    cases hE
    exact g_iret aX12_ruled_19 rfl rfl
  · rw [if_neg hc4] at hE
    refine g_if_eq_f aX12_ruled_4 hc4 ?_
    refine g_ldin aX12_ruled_7 rfl ?_
    refine g_i2l aX12_ruled_8 ?_
    refine g_lconst (x := 0) aX12_ruled_9 rfl ?_
    refine g_lconst (x := 1) aX12_ruled_10 rfl ?_
    obtain ⟨r5, s6, h7, hE⟩ := i_bd_some hE
    refine g_calS (As := [.long p1.toInt64, .long 0, .long 1]) (rest := []) aX12_ruled_11 (i_X_mono (by omega) (tX12_in hsh h7)) rfl rfl (Nat.le_of_ble_eq_true rfl) rfl ?_
    by_cases hc8 : ¬ r5 = 0
    · rw [if_pos hc8] at hE
      refine g_if_ne_t aX12_ruled_14 hc8 ?_
      refine g_ldan aX12_ruled_20 rfl ?_
      obtain ⟨r9, s10, h11, hE⟩ := i_bd_some hE
      refine g_calV (As := []) (rest := []) aX12_ruled_21 (i_X_mono (by omega) (tX12_keepsAll hsh h11)) (sR_0 hsh) (by decide +kernel) rfl rfl (Nat.le_of_ble_eq_true rfl) rfl ?_
      refine g_iconst (x := 0) aX12_ruled_24 rfl ?_
      refine g_stin (loc2 := [.ref 0, .int p1, .int 0, .retAddr 0, .retAddr 0]) aX12_ruled_25 (Nat.le_of_ble_eq_true rfl) rfl ?_
      refine g_bipush (x := (-2)) aX12_ruled_26 rfl ?_
      refine g_stin (loc2 := [.ref 0, .int p1, .int 0, .int (-2), .retAddr 0]) aX12_ruled_28 (Nat.le_of_ble_eq_true rfl) rfl ?_
      refine g_iconst (x := (-1)) aX12_ruled_29 rfl ?_
      refine g_sti (loc2 := [.ref 0, .int p1, .int 0, .int (-2), .int (-1)]) aX12_ruled_30 (Nat.le_of_ble_eq_true rfl) rfl ?_
      exact tX12_ruled_L32 hsh (fun x66 x67 x68 s69 hE => tX12_ruled_X70 hsh hE) i_F _ _ _ _ hE
    · rw [if_neg hc8] at hE
      refine g_if_ne_f aX12_ruled_14 hc8 ?_
      refine g_bipush (x := (-3)) aX12_ruled_17 rfl ?_
      cases hE
      exact g_iret aX12_ruled_19 rfl rfl
theorem aX12_look_0 : i_at mX12_look.2.2.2.2.2 0 = some (.aload_n 0, 1, 0, 0, 0, 0) := by decide +kernel
theorem aX12_look_1 : i_at mX12_look.2.2.2.2.2 1 = some (.invokevirtual 345, 3, 130, 0, 1438, 0) := by decide +kernel
theorem aX12_look_4 : i_at mX12_look.2.2.2.2.2 4 = some (.ifCond .eq 13, 3, 17, 0, 0, 0) := by decide +kernel
theorem aX12_look_7 : i_at mX12_look.2.2.2.2.2 7 = some (.iload_n 1, 1, 0, 0, 0, 0) := by decide +kernel
theorem aX12_look_8 : i_at mX12_look.2.2.2.2.2 8 = some (.i2l, 1, 0, 0, 0, 0) := by decide +kernel
theorem aX12_look_9 : i_at mX12_look.2.2.2.2.2 9 = some (.lconst 0, 1, 0, 0, 0, 0) := by decide +kernel
theorem aX12_look_10 : i_at mX12_look.2.2.2.2.2 10 = some (.lconst 1, 1, 0, 0, 0, 0) := by decide +kernel
theorem aX12_look_11 : i_at mX12_look.2.2.2.2.2 11 = some (.invokestatic 131, 3, 127, 3, 1324, 0) := by decide +kernel
theorem aX12_look_14 : i_at mX12_look.2.2.2.2.2 14 = some (.ifCond .ne 5, 3, 19, 0, 0, 0) := by decide +kernel
theorem aX12_look_17 : i_at mX12_look.2.2.2.2.2 17 = some (.iconst (-1), 1, 0, 0, 0, 0) := by decide +kernel
theorem aX12_look_18 : i_at mX12_look.2.2.2.2.2 18 = some (.ireturn, 1, 0, 0, 0, 0) := by decide +kernel
theorem aX12_look_19 : i_at mX12_look.2.2.2.2.2 19 = some (.aload_n 0, 1, 0, 0, 0, 0) := by decide +kernel
theorem aX12_look_20 : i_at mX12_look.2.2.2.2.2 20 = some (.invokevirtual 410, 3, 196, 0, 1545, 0) := by decide +kernel
theorem aX12_look_23 : i_at mX12_look.2.2.2.2.2 23 = some (.iconst 0, 1, 0, 0, 0, 0) := by decide +kernel
theorem aX12_look_24 : i_at mX12_look.2.2.2.2.2 24 = some (.istore_n 2, 1, 0, 0, 0, 0) := by decide +kernel
theorem aX12_look_25 : i_at mX12_look.2.2.2.2.2 25 = some (.iconst (-1), 1, 0, 0, 0, 0) := by decide +kernel
theorem aX12_look_26 : i_at mX12_look.2.2.2.2.2 26 = some (.istore_n 3, 1, 0, 0, 0, 0) := by decide +kernel
theorem aX12_look_27 : i_at mX12_look.2.2.2.2.2 27 = some (.iload_n 3, 1, 0, 0, 0, 0) := by decide +kernel
theorem aX12_look_28 : i_at mX12_look.2.2.2.2.2 28 = some (.aload_n 0, 1, 0, 0, 0, 0) := by decide +kernel
theorem aX12_look_29 : i_at mX12_look.2.2.2.2.2 29 = some (.getfield 318, 3, 11, 23, 1110, 0) := by decide +kernel
theorem aX12_look_32 : i_at mX12_look.2.2.2.2.2 32 = some (.if_icmp .ge 55, 3, 87, 0, 0, 0) := by decide +kernel
theorem aX12_look_35 : i_at mX12_look.2.2.2.2.2 35 = some (.aload_n 0, 1, 0, 0, 0, 0) := by decide +kernel
theorem aX12_look_36 : i_at mX12_look.2.2.2.2.2 36 = some (.iload_n 3, 1, 0, 0, 0, 0) := by decide +kernel
theorem aX12_look_37 : i_at mX12_look.2.2.2.2.2 37 = some (.invokevirtual 449, 3, 217, 1, 1645, 0) := by decide +kernel
theorem aX12_look_40 : i_at mX12_look.2.2.2.2.2 40 = some (.ifCond .eq 41, 3, 81, 0, 0, 0) := by decide +kernel
theorem aX12_look_43 : i_at mX12_look.2.2.2.2.2 43 = some (.iconst 0, 1, 0, 0, 0, 0) := by decide +kernel
theorem aX12_look_44 : i_at mX12_look.2.2.2.2.2 44 = some (.istore 4, 2, 0, 0, 0, 0) := by decide +kernel
theorem aX12_look_46 : i_at mX12_look.2.2.2.2.2 46 = some (.iload 4, 2, 0, 0, 0, 0) := by decide +kernel
theorem aX12_look_48 : i_at mX12_look.2.2.2.2.2 48 = some (.bipush 60, 2, 0, 0, 0, 0) := by decide +kernel
theorem aX12_look_50 : i_at mX12_look.2.2.2.2.2 50 = some (.if_icmp .gt 28, 3, 78, 0, 0, 0) := by decide +kernel
theorem aX12_look_53 : i_at mX12_look.2.2.2.2.2 53 = some (.aload_n 0, 1, 0, 0, 0, 0) := by decide +kernel
theorem aX12_look_54 : i_at mX12_look.2.2.2.2.2 54 = some (.getfield 118, 3, 11, 48, 1135, 0) := by decide +kernel
theorem aX12_look_57 : i_at mX12_look.2.2.2.2.2 57 = some (.bipush 61, 2, 0, 0, 0, 0) := by decide +kernel
theorem aX12_look_59 : i_at mX12_look.2.2.2.2.2 59 = some (.iload_n 2, 1, 0, 0, 0, 0) := by decide +kernel
theorem aX12_look_60 : i_at mX12_look.2.2.2.2.2 60 = some (.imul, 1, 0, 0, 0, 0) := by decide +kernel
theorem aX12_look_61 : i_at mX12_look.2.2.2.2.2 61 = some (.iload 4, 2, 0, 0, 0, 0) := by decide +kernel
theorem aX12_look_63 : i_at mX12_look.2.2.2.2.2 63 = some (.iadd, 1, 0, 0, 0, 0) := by decide +kernel
theorem aX12_look_64 : i_at mX12_look.2.2.2.2.2 64 = some (.aload_n 0, 1, 0, 0, 0, 0) := by decide +kernel
theorem aX12_look_65 : i_at mX12_look.2.2.2.2.2 65 = some (.getfield 115, 3, 11, 47, 1134, 0) := by decide +kernel
theorem aX12_look_68 : i_at mX12_look.2.2.2.2.2 68 = some (.iload 4, 2, 0, 0, 0, 0) := by decide +kernel
theorem aX12_look_70 : i_at mX12_look.2.2.2.2.2 70 = some (.iaload, 1, 0, 0, 0, 0) := by decide +kernel
theorem aX12_look_71 : i_at mX12_look.2.2.2.2.2 71 = some (.iastore, 1, 0, 0, 0, 0) := by decide +kernel
theorem aX12_look_72 : i_at mX12_look.2.2.2.2.2 72 = some (.iinc 4 1, 3, 0, 0, 0, 0) := by decide +kernel
theorem aX12_look_75 : i_at mX12_look.2.2.2.2.2 75 = some (.goto (-29), 3, 46, 0, 0, 0) := by decide +kernel
theorem aX12_look_78 : i_at mX12_look.2.2.2.2.2 78 = some (.iinc 2 1, 3, 0, 0, 0, 0) := by decide +kernel
theorem aX12_look_81 : i_at mX12_look.2.2.2.2.2 81 = some (.iinc 3 1, 3, 0, 0, 0, 0) := by decide +kernel
theorem aX12_look_84 : i_at mX12_look.2.2.2.2.2 84 = some (.goto (-57), 3, 27, 0, 0, 0) := by decide +kernel
theorem aX12_look_87 : i_at mX12_look.2.2.2.2.2 87 = some (.iload_n 2, 1, 0, 0, 0, 0) := by decide +kernel
theorem aX12_look_88 : i_at mX12_look.2.2.2.2.2 88 = some (.ifCond .ne 6, 3, 94, 0, 0, 0) := by decide +kernel
theorem aX12_look_91 : i_at mX12_look.2.2.2.2.2 91 = some (.bipush (-2), 2, 0, 0, 0, 0) := by decide +kernel
theorem aX12_look_93 : i_at mX12_look.2.2.2.2.2 93 = some (.ireturn, 1, 0, 0, 0, 0) := by decide +kernel
theorem aX12_look_94 : i_at mX12_look.2.2.2.2.2 94 = some (.iconst 0, 1, 0, 0, 0, 0) := by decide +kernel
theorem aX12_look_95 : i_at mX12_look.2.2.2.2.2 95 = some (.istore_n 3, 1, 0, 0, 0, 0) := by decide +kernel
theorem aX12_look_96 : i_at mX12_look.2.2.2.2.2 96 = some (.iconst 1, 1, 0, 0, 0, 0) := by decide +kernel
theorem aX12_look_97 : i_at mX12_look.2.2.2.2.2 97 = some (.istore 4, 2, 0, 0, 0, 0) := by decide +kernel
theorem aX12_look_99 : i_at mX12_look.2.2.2.2.2 99 = some (.iload 4, 2, 0, 0, 0, 0) := by decide +kernel
theorem aX12_look_101 : i_at mX12_look.2.2.2.2.2 101 = some (.bipush 60, 2, 0, 0, 0, 0) := by decide +kernel
theorem aX12_look_103 : i_at mX12_look.2.2.2.2.2 103 = some (.if_icmp .gt 32, 3, 135, 0, 0, 0) := by decide +kernel
theorem aX12_look_106 : i_at mX12_look.2.2.2.2.2 106 = some (.aload_n 0, 1, 0, 0, 0, 0) := by decide +kernel
theorem aX12_look_107 : i_at mX12_look.2.2.2.2.2 107 = some (.iload 4, 2, 0, 0, 0, 0) := by decide +kernel
theorem aX12_look_109 : i_at mX12_look.2.2.2.2.2 109 = some (.iload_n 2, 1, 0, 0, 0, 0) := by decide +kernel
theorem aX12_look_110 : i_at mX12_look.2.2.2.2.2 110 = some (.invokevirtual 452, 3, 219, 2, 1653, 0) := by decide +kernel
theorem aX12_look_113 : i_at mX12_look.2.2.2.2.2 113 = some (.aload_n 0, 1, 0, 0, 0, 0) := by decide +kernel
theorem aX12_look_114 : i_at mX12_look.2.2.2.2.2 114 = some (.iload_n 3, 1, 0, 0, 0, 0) := by decide +kernel
theorem aX12_look_115 : i_at mX12_look.2.2.2.2.2 115 = some (.iload_n 2, 1, 0, 0, 0, 0) := by decide +kernel
theorem aX12_look_116 : i_at mX12_look.2.2.2.2.2 116 = some (.invokevirtual 452, 3, 219, 2, 1653, 0) := by decide +kernel
theorem aX12_look_119 : i_at mX12_look.2.2.2.2.2 119 = some (.if_icmp .ge 8, 3, 127, 0, 0, 0) := by decide +kernel
theorem aX12_look_122 : i_at mX12_look.2.2.2.2.2 122 = some (.iload 4, 2, 0, 0, 0, 0) := by decide +kernel
theorem aX12_look_124 : i_at mX12_look.2.2.2.2.2 124 = some (.goto 4, 3, 128, 0, 0, 0) := by decide +kernel
theorem aX12_look_127 : i_at mX12_look.2.2.2.2.2 127 = some (.iload_n 3, 1, 0, 0, 0, 0) := by decide +kernel
theorem aX12_look_128 : i_at mX12_look.2.2.2.2.2 128 = some (.istore_n 3, 1, 0, 0, 0, 0) := by decide +kernel
theorem aX12_look_129 : i_at mX12_look.2.2.2.2.2 129 = some (.iinc 4 1, 3, 0, 0, 0, 0) := by decide +kernel
theorem aX12_look_132 : i_at mX12_look.2.2.2.2.2 132 = some (.goto (-33), 3, 99, 0, 0, 0) := by decide +kernel
theorem aX12_look_135 : i_at mX12_look.2.2.2.2.2 135 = some (.iload_n 1, 1, 0, 0, 0, 0) := by decide +kernel
theorem aX12_look_136 : i_at mX12_look.2.2.2.2.2 136 = some (.ifCond .ne 7, 3, 143, 0, 0, 0) := by decide +kernel
theorem aX12_look_139 : i_at mX12_look.2.2.2.2.2 139 = some (.iload_n 3, 1, 0, 0, 0, 0) := by decide +kernel
theorem aX12_look_140 : i_at mX12_look.2.2.2.2.2 140 = some (.goto 9, 3, 149, 0, 0, 0) := by decide +kernel
theorem aX12_look_143 : i_at mX12_look.2.2.2.2.2 143 = some (.aload_n 0, 1, 0, 0, 0, 0) := by decide +kernel
theorem aX12_look_144 : i_at mX12_look.2.2.2.2.2 144 = some (.iload_n 3, 1, 0, 0, 0, 0) := by decide +kernel
theorem aX12_look_145 : i_at mX12_look.2.2.2.2.2 145 = some (.iload_n 2, 1, 0, 0, 0, 0) := by decide +kernel
theorem aX12_look_146 : i_at mX12_look.2.2.2.2.2 146 = some (.invokevirtual 452, 3, 219, 2, 1653, 0) := by decide +kernel
theorem aX12_look_149 : i_at mX12_look.2.2.2.2.2 149 = some (.ireturn, 1, 0, 0, 0, 0) := by decide +kernel
noncomputable def fX12_look_L46 (sh : List kd) (p1 : Int32) (x12 : Int32) (x13 : Int32) (k78 : Int32 → St → Option (Int32 × St)) : Nat → Int32 → St → Option (Int32 × St)
  | 0, _, _ => none
  | n180 + 1, x126, s127 => if 60 < x126 then k78 x126 s127 else if i_ok x126 66 then if i_ok ((61 * x12) + x126) 427 then (fX12_look_L46 sh p1 x12 x13 k78 n180 (x126 + 1) (s_A s127 35 ((61 * x12) + x126).toNatClampNeg (s127.2.1 34 x126.toNatClampNeg))) else none else none
noncomputable def fX12_look_X78 (sh : List kd) (p1 : Int32) (x12 : Int32) (x13 : Int32) (k27 : Int32 → Int32 → Value → St → Option (Int32 × St)) (x178 : Int32) (s179 : St) : Option (Int32 × St) := k27 (x12 + 1) (x13 + 1) (.int x178) s179
noncomputable def fX12_look_L27 (sh : List kd) (p1 : Int32) (k87 : Int32 → Int32 → Value → St → Option (Int32 × St)) : Nat → Int32 → Int32 → Value → St → Option (Int32 × St)
  | 0, _, _, _, _ => none
  | n70 + 1, x12, x13, x14, s15 => if (s15.1 0 23) ≤ x13 then k87 x12 x13 x14 s15 else i_bd (fX12_couldRule sh s15 x13) (fun r72 s73 => if r72 = 0 then (fX12_look_L27 sh p1 k87 n70 x12 (x13 + 1) x14 s73) else fX12_look_L46 sh p1 x12 x13 (fun (x178 : Int32) (s179 : St) => fX12_look_X78 sh p1 x12 x13 (fX12_look_L27 sh p1 k87 n70) x178 s179) i_F 0 s73)
noncomputable def fX12_look_L99 (sh : List kd) (p1 : Int32) (x66 : Int32) (k135 : Int32 → Int32 → St → Option (Int32 × St)) : Nat → Int32 → Int32 → St → Option (Int32 × St)
  | 0, _, _, _ => none
  | n241 + 1, x185, x186, s187 => if 60 < x186 then k135 x185 x186 s187 else i_bd (fX12_mostAlike sh s187 x186 x66) (fun r243 s244 => i_bd (fX12_mostAlike sh s244 x185 x66) (fun r246 s247 => (fX12_look_L99 sh p1 x66 k135 n241 ((if r246 ≤ r243 then x185 else x186) : Int32) (x186 + 1) s247)))
noncomputable def fX12_look_J149 (sh : List kd) (p1 : Int32) (x66 : Int32) (x238 : Int32) (x239 : Int32) (x300 : Int32) (s301 : St) : Option (Int32 × St) := some (x300, s301)
noncomputable def fX12_look_X135 (sh : List kd) (p1 : Int32) (x66 : Int32) (x238 : Int32) (x239 : Int32) (s240 : St) : Option (Int32 × St) := if ¬ p1 = 0 then i_bd (fX12_mostAlike sh s240 x238 x66) (fun r303 s304 => fX12_look_J149 sh p1 x66 x238 x239 r303 s304) else fX12_look_J149 sh p1 x66 x238 x239 x238 s240
noncomputable def fX12_look_X87 (sh : List kd) (p1 : Int32) (x66 : Int32) (x67 : Int32) (x68 : Value) (s69 : St) : Option (Int32 × St) := if ¬ x66 = 0 then fX12_look_L99 sh p1 x66 (fun (x238 : Int32) (x239 : Int32) (s240 : St) => fX12_look_X135 sh p1 x66 x238 x239 s240) i_F 0 1 s69 else some ((-2), s69)
noncomputable def fX12_look (sh : List kd) (σ : St) (p1 : Int32) : Option (Int32 × St) := i_bd (fX12_isCourt sh σ) (fun r1 s2 => if r1 = 0 then some ((-1), s2) else i_bd (fX12_in sh s2 p1.toInt64 0 1) (fun r5 s6 => if ¬ r5 = 0 then i_bd (fX12_keepsAll sh s6) (fun r9 s10 => fX12_look_L27 sh p1 (fun (x66 : Int32) (x67 : Int32) (x68 : Value) (s69 : St) => fX12_look_X87 sh p1 x66 x67 x68 s69) i_F 0 (-1) (.retAddr 0) s10) else some ((-1), s6)))
set_option maxRecDepth 20000 in
set_option maxHeartbeats 2000000 in
theorem tX12_look_L46 {sh : List kd} {τ : St} {r : Int32} (hsh : rmSh sh) {p1 : Int32} {x12 : Int32} {x13 : Int32} {k78 : Int32 → St → Option (Int32 × St)} (hk78 : ∀ (x178 : Int32) (s179 : St), k78 x178 s179 = some (r, τ) → g_R sh 9 mX12_look (some (.int r)) τ 78 [.ref 0, .int p1, .int x12, .int x13, .int x178] [] (s179)) : ∀ (n0 : Nat) (x126 : Int32) (s127 : St), fX12_look_L46 sh p1 x12 x13 k78 n0 x126 s127 = some (r, τ) → g_R sh 9 mX12_look (some (.int r)) τ 46 [.ref 0, .int p1, .int x12, .int x13, .int x126] [] (s127) := by
  intro n0
  induction n0 with
  | zero => intro _ _ hE; cases hE
  | succ n180 ih =>
    intro x126 s127 hE
    unfold fX12_look_L46 at hE
    refine g_ldi aX12_look_46 rfl ?_
    refine g_bipush (x := 60) aX12_look_48 rfl ?_
    by_cases hc181 : 60 < x126
    · rw [if_pos hc181] at hE
      refine g_ic_gt_t aX12_look_50 hc181 ?_
      exact hk78 _ _ hE
    · rw [if_neg hc181] at hE
      refine g_ic_gt_f aX12_look_50 hc181 ?_
      refine g_ldan aX12_look_53 rfl ?_
      refine g_getR aX12_look_54 (sR_0 hsh) rfl ?_
      refine g_bipush (x := 61) aX12_look_57 rfl ?_
      refine g_ldin aX12_look_59 rfl ?_
      refine g_imul aX12_look_60 ?_
      refine g_ldi aX12_look_61 rfl ?_
      refine g_iadd aX12_look_63 ?_
      refine g_ldan aX12_look_64 rfl ?_
      refine g_getR aX12_look_65 (sR_0 hsh) rfl ?_
      refine g_ldi aX12_look_68 rfl ?_
      obtain ⟨h182, hE⟩ := i_ifn hE
      refine g_ild aX12_look_70 (sR_34 hsh) h182 ?_
      obtain ⟨h183, hE⟩ := i_ifn hE
      refine g_ist aX12_look_71 (sR_35 hsh) h183 ?_
      refine g_iinc (y := 1) (loc2 := [.ref 0, .int p1, .int x12, .int x13, .int (x126 + 1)]) aX12_look_72 rfl rfl rfl ?_
      refine g_goto aX12_look_75 ?_
      exact ih _ _ hE
set_option maxRecDepth 20000 in
set_option maxHeartbeats 2000000 in
theorem tX12_look_X78 {sh : List kd} {τ : St} {r : Int32} (hsh : rmSh sh) {p1 : Int32} {x12 : Int32} {x13 : Int32} {x178 : Int32} {s179 : St} {k27 : Int32 → Int32 → Value → St → Option (Int32 × St)} (hk27 : ∀ (x12 : Int32) (x13 : Int32) (x14 : Value) (s15 : St), k27 x12 x13 x14 s15 = some (r, τ) → g_R sh 9 mX12_look (some (.int r)) τ 27 [.ref 0, .int p1, .int x12, .int x13, x14] [] (s15)) (hE : fX12_look_X78 sh p1 x12 x13 k27 x178 s179 = some (r, τ)) : g_R sh 9 mX12_look (some (.int r)) τ 78 [.ref 0, .int p1, .int x12, .int x13, .int x178] [] (s179) := by
  unfold fX12_look_X78 at hE
  refine g_iinc (y := 1) (loc2 := [.ref 0, .int p1, .int (x12 + 1), .int x13, .int x178]) aX12_look_78 rfl rfl rfl ?_
  refine g_iinc (y := 1) (loc2 := [.ref 0, .int p1, .int (x12 + 1), .int (x13 + 1), .int x178]) aX12_look_81 rfl rfl rfl ?_
  refine g_goto aX12_look_84 ?_
  exact hk27 _ _ _ _ hE
set_option maxRecDepth 20000 in
set_option maxHeartbeats 2000000 in
theorem tX12_look_L27 {sh : List kd} {τ : St} {r : Int32} (hsh : rmSh sh) {p1 : Int32} {k87 : Int32 → Int32 → Value → St → Option (Int32 × St)} (hk87 : ∀ (x66 : Int32) (x67 : Int32) (x68 : Value) (s69 : St), k87 x66 x67 x68 s69 = some (r, τ) → g_R sh 9 mX12_look (some (.int r)) τ 87 [.ref 0, .int p1, .int x66, .int x67, x68] [] (s69)) : ∀ (n0 : Nat) (x12 : Int32) (x13 : Int32) (x14 : Value) (s15 : St), fX12_look_L27 sh p1 k87 n0 x12 x13 x14 s15 = some (r, τ) → g_R sh 9 mX12_look (some (.int r)) τ 27 [.ref 0, .int p1, .int x12, .int x13, x14] [] (s15) := by
  intro n0
  induction n0 with
  | zero => intro _ _ _ _ hE; cases hE
  | succ n70 ih =>
    intro x12 x13 x14 s15 hE
    unfold fX12_look_L27 at hE
    refine g_ldin aX12_look_27 rfl ?_
    refine g_ldan aX12_look_28 rfl ?_
    refine g_getI aX12_look_29 (sR_0 hsh) rfl ?_
    by_cases hc71 : (s15.1 0 23) ≤ x13
    · rw [if_pos hc71] at hE
      refine g_ic_ge_t aX12_look_32 hc71 ?_
      exact hk87 _ _ _ _ hE
    · rw [if_neg hc71] at hE
      refine g_ic_ge_f aX12_look_32 hc71 ?_
      refine g_ldan aX12_look_35 rfl ?_
      refine g_ldin aX12_look_36 rfl ?_
      obtain ⟨r72, s73, h74, hE⟩ := i_bd_some hE
      refine g_calV (As := [.int x13]) (rest := []) aX12_look_37 (i_X_mono (by omega) (tX12_couldRule hsh h74)) (sR_0 hsh) (by decide +kernel) rfl rfl (Nat.le_of_ble_eq_true rfl) rfl ?_
      by_cases hc125 : r72 = 0
      · rw [if_pos hc125] at hE
        refine g_if_eq_t aX12_look_40 hc125 ?_
        refine g_iinc (y := 1) (loc2 := [.ref 0, .int p1, .int x12, .int (x13 + 1), x14]) aX12_look_81 rfl rfl rfl ?_
        refine g_goto aX12_look_84 ?_
        exact ih _ _ _ _ hE
      · rw [if_neg hc125] at hE
        refine g_if_eq_f aX12_look_40 hc125 ?_
        refine g_iconst (x := 0) aX12_look_43 rfl ?_
        refine g_sti (loc2 := [.ref 0, .int p1, .int x12, .int x13, .int 0]) aX12_look_44 (Nat.le_of_ble_eq_true rfl) rfl ?_
        exact tX12_look_L46 hsh (fun x178 s179 hE => tX12_look_X78 hsh ih hE) i_F _ _ hE
set_option maxRecDepth 20000 in
set_option maxHeartbeats 2000000 in
theorem tX12_look_L99 {sh : List kd} {τ : St} {r : Int32} (hsh : rmSh sh) {p1 : Int32} {x66 : Int32} {k135 : Int32 → Int32 → St → Option (Int32 × St)} (hk135 : ∀ (x238 : Int32) (x239 : Int32) (s240 : St), k135 x238 x239 s240 = some (r, τ) → g_R sh 9 mX12_look (some (.int r)) τ 135 [.ref 0, .int p1, .int x66, .int x238, .int x239] [] (s240)) : ∀ (n0 : Nat) (x185 : Int32) (x186 : Int32) (s187 : St), fX12_look_L99 sh p1 x66 k135 n0 x185 x186 s187 = some (r, τ) → g_R sh 9 mX12_look (some (.int r)) τ 99 [.ref 0, .int p1, .int x66, .int x185, .int x186] [] (s187) := by
  intro n0
  induction n0 with
  | zero => intro _ _ _ hE; cases hE
  | succ n241 ih =>
    intro x185 x186 s187 hE
    unfold fX12_look_L99 at hE
    refine g_ldi aX12_look_99 rfl ?_
    refine g_bipush (x := 60) aX12_look_101 rfl ?_
    by_cases hc242 : 60 < x186
    · rw [if_pos hc242] at hE
      refine g_ic_gt_t aX12_look_103 hc242 ?_
      exact hk135 _ _ _ hE
    · rw [if_neg hc242] at hE
      refine g_ic_gt_f aX12_look_103 hc242 ?_
      refine g_ldan aX12_look_106 rfl ?_
      refine g_ldi aX12_look_107 rfl ?_
      refine g_ldin aX12_look_109 rfl ?_
      obtain ⟨r243, s244, h245, hE⟩ := i_bd_some hE
      refine g_calV (As := [.int x186, .int x66]) (rest := []) aX12_look_110 (i_X_mono (by omega) (tX12_mostAlike hsh h245)) (sR_0 hsh) (by decide +kernel) rfl rfl (Nat.le_of_ble_eq_true rfl) rfl ?_
      refine g_ldan aX12_look_113 rfl ?_
      refine g_ldin aX12_look_114 rfl ?_
      refine g_ldin aX12_look_115 rfl ?_
      obtain ⟨r246, s247, h248, hE⟩ := i_bd_some hE
      refine g_calV (As := [.int x185, .int x66]) (rest := [.int r243]) aX12_look_116 (i_X_mono (by omega) (tX12_mostAlike hsh h248)) (sR_0 hsh) (by decide +kernel) rfl rfl (Nat.le_of_ble_eq_true rfl) rfl ?_
      have hJ : g_R sh 9 mX12_look (some (.int r)) τ 128 [.ref 0, .int p1, .int x66, .int x185, .int x186] [.int ((if r246 ≤ r243 then x185 else x186) : Int32)] (s247) := by
        refine g_stin (loc2 := [.ref 0, .int p1, .int x66, .int ((if r246 ≤ r243 then x185 else x186) : Int32), .int x186]) aX12_look_128 (Nat.le_of_ble_eq_true rfl) rfl ?_
        refine g_iinc (y := 1) (loc2 := [.ref 0, .int p1, .int x66, .int ((if r246 ≤ r243 then x185 else x186) : Int32), .int (x186 + 1)]) aX12_look_129 rfl rfl rfl ?_
        refine g_goto aX12_look_132 ?_
        exact ih _ _ _ hE
      clear hE
      by_cases hc248 : r246 ≤ r243
      · (try rw [if_pos hc248] at hJ)
        refine g_ic_ge_t aX12_look_119 hc248 ?_
        refine g_ldin aX12_look_127 rfl ?_
        exact hJ
      · (try rw [if_neg hc248] at hJ)
        refine g_ic_ge_f aX12_look_119 hc248 ?_
        refine g_ldi aX12_look_122 rfl ?_
        refine g_goto aX12_look_124 ?_
        exact hJ
set_option maxRecDepth 20000 in
set_option maxHeartbeats 2000000 in
theorem tX12_look_J149 {sh : List kd} {τ : St} {r : Int32} (hsh : rmSh sh) {p1 : Int32} {x66 : Int32} {x238 : Int32} {x239 : Int32} {x300 : Int32} {s301 : St} (hE : fX12_look_J149 sh p1 x66 x238 x239 x300 s301 = some (r, τ)) : g_R sh 9 mX12_look (some (.int r)) τ 149 [.ref 0, .int p1, .int x66, .int x238, .int x239] [.int x300] (s301) := by
  unfold fX12_look_J149 at hE
  cases hE
  exact g_iret aX12_look_149 rfl rfl
set_option maxRecDepth 20000 in
set_option maxHeartbeats 2000000 in
theorem tX12_look_X135 {sh : List kd} {τ : St} {r : Int32} (hsh : rmSh sh) {p1 : Int32} {x66 : Int32} {x238 : Int32} {x239 : Int32} {s240 : St} (hE : fX12_look_X135 sh p1 x66 x238 x239 s240 = some (r, τ)) : g_R sh 9 mX12_look (some (.int r)) τ 135 [.ref 0, .int p1, .int x66, .int x238, .int x239] [] (s240) := by
  unfold fX12_look_X135 at hE
  refine g_ldin aX12_look_135 rfl ?_
  by_cases hc302 : ¬ p1 = 0
  · rw [if_pos hc302] at hE
    refine g_if_ne_t aX12_look_136 hc302 ?_
    refine g_ldan aX12_look_143 rfl ?_
    refine g_ldin aX12_look_144 rfl ?_
    refine g_ldin aX12_look_145 rfl ?_
    obtain ⟨r303, s304, h305, hE⟩ := i_bd_some hE
    refine g_calV (As := [.int x238, .int x66]) (rest := []) aX12_look_146 (i_X_mono (by omega) (tX12_mostAlike hsh h305)) (sR_0 hsh) (by decide +kernel) rfl rfl (Nat.le_of_ble_eq_true rfl) rfl ?_
    exact tX12_look_J149 hsh hE
  · rw [if_neg hc302] at hE
    refine g_if_ne_f aX12_look_136 hc302 ?_
    refine g_ldin aX12_look_139 rfl ?_
    refine g_goto aX12_look_140 ?_
    exact tX12_look_J149 hsh hE
set_option maxRecDepth 20000 in
set_option maxHeartbeats 2000000 in
theorem tX12_look_X87 {sh : List kd} {τ : St} {r : Int32} (hsh : rmSh sh) {p1 : Int32} {x66 : Int32} {x67 : Int32} {x68 : Value} {s69 : St} (hE : fX12_look_X87 sh p1 x66 x67 x68 s69 = some (r, τ)) : g_R sh 9 mX12_look (some (.int r)) τ 87 [.ref 0, .int p1, .int x66, .int x67, x68] [] (s69) := by
  unfold fX12_look_X87 at hE
  refine g_ldin aX12_look_87 rfl ?_
  by_cases hc184 : ¬ x66 = 0
  · rw [if_pos hc184] at hE
    refine g_if_ne_t aX12_look_88 hc184 ?_
    refine g_iconst (x := 0) aX12_look_94 rfl ?_
    refine g_stin (loc2 := [.ref 0, .int p1, .int x66, .int 0, x68]) aX12_look_95 (Nat.le_of_ble_eq_true rfl) rfl ?_
    refine g_iconst (x := 1) aX12_look_96 rfl ?_
    refine g_sti (loc2 := [.ref 0, .int p1, .int x66, .int 0, .int 1]) aX12_look_97 (Nat.le_of_ble_eq_true rfl) rfl ?_
    exact tX12_look_L99 hsh (fun x238 x239 s240 hE => tX12_look_X135 hsh hE) i_F _ _ _ hE
  · rw [if_neg hc184] at hE
    refine g_if_ne_f aX12_look_88 hc184 ?_
    refine g_bipush (x := (-2)) aX12_look_91 rfl ?_
    cases hE
    exact g_iret aX12_look_93 rfl rfl
set_option maxRecDepth 20000 in
set_option maxHeartbeats 2000000 in
theorem tX12_look {sh : List kd} {σ τ : St} {r : Int32} (hsh : rmSh sh) {p1 : Int32} (hE : fX12_look sh σ p1 = some (r, τ)) : i_X 10 220 [.ref 0, .int p1] (s_h sh σ) 0 0 (some (.int r)) (s_h sh τ) := by
  refine g_X (M := mX12_look) (loc := [.ref 0, .int p1, .retAddr 0, .retAddr 0, .retAddr 0]) rfl (Nat.le_of_ble_eq_true rfl) rfl ?_
  unfold fX12_look at hE
  refine g_ldan aX12_look_0 rfl ?_
  obtain ⟨r1, s2, h3, hE⟩ := i_bd_some hE
  refine g_calV (As := []) (rest := []) aX12_look_1 (i_X_mono (by omega) (tX12_isCourt hsh h3)) (sR_0 hsh) (by decide +kernel) rfl rfl (Nat.le_of_ble_eq_true rfl) rfl ?_
  by_cases hc4 : r1 = 0
  · rw [if_pos hc4] at hE
    refine g_if_eq_t aX12_look_4 hc4 ?_
    refine g_iconst (x := (-1)) aX12_look_17 rfl ?_
    cases hE
    exact g_iret aX12_look_18 rfl rfl
  · rw [if_neg hc4] at hE
    refine g_if_eq_f aX12_look_4 hc4 ?_
    refine g_ldin aX12_look_7 rfl ?_
    refine g_i2l aX12_look_8 ?_
    refine g_lconst (x := 0) aX12_look_9 rfl ?_
    refine g_lconst (x := 1) aX12_look_10 rfl ?_
    obtain ⟨r5, s6, h7, hE⟩ := i_bd_some hE
    refine g_calS (As := [.long p1.toInt64, .long 0, .long 1]) (rest := []) aX12_look_11 (i_X_mono (by omega) (tX12_in hsh h7)) rfl rfl (Nat.le_of_ble_eq_true rfl) rfl ?_
    by_cases hc8 : ¬ r5 = 0
    · rw [if_pos hc8] at hE
      refine g_if_ne_t aX12_look_14 hc8 ?_
      refine g_ldan aX12_look_19 rfl ?_
      obtain ⟨r9, s10, h11, hE⟩ := i_bd_some hE
      refine g_calV (As := []) (rest := []) aX12_look_20 (i_X_mono (by omega) (tX12_keepsAll hsh h11)) (sR_0 hsh) (by decide +kernel) rfl rfl (Nat.le_of_ble_eq_true rfl) rfl ?_
      refine g_iconst (x := 0) aX12_look_23 rfl ?_
      refine g_stin (loc2 := [.ref 0, .int p1, .int 0, .retAddr 0, .retAddr 0]) aX12_look_24 (Nat.le_of_ble_eq_true rfl) rfl ?_
      refine g_iconst (x := (-1)) aX12_look_25 rfl ?_
      refine g_stin (loc2 := [.ref 0, .int p1, .int 0, .int (-1), .retAddr 0]) aX12_look_26 (Nat.le_of_ble_eq_true rfl) rfl ?_
      exact tX12_look_L27 hsh (fun x66 x67 x68 s69 hE => tX12_look_X87 hsh hE) i_F _ _ _ _ hE
    · rw [if_neg hc8] at hE
      refine g_if_ne_f aX12_look_14 hc8 ?_
      refine g_iconst (x := (-1)) aX12_look_17 rfl ?_
      cases hE
      exact g_iret aX12_look_18 rfl rfl
theorem aX12_years_0 : i_at mX12_years.2.2.2.2.2 0 = some (.aload_n 0, 1, 0, 0, 0, 0) := by decide +kernel
theorem aX12_years_1 : i_at mX12_years.2.2.2.2.2 1 = some (.invokevirtual 345, 3, 130, 0, 1438, 0) := by decide +kernel
theorem aX12_years_4 : i_at mX12_years.2.2.2.2.2 4 = some (.ifCond .eq 50, 3, 54, 0, 0, 0) := by decide +kernel
theorem aX12_years_7 : i_at mX12_years.2.2.2.2.2 7 = some (.iload_n 1, 1, 0, 0, 0, 0) := by decide +kernel
theorem aX12_years_8 : i_at mX12_years.2.2.2.2.2 8 = some (.i2l, 1, 0, 0, 0, 0) := by decide +kernel
theorem aX12_years_9 : i_at mX12_years.2.2.2.2.2 9 = some (.lconst 1, 1, 0, 0, 0, 0) := by decide +kernel
theorem aX12_years_10 : i_at mX12_years.2.2.2.2.2 10 = some (.ldc2_w 462, 3, 0, 0, 1665, 10) := by decide +kernel
theorem aX12_years_13 : i_at mX12_years.2.2.2.2.2 13 = some (.invokestatic 131, 3, 127, 3, 1324, 0) := by decide +kernel
theorem aX12_years_16 : i_at mX12_years.2.2.2.2.2 16 = some (.ifCond .eq 38, 3, 54, 0, 0, 0) := by decide +kernel
theorem aX12_years_19 : i_at mX12_years.2.2.2.2.2 19 = some (.iload_n 2, 1, 0, 0, 0, 0) := by decide +kernel
theorem aX12_years_20 : i_at mX12_years.2.2.2.2.2 20 = some (.i2l, 1, 0, 0, 0, 0) := by decide +kernel
theorem aX12_years_21 : i_at mX12_years.2.2.2.2.2 21 = some (.lconst 1, 1, 0, 0, 0, 0) := by decide +kernel
theorem aX12_years_22 : i_at mX12_years.2.2.2.2.2 22 = some (.ldc2_w 419, 3, 0, 0, 1573, 60) := by decide +kernel
theorem aX12_years_25 : i_at mX12_years.2.2.2.2.2 25 = some (.invokestatic 131, 3, 127, 3, 1324, 0) := by decide +kernel
theorem aX12_years_28 : i_at mX12_years.2.2.2.2.2 28 = some (.ifCond .eq 26, 3, 54, 0, 0, 0) := by decide +kernel
theorem aX12_years_31 : i_at mX12_years.2.2.2.2.2 31 = some (.iload_n 3, 1, 0, 0, 0, 0) := by decide +kernel
theorem aX12_years_32 : i_at mX12_years.2.2.2.2.2 32 = some (.i2l, 1, 0, 0, 0, 0) := by decide +kernel
theorem aX12_years_33 : i_at mX12_years.2.2.2.2.2 33 = some (.lconst 0, 1, 0, 0, 0, 0) := by decide +kernel
theorem aX12_years_34 : i_at mX12_years.2.2.2.2.2 34 = some (.ldc2_w 408, 3, 0, 0, 1544, 100) := by decide +kernel
theorem aX12_years_37 : i_at mX12_years.2.2.2.2.2 37 = some (.invokestatic 131, 3, 127, 3, 1324, 0) := by decide +kernel
theorem aX12_years_40 : i_at mX12_years.2.2.2.2.2 40 = some (.ifCond .eq 14, 3, 54, 0, 0, 0) := by decide +kernel
theorem aX12_years_43 : i_at mX12_years.2.2.2.2.2 43 = some (.iload 4, 2, 0, 0, 0, 0) := by decide +kernel
theorem aX12_years_45 : i_at mX12_years.2.2.2.2.2 45 = some (.i2l, 1, 0, 0, 0, 0) := by decide +kernel
theorem aX12_years_46 : i_at mX12_years.2.2.2.2.2 46 = some (.lconst 0, 1, 0, 0, 0, 0) := by decide +kernel
theorem aX12_years_47 : i_at mX12_years.2.2.2.2.2 47 = some (.lconst 1, 1, 0, 0, 0, 0) := by decide +kernel
theorem aX12_years_48 : i_at mX12_years.2.2.2.2.2 48 = some (.invokestatic 131, 3, 127, 3, 1324, 0) := by decide +kernel
theorem aX12_years_51 : i_at mX12_years.2.2.2.2.2 51 = some (.ifCond .ne 5, 3, 56, 0, 0, 0) := by decide +kernel
theorem aX12_years_54 : i_at mX12_years.2.2.2.2.2 54 = some (.iconst (-1), 1, 0, 0, 0, 0) := by decide +kernel
theorem aX12_years_55 : i_at mX12_years.2.2.2.2.2 55 = some (.ireturn, 1, 0, 0, 0, 0) := by decide +kernel
theorem aX12_years_56 : i_at mX12_years.2.2.2.2.2 56 = some (.aload_n 0, 1, 0, 0, 0, 0) := by decide +kernel
theorem aX12_years_57 : i_at mX12_years.2.2.2.2.2 57 = some (.getfield 9, 3, 11, 1, 1088, 0) := by decide +kernel
theorem aX12_years_60 : i_at mX12_years.2.2.2.2.2 60 = some (.bipush 9, 2, 0, 0, 0, 0) := by decide +kernel
theorem aX12_years_62 : i_at mX12_years.2.2.2.2.2 62 = some (.iaload, 1, 0, 0, 0, 0) := by decide +kernel
theorem aX12_years_63 : i_at mX12_years.2.2.2.2.2 63 = some (.istore 5, 2, 0, 0, 0, 0) := by decide +kernel
theorem aX12_years_65 : i_at mX12_years.2.2.2.2.2 65 = some (.iload 5, 2, 0, 0, 0, 0) := by decide +kernel
theorem aX12_years_67 : i_at mX12_years.2.2.2.2.2 67 = some (.istore 6, 2, 0, 0, 0, 0) := by decide +kernel
theorem aX12_years_69 : i_at mX12_years.2.2.2.2.2 69 = some (.iconst 0, 1, 0, 0, 0, 0) := by decide +kernel
theorem aX12_years_70 : i_at mX12_years.2.2.2.2.2 70 = some (.istore 7, 2, 0, 0, 0, 0) := by decide +kernel
theorem aX12_years_72 : i_at mX12_years.2.2.2.2.2 72 = some (.iconst 0, 1, 0, 0, 0, 0) := by decide +kernel
theorem aX12_years_73 : i_at mX12_years.2.2.2.2.2 73 = some (.istore 8, 2, 0, 0, 0, 0) := by decide +kernel
theorem aX12_years_75 : i_at mX12_years.2.2.2.2.2 75 = some (.aload_n 0, 1, 0, 0, 0, 0) := by decide +kernel
theorem aX12_years_76 : i_at mX12_years.2.2.2.2.2 76 = some (.invokevirtual 410, 3, 196, 0, 1545, 0) := by decide +kernel
theorem aX12_years_79 : i_at mX12_years.2.2.2.2.2 79 = some (.iconst 0, 1, 0, 0, 0, 0) := by decide +kernel
theorem aX12_years_80 : i_at mX12_years.2.2.2.2.2 80 = some (.istore 9, 2, 0, 0, 0, 0) := by decide +kernel
theorem aX12_years_82 : i_at mX12_years.2.2.2.2.2 82 = some (.iload 9, 2, 0, 0, 0, 0) := by decide +kernel
theorem aX12_years_84 : i_at mX12_years.2.2.2.2.2 84 = some (.iload_n 1, 1, 0, 0, 0, 0) := by decide +kernel
theorem aX12_years_85 : i_at mX12_years.2.2.2.2.2 85 = some (.if_icmp .ge 121, 3, 206, 0, 0, 0) := by decide +kernel
theorem aX12_years_88 : i_at mX12_years.2.2.2.2.2 88 = some (.aload_n 0, 1, 0, 0, 0, 0) := by decide +kernel
theorem aX12_years_89 : i_at mX12_years.2.2.2.2.2 89 = some (.getfield 9, 3, 11, 1, 1088, 0) := by decide +kernel
theorem aX12_years_92 : i_at mX12_years.2.2.2.2.2 92 = some (.bipush 9, 2, 0, 0, 0, 0) := by decide +kernel
theorem aX12_years_94 : i_at mX12_years.2.2.2.2.2 94 = some (.iload 6, 2, 0, 0, 0, 0) := by decide +kernel
theorem aX12_years_96 : i_at mX12_years.2.2.2.2.2 96 = some (.iastore, 1, 0, 0, 0, 0) := by decide +kernel
theorem aX12_years_97 : i_at mX12_years.2.2.2.2.2 97 = some (.iconst 0, 1, 0, 0, 0, 0) := by decide +kernel
theorem aX12_years_98 : i_at mX12_years.2.2.2.2.2 98 = some (.istore 10, 2, 0, 0, 0, 0) := by decide +kernel
theorem aX12_years_100 : i_at mX12_years.2.2.2.2.2 100 = some (.iload 10, 2, 0, 0, 0, 0) := by decide +kernel
theorem aX12_years_102 : i_at mX12_years.2.2.2.2.2 102 = some (.iload_n 2, 1, 0, 0, 0, 0) := by decide +kernel
theorem aX12_years_103 : i_at mX12_years.2.2.2.2.2 103 = some (.if_icmp .ge 75, 3, 178, 0, 0, 0) := by decide +kernel
theorem aX12_years_106 : i_at mX12_years.2.2.2.2.2 106 = some (.aload_n 0, 1, 0, 0, 0, 0) := by decide +kernel
theorem aX12_years_107 : i_at mX12_years.2.2.2.2.2 107 = some (.bipush 100, 2, 0, 0, 0, 0) := by decide +kernel
theorem aX12_years_109 : i_at mX12_years.2.2.2.2.2 109 = some (.invokevirtual 464, 3, 222, 1, 1666, 0) := by decide +kernel
theorem aX12_years_112 : i_at mX12_years.2.2.2.2.2 112 = some (.iload_n 3, 1, 0, 0, 0, 0) := by decide +kernel
theorem aX12_years_113 : i_at mX12_years.2.2.2.2.2 113 = some (.if_icmp .ge 29, 3, 142, 0, 0, 0) := by decide +kernel
theorem aX12_years_116 : i_at mX12_years.2.2.2.2.2 116 = some (.aload_n 0, 1, 0, 0, 0, 0) := by decide +kernel
theorem aX12_years_117 : i_at mX12_years.2.2.2.2.2 117 = some (.getfield 9, 3, 11, 1, 1088, 0) := by decide +kernel
theorem aX12_years_120 : i_at mX12_years.2.2.2.2.2 120 = some (.iconst 2, 1, 0, 0, 0, 0) := by decide +kernel
theorem aX12_years_121 : i_at mX12_years.2.2.2.2.2 121 = some (.iaload, 1, 0, 0, 0, 0) := by decide +kernel
theorem aX12_years_122 : i_at mX12_years.2.2.2.2.2 122 = some (.ifCond .le 20, 3, 142, 0, 0, 0) := by decide +kernel
theorem aX12_years_125 : i_at mX12_years.2.2.2.2.2 125 = some (.aload_n 0, 1, 0, 0, 0, 0) := by decide +kernel
theorem aX12_years_126 : i_at mX12_years.2.2.2.2.2 126 = some (.getfield 9, 3, 11, 1, 1088, 0) := by decide +kernel
theorem aX12_years_129 : i_at mX12_years.2.2.2.2.2 129 = some (.bipush 6, 2, 0, 0, 0, 0) := by decide +kernel
theorem aX12_years_131 : i_at mX12_years.2.2.2.2.2 131 = some (.aload_n 0, 1, 0, 0, 0, 0) := by decide +kernel
theorem aX12_years_132 : i_at mX12_years.2.2.2.2.2 132 = some (.aload_n 0, 1, 0, 0, 0, 0) := by decide +kernel
theorem aX12_years_133 : i_at mX12_years.2.2.2.2.2 133 = some (.getfield 9, 3, 11, 1, 1088, 0) := by decide +kernel
theorem aX12_years_136 : i_at mX12_years.2.2.2.2.2 136 = some (.iconst 2, 1, 0, 0, 0, 0) := by decide +kernel
theorem aX12_years_137 : i_at mX12_years.2.2.2.2.2 137 = some (.iaload, 1, 0, 0, 0, 0) := by decide +kernel
theorem aX12_years_138 : i_at mX12_years.2.2.2.2.2 138 = some (.invokevirtual 464, 3, 222, 1, 1666, 0) := by decide +kernel
theorem aX12_years_141 : i_at mX12_years.2.2.2.2.2 141 = some (.iastore, 1, 0, 0, 0, 0) := by decide +kernel
theorem aX12_years_142 : i_at mX12_years.2.2.2.2.2 142 = some (.aload_n 0, 1, 0, 0, 0, 0) := by decide +kernel
theorem aX12_years_143 : i_at mX12_years.2.2.2.2.2 143 = some (.invokevirtual 375, 3, 183, 0, 1481, 0) := by decide +kernel
theorem aX12_years_146 : i_at mX12_years.2.2.2.2.2 146 = some (.istore 11, 2, 0, 0, 0, 0) := by decide +kernel
theorem aX12_years_148 : i_at mX12_years.2.2.2.2.2 148 = some (.iload 7, 2, 0, 0, 0, 0) := by decide +kernel
theorem aX12_years_150 : i_at mX12_years.2.2.2.2.2 150 = some (.aload_n 0, 1, 0, 0, 0, 0) := by decide +kernel
theorem aX12_years_151 : i_at mX12_years.2.2.2.2.2 151 = some (.getfield 9, 3, 11, 1, 1088, 0) := by decide +kernel
theorem aX12_years_154 : i_at mX12_years.2.2.2.2.2 154 = some (.iconst 5, 1, 0, 0, 0, 0) := by decide +kernel
theorem aX12_years_155 : i_at mX12_years.2.2.2.2.2 155 = some (.iaload, 1, 0, 0, 0, 0) := by decide +kernel
theorem aX12_years_156 : i_at mX12_years.2.2.2.2.2 156 = some (.iconst (-1), 1, 0, 0, 0, 0) := by decide +kernel
theorem aX12_years_157 : i_at mX12_years.2.2.2.2.2 157 = some (.if_icmp .ne 7, 3, 164, 0, 0, 0) := by decide +kernel
theorem aX12_years_160 : i_at mX12_years.2.2.2.2.2 160 = some (.iconst 0, 1, 0, 0, 0, 0) := by decide +kernel
theorem aX12_years_161 : i_at mX12_years.2.2.2.2.2 161 = some (.goto 8, 3, 169, 0, 0, 0) := by decide +kernel
theorem aX12_years_164 : i_at mX12_years.2.2.2.2.2 164 = some (.iload 11, 2, 0, 0, 0, 0) := by decide +kernel
theorem aX12_years_166 : i_at mX12_years.2.2.2.2.2 166 = some (.invokestatic 359, 3, 128, 1, 1497, 0) := by decide +kernel
theorem aX12_years_169 : i_at mX12_years.2.2.2.2.2 169 = some (.iadd, 1, 0, 0, 0, 0) := by decide +kernel
theorem aX12_years_170 : i_at mX12_years.2.2.2.2.2 170 = some (.istore 7, 2, 0, 0, 0, 0) := by decide +kernel
theorem aX12_years_172 : i_at mX12_years.2.2.2.2.2 172 = some (.iinc 10 1, 3, 0, 0, 0, 0) := by decide +kernel
theorem aX12_years_175 : i_at mX12_years.2.2.2.2.2 175 = some (.goto (-75), 3, 100, 0, 0, 0) := by decide +kernel
theorem aX12_years_178 : i_at mX12_years.2.2.2.2.2 178 = some (.iload 8, 2, 0, 0, 0, 0) := by decide +kernel
theorem aX12_years_180 : i_at mX12_years.2.2.2.2.2 180 = some (.aload_n 0, 1, 0, 0, 0, 0) := by decide +kernel
theorem aX12_years_181 : i_at mX12_years.2.2.2.2.2 181 = some (.invokevirtual 467, 3, 223, 0, 1674, 0) := by decide +kernel
theorem aX12_years_184 : i_at mX12_years.2.2.2.2.2 184 = some (.iadd, 1, 0, 0, 0, 0) := by decide +kernel
theorem aX12_years_185 : i_at mX12_years.2.2.2.2.2 185 = some (.istore 8, 2, 0, 0, 0, 0) := by decide +kernel
theorem aX12_years_187 : i_at mX12_years.2.2.2.2.2 187 = some (.aload_n 0, 1, 0, 0, 0, 0) := by decide +kernel
theorem aX12_years_188 : i_at mX12_years.2.2.2.2.2 188 = some (.getfield 9, 3, 11, 1, 1088, 0) := by decide +kernel
theorem aX12_years_191 : i_at mX12_years.2.2.2.2.2 191 = some (.bipush 9, 2, 0, 0, 0, 0) := by decide +kernel
theorem aX12_years_193 : i_at mX12_years.2.2.2.2.2 193 = some (.iaload, 1, 0, 0, 0, 0) := by decide +kernel
theorem aX12_years_194 : i_at mX12_years.2.2.2.2.2 194 = some (.istore 6, 2, 0, 0, 0, 0) := by decide +kernel
theorem aX12_years_196 : i_at mX12_years.2.2.2.2.2 196 = some (.aload_n 0, 1, 0, 0, 0, 0) := by decide +kernel
theorem aX12_years_197 : i_at mX12_years.2.2.2.2.2 197 = some (.invokevirtual 416, 3, 197, 0, 1561, 0) := by decide +kernel
theorem aX12_years_200 : i_at mX12_years.2.2.2.2.2 200 = some (.iinc 9 1, 3, 0, 0, 0, 0) := by decide +kernel
theorem aX12_years_203 : i_at mX12_years.2.2.2.2.2 203 = some (.goto (-121), 3, 82, 0, 0, 0) := by decide +kernel
theorem aX12_years_206 : i_at mX12_years.2.2.2.2.2 206 = some (.aload_n 0, 1, 0, 0, 0, 0) := by decide +kernel
theorem aX12_years_207 : i_at mX12_years.2.2.2.2.2 207 = some (.getfield 9, 3, 11, 1, 1088, 0) := by decide +kernel
theorem aX12_years_210 : i_at mX12_years.2.2.2.2.2 210 = some (.bipush 9, 2, 0, 0, 0, 0) := by decide +kernel
theorem aX12_years_212 : i_at mX12_years.2.2.2.2.2 212 = some (.iload 5, 2, 0, 0, 0, 0) := by decide +kernel
theorem aX12_years_214 : i_at mX12_years.2.2.2.2.2 214 = some (.iastore, 1, 0, 0, 0, 0) := by decide +kernel
theorem aX12_years_215 : i_at mX12_years.2.2.2.2.2 215 = some (.iload 4, 2, 0, 0, 0, 0) := by decide +kernel
theorem aX12_years_217 : i_at mX12_years.2.2.2.2.2 217 = some (.ifCond .ne 8, 3, 225, 0, 0, 0) := by decide +kernel
theorem aX12_years_220 : i_at mX12_years.2.2.2.2.2 220 = some (.iload 7, 2, 0, 0, 0, 0) := by decide +kernel
theorem aX12_years_222 : i_at mX12_years.2.2.2.2.2 222 = some (.goto 5, 3, 227, 0, 0, 0) := by decide +kernel
theorem aX12_years_225 : i_at mX12_years.2.2.2.2.2 225 = some (.iload 8, 2, 0, 0, 0, 0) := by decide +kernel
theorem aX12_years_227 : i_at mX12_years.2.2.2.2.2 227 = some (.ireturn, 1, 0, 0, 0, 0) := by decide +kernel
noncomputable def fX12_years_J169 (sh : List kd) (p1 : Int32) (p2 : Int32) (p3 : Int32) (p4 : Int32) (s18 : St) (x25 : Int32) (x27 : Int32) (x28 : Int32) (x92 : Int32) (x93 : Int32) (r206 : Int32) (k100 : Int32 → Int32 → Value → St → Option (Int32 × St)) (x260 : Int32) (s261 : St) : Option (Int32 × St) := k100 (x92 + x260) (x93 + 1) (.int r206) s261
noncomputable def fX12_years_J142 (sh : List kd) (p1 : Int32) (p2 : Int32) (p3 : Int32) (p4 : Int32) (s18 : St) (x25 : Int32) (x27 : Int32) (x28 : Int32) (x92 : Int32) (x93 : Int32) (x94 : Value) (s205 : St) : Option (Int32 × St) := i_bd (fX12_goes sh s205) (fun r206 s207 => if i_ok 5 11 then if ¬ (s207.2.1 1 (5 : Int32).toNatClampNeg) = (-1) then i_bd (fX12_bits sh s207 r206) (fun r263 s264 => fX12_years_J169 sh p1 p2 p3 p4 s18 x25 x27 x28 x92 x93 r206 (fX12_years_L100 sh p1 p2 p3 p4 s18 x25 x27 x28 k178 n150) r263 s264) else fX12_years_J169 sh p1 p2 p3 p4 s18 x25 x27 x28 x92 x93 r206 (fX12_years_L100 sh p1 p2 p3 p4 s18 x25 x27 x28 k178 n150) 0 s207 else none)
noncomputable def fX12_years_L100 (sh : List kd) (p1 : Int32) (p2 : Int32) (p3 : Int32) (p4 : Int32) (s18 : St) (x25 : Int32) (x27 : Int32) (x28 : Int32) (k178 : Int32 → Int32 → Value → St → Option (Int32 × St)) : Nat → Int32 → Int32 → Value → St → Option (Int32 × St)
  | 0, _, _, _, _ => none
  | n150 + 1, x92, x93, x94, s95 => if p2 ≤ x93 then k178 x92 x93 x94 s95 else i_bd (fX12_draws sh s95 100) (fun r152 s153 => if p3 ≤ r152 then fX12_years_J142 sh p1 p2 p3 p4 s18 x25 x27 x28 x92 x93 x94 s153 else if i_ok 2 11 then if (s153.2.1 1 (2 : Int32).toNatClampNeg) ≤ 0 then fX12_years_J142 sh p1 p2 p3 p4 s18 x25 x27 x28 x92 x93 x94 s153 else if i_ok 2 11 then i_bd (fX12_draws sh s153 (s153.2.1 1 (2 : Int32).toNatClampNeg)) (fun r270 s271 => if i_ok 6 11 then fX12_years_J142 sh p1 p2 p3 p4 s18 x25 x27 x28 x92 x93 x94 (s_A s271 1 (6 : Int32).toNatClampNeg r270) else none) else none else none)
noncomputable def fX12_years_X178 (sh : List kd) (p1 : Int32) (p2 : Int32) (p3 : Int32) (p4 : Int32) (s18 : St) (x25 : Int32) (x27 : Int32) (x28 : Int32) (k82 : Int32 → Int32 → Int32 → Int32 → Value → Value → St → Option (Int32 × St)) (x146 : Int32) (x147 : Int32) (x148 : Value) (s149 : St) : Option (Int32 × St) := i_bd (fX12_allRank sh s149) (fun r274 s275 => if i_ok 9 11 then i_bd (fX12_laysBack sh s275) (fun r278 s279 => k82 (s275.2.1 1 (9 : Int32).toNatClampNeg) x146 (x27 + r274) (x28 + 1) (.int x147) x148 s279) else none)
noncomputable def fX12_years_L82 (sh : List kd) (p1 : Int32) (p2 : Int32) (p3 : Int32) (p4 : Int32) (s18 : St) (k206 : Int32 → Int32 → Int32 → Int32 → Value → Value → St → Option (Int32 × St)) : Nat → Int32 → Int32 → Int32 → Int32 → Value → Value → St → Option (Int32 × St)
  | 0, _, _, _, _, _, _, _ => none
  | n89 + 1, x25, x26, x27, x28, x29, x30, s31 => if p1 ≤ x28 then k206 x25 x26 x27 x28 x29 x30 s31 else if i_ok 9 11 then fX12_years_L100 sh p1 p2 p3 p4 s18 x25 x27 x28 (fun (x146 : Int32) (x147 : Int32) (x148 : Value) (s149 : St) => fX12_years_X178 sh p1 p2 p3 p4 s18 x25 x27 x28 (fX12_years_L82 sh p1 p2 p3 p4 s18 k206 n89) x146 x147 x148 s149) i_F x26 0 x30 (s_A s31 1 (9 : Int32).toNatClampNeg x25) else none
noncomputable def fX12_years_X206 (sh : List kd) (p1 : Int32) (p2 : Int32) (p3 : Int32) (p4 : Int32) (s18 : St) (x82 : Int32) (x83 : Int32) (x84 : Int32) (x85 : Int32) (x86 : Value) (x87 : Value) (s88 : St) : Option (Int32 × St) := if i_ok 9 11 then some (((if ¬ p4 = 0 then x84 else x83) : Int32), s_A s88 1 (9 : Int32).toNatClampNeg (s18.2.1 1 (9 : Int32).toNatClampNeg)) else none
noncomputable def fX12_years (sh : List kd) (σ : St) (p1 : Int32) (p2 : Int32) (p3 : Int32) (p4 : Int32) : Option (Int32 × St) := i_bd (fX12_isCourt sh σ) (fun r1 s2 => if r1 = 0 then some ((-1), s2) else i_bd (fX12_in sh s2 p1.toInt64 1 10) (fun r5 s6 => if r5 = 0 then some ((-1), s6) else i_bd (fX12_in sh s6 p2.toInt64 1 60) (fun r9 s10 => if r9 = 0 then some ((-1), s10) else i_bd (fX12_in sh s10 p3.toInt64 0 100) (fun r13 s14 => if r13 = 0 then some ((-1), s14) else i_bd (fX12_in sh s14 p4.toInt64 0 1) (fun r17 s18 => if ¬ r17 = 0 then if i_ok 9 11 then i_bd (fX12_keepsAll sh s18) (fun r22 s23 => fX12_years_L82 sh p1 p2 p3 p4 s18 (fun (x82 : Int32) (x83 : Int32) (x84 : Int32) (x85 : Int32) (x86 : Value) (x87 : Value) (s88 : St) => fX12_years_X206 sh p1 p2 p3 p4 s18 x82 x83 x84 x85 x86 x87 s88) i_F (s18.2.1 1 (9 : Int32).toNatClampNeg) 0 0 0 (.retAddr 0) (.retAddr 0) s23) else none else some ((-1), s18))))))
set_option maxRecDepth 20000 in
set_option maxHeartbeats 2000000 in
theorem tX12_years_J169 {sh : List kd} {τ : St} {r : Int32} (hsh : rmSh sh) {p1 : Int32} {p2 : Int32} {p3 : Int32} {p4 : Int32} {s18 : St} {x25 : Int32} {x27 : Int32} {x28 : Int32} {x92 : Int32} {x93 : Int32} {r206 : Int32} {x260 : Int32} {s261 : St} {k100 : Int32 → Int32 → Value → St → Option (Int32 × St)} (hk100 : ∀ (x92 : Int32) (x93 : Int32) (x94 : Value) (s95 : St), k100 x92 x93 x94 s95 = some (r, τ) → g_R sh 7 mX12_years (some (.int r)) τ 100 [.ref 0, .int p1, .int p2, .int p3, .int p4, .int (s18.2.1 1 (9 : Int32).toNatClampNeg), .int x25, .int x92, .int x27, .int x28, .int x93, x94] [] (s95)) (hE : fX12_years_J169 sh p1 p2 p3 p4 s18 x25 x27 x28 x92 x93 r206 k100 x260 s261 = some (r, τ)) : g_R sh 7 mX12_years (some (.int r)) τ 169 [.ref 0, .int p1, .int p2, .int p3, .int p4, .int (s18.2.1 1 (9 : Int32).toNatClampNeg), .int x25, .int x92, .int x27, .int x28, .int x93, .int r206] [.int x260, .int x92] (s261) := by
  unfold fX12_years_J169 at hE
  refine g_iadd aX12_years_169 ?_
  refine g_sti (loc2 := [.ref 0, .int p1, .int p2, .int p3, .int p4, .int (s18.2.1 1 (9 : Int32).toNatClampNeg), .int x25, .int (x92 + x260), .int x27, .int x28, .int x93, .int r206]) aX12_years_170 (Nat.le_of_ble_eq_true rfl) rfl ?_
  refine g_iinc (y := 1) (loc2 := [.ref 0, .int p1, .int p2, .int p3, .int p4, .int (s18.2.1 1 (9 : Int32).toNatClampNeg), .int x25, .int (x92 + x260), .int x27, .int x28, .int (x93 + 1), .int r206]) aX12_years_172 rfl rfl rfl ?_
  refine g_goto aX12_years_175 ?_
  exact hk100 _ _ _ _ hE
set_option maxRecDepth 20000 in
set_option maxHeartbeats 2000000 in
theorem tX12_years_J142 {sh : List kd} {τ : St} {r : Int32} (hsh : rmSh sh) {p1 : Int32} {p2 : Int32} {p3 : Int32} {p4 : Int32} {s18 : St} {x25 : Int32} {x27 : Int32} {x28 : Int32} {x92 : Int32} {x93 : Int32} {x94 : Value} {s205 : St} (hE : fX12_years_J142 sh p1 p2 p3 p4 s18 x25 x27 x28 x92 x93 x94 s205 = some (r, τ)) : g_R sh 7 mX12_years (some (.int r)) τ 142 [.ref 0, .int p1, .int p2, .int p3, .int p4, .int (s18.2.1 1 (9 : Int32).toNatClampNeg), .int x25, .int x92, .int x27, .int x28, .int x93, x94] [] (s205) := by
  unfold fX12_years_J142 at hE
  refine g_ldan aX12_years_142 rfl ?_
  obtain ⟨r206, s207, h208, hE⟩ := i_bd_some hE
  refine g_calV (As := []) (rest := []) aX12_years_143 (i_X_mono (by omega) (tX12_goes hsh h208)) (sR_0 hsh) (by decide +kernel) rfl rfl (Nat.le_of_ble_eq_true rfl) rfl ?_
  refine g_sti (loc2 := [.ref 0, .int p1, .int p2, .int p3, .int p4, .int (s18.2.1 1 (9 : Int32).toNatClampNeg), .int x25, .int x92, .int x27, .int x28, .int x93, .int r206]) aX12_years_146 (Nat.le_of_ble_eq_true rfl) rfl ?_
  refine g_ldi aX12_years_148 rfl ?_
  refine g_ldan aX12_years_150 rfl ?_
  refine g_getR aX12_years_151 (sR_0 hsh) rfl ?_
  refine g_iconst (x := 5) aX12_years_154 rfl ?_
  obtain ⟨h209, hE⟩ := i_ifn hE
  refine g_ild aX12_years_155 (sR_1 hsh) h209 ?_
  refine g_iconst (x := (-1)) aX12_years_156 rfl ?_
  by_cases hc262 : ¬ (s207.2.1 1 (5 : Int32).toNatClampNeg) = (-1)
  · rw [if_pos hc262] at hE
    refine g_ic_ne_t aX12_years_157 hc262 ?_
    refine g_ldi aX12_years_164 rfl ?_
    obtain ⟨r263, s264, h265, hE⟩ := i_bd_some hE
    refine g_calS (As := [.int r206]) (rest := [.int x92]) aX12_years_166 (i_X_mono (by omega) (tX12_bits hsh h265)) rfl rfl (Nat.le_of_ble_eq_true rfl) rfl ?_
    exact tX12_years_J169 hsh ih hE
  · rw [if_neg hc262] at hE
    refine g_ic_ne_f aX12_years_157 hc262 ?_
    refine g_iconst (x := 0) aX12_years_160 rfl ?_
    refine g_goto aX12_years_161 ?_
    exact tX12_years_J169 hsh ih hE
set_option maxRecDepth 20000 in
set_option maxHeartbeats 2000000 in
theorem tX12_years_L100 {sh : List kd} {τ : St} {r : Int32} (hsh : rmSh sh) {p1 : Int32} {p2 : Int32} {p3 : Int32} {p4 : Int32} {s18 : St} {x25 : Int32} {x27 : Int32} {x28 : Int32} {k178 : Int32 → Int32 → Value → St → Option (Int32 × St)} (hk178 : ∀ (x146 : Int32) (x147 : Int32) (x148 : Value) (s149 : St), k178 x146 x147 x148 s149 = some (r, τ) → g_R sh 7 mX12_years (some (.int r)) τ 178 [.ref 0, .int p1, .int p2, .int p3, .int p4, .int (s18.2.1 1 (9 : Int32).toNatClampNeg), .int x25, .int x146, .int x27, .int x28, .int x147, x148] [] (s149)) : ∀ (n0 : Nat) (x92 : Int32) (x93 : Int32) (x94 : Value) (s95 : St), fX12_years_L100 sh p1 p2 p3 p4 s18 x25 x27 x28 k178 n0 x92 x93 x94 s95 = some (r, τ) → g_R sh 7 mX12_years (some (.int r)) τ 100 [.ref 0, .int p1, .int p2, .int p3, .int p4, .int (s18.2.1 1 (9 : Int32).toNatClampNeg), .int x25, .int x92, .int x27, .int x28, .int x93, x94] [] (s95) := by
  intro n0
  induction n0 with
  | zero => intro _ _ _ _ hE; cases hE
  | succ n150 ih =>
    intro x92 x93 x94 s95 hE
    unfold fX12_years_L100 at hE
    refine g_ldi aX12_years_100 rfl ?_
    refine g_ldin aX12_years_102 rfl ?_
    by_cases hc151 : p2 ≤ x93
    · rw [if_pos hc151] at hE
      refine g_ic_ge_t aX12_years_103 hc151 ?_
      exact hk178 _ _ _ _ hE
    · rw [if_neg hc151] at hE
      refine g_ic_ge_f aX12_years_103 hc151 ?_
      refine g_ldan aX12_years_106 rfl ?_
      refine g_bipush (x := 100) aX12_years_107 rfl ?_
      obtain ⟨r152, s153, h154, hE⟩ := i_bd_some hE
      refine g_calV (As := [.int 100]) (rest := []) aX12_years_109 (i_X_mono (by omega) (tX12_draws hsh h154)) (sR_0 hsh) (by decide +kernel) rfl rfl (Nat.le_of_ble_eq_true rfl) rfl ?_
      refine g_ldin aX12_years_112 rfl ?_
      by_cases hc266 : p3 ≤ r152
      · rw [if_pos hc266] at hE
        refine g_ic_ge_t aX12_years_113 hc266 ?_
        exact tX12_years_J142 hsh hE
      · rw [if_neg hc266] at hE
        refine g_ic_ge_f aX12_years_113 hc266 ?_
        refine g_ldan aX12_years_116 rfl ?_
        refine g_getR aX12_years_117 (sR_0 hsh) rfl ?_
        refine g_iconst (x := 2) aX12_years_120 rfl ?_
        obtain ⟨h267, hE⟩ := i_ifn hE
        refine g_ild aX12_years_121 (sR_1 hsh) h267 ?_
        by_cases hc268 : (s153.2.1 1 (2 : Int32).toNatClampNeg) ≤ 0
        · rw [if_pos hc268] at hE
          refine g_if_le_t aX12_years_122 hc268 ?_
          exact tX12_years_J142 hsh hE
        · rw [if_neg hc268] at hE
          refine g_if_le_f aX12_years_122 hc268 ?_
          refine g_ldan aX12_years_125 rfl ?_
          refine g_getR aX12_years_126 (sR_0 hsh) rfl ?_
          refine g_bipush (x := 6) aX12_years_129 rfl ?_
          refine g_ldan aX12_years_131 rfl ?_
          refine g_ldan aX12_years_132 rfl ?_
          refine g_getR aX12_years_133 (sR_0 hsh) rfl ?_
          refine g_iconst (x := 2) aX12_years_136 rfl ?_
          obtain ⟨h269, hE⟩ := i_ifn hE
          refine g_ild aX12_years_137 (sR_1 hsh) h269 ?_
          obtain ⟨r270, s271, h272, hE⟩ := i_bd_some hE
          refine g_calV (As := [.int (s153.2.1 1 (2 : Int32).toNatClampNeg)]) (rest := [.int 6, .ref 1]) aX12_years_138 (i_X_mono (by omega) (tX12_draws hsh h272)) (sR_0 hsh) (by decide +kernel) rfl rfl (Nat.le_of_ble_eq_true rfl) rfl ?_
          obtain ⟨h273, hE⟩ := i_ifn hE
          refine g_ist aX12_years_141 (sR_1 hsh) h273 ?_
          exact tX12_years_J142 hsh hE
set_option maxRecDepth 20000 in
set_option maxHeartbeats 2000000 in
theorem tX12_years_X178 {sh : List kd} {τ : St} {r : Int32} (hsh : rmSh sh) {p1 : Int32} {p2 : Int32} {p3 : Int32} {p4 : Int32} {s18 : St} {x25 : Int32} {x27 : Int32} {x28 : Int32} {x146 : Int32} {x147 : Int32} {x148 : Value} {s149 : St} {k82 : Int32 → Int32 → Int32 → Int32 → Value → Value → St → Option (Int32 × St)} (hk82 : ∀ (x25 : Int32) (x26 : Int32) (x27 : Int32) (x28 : Int32) (x29 : Value) (x30 : Value) (s31 : St), k82 x25 x26 x27 x28 x29 x30 s31 = some (r, τ) → g_R sh 7 mX12_years (some (.int r)) τ 82 [.ref 0, .int p1, .int p2, .int p3, .int p4, .int (s18.2.1 1 (9 : Int32).toNatClampNeg), .int x25, .int x26, .int x27, .int x28, x29, x30] [] (s31)) (hE : fX12_years_X178 sh p1 p2 p3 p4 s18 x25 x27 x28 k82 x146 x147 x148 s149 = some (r, τ)) : g_R sh 7 mX12_years (some (.int r)) τ 178 [.ref 0, .int p1, .int p2, .int p3, .int p4, .int (s18.2.1 1 (9 : Int32).toNatClampNeg), .int x25, .int x146, .int x27, .int x28, .int x147, x148] [] (s149) := by
  unfold fX12_years_X178 at hE
  refine g_ldi aX12_years_178 rfl ?_
  refine g_ldan aX12_years_180 rfl ?_
  obtain ⟨r274, s275, h276, hE⟩ := i_bd_some hE
  refine g_calV (As := []) (rest := [.int x27]) aX12_years_181 (i_X_mono (by omega) (tX12_allRank hsh h276)) (sR_0 hsh) (by decide +kernel) rfl rfl (Nat.le_of_ble_eq_true rfl) rfl ?_
  refine g_iadd aX12_years_184 ?_
  refine g_sti (loc2 := [.ref 0, .int p1, .int p2, .int p3, .int p4, .int (s18.2.1 1 (9 : Int32).toNatClampNeg), .int x25, .int x146, .int (x27 + r274), .int x28, .int x147, x148]) aX12_years_185 (Nat.le_of_ble_eq_true rfl) rfl ?_
  refine g_ldan aX12_years_187 rfl ?_
  refine g_getR aX12_years_188 (sR_0 hsh) rfl ?_
  refine g_bipush (x := 9) aX12_years_191 rfl ?_
  obtain ⟨h277, hE⟩ := i_ifn hE
  refine g_ild aX12_years_193 (sR_1 hsh) h277 ?_
  refine g_sti (loc2 := [.ref 0, .int p1, .int p2, .int p3, .int p4, .int (s18.2.1 1 (9 : Int32).toNatClampNeg), .int (s275.2.1 1 (9 : Int32).toNatClampNeg), .int x146, .int (x27 + r274), .int x28, .int x147, x148]) aX12_years_194 (Nat.le_of_ble_eq_true rfl) rfl ?_
  refine g_ldan aX12_years_196 rfl ?_
  obtain ⟨r278, s279, h280, hE⟩ := i_bd_some hE
  refine g_calV (As := []) (rest := []) aX12_years_197 (i_X_mono (by omega) (tX12_laysBack hsh h280)) (sR_0 hsh) (by decide +kernel) rfl rfl (Nat.le_of_ble_eq_true rfl) rfl ?_
  refine g_iinc (y := 1) (loc2 := [.ref 0, .int p1, .int p2, .int p3, .int p4, .int (s18.2.1 1 (9 : Int32).toNatClampNeg), .int (s275.2.1 1 (9 : Int32).toNatClampNeg), .int x146, .int (x27 + r274), .int (x28 + 1), .int x147, x148]) aX12_years_200 rfl rfl rfl ?_
  refine g_goto aX12_years_203 ?_
  exact hk82 _ _ _ _ _ _ _ hE
set_option maxRecDepth 20000 in
set_option maxHeartbeats 2000000 in
theorem tX12_years_L82 {sh : List kd} {τ : St} {r : Int32} (hsh : rmSh sh) {p1 : Int32} {p2 : Int32} {p3 : Int32} {p4 : Int32} {s18 : St} {k206 : Int32 → Int32 → Int32 → Int32 → Value → Value → St → Option (Int32 × St)} (hk206 : ∀ (x82 : Int32) (x83 : Int32) (x84 : Int32) (x85 : Int32) (x86 : Value) (x87 : Value) (s88 : St), k206 x82 x83 x84 x85 x86 x87 s88 = some (r, τ) → g_R sh 7 mX12_years (some (.int r)) τ 206 [.ref 0, .int p1, .int p2, .int p3, .int p4, .int (s18.2.1 1 (9 : Int32).toNatClampNeg), .int x82, .int x83, .int x84, .int x85, x86, x87] [] (s88)) : ∀ (n0 : Nat) (x25 : Int32) (x26 : Int32) (x27 : Int32) (x28 : Int32) (x29 : Value) (x30 : Value) (s31 : St), fX12_years_L82 sh p1 p2 p3 p4 s18 k206 n0 x25 x26 x27 x28 x29 x30 s31 = some (r, τ) → g_R sh 7 mX12_years (some (.int r)) τ 82 [.ref 0, .int p1, .int p2, .int p3, .int p4, .int (s18.2.1 1 (9 : Int32).toNatClampNeg), .int x25, .int x26, .int x27, .int x28, x29, x30] [] (s31) := by
  intro n0
  induction n0 with
  | zero => intro _ _ _ _ _ _ _ hE; cases hE
  | succ n89 ih =>
    intro x25 x26 x27 x28 x29 x30 s31 hE
    unfold fX12_years_L82 at hE
    refine g_ldi aX12_years_82 rfl ?_
    refine g_ldin aX12_years_84 rfl ?_
    by_cases hc90 : p1 ≤ x28
    · rw [if_pos hc90] at hE
      refine g_ic_ge_t aX12_years_85 hc90 ?_
      exact hk206 _ _ _ _ _ _ _ hE
    · rw [if_neg hc90] at hE
      refine g_ic_ge_f aX12_years_85 hc90 ?_
      refine g_ldan aX12_years_88 rfl ?_
      refine g_getR aX12_years_89 (sR_0 hsh) rfl ?_
      refine g_bipush (x := 9) aX12_years_92 rfl ?_
      refine g_ldi aX12_years_94 rfl ?_
      obtain ⟨h91, hE⟩ := i_ifn hE
      refine g_ist aX12_years_96 (sR_1 hsh) h91 ?_
      refine g_iconst (x := 0) aX12_years_97 rfl ?_
      refine g_sti (loc2 := [.ref 0, .int p1, .int p2, .int p3, .int p4, .int (s18.2.1 1 (9 : Int32).toNatClampNeg), .int x25, .int x26, .int x27, .int x28, .int 0, x30]) aX12_years_98 (Nat.le_of_ble_eq_true rfl) rfl ?_
      exact tX12_years_L100 hsh (fun x146 x147 x148 s149 hE => tX12_years_X178 hsh ih hE) i_F _ _ _ _ hE
set_option maxRecDepth 20000 in
set_option maxHeartbeats 2000000 in
theorem tX12_years_X206 {sh : List kd} {τ : St} {r : Int32} (hsh : rmSh sh) {p1 : Int32} {p2 : Int32} {p3 : Int32} {p4 : Int32} {s18 : St} {x82 : Int32} {x83 : Int32} {x84 : Int32} {x85 : Int32} {x86 : Value} {x87 : Value} {s88 : St} (hE : fX12_years_X206 sh p1 p2 p3 p4 s18 x82 x83 x84 x85 x86 x87 s88 = some (r, τ)) : g_R sh 7 mX12_years (some (.int r)) τ 206 [.ref 0, .int p1, .int p2, .int p3, .int p4, .int (s18.2.1 1 (9 : Int32).toNatClampNeg), .int x82, .int x83, .int x84, .int x85, x86, x87] [] (s88) := by
  unfold fX12_years_X206 at hE
  refine g_ldan aX12_years_206 rfl ?_
  refine g_getR aX12_years_207 (sR_0 hsh) rfl ?_
  refine g_bipush (x := 9) aX12_years_210 rfl ?_
  refine g_ldi aX12_years_212 rfl ?_
  obtain ⟨h281, hE⟩ := i_ifn hE
  refine g_ist aX12_years_214 (sR_1 hsh) h281 ?_
  refine g_ldi aX12_years_215 rfl ?_
  have hJ : g_R sh 7 mX12_years (some (.int r)) τ 227 [.ref 0, .int p1, .int p2, .int p3, .int p4, .int (s18.2.1 1 (9 : Int32).toNatClampNeg), .int x82, .int x83, .int x84, .int x85, x86, x87] [.int ((if ¬ p4 = 0 then x84 else x83) : Int32)] (s_A s88 1 (9 : Int32).toNatClampNeg (s18.2.1 1 (9 : Int32).toNatClampNeg)) := by
    cases hE
    exact g_iret aX12_years_227 rfl rfl
  clear hE
  by_cases hc281 : ¬ p4 = 0
  · (try rw [if_pos hc281] at hJ)
    refine g_if_ne_t aX12_years_217 hc281 ?_
    refine g_ldi aX12_years_225 rfl ?_
    exact hJ
  · (try rw [if_neg hc281] at hJ)
    refine g_if_ne_f aX12_years_217 hc281 ?_
    refine g_ldi aX12_years_220 rfl ?_
    refine g_goto aX12_years_222 ?_
    exact hJ
set_option maxRecDepth 20000 in
set_option maxHeartbeats 2000000 in
theorem tX12_years {sh : List kd} {σ τ : St} {r : Int32} (hsh : rmSh sh) {p1 : Int32} {p2 : Int32} {p3 : Int32} {p4 : Int32} (hE : fX12_years sh σ p1 p2 p3 p4 = some (r, τ)) : i_X 8 224 [.ref 0, .int p1, .int p2, .int p3, .int p4] (s_h sh σ) 0 0 (some (.int r)) (s_h sh τ) := by
  refine g_X (M := mX12_years) (loc := [.ref 0, .int p1, .int p2, .int p3, .int p4, .retAddr 0, .retAddr 0, .retAddr 0, .retAddr 0, .retAddr 0, .retAddr 0, .retAddr 0]) rfl (Nat.le_of_ble_eq_true rfl) rfl ?_
  unfold fX12_years at hE
  refine g_ldan aX12_years_0 rfl ?_
  obtain ⟨r1, s2, h3, hE⟩ := i_bd_some hE
  refine g_calV (As := []) (rest := []) aX12_years_1 (i_X_mono (by omega) (tX12_isCourt hsh h3)) (sR_0 hsh) (by decide +kernel) rfl rfl (Nat.le_of_ble_eq_true rfl) rfl ?_
  by_cases hc4 : r1 = 0
  · rw [if_pos hc4] at hE
    refine g_if_eq_t aX12_years_4 hc4 ?_
    refine g_iconst (x := (-1)) aX12_years_54 rfl ?_
    cases hE
    exact g_iret aX12_years_55 rfl rfl
  · rw [if_neg hc4] at hE
    refine g_if_eq_f aX12_years_4 hc4 ?_
    refine g_ldin aX12_years_7 rfl ?_
    refine g_i2l aX12_years_8 ?_
    refine g_lconst (x := 1) aX12_years_9 rfl ?_
    refine g_ldc2 (x := 10) aX12_years_10 rfl ?_
    obtain ⟨r5, s6, h7, hE⟩ := i_bd_some hE
    refine g_calS (As := [.long p1.toInt64, .long 1, .long 10]) (rest := []) aX12_years_13 (i_X_mono (by omega) (tX12_in hsh h7)) rfl rfl (Nat.le_of_ble_eq_true rfl) rfl ?_
    by_cases hc8 : r5 = 0
    · rw [if_pos hc8] at hE
      refine g_if_eq_t aX12_years_16 hc8 ?_
      refine g_iconst (x := (-1)) aX12_years_54 rfl ?_
      cases hE
      exact g_iret aX12_years_55 rfl rfl
    · rw [if_neg hc8] at hE
      refine g_if_eq_f aX12_years_16 hc8 ?_
      refine g_ldin aX12_years_19 rfl ?_
      refine g_i2l aX12_years_20 ?_
      refine g_lconst (x := 1) aX12_years_21 rfl ?_
      refine g_ldc2 (x := 60) aX12_years_22 rfl ?_
      obtain ⟨r9, s10, h11, hE⟩ := i_bd_some hE
      refine g_calS (As := [.long p2.toInt64, .long 1, .long 60]) (rest := []) aX12_years_25 (i_X_mono (by omega) (tX12_in hsh h11)) rfl rfl (Nat.le_of_ble_eq_true rfl) rfl ?_
      by_cases hc12 : r9 = 0
      · rw [if_pos hc12] at hE
        refine g_if_eq_t aX12_years_28 hc12 ?_
        refine g_iconst (x := (-1)) aX12_years_54 rfl ?_
        cases hE
        exact g_iret aX12_years_55 rfl rfl
      · rw [if_neg hc12] at hE
        refine g_if_eq_f aX12_years_28 hc12 ?_
        refine g_ldin aX12_years_31 rfl ?_
        refine g_i2l aX12_years_32 ?_
        refine g_lconst (x := 0) aX12_years_33 rfl ?_
        refine g_ldc2 (x := 100) aX12_years_34 rfl ?_
        obtain ⟨r13, s14, h15, hE⟩ := i_bd_some hE
        refine g_calS (As := [.long p3.toInt64, .long 0, .long 100]) (rest := []) aX12_years_37 (i_X_mono (by omega) (tX12_in hsh h15)) rfl rfl (Nat.le_of_ble_eq_true rfl) rfl ?_
        by_cases hc16 : r13 = 0
        · rw [if_pos hc16] at hE
          refine g_if_eq_t aX12_years_40 hc16 ?_
          refine g_iconst (x := (-1)) aX12_years_54 rfl ?_
          cases hE
          exact g_iret aX12_years_55 rfl rfl
        · rw [if_neg hc16] at hE
          refine g_if_eq_f aX12_years_40 hc16 ?_
          refine g_ldi aX12_years_43 rfl ?_
          refine g_i2l aX12_years_45 ?_
          refine g_lconst (x := 0) aX12_years_46 rfl ?_
          refine g_lconst (x := 1) aX12_years_47 rfl ?_
          obtain ⟨r17, s18, h19, hE⟩ := i_bd_some hE
          refine g_calS (As := [.long p4.toInt64, .long 0, .long 1]) (rest := []) aX12_years_48 (i_X_mono (by omega) (tX12_in hsh h19)) rfl rfl (Nat.le_of_ble_eq_true rfl) rfl ?_
          by_cases hc20 : ¬ r17 = 0
          · rw [if_pos hc20] at hE
            refine g_if_ne_t aX12_years_51 hc20 ?_
            refine g_ldan aX12_years_56 rfl ?_
            refine g_getR aX12_years_57 (sR_0 hsh) rfl ?_
            refine g_bipush (x := 9) aX12_years_60 rfl ?_
            obtain ⟨h21, hE⟩ := i_ifn hE
            refine g_ild aX12_years_62 (sR_1 hsh) h21 ?_
            refine g_sti (loc2 := [.ref 0, .int p1, .int p2, .int p3, .int p4, .int (s18.2.1 1 (9 : Int32).toNatClampNeg), .retAddr 0, .retAddr 0, .retAddr 0, .retAddr 0, .retAddr 0, .retAddr 0]) aX12_years_63 (Nat.le_of_ble_eq_true rfl) rfl ?_
            refine g_ldi aX12_years_65 rfl ?_
            refine g_sti (loc2 := [.ref 0, .int p1, .int p2, .int p3, .int p4, .int (s18.2.1 1 (9 : Int32).toNatClampNeg), .int (s18.2.1 1 (9 : Int32).toNatClampNeg), .retAddr 0, .retAddr 0, .retAddr 0, .retAddr 0, .retAddr 0]) aX12_years_67 (Nat.le_of_ble_eq_true rfl) rfl ?_
            refine g_iconst (x := 0) aX12_years_69 rfl ?_
            refine g_sti (loc2 := [.ref 0, .int p1, .int p2, .int p3, .int p4, .int (s18.2.1 1 (9 : Int32).toNatClampNeg), .int (s18.2.1 1 (9 : Int32).toNatClampNeg), .int 0, .retAddr 0, .retAddr 0, .retAddr 0, .retAddr 0]) aX12_years_70 (Nat.le_of_ble_eq_true rfl) rfl ?_
            refine g_iconst (x := 0) aX12_years_72 rfl ?_
            refine g_sti (loc2 := [.ref 0, .int p1, .int p2, .int p3, .int p4, .int (s18.2.1 1 (9 : Int32).toNatClampNeg), .int (s18.2.1 1 (9 : Int32).toNatClampNeg), .int 0, .int 0, .retAddr 0, .retAddr 0, .retAddr 0]) aX12_years_73 (Nat.le_of_ble_eq_true rfl) rfl ?_
            refine g_ldan aX12_years_75 rfl ?_
            obtain ⟨r22, s23, h24, hE⟩ := i_bd_some hE
            refine g_calV (As := []) (rest := []) aX12_years_76 (i_X_mono (by omega) (tX12_keepsAll hsh h24)) (sR_0 hsh) (by decide +kernel) rfl rfl (Nat.le_of_ble_eq_true rfl) rfl ?_
            refine g_iconst (x := 0) aX12_years_79 rfl ?_
            refine g_sti (loc2 := [.ref 0, .int p1, .int p2, .int p3, .int p4, .int (s18.2.1 1 (9 : Int32).toNatClampNeg), .int (s18.2.1 1 (9 : Int32).toNatClampNeg), .int 0, .int 0, .int 0, .retAddr 0, .retAddr 0]) aX12_years_80 (Nat.le_of_ble_eq_true rfl) rfl ?_
            exact tX12_years_L82 hsh (fun x82 x83 x84 x85 x86 x87 s88 hE => tX12_years_X206 hsh hE) i_F _ _ _ _ _ _ _ hE
          · rw [if_neg hc20] at hE
            refine g_if_ne_f aX12_years_51 hc20 ?_
            refine g_iconst (x := (-1)) aX12_years_54 rfl ?_
            cases hE
            exact g_iret aX12_years_55 rfl rfl
