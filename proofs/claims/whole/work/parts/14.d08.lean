/-! X0_tellHour X0_tellThing X1_readCourt X1_readThing X1_readHolds X1_readPerson X1_readQuarrel X2_placeOf X2_fewestToStrip X2_goldOf X3_mostAlike X4_begin -/
theorem aX0_tellHour_0 : i_at mX0_tellHour.2.2.2.2.2 0 = some (.iconst 0, 1, 0, 0, 0, 0) := by decide +kernel
theorem aX0_tellHour_1 : i_at mX0_tellHour.2.2.2.2.2 1 = some (.istore_n 3, 1, 0, 0, 0, 0) := by decide +kernel
theorem aX0_tellHour_2 : i_at mX0_tellHour.2.2.2.2.2 2 = some (.iconst 0, 1, 0, 0, 0, 0) := by decide +kernel
theorem aX0_tellHour_3 : i_at mX0_tellHour.2.2.2.2.2 3 = some (.istore 4, 2, 0, 0, 0, 0) := by decide +kernel
theorem aX0_tellHour_5 : i_at mX0_tellHour.2.2.2.2.2 5 = some (.iconst 0, 1, 0, 0, 0, 0) := by decide +kernel
theorem aX0_tellHour_6 : i_at mX0_tellHour.2.2.2.2.2 6 = some (.istore 5, 2, 0, 0, 0, 0) := by decide +kernel
theorem aX0_tellHour_8 : i_at mX0_tellHour.2.2.2.2.2 8 = some (.iload 5, 2, 0, 0, 0, 0) := by decide +kernel
theorem aX0_tellHour_10 : i_at mX0_tellHour.2.2.2.2.2 10 = some (.aload_n 2, 1, 0, 0, 0, 0) := by decide +kernel
theorem aX0_tellHour_11 : i_at mX0_tellHour.2.2.2.2.2 11 = some (.getfield 77, 3, 5, 4, 171, 0) := by decide +kernel
theorem aX0_tellHour_14 : i_at mX0_tellHour.2.2.2.2.2 14 = some (.if_icmp .ge 40, 3, 54, 0, 0, 0) := by decide +kernel
theorem aX0_tellHour_17 : i_at mX0_tellHour.2.2.2.2.2 17 = some (.aload_n 1, 1, 0, 0, 0, 0) := by decide +kernel
theorem aX0_tellHour_18 : i_at mX0_tellHour.2.2.2.2.2 18 = some (.getfield 87, 3, 3, 4, 310, 0) := by decide +kernel
theorem aX0_tellHour_21 : i_at mX0_tellHour.2.2.2.2.2 21 = some (.iload 5, 2, 0, 0, 0, 0) := by decide +kernel
theorem aX0_tellHour_23 : i_at mX0_tellHour.2.2.2.2.2 23 = some (.iaload, 1, 0, 0, 0, 0) := by decide +kernel
theorem aX0_tellHour_24 : i_at mX0_tellHour.2.2.2.2.2 24 = some (.aload_n 2, 1, 0, 0, 0, 0) := by decide +kernel
theorem aX0_tellHour_25 : i_at mX0_tellHour.2.2.2.2.2 25 = some (.getfield 90, 3, 5, 2, 160, 0) := by decide +kernel
theorem aX0_tellHour_28 : i_at mX0_tellHour.2.2.2.2.2 28 = some (.if_icmp .lt 6, 3, 34, 0, 0, 0) := by decide +kernel
theorem aX0_tellHour_31 : i_at mX0_tellHour.2.2.2.2.2 31 = some (.iinc 3 1, 3, 0, 0, 0, 0) := by decide +kernel
theorem aX0_tellHour_34 : i_at mX0_tellHour.2.2.2.2.2 34 = some (.iload 4, 2, 0, 0, 0, 0) := by decide +kernel
theorem aX0_tellHour_36 : i_at mX0_tellHour.2.2.2.2.2 36 = some (.aload_n 1, 1, 0, 0, 0, 0) := by decide +kernel
theorem aX0_tellHour_37 : i_at mX0_tellHour.2.2.2.2.2 37 = some (.getfield 87, 3, 3, 4, 310, 0) := by decide +kernel
theorem aX0_tellHour_40 : i_at mX0_tellHour.2.2.2.2.2 40 = some (.iload 5, 2, 0, 0, 0, 0) := by decide +kernel
theorem aX0_tellHour_42 : i_at mX0_tellHour.2.2.2.2.2 42 = some (.iaload, 1, 0, 0, 0, 0) := by decide +kernel
theorem aX0_tellHour_43 : i_at mX0_tellHour.2.2.2.2.2 43 = some (.invokestatic 65, 3, 1001, 2, 809, 0) := by decide +kernel
theorem aX0_tellHour_46 : i_at mX0_tellHour.2.2.2.2.2 46 = some (.istore 4, 2, 0, 0, 0, 0) := by decide +kernel
theorem aX0_tellHour_48 : i_at mX0_tellHour.2.2.2.2.2 48 = some (.iinc 5 1, 3, 0, 0, 0, 0) := by decide +kernel
theorem aX0_tellHour_51 : i_at mX0_tellHour.2.2.2.2.2 51 = some (.goto (-43), 3, 8, 0, 0, 0) := by decide +kernel
theorem aX0_tellHour_54 : i_at mX0_tellHour.2.2.2.2.2 54 = some (.aload_n 0, 1, 0, 0, 0, 0) := by decide +kernel
theorem aX0_tellHour_55 : i_at mX0_tellHour.2.2.2.2.2 55 = some (.getfield 11, 3, 0, 1, 268, 0) := by decide +kernel
theorem aX0_tellHour_58 : i_at mX0_tellHour.2.2.2.2.2 58 = some (.iconst 2, 1, 0, 0, 0, 0) := by decide +kernel
theorem aX0_tellHour_59 : i_at mX0_tellHour.2.2.2.2.2 59 = some (.aload_n 2, 1, 0, 0, 0, 0) := by decide +kernel
theorem aX0_tellHour_60 : i_at mX0_tellHour.2.2.2.2.2 60 = some (.aload_n 1, 1, 0, 0, 0, 0) := by decide +kernel
theorem aX0_tellHour_61 : i_at mX0_tellHour.2.2.2.2.2 61 = some (.getfield 39, 3, 3, 0, 293, 0) := by decide +kernel
theorem aX0_tellHour_64 : i_at mX0_tellHour.2.2.2.2.2 64 = some (.invokevirtual 42, 3, 55, 1, 801, 0) := by decide +kernel
theorem aX0_tellHour_67 : i_at mX0_tellHour.2.2.2.2.2 67 = some (.i2l, 1, 0, 0, 0, 0) := by decide +kernel
theorem aX0_tellHour_68 : i_at mX0_tellHour.2.2.2.2.2 68 = some (.lastore, 1, 0, 0, 0, 0) := by decide +kernel
theorem aX0_tellHour_69 : i_at mX0_tellHour.2.2.2.2.2 69 = some (.aload_n 0, 1, 0, 0, 0, 0) := by decide +kernel
theorem aX0_tellHour_70 : i_at mX0_tellHour.2.2.2.2.2 70 = some (.getfield 11, 3, 0, 1, 268, 0) := by decide +kernel
theorem aX0_tellHour_73 : i_at mX0_tellHour.2.2.2.2.2 73 = some (.bipush 7, 2, 0, 0, 0, 0) := by decide +kernel
theorem aX0_tellHour_75 : i_at mX0_tellHour.2.2.2.2.2 75 = some (.iload_n 3, 1, 0, 0, 0, 0) := by decide +kernel
theorem aX0_tellHour_76 : i_at mX0_tellHour.2.2.2.2.2 76 = some (.i2l, 1, 0, 0, 0, 0) := by decide +kernel
theorem aX0_tellHour_77 : i_at mX0_tellHour.2.2.2.2.2 77 = some (.lastore, 1, 0, 0, 0, 0) := by decide +kernel
theorem aX0_tellHour_78 : i_at mX0_tellHour.2.2.2.2.2 78 = some (.aload_n 0, 1, 0, 0, 0, 0) := by decide +kernel
theorem aX0_tellHour_79 : i_at mX0_tellHour.2.2.2.2.2 79 = some (.getfield 11, 3, 0, 1, 268, 0) := by decide +kernel
theorem aX0_tellHour_82 : i_at mX0_tellHour.2.2.2.2.2 82 = some (.bipush 8, 2, 0, 0, 0, 0) := by decide +kernel
theorem aX0_tellHour_84 : i_at mX0_tellHour.2.2.2.2.2 84 = some (.aload_n 1, 1, 0, 0, 0, 0) := by decide +kernel
theorem aX0_tellHour_85 : i_at mX0_tellHour.2.2.2.2.2 85 = some (.invokevirtual 99, 3, 31, 0, 812, 0) := by decide +kernel
theorem aX0_tellHour_88 : i_at mX0_tellHour.2.2.2.2.2 88 = some (.invokestatic 103, 3, 230, 1, 816, 0) := by decide +kernel
theorem aX0_tellHour_91 : i_at mX0_tellHour.2.2.2.2.2 91 = some (.i2l, 1, 0, 0, 0, 0) := by decide +kernel
theorem aX0_tellHour_92 : i_at mX0_tellHour.2.2.2.2.2 92 = some (.lastore, 1, 0, 0, 0, 0) := by decide +kernel
theorem aX0_tellHour_93 : i_at mX0_tellHour.2.2.2.2.2 93 = some (.aload_n 0, 1, 0, 0, 0, 0) := by decide +kernel
theorem aX0_tellHour_94 : i_at mX0_tellHour.2.2.2.2.2 94 = some (.getfield 11, 3, 0, 1, 268, 0) := by decide +kernel
theorem aX0_tellHour_97 : i_at mX0_tellHour.2.2.2.2.2 97 = some (.bipush 9, 2, 0, 0, 0, 0) := by decide +kernel
theorem aX0_tellHour_99 : i_at mX0_tellHour.2.2.2.2.2 99 = some (.iload 4, 2, 0, 0, 0, 0) := by decide +kernel
theorem aX0_tellHour_101 : i_at mX0_tellHour.2.2.2.2.2 101 = some (.i2l, 1, 0, 0, 0, 0) := by decide +kernel
theorem aX0_tellHour_102 : i_at mX0_tellHour.2.2.2.2.2 102 = some (.lastore, 1, 0, 0, 0, 0) := by decide +kernel
theorem aX0_tellHour_103 : i_at mX0_tellHour.2.2.2.2.2 103 = some (.aload_n 0, 1, 0, 0, 0, 0) := by decide +kernel
theorem aX0_tellHour_104 : i_at mX0_tellHour.2.2.2.2.2 104 = some (.getfield 11, 3, 0, 1, 268, 0) := by decide +kernel
theorem aX0_tellHour_107 : i_at mX0_tellHour.2.2.2.2.2 107 = some (.bipush 10, 2, 0, 0, 0, 0) := by decide +kernel
theorem aX0_tellHour_109 : i_at mX0_tellHour.2.2.2.2.2 109 = some (.aload_n 2, 1, 0, 0, 0, 0) := by decide +kernel
theorem aX0_tellHour_110 : i_at mX0_tellHour.2.2.2.2.2 110 = some (.getfield 77, 3, 5, 4, 171, 0) := by decide +kernel
theorem aX0_tellHour_113 : i_at mX0_tellHour.2.2.2.2.2 113 = some (.i2l, 1, 0, 0, 0, 0) := by decide +kernel
theorem aX0_tellHour_114 : i_at mX0_tellHour.2.2.2.2.2 114 = some (.lastore, 1, 0, 0, 0, 0) := by decide +kernel
theorem aX0_tellHour_115 : i_at mX0_tellHour.2.2.2.2.2 115 = some (.aload_n 0, 1, 0, 0, 0, 0) := by decide +kernel
theorem aX0_tellHour_116 : i_at mX0_tellHour.2.2.2.2.2 116 = some (.getfield 11, 3, 0, 1, 268, 0) := by decide +kernel
theorem aX0_tellHour_119 : i_at mX0_tellHour.2.2.2.2.2 119 = some (.bipush 11, 2, 0, 0, 0, 0) := by decide +kernel
theorem aX0_tellHour_121 : i_at mX0_tellHour.2.2.2.2.2 121 = some (.aload_n 1, 1, 0, 0, 0, 0) := by decide +kernel
theorem aX0_tellHour_122 : i_at mX0_tellHour.2.2.2.2.2 122 = some (.getfield 39, 3, 3, 0, 293, 0) := by decide +kernel
theorem aX0_tellHour_125 : i_at mX0_tellHour.2.2.2.2.2 125 = some (.i2l, 1, 0, 0, 0, 0) := by decide +kernel
theorem aX0_tellHour_126 : i_at mX0_tellHour.2.2.2.2.2 126 = some (.lastore, 1, 0, 0, 0, 0) := by decide +kernel
theorem aX0_tellHour_127 : i_at mX0_tellHour.2.2.2.2.2 127 = some (.return_, 1, 0, 0, 0, 0) := by decide +kernel
noncomputable def fX0_tellHour_J34 (sh : List kd) (p1 : Nat) (p2 : Nat) (σ : St) (x2 : Int32) (x3 : Int32) (k8 : Int32 → Int32 → Int32 → Option (Unit × St)) (x110 : Int32) : Option (Unit × St) := if i_ok x3 6 then k8 x110 (if x2 < (σ.2.1 (p1 + 1) x3.toNatClampNeg) then (σ.2.1 (p1 + 1) x3.toNatClampNeg) else x2) (x3 + 1) else none
noncomputable def fX0_tellHour_L8 (sh : List kd) (p1 : Nat) (p2 : Nat) (σ : St) (k54 : Int32 → Int32 → Int32 → Option (Unit × St)) : Nat → Int32 → Int32 → Int32 → Option (Unit × St)
  | 0, _, _, _ => none
  | n57 + 1, x1, x2, x3 => if (σ.1 p2 4) ≤ x3 then k54 x1 x2 x3 else if i_ok x3 6 then if (σ.2.1 (p1 + 1) x3.toNatClampNeg) < (σ.1 p2 2) then fX0_tellHour_J34 sh p1 p2 σ x2 x3 (fX0_tellHour_L8 sh p1 p2 σ k54 n57) x1 else fX0_tellHour_J34 sh p1 p2 σ x2 x3 (fX0_tellHour_L8 sh p1 p2 σ k54 n57) (x1 + 1) else none
noncomputable def fX0_tellHour_X54 (sh : List kd) (p1 : Nat) (p2 : Nat) (σ : St) (x54 : Int32) (x55 : Int32) (x56 : Int32) : Option (Unit × St) := i_bd (fX6_clockAt sh σ p2 (σ.1 p1 0)) (fun r113 s114 => if i_ok 2 12 then if i_ok 7 12 then i_bd (fX4_knights sh (s_L (s_L s114 17 (2 : Int32).toNatClampNeg r113.toInt64) 17 (7 : Int32).toNatClampNeg x54.toInt64) p1) (fun r118 s119 => i_bd (fJ6_bitCount_0f7a4 sh s119 r118) (fun r121 s122 => if i_ok 8 12 then if i_ok 9 12 then if i_ok 10 12 then i_jp (s_L (s_L (s_L s122 17 (8 : Int32).toNatClampNeg r121.toInt64) 17 (9 : Int32).toNatClampNeg x55.toInt64) 17 (10 : Int32).toNatClampNeg (((s_L (s_L s122 17 (8 : Int32).toNatClampNeg r121.toInt64) 17 (9 : Int32).toNatClampNeg x55.toInt64).1 p2 4).toInt64)) (fun (s127 : St) => if i_ok 11 12 then some ((), s_L s127 17 (11 : Int32).toNatClampNeg ((s127.1 p1 0).toInt64)) else none) else none else none else none)) else none else none)
noncomputable def fX0_tellHour (sh : List kd) (σ : St) (p1 : Nat) (p2 : Nat) : Option (Unit × St) := fX0_tellHour_L8 sh p1 p2 σ (fun (x54 : Int32) (x55 : Int32) (x56 : Int32) => fX0_tellHour_X54 sh p1 p2 σ x54 x55 x56) i_F 0 0 0
set_option maxRecDepth 20000 in
set_option maxHeartbeats 2000000 in
theorem tX0_tellHour_J34 {sh : List kd} {τ : St} {r : Unit} (hsh : cSh sh) {p1 : Nat} {p2 : Nat} {σ : St} {x2 : Int32} {x3 : Int32} {x110 : Int32} {k8 : Int32 → Int32 → Int32 → Option (Unit × St)} (hp1 : lSh sh p1) (hp2 : rSh sh p2) (hk8 : ∀ (x1 : Int32) (x2 : Int32) (x3 : Int32), k8 x1 x2 x3 = some (r, τ) → g_R sh 1 mX0_tellHour none τ 8 [.ref 16, .ref p1, .ref p2, .int x1, .int x2, .int x3] [] (σ)) (hE : fX0_tellHour_J34 sh p1 p2 σ x2 x3 k8 x110 = some (r, τ)) : g_R sh 1 mX0_tellHour none τ 34 [.ref 16, .ref p1, .ref p2, .int x110, .int x2, .int x3] [] (σ) := by
  unfold fX0_tellHour_J34 at hE
  refine g_ldi aX0_tellHour_34 rfl ?_
  refine g_ldan aX0_tellHour_36 rfl ?_
  refine g_getR aX0_tellHour_37 (hp1.1) rfl ?_
  refine g_ldi aX0_tellHour_40 rfl ?_
  obtain ⟨h111, hE⟩ := i_ifn hE
  refine g_ild aX0_tellHour_42 (hp1.2.1) h111 ?_
  refine g_max aX0_tellHour_43 (Nat.le_of_ble_eq_true rfl) ?_
  refine g_sti (loc2 := [.ref 16, .ref p1, .ref p2, .int x110, .int (if x2 < (σ.2.1 (p1 + 1) x3.toNatClampNeg) then (σ.2.1 (p1 + 1) x3.toNatClampNeg) else x2), .int x3]) aX0_tellHour_46 (Nat.le_of_ble_eq_true rfl) rfl ?_
  refine g_iinc (y := 1) (loc2 := [.ref 16, .ref p1, .ref p2, .int x110, .int (if x2 < (σ.2.1 (p1 + 1) x3.toNatClampNeg) then (σ.2.1 (p1 + 1) x3.toNatClampNeg) else x2), .int (x3 + 1)]) aX0_tellHour_48 rfl rfl rfl ?_
  refine g_goto aX0_tellHour_51 ?_
  exact hk8 _ _ _ hE
set_option maxRecDepth 20000 in
set_option maxHeartbeats 2000000 in
theorem tX0_tellHour_L8 {sh : List kd} {τ : St} {r : Unit} (hsh : cSh sh) {p1 : Nat} {p2 : Nat} {σ : St} {k54 : Int32 → Int32 → Int32 → Option (Unit × St)} (hp1 : lSh sh p1) (hp2 : rSh sh p2) (hk54 : ∀ (x54 : Int32) (x55 : Int32) (x56 : Int32), k54 x54 x55 x56 = some (r, τ) → g_R sh 1 mX0_tellHour none τ 54 [.ref 16, .ref p1, .ref p2, .int x54, .int x55, .int x56] [] (σ)) : ∀ (n0 : Nat) (x1 : Int32) (x2 : Int32) (x3 : Int32), fX0_tellHour_L8 sh p1 p2 σ k54 n0 x1 x2 x3 = some (r, τ) → g_R sh 1 mX0_tellHour none τ 8 [.ref 16, .ref p1, .ref p2, .int x1, .int x2, .int x3] [] (σ) := by
  intro n0
  induction n0 with
  | zero => intro _ _ _ hE; cases hE
  | succ n57 ih =>
    intro x1 x2 x3 hE
    unfold fX0_tellHour_L8 at hE
    refine g_ldi aX0_tellHour_8 rfl ?_
    refine g_ldan aX0_tellHour_10 rfl ?_
    refine g_getI aX0_tellHour_11 (hp2.1) rfl ?_
    by_cases hc58 : (σ.1 p2 4) ≤ x3
    · rw [if_pos hc58] at hE
      refine g_ic_ge_t aX0_tellHour_14 hc58 ?_
      exact hk54 _ _ _ hE
    · rw [if_neg hc58] at hE
      refine g_ic_ge_f aX0_tellHour_14 hc58 ?_
      refine g_ldan aX0_tellHour_17 rfl ?_
      refine g_getR aX0_tellHour_18 (hp1.1) rfl ?_
      refine g_ldi aX0_tellHour_21 rfl ?_
      obtain ⟨h59, hE⟩ := i_ifn hE
      refine g_ild aX0_tellHour_23 (hp1.2.1) h59 ?_
      refine g_ldan aX0_tellHour_24 rfl ?_
      refine g_getI aX0_tellHour_25 (hp2.1) rfl ?_
      by_cases hc112 : (σ.2.1 (p1 + 1) x3.toNatClampNeg) < (σ.1 p2 2)
      · rw [if_pos hc112] at hE
        refine g_ic_lt_t aX0_tellHour_28 hc112 ?_
        exact tX0_tellHour_J34 hsh hp1 hp2 ih hE
      · rw [if_neg hc112] at hE
        refine g_ic_lt_f aX0_tellHour_28 hc112 ?_
        refine g_iinc (y := 1) (loc2 := [.ref 16, .ref p1, .ref p2, .int (x1 + 1), .int x2, .int x3]) aX0_tellHour_31 rfl rfl rfl ?_
        exact tX0_tellHour_J34 hsh hp1 hp2 ih hE
set_option maxRecDepth 20000 in
set_option maxHeartbeats 2000000 in
theorem tX0_tellHour_X54 {sh : List kd} {τ : St} {r : Unit} (hsh : cSh sh) {p1 : Nat} {p2 : Nat} {σ : St} {x54 : Int32} {x55 : Int32} {x56 : Int32} (hp1 : lSh sh p1) (hp2 : rSh sh p2) (hE : fX0_tellHour_X54 sh p1 p2 σ x54 x55 x56 = some (r, τ)) : g_R sh 1 mX0_tellHour none τ 54 [.ref 16, .ref p1, .ref p2, .int x54, .int x55, .int x56] [] (σ) := by
  unfold fX0_tellHour_X54 at hE
  refine g_ldan aX0_tellHour_54 rfl ?_
  refine g_getR aX0_tellHour_55 (sC_16 hsh) rfl ?_
  refine g_iconst (x := 2) aX0_tellHour_58 rfl ?_
  refine g_ldan aX0_tellHour_59 rfl ?_
  refine g_ldan aX0_tellHour_60 rfl ?_
  refine g_getI aX0_tellHour_61 (hp1.1) rfl ?_
  obtain ⟨r113, s114, h115, hE⟩ := i_bd_some hE
  refine g_calV (As := [.int (σ.1 p1 0)]) (rest := [.int 2, .ref 17]) aX0_tellHour_64 (i_X_mono (by omega) (tX6_clockAt hsh hp2 h115)) (hp2.1) (by decide +kernel) rfl rfl (Nat.le_of_ble_eq_true rfl) rfl ?_
  refine g_i2l aX0_tellHour_67 ?_
  obtain ⟨h116, hE⟩ := i_ifn hE
  refine g_lst aX0_tellHour_68 (sC_17 hsh) h116 ?_
  refine g_ldan aX0_tellHour_69 rfl ?_
  refine g_getR aX0_tellHour_70 (sC_16 hsh) rfl ?_
  refine g_bipush (x := 7) aX0_tellHour_73 rfl ?_
  refine g_ldin aX0_tellHour_75 rfl ?_
  refine g_i2l aX0_tellHour_76 ?_
  obtain ⟨h117, hE⟩ := i_ifn hE
  refine g_lst aX0_tellHour_77 (sC_17 hsh) h117 ?_
  refine g_ldan aX0_tellHour_78 rfl ?_
  refine g_getR aX0_tellHour_79 (sC_16 hsh) rfl ?_
  refine g_bipush (x := 8) aX0_tellHour_82 rfl ?_
  refine g_ldan aX0_tellHour_84 rfl ?_
  obtain ⟨r118, s119, h120, hE⟩ := i_bd_some hE
  refine g_calV (As := []) (rest := [.int 8, .ref 17]) aX0_tellHour_85 (i_X_mono (by omega) (tX4_knights hsh hp1 h120)) (hp1.1) (by decide +kernel) rfl rfl (Nat.le_of_ble_eq_true rfl) rfl ?_
  obtain ⟨r121, s122, h123, hE⟩ := i_bd_some hE
  refine g_calS (As := [.int r118]) (rest := [.int 8, .ref 17]) aX0_tellHour_88 (i_X_mono (by omega) (tJ6_bitCount_0f7a4 hsh h123)) rfl rfl (Nat.le_of_ble_eq_true rfl) rfl ?_
  refine g_i2l aX0_tellHour_91 ?_
  obtain ⟨h124, hE⟩ := i_ifn hE
  refine g_lst aX0_tellHour_92 (sC_17 hsh) h124 ?_
  refine g_ldan aX0_tellHour_93 rfl ?_
  refine g_getR aX0_tellHour_94 (sC_16 hsh) rfl ?_
  refine g_bipush (x := 9) aX0_tellHour_97 rfl ?_
  refine g_ldi aX0_tellHour_99 rfl ?_
  refine g_i2l aX0_tellHour_101 ?_
  obtain ⟨h125, hE⟩ := i_ifn hE
  refine g_lst aX0_tellHour_102 (sC_17 hsh) h125 ?_
  refine g_ldan aX0_tellHour_103 rfl ?_
  refine g_getR aX0_tellHour_104 (sC_16 hsh) rfl ?_
  refine g_bipush (x := 10) aX0_tellHour_107 rfl ?_
  refine g_ldan aX0_tellHour_109 rfl ?_
  refine g_getI aX0_tellHour_110 (hp2.1) rfl ?_
  refine g_i2l aX0_tellHour_113 ?_
  obtain ⟨h126, hE⟩ := i_ifn hE
  refine g_lst aX0_tellHour_114 (sC_17 hsh) h126 ?_
  obtain ⟨s127, h128, hE⟩ := i_jp_some hE
  rw [← h128]
  refine g_ldan aX0_tellHour_115 rfl ?_
  refine g_getR aX0_tellHour_116 (sC_16 hsh) rfl ?_
  refine g_bipush (x := 11) aX0_tellHour_119 rfl ?_
  refine g_ldan aX0_tellHour_121 rfl ?_
  refine g_getI aX0_tellHour_122 (hp1.1) rfl ?_
  refine g_i2l aX0_tellHour_125 ?_
  obtain ⟨h129, hE⟩ := i_ifn hE
  refine g_lst aX0_tellHour_126 (sC_17 hsh) h129 ?_
  obtain ⟨rfl, rfl⟩ := i_some_inj hE
  exact g_vret aX0_tellHour_127 rfl
set_option maxRecDepth 20000 in
set_option maxHeartbeats 2000000 in
theorem tX0_tellHour {sh : List kd} {σ τ : St} {r : Unit} (hsh : cSh sh) {p1 : Nat} {p2 : Nat} (hp1 : lSh sh p1) (hp2 : rSh sh p2) (hE : fX0_tellHour sh σ p1 p2 = some (r, τ)) : i_X 2 3 [.ref 16, .ref p1, .ref p2] (s_h sh σ) 0 0 none (s_h sh τ) := by
  refine g_X (M := mX0_tellHour) (loc := [.ref 16, .ref p1, .ref p2, .retAddr 0, .retAddr 0, .retAddr 0]) rfl (Nat.le_of_ble_eq_true rfl) rfl ?_
  unfold fX0_tellHour at hE
  refine g_iconst (x := 0) aX0_tellHour_0 rfl ?_
  refine g_stin (loc2 := [.ref 16, .ref p1, .ref p2, .int 0, .retAddr 0, .retAddr 0]) aX0_tellHour_1 (Nat.le_of_ble_eq_true rfl) rfl ?_
  refine g_iconst (x := 0) aX0_tellHour_2 rfl ?_
  refine g_sti (loc2 := [.ref 16, .ref p1, .ref p2, .int 0, .int 0, .retAddr 0]) aX0_tellHour_3 (Nat.le_of_ble_eq_true rfl) rfl ?_
  refine g_iconst (x := 0) aX0_tellHour_5 rfl ?_
  refine g_sti (loc2 := [.ref 16, .ref p1, .ref p2, .int 0, .int 0, .int 0]) aX0_tellHour_6 (Nat.le_of_ble_eq_true rfl) rfl ?_
  exact tX0_tellHour_L8 hsh hp1 hp2 (fun x54 x55 x56 hE => tX0_tellHour_X54 hsh hp1 hp2 hE) i_F _ _ _ hE
theorem aX0_tellThing_0 : i_at mX0_tellThing.2.2.2.2.2 0 = some (.aload_n 0, 1, 0, 0, 0, 0) := by decide +kernel
theorem aX0_tellThing_1 : i_at mX0_tellThing.2.2.2.2.2 1 = some (.getfield 11, 3, 0, 1, 268, 0) := by decide +kernel
theorem aX0_tellThing_4 : i_at mX0_tellThing.2.2.2.2.2 4 = some (.iconst 0, 1, 0, 0, 0, 0) := by decide +kernel
theorem aX0_tellThing_5 : i_at mX0_tellThing.2.2.2.2.2 5 = some (.iload_n 3, 1, 0, 0, 0, 0) := by decide +kernel
theorem aX0_tellThing_6 : i_at mX0_tellThing.2.2.2.2.2 6 = some (.i2l, 1, 0, 0, 0, 0) := by decide +kernel
theorem aX0_tellThing_7 : i_at mX0_tellThing.2.2.2.2.2 7 = some (.lastore, 1, 0, 0, 0, 0) := by decide +kernel
theorem aX0_tellThing_8 : i_at mX0_tellThing.2.2.2.2.2 8 = some (.aload_n 0, 1, 0, 0, 0, 0) := by decide +kernel
theorem aX0_tellThing_9 : i_at mX0_tellThing.2.2.2.2.2 9 = some (.getfield 11, 3, 0, 1, 268, 0) := by decide +kernel
theorem aX0_tellThing_12 : i_at mX0_tellThing.2.2.2.2.2 12 = some (.iconst 1, 1, 0, 0, 0, 0) := by decide +kernel
theorem aX0_tellThing_13 : i_at mX0_tellThing.2.2.2.2.2 13 = some (.aload_n 2, 1, 0, 0, 0, 0) := by decide +kernel
theorem aX0_tellThing_14 : i_at mX0_tellThing.2.2.2.2.2 14 = some (.getfield 108, 3, 5, 5, 176, 0) := by decide +kernel
theorem aX0_tellThing_17 : i_at mX0_tellThing.2.2.2.2.2 17 = some (.iload_n 3, 1, 0, 0, 0, 0) := by decide +kernel
theorem aX0_tellThing_18 : i_at mX0_tellThing.2.2.2.2.2 18 = some (.iaload, 1, 0, 0, 0, 0) := by decide +kernel
theorem aX0_tellThing_19 : i_at mX0_tellThing.2.2.2.2.2 19 = some (.i2l, 1, 0, 0, 0, 0) := by decide +kernel
theorem aX0_tellThing_20 : i_at mX0_tellThing.2.2.2.2.2 20 = some (.lastore, 1, 0, 0, 0, 0) := by decide +kernel
theorem aX0_tellThing_21 : i_at mX0_tellThing.2.2.2.2.2 21 = some (.aload_n 0, 1, 0, 0, 0, 0) := by decide +kernel
theorem aX0_tellThing_22 : i_at mX0_tellThing.2.2.2.2.2 22 = some (.getfield 11, 3, 0, 1, 268, 0) := by decide +kernel
theorem aX0_tellThing_25 : i_at mX0_tellThing.2.2.2.2.2 25 = some (.iconst 3, 1, 0, 0, 0, 0) := by decide +kernel
theorem aX0_tellThing_26 : i_at mX0_tellThing.2.2.2.2.2 26 = some (.aload_n 2, 1, 0, 0, 0, 0) := by decide +kernel
theorem aX0_tellThing_27 : i_at mX0_tellThing.2.2.2.2.2 27 = some (.getfield 33, 3, 5, 7, 184, 0) := by decide +kernel
theorem aX0_tellThing_30 : i_at mX0_tellThing.2.2.2.2.2 30 = some (.aload_n 2, 1, 0, 0, 0, 0) := by decide +kernel
theorem aX0_tellThing_31 : i_at mX0_tellThing.2.2.2.2.2 31 = some (.aload_n 1, 1, 0, 0, 0, 0) := by decide +kernel
theorem aX0_tellThing_32 : i_at mX0_tellThing.2.2.2.2.2 32 = some (.getfield 39, 3, 3, 0, 293, 0) := by decide +kernel
theorem aX0_tellThing_35 : i_at mX0_tellThing.2.2.2.2.2 35 = some (.invokevirtual 42, 3, 55, 1, 801, 0) := by decide +kernel
theorem aX0_tellThing_38 : i_at mX0_tellThing.2.2.2.2.2 38 = some (.iaload, 1, 0, 0, 0, 0) := by decide +kernel
theorem aX0_tellThing_39 : i_at mX0_tellThing.2.2.2.2.2 39 = some (.iload_n 3, 1, 0, 0, 0, 0) := by decide +kernel
theorem aX0_tellThing_40 : i_at mX0_tellThing.2.2.2.2.2 40 = some (.if_icmp .ne 7, 3, 47, 0, 0, 0) := by decide +kernel
theorem aX0_tellThing_43 : i_at mX0_tellThing.2.2.2.2.2 43 = some (.lconst 1, 1, 0, 0, 0, 0) := by decide +kernel
theorem aX0_tellThing_44 : i_at mX0_tellThing.2.2.2.2.2 44 = some (.goto 4, 3, 48, 0, 0, 0) := by decide +kernel
theorem aX0_tellThing_47 : i_at mX0_tellThing.2.2.2.2.2 47 = some (.lconst 0, 1, 0, 0, 0, 0) := by decide +kernel
theorem aX0_tellThing_48 : i_at mX0_tellThing.2.2.2.2.2 48 = some (.lastore, 1, 0, 0, 0, 0) := by decide +kernel
theorem aX0_tellThing_49 : i_at mX0_tellThing.2.2.2.2.2 49 = some (.aload_n 0, 1, 0, 0, 0, 0) := by decide +kernel
theorem aX0_tellThing_50 : i_at mX0_tellThing.2.2.2.2.2 50 = some (.getfield 11, 3, 0, 1, 268, 0) := by decide +kernel
theorem aX0_tellThing_53 : i_at mX0_tellThing.2.2.2.2.2 53 = some (.iconst 4, 1, 0, 0, 0, 0) := by decide +kernel
theorem aX0_tellThing_54 : i_at mX0_tellThing.2.2.2.2.2 54 = some (.aload_n 1, 1, 0, 0, 0, 0) := by decide +kernel
theorem aX0_tellThing_55 : i_at mX0_tellThing.2.2.2.2.2 55 = some (.getfield 71, 3, 3, 1, 297, 0) := by decide +kernel
theorem aX0_tellThing_58 : i_at mX0_tellThing.2.2.2.2.2 58 = some (.iload_n 3, 1, 0, 0, 0, 0) := by decide +kernel
theorem aX0_tellThing_59 : i_at mX0_tellThing.2.2.2.2.2 59 = some (.if_icmp .ne 7, 3, 66, 0, 0, 0) := by decide +kernel
theorem aX0_tellThing_62 : i_at mX0_tellThing.2.2.2.2.2 62 = some (.lconst 1, 1, 0, 0, 0, 0) := by decide +kernel
theorem aX0_tellThing_63 : i_at mX0_tellThing.2.2.2.2.2 63 = some (.goto 4, 3, 67, 0, 0, 0) := by decide +kernel
theorem aX0_tellThing_66 : i_at mX0_tellThing.2.2.2.2.2 66 = some (.lconst 0, 1, 0, 0, 0, 0) := by decide +kernel
theorem aX0_tellThing_67 : i_at mX0_tellThing.2.2.2.2.2 67 = some (.lastore, 1, 0, 0, 0, 0) := by decide +kernel
theorem aX0_tellThing_68 : i_at mX0_tellThing.2.2.2.2.2 68 = some (.aload_n 0, 1, 0, 0, 0, 0) := by decide +kernel
theorem aX0_tellThing_69 : i_at mX0_tellThing.2.2.2.2.2 69 = some (.getfield 11, 3, 0, 1, 268, 0) := by decide +kernel
theorem aX0_tellThing_72 : i_at mX0_tellThing.2.2.2.2.2 72 = some (.iconst 5, 1, 0, 0, 0, 0) := by decide +kernel
theorem aX0_tellThing_73 : i_at mX0_tellThing.2.2.2.2.2 73 = some (.aload_n 1, 1, 0, 0, 0, 0) := by decide +kernel
theorem aX0_tellThing_74 : i_at mX0_tellThing.2.2.2.2.2 74 = some (.getfield 74, 3, 3, 7, 322, 0) := by decide +kernel
theorem aX0_tellThing_77 : i_at mX0_tellThing.2.2.2.2.2 77 = some (.iload_n 3, 1, 0, 0, 0, 0) := by decide +kernel
theorem aX0_tellThing_78 : i_at mX0_tellThing.2.2.2.2.2 78 = some (.iaload, 1, 0, 0, 0, 0) := by decide +kernel
theorem aX0_tellThing_79 : i_at mX0_tellThing.2.2.2.2.2 79 = some (.i2l, 1, 0, 0, 0, 0) := by decide +kernel
theorem aX0_tellThing_80 : i_at mX0_tellThing.2.2.2.2.2 80 = some (.lastore, 1, 0, 0, 0, 0) := by decide +kernel
theorem aX0_tellThing_81 : i_at mX0_tellThing.2.2.2.2.2 81 = some (.aload_n 0, 1, 0, 0, 0, 0) := by decide +kernel
theorem aX0_tellThing_82 : i_at mX0_tellThing.2.2.2.2.2 82 = some (.getfield 11, 3, 0, 1, 268, 0) := by decide +kernel
theorem aX0_tellThing_85 : i_at mX0_tellThing.2.2.2.2.2 85 = some (.bipush 6, 2, 0, 0, 0, 0) := by decide +kernel
theorem aX0_tellThing_87 : i_at mX0_tellThing.2.2.2.2.2 87 = some (.aload_n 1, 1, 0, 0, 0, 0) := by decide +kernel
theorem aX0_tellThing_88 : i_at mX0_tellThing.2.2.2.2.2 88 = some (.iload_n 3, 1, 0, 0, 0, 0) := by decide +kernel
theorem aX0_tellThing_89 : i_at mX0_tellThing.2.2.2.2.2 89 = some (.invokevirtual 111, 3, 30, 1, 826, 0) := by decide +kernel
theorem aX0_tellThing_92 : i_at mX0_tellThing.2.2.2.2.2 92 = some (.i2l, 1, 0, 0, 0, 0) := by decide +kernel
theorem aX0_tellThing_93 : i_at mX0_tellThing.2.2.2.2.2 93 = some (.lastore, 1, 0, 0, 0, 0) := by decide +kernel
theorem aX0_tellThing_94 : i_at mX0_tellThing.2.2.2.2.2 94 = some (.return_, 1, 0, 0, 0, 0) := by decide +kernel
noncomputable def fX0_tellThing (sh : List kd) (σ : St) (p1 : Nat) (p2 : Nat) (p3 : Int32) : Option (Unit × St) := if i_ok 0 12 then if i_ok p3 6 then if i_ok 1 12 then i_jp (s_L (s_L σ 17 (0 : Int32).toNatClampNeg p3.toInt64) 17 (1 : Int32).toNatClampNeg (((s_L σ 17 (0 : Int32).toNatClampNeg p3.toInt64).2.1 (p2 + 1) p3.toNatClampNeg).toInt64)) (fun (s4 : St) => i_bd (fX6_clockAt sh s4 p2 (s4.1 p1 0)) (fun r6 s7 => if i_ok r6 12 then if i_ok 3 12 then if i_ok 4 12 then i_jp (s_L (s_L s7 17 (3 : Int32).toNatClampNeg ((if ¬ (s7.2.1 (p2 + 3) r6.toNatClampNeg) = p3 then 0 else 1) : Int64)) 17 (4 : Int32).toNatClampNeg ((if ¬ ((s_L s7 17 (3 : Int32).toNatClampNeg ((if ¬ (s7.2.1 (p2 + 3) r6.toNatClampNeg) = p3 then 0 else 1) : Int64)).1 p1 1) = p3 then 0 else 1) : Int64)) (fun (s12 : St) => if i_ok p3 6 then if i_ok 5 12 then i_bd (fX4_bearers sh (s_L s12 17 (5 : Int32).toNatClampNeg ((s12.2.1 (p1 + 4) p3.toNatClampNeg).toInt64)) p1 p3) (fun r16 s17 => if i_ok 6 12 then some ((), s_L s17 17 (6 : Int32).toNatClampNeg r16.toInt64) else none) else none else none) else none else none else none)) else none else none else none
set_option maxRecDepth 20000 in
set_option maxHeartbeats 2000000 in
theorem tX0_tellThing {sh : List kd} {σ τ : St} {r : Unit} (hsh : cSh sh) {p1 : Nat} {p2 : Nat} {p3 : Int32} (hp1 : lSh sh p1) (hp2 : rSh sh p2) (hE : fX0_tellThing sh σ p1 p2 p3 = some (r, τ)) : i_X 2 4 [.ref 16, .ref p1, .ref p2, .int p3] (s_h sh σ) 0 0 none (s_h sh τ) := by
  refine g_X (M := mX0_tellThing) (loc := [.ref 16, .ref p1, .ref p2, .int p3]) rfl (Nat.le_of_ble_eq_true rfl) rfl ?_
  unfold fX0_tellThing at hE
  refine g_ldan aX0_tellThing_0 rfl ?_
  refine g_getR aX0_tellThing_1 (sC_16 hsh) rfl ?_
  refine g_iconst (x := 0) aX0_tellThing_4 rfl ?_
  refine g_ldin aX0_tellThing_5 rfl ?_
  refine g_i2l aX0_tellThing_6 ?_
  obtain ⟨h1, hE⟩ := i_ifn hE
  refine g_lst aX0_tellThing_7 (sC_17 hsh) h1 ?_
  refine g_ldan aX0_tellThing_8 rfl ?_
  refine g_getR aX0_tellThing_9 (sC_16 hsh) rfl ?_
  refine g_iconst (x := 1) aX0_tellThing_12 rfl ?_
  refine g_ldan aX0_tellThing_13 rfl ?_
  refine g_getR aX0_tellThing_14 (hp2.1) rfl ?_
  refine g_ldin aX0_tellThing_17 rfl ?_
  obtain ⟨h2, hE⟩ := i_ifn hE
  refine g_ild aX0_tellThing_18 (hp2.2.1) h2 ?_
  refine g_i2l aX0_tellThing_19 ?_
  obtain ⟨h3, hE⟩ := i_ifn hE
  refine g_lst aX0_tellThing_20 (sC_17 hsh) h3 ?_
  obtain ⟨s4, h5, hE⟩ := i_jp_some hE
  rw [← h5]
  refine g_ldan aX0_tellThing_21 rfl ?_
  refine g_getR aX0_tellThing_22 (sC_16 hsh) rfl ?_
  refine g_iconst (x := 3) aX0_tellThing_25 rfl ?_
  refine g_ldan aX0_tellThing_26 rfl ?_
  refine g_getR aX0_tellThing_27 (hp2.1) rfl ?_
  refine g_ldan aX0_tellThing_30 rfl ?_
  refine g_ldan aX0_tellThing_31 rfl ?_
  refine g_getI aX0_tellThing_32 (hp1.1) rfl ?_
  obtain ⟨r6, s7, h8, hE⟩ := i_bd_some hE
  refine g_calV (As := [.int (s4.1 p1 0)]) (rest := [.ref (p2 + 3), .int 3, .ref 17]) aX0_tellThing_35 (i_X_mono (by omega) (tX6_clockAt hsh hp2 h8)) (hp2.1) (by decide +kernel) rfl rfl (Nat.le_of_ble_eq_true rfl) rfl ?_
  obtain ⟨h9, hE⟩ := i_ifn hE
  refine g_ild aX0_tellThing_38 (hp2.2.2.2.1) h9 ?_
  refine g_ldin aX0_tellThing_39 rfl ?_
  have hJ : g_R sh 1 mX0_tellThing none τ 48 [.ref 16, .ref p1, .ref p2, .int p3] [.long ((if ¬ (s7.2.1 (p2 + 3) r6.toNatClampNeg) = p3 then 0 else 1) : Int64), .int 3, .ref 17] (s7) := by
    obtain ⟨h10, hE⟩ := i_ifn hE
    refine g_lst aX0_tellThing_48 (sC_17 hsh) h10 ?_
    refine g_ldan aX0_tellThing_49 rfl ?_
    refine g_getR aX0_tellThing_50 (sC_16 hsh) rfl ?_
    refine g_iconst (x := 4) aX0_tellThing_53 rfl ?_
    refine g_ldan aX0_tellThing_54 rfl ?_
    refine g_getI aX0_tellThing_55 (hp1.1) rfl ?_
    refine g_ldin aX0_tellThing_58 rfl ?_
    have hJ : g_R sh 1 mX0_tellThing none τ 67 [.ref 16, .ref p1, .ref p2, .int p3] [.long ((if ¬ ((s_L s7 17 (3 : Int32).toNatClampNeg ((if ¬ (s7.2.1 (p2 + 3) r6.toNatClampNeg) = p3 then 0 else 1) : Int64)).1 p1 1) = p3 then 0 else 1) : Int64), .int 4, .ref 17] (s_L s7 17 (3 : Int32).toNatClampNeg ((if ¬ (s7.2.1 (p2 + 3) r6.toNatClampNeg) = p3 then 0 else 1) : Int64)) := by
      obtain ⟨h11, hE⟩ := i_ifn hE
      refine g_lst aX0_tellThing_67 (sC_17 hsh) h11 ?_
      obtain ⟨s12, h13, hE⟩ := i_jp_some hE
      rw [← h13]
      refine g_ldan aX0_tellThing_68 rfl ?_
      refine g_getR aX0_tellThing_69 (sC_16 hsh) rfl ?_
      refine g_iconst (x := 5) aX0_tellThing_72 rfl ?_
      refine g_ldan aX0_tellThing_73 rfl ?_
      refine g_getR aX0_tellThing_74 (hp1.1) rfl ?_
      refine g_ldin aX0_tellThing_77 rfl ?_
      obtain ⟨h14, hE⟩ := i_ifn hE
      refine g_ild aX0_tellThing_78 (hp1.2.2.2.2) h14 ?_
      refine g_i2l aX0_tellThing_79 ?_
      obtain ⟨h15, hE⟩ := i_ifn hE
      refine g_lst aX0_tellThing_80 (sC_17 hsh) h15 ?_
      refine g_ldan aX0_tellThing_81 rfl ?_
      refine g_getR aX0_tellThing_82 (sC_16 hsh) rfl ?_
      refine g_bipush (x := 6) aX0_tellThing_85 rfl ?_
      refine g_ldan aX0_tellThing_87 rfl ?_
      refine g_ldin aX0_tellThing_88 rfl ?_
      obtain ⟨r16, s17, h18, hE⟩ := i_bd_some hE
      refine g_calV (As := [.int p3]) (rest := [.int 6, .ref 17]) aX0_tellThing_89 (i_X_mono (by omega) (tX4_bearers hsh hp1 h18)) (hp1.1) (by decide +kernel) rfl rfl (Nat.le_of_ble_eq_true rfl) rfl ?_
      refine g_i2l aX0_tellThing_92 ?_
      obtain ⟨h19, hE⟩ := i_ifn hE
      refine g_lst aX0_tellThing_93 (sC_17 hsh) h19 ?_
      obtain ⟨rfl, rfl⟩ := i_some_inj hE
      exact g_vret aX0_tellThing_94 rfl
    clear hE
    by_cases hc19 : ¬ ((s_L s7 17 (3 : Int32).toNatClampNeg ((if ¬ (s7.2.1 (p2 + 3) r6.toNatClampNeg) = p3 then 0 else 1) : Int64)).1 p1 1) = p3
    · (try rw [if_pos hc19] at hJ)
      refine g_ic_ne_t aX0_tellThing_59 hc19 ?_
      refine g_lconst (x := 0) aX0_tellThing_66 rfl ?_
      exact hJ
    · (try rw [if_neg hc19] at hJ)
      refine g_ic_ne_f aX0_tellThing_59 hc19 ?_
      refine g_lconst (x := 1) aX0_tellThing_62 rfl ?_
      refine g_goto aX0_tellThing_63 ?_
      exact hJ
  clear hE
  by_cases hc20 : ¬ (s7.2.1 (p2 + 3) r6.toNatClampNeg) = p3
  · (try rw [if_pos hc20] at hJ)
    refine g_ic_ne_t aX0_tellThing_40 hc20 ?_
    refine g_lconst (x := 0) aX0_tellThing_47 rfl ?_
    exact hJ
  · (try rw [if_neg hc20] at hJ)
    refine g_ic_ne_f aX0_tellThing_40 hc20 ?_
    refine g_lconst (x := 1) aX0_tellThing_43 rfl ?_
    refine g_goto aX0_tellThing_44 ?_
    exact hJ
theorem aX1_readCourt_0 : i_at mX1_readCourt.2.2.2.2.2 0 = some (.aload_n 0, 1, 0, 0, 0, 0) := by decide +kernel
theorem aX1_readCourt_1 : i_at mX1_readCourt.2.2.2.2.2 1 = some (.getfield 15, 3, 1, 1, 222, 0) := by decide +kernel
theorem aX1_readCourt_4 : i_at mX1_readCourt.2.2.2.2.2 4 = some (.aload_n 0, 1, 0, 0, 0, 0) := by decide +kernel
theorem aX1_readCourt_5 : i_at mX1_readCourt.2.2.2.2.2 5 = some (.getfield 9, 3, 1, 0, 221, 0) := by decide +kernel
theorem aX1_readCourt_8 : i_at mX1_readCourt.2.2.2.2.2 8 = some (.iconst 1, 1, 0, 0, 0, 0) := by decide +kernel
theorem aX1_readCourt_9 : i_at mX1_readCourt.2.2.2.2.2 9 = some (.bipush 12, 2, 0, 0, 0, 0) := by decide +kernel
theorem aX1_readCourt_11 : i_at mX1_readCourt.2.2.2.2.2 11 = some (.invokevirtual 86, 3, 80, 2, 604, 0) := by decide +kernel
theorem aX1_readCourt_14 : i_at mX1_readCourt.2.2.2.2.2 14 = some (.putfield 90, 3, 5, 1, 157, 0) := by decide +kernel
theorem aX1_readCourt_17 : i_at mX1_readCourt.2.2.2.2.2 17 = some (.aload_n 0, 1, 0, 0, 0, 0) := by decide +kernel
theorem aX1_readCourt_18 : i_at mX1_readCourt.2.2.2.2.2 18 = some (.getfield 15, 3, 1, 1, 222, 0) := by decide +kernel
theorem aX1_readCourt_21 : i_at mX1_readCourt.2.2.2.2.2 21 = some (.aload_n 0, 1, 0, 0, 0, 0) := by decide +kernel
theorem aX1_readCourt_22 : i_at mX1_readCourt.2.2.2.2.2 22 = some (.getfield 9, 3, 1, 0, 221, 0) := by decide +kernel
theorem aX1_readCourt_25 : i_at mX1_readCourt.2.2.2.2.2 25 = some (.iconst 1, 1, 0, 0, 0, 0) := by decide +kernel
theorem aX1_readCourt_26 : i_at mX1_readCourt.2.2.2.2.2 26 = some (.bipush 99, 2, 0, 0, 0, 0) := by decide +kernel
theorem aX1_readCourt_28 : i_at mX1_readCourt.2.2.2.2.2 28 = some (.invokevirtual 86, 3, 80, 2, 604, 0) := by decide +kernel
theorem aX1_readCourt_31 : i_at mX1_readCourt.2.2.2.2.2 31 = some (.putfield 93, 3, 5, 2, 161, 0) := by decide +kernel
theorem aX1_readCourt_34 : i_at mX1_readCourt.2.2.2.2.2 34 = some (.aload_n 0, 1, 0, 0, 0, 0) := by decide +kernel
theorem aX1_readCourt_35 : i_at mX1_readCourt.2.2.2.2.2 35 = some (.getfield 15, 3, 1, 1, 222, 0) := by decide +kernel
theorem aX1_readCourt_38 : i_at mX1_readCourt.2.2.2.2.2 38 = some (.iconst 1, 1, 0, 0, 0, 0) := by decide +kernel
theorem aX1_readCourt_39 : i_at mX1_readCourt.2.2.2.2.2 39 = some (.putfield 96, 3, 5, 0, 154, 0) := by decide +kernel
theorem aX1_readCourt_42 : i_at mX1_readCourt.2.2.2.2.2 42 = some (.return_, 1, 0, 0, 0, 0) := by decide +kernel
noncomputable def fX1_readCourt (sh : List kd) (σ : St) : Option (Unit × St) := i_bd (fX9_number sh σ 1 12) (fun r1 s2 => i_bd (fX9_number sh (s_F s2 3 1 r1) 1 99) (fun r4 s5 => some ((), s_F (s_F s5 3 2 r4) 3 0 1)))
set_option maxRecDepth 20000 in
set_option maxHeartbeats 2000000 in
theorem tX1_readCourt {sh : List kd} {σ τ : St} {r : Unit} (hsh : cSh sh) (hE : fX1_readCourt sh σ = some (r, τ)) : i_X 3 9 [.ref 9] (s_h sh σ) 0 0 none (s_h sh τ) := by
  refine g_X (M := mX1_readCourt) (loc := [.ref 9]) rfl (Nat.le_of_ble_eq_true rfl) rfl ?_
  unfold fX1_readCourt at hE
  refine g_ldan aX1_readCourt_0 rfl ?_
  refine g_getR aX1_readCourt_1 (sC_9 hsh) rfl ?_
  refine g_ldan aX1_readCourt_4 rfl ?_
  refine g_getR aX1_readCourt_5 (sC_9 hsh) rfl ?_
  refine g_iconst (x := 1) aX1_readCourt_8 rfl ?_
  refine g_bipush (x := 12) aX1_readCourt_9 rfl ?_
  obtain ⟨r1, s2, h3, hE⟩ := i_bd_some hE
  refine g_calV (As := [.int 1, .int 12]) (rest := [.ref 3]) aX1_readCourt_11 (i_X_mono (by omega) (tX9_number hsh h3)) (sC_1 hsh) (by decide +kernel) rfl rfl (Nat.le_of_ble_eq_true rfl) rfl ?_
  refine g_putI aX1_readCourt_14 ((rShB_3 hsh).1) rfl rfl ?_
  refine g_ldan aX1_readCourt_17 rfl ?_
  refine g_getR aX1_readCourt_18 (sC_9 hsh) rfl ?_
  refine g_ldan aX1_readCourt_21 rfl ?_
  refine g_getR aX1_readCourt_22 (sC_9 hsh) rfl ?_
  refine g_iconst (x := 1) aX1_readCourt_25 rfl ?_
  refine g_bipush (x := 99) aX1_readCourt_26 rfl ?_
  obtain ⟨r4, s5, h6, hE⟩ := i_bd_some hE
  refine g_calV (As := [.int 1, .int 99]) (rest := [.ref 3]) aX1_readCourt_28 (i_X_mono (by omega) (tX9_number hsh h6)) (sC_1 hsh) (by decide +kernel) rfl rfl (Nat.le_of_ble_eq_true rfl) rfl ?_
  refine g_putI aX1_readCourt_31 ((rShB_3 hsh).1) rfl rfl ?_
  refine g_ldan aX1_readCourt_34 rfl ?_
  refine g_getR aX1_readCourt_35 (sC_9 hsh) rfl ?_
  refine g_iconst (x := 1) aX1_readCourt_38 rfl ?_
  refine g_putI aX1_readCourt_39 ((rShB_3 hsh).1) rfl rfl ?_
  obtain ⟨rfl, rfl⟩ := i_some_inj hE
  exact g_vret aX1_readCourt_42 rfl
theorem aX1_readThing_0 : i_at mX1_readThing.2.2.2.2.2 0 = some (.aload_n 0, 1, 0, 0, 0, 0) := by decide +kernel
theorem aX1_readThing_1 : i_at mX1_readThing.2.2.2.2.2 1 = some (.getfield 15, 3, 1, 1, 222, 0) := by decide +kernel
theorem aX1_readThing_4 : i_at mX1_readThing.2.2.2.2.2 4 = some (.getfield 100, 3, 5, 5, 177, 0) := by decide +kernel
theorem aX1_readThing_7 : i_at mX1_readThing.2.2.2.2.2 7 = some (.aload_n 0, 1, 0, 0, 0, 0) := by decide +kernel
theorem aX1_readThing_8 : i_at mX1_readThing.2.2.2.2.2 8 = some (.getfield 15, 3, 1, 1, 222, 0) := by decide +kernel
theorem aX1_readThing_11 : i_at mX1_readThing.2.2.2.2.2 11 = some (.getfield 80, 3, 5, 3, 165, 0) := by decide +kernel
theorem aX1_readThing_14 : i_at mX1_readThing.2.2.2.2.2 14 = some (.aload_n 0, 1, 0, 0, 0, 0) := by decide +kernel
theorem aX1_readThing_15 : i_at mX1_readThing.2.2.2.2.2 15 = some (.getfield 9, 3, 1, 0, 221, 0) := by decide +kernel
theorem aX1_readThing_18 : i_at mX1_readThing.2.2.2.2.2 18 = some (.iconst 0, 1, 0, 0, 0, 0) := by decide +kernel
theorem aX1_readThing_19 : i_at mX1_readThing.2.2.2.2.2 19 = some (.bipush 20, 2, 0, 0, 0, 0) := by decide +kernel
theorem aX1_readThing_21 : i_at mX1_readThing.2.2.2.2.2 21 = some (.invokevirtual 86, 3, 80, 2, 604, 0) := by decide +kernel
theorem aX1_readThing_24 : i_at mX1_readThing.2.2.2.2.2 24 = some (.iastore, 1, 0, 0, 0, 0) := by decide +kernel
theorem aX1_readThing_25 : i_at mX1_readThing.2.2.2.2.2 25 = some (.aload_n 0, 1, 0, 0, 0, 0) := by decide +kernel
theorem aX1_readThing_26 : i_at mX1_readThing.2.2.2.2.2 26 = some (.getfield 15, 3, 1, 1, 222, 0) := by decide +kernel
theorem aX1_readThing_29 : i_at mX1_readThing.2.2.2.2.2 29 = some (.dup, 1, 0, 0, 0, 0) := by decide +kernel
theorem aX1_readThing_30 : i_at mX1_readThing.2.2.2.2.2 30 = some (.getfield 80, 3, 5, 3, 165, 0) := by decide +kernel
theorem aX1_readThing_33 : i_at mX1_readThing.2.2.2.2.2 33 = some (.iconst 1, 1, 0, 0, 0, 0) := by decide +kernel
theorem aX1_readThing_34 : i_at mX1_readThing.2.2.2.2.2 34 = some (.iadd, 1, 0, 0, 0, 0) := by decide +kernel
theorem aX1_readThing_35 : i_at mX1_readThing.2.2.2.2.2 35 = some (.putfield 80, 3, 5, 3, 165, 0) := by decide +kernel
theorem aX1_readThing_38 : i_at mX1_readThing.2.2.2.2.2 38 = some (.return_, 1, 0, 0, 0, 0) := by decide +kernel
noncomputable def fX1_readThing (sh : List kd) (σ : St) : Option (Unit × St) := i_bd (fX9_number sh σ 0 20) (fun r1 s2 => if i_ok (σ.1 3 3) 6 then some ((), s_F (s_A s2 4 (σ.1 3 3).toNatClampNeg r1) 3 3 (((s_A s2 4 (σ.1 3 3).toNatClampNeg r1).1 3 3) + 1)) else none)
set_option maxRecDepth 20000 in
set_option maxHeartbeats 2000000 in
theorem tX1_readThing {sh : List kd} {σ τ : St} {r : Unit} (hsh : cSh sh) (hE : fX1_readThing sh σ = some (r, τ)) : i_X 3 10 [.ref 9] (s_h sh σ) 0 0 none (s_h sh τ) := by
  refine g_X (M := mX1_readThing) (loc := [.ref 9]) rfl (Nat.le_of_ble_eq_true rfl) rfl ?_
  unfold fX1_readThing at hE
  refine g_ldan aX1_readThing_0 rfl ?_
  refine g_getR aX1_readThing_1 (sC_9 hsh) rfl ?_
  refine g_getR aX1_readThing_4 ((rShB_3 hsh).1) rfl ?_
  refine g_ldan aX1_readThing_7 rfl ?_
  refine g_getR aX1_readThing_8 (sC_9 hsh) rfl ?_
  refine g_getI aX1_readThing_11 ((rShB_3 hsh).1) rfl ?_
  refine g_ldan aX1_readThing_14 rfl ?_
  refine g_getR aX1_readThing_15 (sC_9 hsh) rfl ?_
  refine g_iconst (x := 0) aX1_readThing_18 rfl ?_
  refine g_bipush (x := 20) aX1_readThing_19 rfl ?_
  obtain ⟨r1, s2, h3, hE⟩ := i_bd_some hE
  refine g_calV (As := [.int 0, .int 20]) (rest := [.int (σ.1 3 3), .ref 4]) aX1_readThing_21 (i_X_mono (by omega) (tX9_number hsh h3)) (sC_1 hsh) (by decide +kernel) rfl rfl (Nat.le_of_ble_eq_true rfl) rfl ?_
  obtain ⟨h4, hE⟩ := i_ifn hE
  refine g_ist aX1_readThing_24 (sC_4 hsh) h4 ?_
  refine g_ldan aX1_readThing_25 rfl ?_
  refine g_getR aX1_readThing_26 (sC_9 hsh) rfl ?_
  refine g_dupa aX1_readThing_29 ?_
  refine g_getI aX1_readThing_30 ((rShB_3 hsh).1) rfl ?_
  refine g_iconst (x := 1) aX1_readThing_33 rfl ?_
  refine g_iadd aX1_readThing_34 ?_
  refine g_putI aX1_readThing_35 ((rShB_3 hsh).1) rfl rfl ?_
  obtain ⟨rfl, rfl⟩ := i_some_inj hE
  exact g_vret aX1_readThing_38 rfl
theorem aX1_readHolds_0 : i_at mX1_readHolds.2.2.2.2.2 0 = some (.aload_n 0, 1, 0, 0, 0, 0) := by decide +kernel
theorem aX1_readHolds_1 : i_at mX1_readHolds.2.2.2.2.2 1 = some (.getfield 9, 3, 1, 0, 221, 0) := by decide +kernel
theorem aX1_readHolds_4 : i_at mX1_readHolds.2.2.2.2.2 4 = some (.iconst 0, 1, 0, 0, 0, 0) := by decide +kernel
theorem aX1_readHolds_5 : i_at mX1_readHolds.2.2.2.2.2 5 = some (.aload_n 0, 1, 0, 0, 0, 0) := by decide +kernel
theorem aX1_readHolds_6 : i_at mX1_readHolds.2.2.2.2.2 6 = some (.getfield 15, 3, 1, 1, 222, 0) := by decide +kernel
theorem aX1_readHolds_9 : i_at mX1_readHolds.2.2.2.2.2 9 = some (.getfield 90, 3, 5, 1, 157, 0) := by decide +kernel
theorem aX1_readHolds_12 : i_at mX1_readHolds.2.2.2.2.2 12 = some (.iconst 1, 1, 0, 0, 0, 0) := by decide +kernel
theorem aX1_readHolds_13 : i_at mX1_readHolds.2.2.2.2.2 13 = some (.isub, 1, 0, 0, 0, 0) := by decide +kernel
theorem aX1_readHolds_14 : i_at mX1_readHolds.2.2.2.2.2 14 = some (.invokevirtual 86, 3, 80, 2, 604, 0) := by decide +kernel
theorem aX1_readHolds_17 : i_at mX1_readHolds.2.2.2.2.2 17 = some (.istore_n 1, 1, 0, 0, 0, 0) := by decide +kernel
theorem aX1_readHolds_18 : i_at mX1_readHolds.2.2.2.2.2 18 = some (.aload_n 0, 1, 0, 0, 0, 0) := by decide +kernel
theorem aX1_readHolds_19 : i_at mX1_readHolds.2.2.2.2.2 19 = some (.getfield 9, 3, 1, 0, 221, 0) := by decide +kernel
theorem aX1_readHolds_22 : i_at mX1_readHolds.2.2.2.2.2 22 = some (.iconst 0, 1, 0, 0, 0, 0) := by decide +kernel
theorem aX1_readHolds_23 : i_at mX1_readHolds.2.2.2.2.2 23 = some (.aload_n 0, 1, 0, 0, 0, 0) := by decide +kernel
theorem aX1_readHolds_24 : i_at mX1_readHolds.2.2.2.2.2 24 = some (.getfield 15, 3, 1, 1, 222, 0) := by decide +kernel
theorem aX1_readHolds_27 : i_at mX1_readHolds.2.2.2.2.2 27 = some (.getfield 80, 3, 5, 3, 165, 0) := by decide +kernel
theorem aX1_readHolds_30 : i_at mX1_readHolds.2.2.2.2.2 30 = some (.iconst 1, 1, 0, 0, 0, 0) := by decide +kernel
theorem aX1_readHolds_31 : i_at mX1_readHolds.2.2.2.2.2 31 = some (.isub, 1, 0, 0, 0, 0) := by decide +kernel
theorem aX1_readHolds_32 : i_at mX1_readHolds.2.2.2.2.2 32 = some (.invokevirtual 86, 3, 80, 2, 604, 0) := by decide +kernel
theorem aX1_readHolds_35 : i_at mX1_readHolds.2.2.2.2.2 35 = some (.istore_n 2, 1, 0, 0, 0, 0) := by decide +kernel
theorem aX1_readHolds_36 : i_at mX1_readHolds.2.2.2.2.2 36 = some (.aload_n 0, 1, 0, 0, 0, 0) := by decide +kernel
theorem aX1_readHolds_37 : i_at mX1_readHolds.2.2.2.2.2 37 = some (.getfield 9, 3, 1, 0, 221, 0) := by decide +kernel
theorem aX1_readHolds_40 : i_at mX1_readHolds.2.2.2.2.2 40 = some (.getfield 33, 3, 8, 3, 134, 0) := by decide +kernel
theorem aX1_readHolds_43 : i_at mX1_readHolds.2.2.2.2.2 43 = some (.ifCond .ne 13, 3, 56, 0, 0, 0) := by decide +kernel
theorem aX1_readHolds_46 : i_at mX1_readHolds.2.2.2.2.2 46 = some (.aload_n 0, 1, 0, 0, 0, 0) := by decide +kernel
theorem aX1_readHolds_47 : i_at mX1_readHolds.2.2.2.2.2 47 = some (.getfield 15, 3, 1, 1, 222, 0) := by decide +kernel
theorem aX1_readHolds_50 : i_at mX1_readHolds.2.2.2.2.2 50 = some (.getfield 104, 3, 5, 7, 185, 0) := by decide +kernel
theorem aX1_readHolds_53 : i_at mX1_readHolds.2.2.2.2.2 53 = some (.iload_n 1, 1, 0, 0, 0, 0) := by decide +kernel
theorem aX1_readHolds_54 : i_at mX1_readHolds.2.2.2.2.2 54 = some (.iload_n 2, 1, 0, 0, 0, 0) := by decide +kernel
theorem aX1_readHolds_55 : i_at mX1_readHolds.2.2.2.2.2 55 = some (.iastore, 1, 0, 0, 0, 0) := by decide +kernel
theorem aX1_readHolds_56 : i_at mX1_readHolds.2.2.2.2.2 56 = some (.return_, 1, 0, 0, 0, 0) := by decide +kernel
noncomputable def fX1_readHolds_J56 (sh : List kd) (r1 : Int32) (r4 : Int32) (s57 : St) : Option (Unit × St) := some ((), s57)
noncomputable def fX1_readHolds (sh : List kd) (σ : St) : Option (Unit × St) := i_bd (fX9_number sh σ 0 ((σ.1 3 1) - 1)) (fun r1 s2 => i_bd (fX9_number sh s2 0 ((s2.1 3 3) - 1)) (fun r4 s5 => if ¬ (s5.1 1 3) = 0 then fX1_readHolds_J56 sh r1 r4 s5 else if i_ok r1 12 then fX1_readHolds_J56 sh r1 r4 (s_A s5 6 r1.toNatClampNeg r4) else none))
set_option maxRecDepth 20000 in
set_option maxHeartbeats 2000000 in
theorem tX1_readHolds_J56 {sh : List kd} {τ : St} {r : Unit} (hsh : cSh sh) {r1 : Int32} {r4 : Int32} {s57 : St} (hE : fX1_readHolds_J56 sh r1 r4 s57 = some (r, τ)) : g_R sh 2 mX1_readHolds none τ 56 [.ref 9, .int r1, .int r4] [] (s57) := by
  unfold fX1_readHolds_J56 at hE
  obtain ⟨rfl, rfl⟩ := i_some_inj hE
  exact g_vret aX1_readHolds_56 rfl
set_option maxRecDepth 20000 in
set_option maxHeartbeats 2000000 in
theorem tX1_readHolds {sh : List kd} {σ τ : St} {r : Unit} (hsh : cSh sh) (hE : fX1_readHolds sh σ = some (r, τ)) : i_X 3 11 [.ref 9] (s_h sh σ) 0 0 none (s_h sh τ) := by
  refine g_X (M := mX1_readHolds) (loc := [.ref 9, .retAddr 0, .retAddr 0]) rfl (Nat.le_of_ble_eq_true rfl) rfl ?_
  unfold fX1_readHolds at hE
  refine g_ldan aX1_readHolds_0 rfl ?_
  refine g_getR aX1_readHolds_1 (sC_9 hsh) rfl ?_
  refine g_iconst (x := 0) aX1_readHolds_4 rfl ?_
  refine g_ldan aX1_readHolds_5 rfl ?_
  refine g_getR aX1_readHolds_6 (sC_9 hsh) rfl ?_
  refine g_getI aX1_readHolds_9 ((rShB_3 hsh).1) rfl ?_
  refine g_iconst (x := 1) aX1_readHolds_12 rfl ?_
  refine g_isub aX1_readHolds_13 ?_
  obtain ⟨r1, s2, h3, hE⟩ := i_bd_some hE
  refine g_calV (As := [.int 0, .int ((σ.1 3 1) - 1)]) (rest := []) aX1_readHolds_14 (i_X_mono (by omega) (tX9_number hsh h3)) (sC_1 hsh) (by decide +kernel) rfl rfl (Nat.le_of_ble_eq_true rfl) rfl ?_
  refine g_stin (loc2 := [.ref 9, .int r1, .retAddr 0]) aX1_readHolds_17 (Nat.le_of_ble_eq_true rfl) rfl ?_
  refine g_ldan aX1_readHolds_18 rfl ?_
  refine g_getR aX1_readHolds_19 (sC_9 hsh) rfl ?_
  refine g_iconst (x := 0) aX1_readHolds_22 rfl ?_
  refine g_ldan aX1_readHolds_23 rfl ?_
  refine g_getR aX1_readHolds_24 (sC_9 hsh) rfl ?_
  refine g_getI aX1_readHolds_27 ((rShB_3 hsh).1) rfl ?_
  refine g_iconst (x := 1) aX1_readHolds_30 rfl ?_
  refine g_isub aX1_readHolds_31 ?_
  obtain ⟨r4, s5, h6, hE⟩ := i_bd_some hE
  refine g_calV (As := [.int 0, .int ((s2.1 3 3) - 1)]) (rest := []) aX1_readHolds_32 (i_X_mono (by omega) (tX9_number hsh h6)) (sC_1 hsh) (by decide +kernel) rfl rfl (Nat.le_of_ble_eq_true rfl) rfl ?_
  refine g_stin (loc2 := [.ref 9, .int r1, .int r4]) aX1_readHolds_35 (Nat.le_of_ble_eq_true rfl) rfl ?_
  refine g_ldan aX1_readHolds_36 rfl ?_
  refine g_getR aX1_readHolds_37 (sC_9 hsh) rfl ?_
  refine g_getI aX1_readHolds_40 (sC_1 hsh) rfl ?_
  by_cases hc58 : ¬ (s5.1 1 3) = 0
  · rw [if_pos hc58] at hE
    refine g_if_ne_t aX1_readHolds_43 hc58 ?_
    exact tX1_readHolds_J56 hsh hE
  · rw [if_neg hc58] at hE
    refine g_if_ne_f aX1_readHolds_43 hc58 ?_
    refine g_ldan aX1_readHolds_46 rfl ?_
    refine g_getR aX1_readHolds_47 (sC_9 hsh) rfl ?_
    refine g_getR aX1_readHolds_50 ((rShB_3 hsh).1) rfl ?_
    refine g_ldin aX1_readHolds_53 rfl ?_
    refine g_ldin aX1_readHolds_54 rfl ?_
    obtain ⟨h59, hE⟩ := i_ifn hE
    refine g_ist aX1_readHolds_55 (sC_6 hsh) h59 ?_
    exact tX1_readHolds_J56 hsh hE
theorem aX1_readPerson_0 : i_at mX1_readPerson.2.2.2.2.2 0 = some (.aload_n 0, 1, 0, 0, 0, 0) := by decide +kernel
theorem aX1_readPerson_1 : i_at mX1_readPerson.2.2.2.2.2 1 = some (.getfield 15, 3, 1, 1, 222, 0) := by decide +kernel
theorem aX1_readPerson_4 : i_at mX1_readPerson.2.2.2.2.2 4 = some (.getfield 107, 3, 5, 8, 189, 0) := by decide +kernel
theorem aX1_readPerson_7 : i_at mX1_readPerson.2.2.2.2.2 7 = some (.aload_n 0, 1, 0, 0, 0, 0) := by decide +kernel
theorem aX1_readPerson_8 : i_at mX1_readPerson.2.2.2.2.2 8 = some (.getfield 15, 3, 1, 1, 222, 0) := by decide +kernel
theorem aX1_readPerson_11 : i_at mX1_readPerson.2.2.2.2.2 11 = some (.getfield 83, 3, 5, 4, 172, 0) := by decide +kernel
theorem aX1_readPerson_14 : i_at mX1_readPerson.2.2.2.2.2 14 = some (.aload_n 0, 1, 0, 0, 0, 0) := by decide +kernel
theorem aX1_readPerson_15 : i_at mX1_readPerson.2.2.2.2.2 15 = some (.getfield 9, 3, 1, 0, 221, 0) := by decide +kernel
theorem aX1_readPerson_18 : i_at mX1_readPerson.2.2.2.2.2 18 = some (.iconst 0, 1, 0, 0, 0, 0) := by decide +kernel
theorem aX1_readPerson_19 : i_at mX1_readPerson.2.2.2.2.2 19 = some (.bipush 99, 2, 0, 0, 0, 0) := by decide +kernel
theorem aX1_readPerson_21 : i_at mX1_readPerson.2.2.2.2.2 21 = some (.invokevirtual 86, 3, 80, 2, 604, 0) := by decide +kernel
theorem aX1_readPerson_24 : i_at mX1_readPerson.2.2.2.2.2 24 = some (.iastore, 1, 0, 0, 0, 0) := by decide +kernel
theorem aX1_readPerson_25 : i_at mX1_readPerson.2.2.2.2.2 25 = some (.aload_n 0, 1, 0, 0, 0, 0) := by decide +kernel
theorem aX1_readPerson_26 : i_at mX1_readPerson.2.2.2.2.2 26 = some (.getfield 15, 3, 1, 1, 222, 0) := by decide +kernel
theorem aX1_readPerson_29 : i_at mX1_readPerson.2.2.2.2.2 29 = some (.getfield 110, 3, 5, 9, 192, 0) := by decide +kernel
theorem aX1_readPerson_32 : i_at mX1_readPerson.2.2.2.2.2 32 = some (.aload_n 0, 1, 0, 0, 0, 0) := by decide +kernel
theorem aX1_readPerson_33 : i_at mX1_readPerson.2.2.2.2.2 33 = some (.getfield 15, 3, 1, 1, 222, 0) := by decide +kernel
theorem aX1_readPerson_36 : i_at mX1_readPerson.2.2.2.2.2 36 = some (.getfield 83, 3, 5, 4, 172, 0) := by decide +kernel
theorem aX1_readPerson_39 : i_at mX1_readPerson.2.2.2.2.2 39 = some (.aload_n 0, 1, 0, 0, 0, 0) := by decide +kernel
theorem aX1_readPerson_40 : i_at mX1_readPerson.2.2.2.2.2 40 = some (.getfield 9, 3, 1, 0, 221, 0) := by decide +kernel
theorem aX1_readPerson_43 : i_at mX1_readPerson.2.2.2.2.2 43 = some (.iconst 0, 1, 0, 0, 0, 0) := by decide +kernel
theorem aX1_readPerson_44 : i_at mX1_readPerson.2.2.2.2.2 44 = some (.bipush 9, 2, 0, 0, 0, 0) := by decide +kernel
theorem aX1_readPerson_46 : i_at mX1_readPerson.2.2.2.2.2 46 = some (.invokevirtual 86, 3, 80, 2, 604, 0) := by decide +kernel
theorem aX1_readPerson_49 : i_at mX1_readPerson.2.2.2.2.2 49 = some (.iastore, 1, 0, 0, 0, 0) := by decide +kernel
theorem aX1_readPerson_50 : i_at mX1_readPerson.2.2.2.2.2 50 = some (.aload_n 0, 1, 0, 0, 0, 0) := by decide +kernel
theorem aX1_readPerson_51 : i_at mX1_readPerson.2.2.2.2.2 51 = some (.getfield 15, 3, 1, 1, 222, 0) := by decide +kernel
theorem aX1_readPerson_54 : i_at mX1_readPerson.2.2.2.2.2 54 = some (.dup, 1, 0, 0, 0, 0) := by decide +kernel
theorem aX1_readPerson_55 : i_at mX1_readPerson.2.2.2.2.2 55 = some (.getfield 83, 3, 5, 4, 172, 0) := by decide +kernel
theorem aX1_readPerson_58 : i_at mX1_readPerson.2.2.2.2.2 58 = some (.iconst 1, 1, 0, 0, 0, 0) := by decide +kernel
theorem aX1_readPerson_59 : i_at mX1_readPerson.2.2.2.2.2 59 = some (.iadd, 1, 0, 0, 0, 0) := by decide +kernel
theorem aX1_readPerson_60 : i_at mX1_readPerson.2.2.2.2.2 60 = some (.putfield 83, 3, 5, 4, 172, 0) := by decide +kernel
theorem aX1_readPerson_63 : i_at mX1_readPerson.2.2.2.2.2 63 = some (.return_, 1, 0, 0, 0, 0) := by decide +kernel
noncomputable def fX1_readPerson (sh : List kd) (σ : St) : Option (Unit × St) := i_bd (fX9_number sh σ 0 99) (fun r1 s2 => if i_ok (σ.1 3 4) 6 then i_bd (fX9_number sh (s_A s2 7 (σ.1 3 4).toNatClampNeg r1) 0 9) (fun r5 s6 => if i_ok ((s_A s2 7 (σ.1 3 4).toNatClampNeg r1).1 3 4) 6 then i_jp (s_F (s_A s6 8 ((s_A s2 7 (σ.1 3 4).toNatClampNeg r1).1 3 4).toNatClampNeg r5) 3 4 (((s_A s6 8 ((s_A s2 7 (σ.1 3 4).toNatClampNeg r1).1 3 4).toNatClampNeg r5).1 3 4) + 1)) (fun (s9 : St) => some ((), s9)) else none) else none)
set_option maxRecDepth 20000 in
set_option maxHeartbeats 2000000 in
theorem tX1_readPerson {sh : List kd} {σ τ : St} {r : Unit} (hsh : cSh sh) (hE : fX1_readPerson sh σ = some (r, τ)) : i_X 3 12 [.ref 9] (s_h sh σ) 0 0 none (s_h sh τ) := by
  refine g_X (M := mX1_readPerson) (loc := [.ref 9]) rfl (Nat.le_of_ble_eq_true rfl) rfl ?_
  unfold fX1_readPerson at hE
  refine g_ldan aX1_readPerson_0 rfl ?_
  refine g_getR aX1_readPerson_1 (sC_9 hsh) rfl ?_
  refine g_getR aX1_readPerson_4 ((rShB_3 hsh).1) rfl ?_
  refine g_ldan aX1_readPerson_7 rfl ?_
  refine g_getR aX1_readPerson_8 (sC_9 hsh) rfl ?_
  refine g_getI aX1_readPerson_11 ((rShB_3 hsh).1) rfl ?_
  refine g_ldan aX1_readPerson_14 rfl ?_
  refine g_getR aX1_readPerson_15 (sC_9 hsh) rfl ?_
  refine g_iconst (x := 0) aX1_readPerson_18 rfl ?_
  refine g_bipush (x := 99) aX1_readPerson_19 rfl ?_
  obtain ⟨r1, s2, h3, hE⟩ := i_bd_some hE
  refine g_calV (As := [.int 0, .int 99]) (rest := [.int (σ.1 3 4), .ref 7]) aX1_readPerson_21 (i_X_mono (by omega) (tX9_number hsh h3)) (sC_1 hsh) (by decide +kernel) rfl rfl (Nat.le_of_ble_eq_true rfl) rfl ?_
  obtain ⟨h4, hE⟩ := i_ifn hE
  refine g_ist aX1_readPerson_24 (sC_7 hsh) h4 ?_
  refine g_ldan aX1_readPerson_25 rfl ?_
  refine g_getR aX1_readPerson_26 (sC_9 hsh) rfl ?_
  refine g_getR aX1_readPerson_29 ((rShB_3 hsh).1) rfl ?_
  refine g_ldan aX1_readPerson_32 rfl ?_
  refine g_getR aX1_readPerson_33 (sC_9 hsh) rfl ?_
  refine g_getI aX1_readPerson_36 ((rShB_3 hsh).1) rfl ?_
  refine g_ldan aX1_readPerson_39 rfl ?_
  refine g_getR aX1_readPerson_40 (sC_9 hsh) rfl ?_
  refine g_iconst (x := 0) aX1_readPerson_43 rfl ?_
  refine g_bipush (x := 9) aX1_readPerson_44 rfl ?_
  obtain ⟨r5, s6, h7, hE⟩ := i_bd_some hE
  refine g_calV (As := [.int 0, .int 9]) (rest := [.int ((s_A s2 7 (σ.1 3 4).toNatClampNeg r1).1 3 4), .ref 8]) aX1_readPerson_46 (i_X_mono (by omega) (tX9_number hsh h7)) (sC_1 hsh) (by decide +kernel) rfl rfl (Nat.le_of_ble_eq_true rfl) rfl ?_
  obtain ⟨h8, hE⟩ := i_ifn hE
  refine g_ist aX1_readPerson_49 (sC_8 hsh) h8 ?_
  refine g_ldan aX1_readPerson_50 rfl ?_
  refine g_getR aX1_readPerson_51 (sC_9 hsh) rfl ?_
  refine g_dupa aX1_readPerson_54 ?_
  refine g_getI aX1_readPerson_55 ((rShB_3 hsh).1) rfl ?_
  refine g_iconst (x := 1) aX1_readPerson_58 rfl ?_
  refine g_iadd aX1_readPerson_59 ?_
  refine g_putI aX1_readPerson_60 ((rShB_3 hsh).1) rfl rfl ?_
  obtain ⟨s9, h10, hE⟩ := i_jp_some hE
  rw [← h10]
  obtain ⟨rfl, rfl⟩ := i_some_inj hE
  exact g_vret aX1_readPerson_63 rfl
theorem aX1_readQuarrel_0 : i_at mX1_readQuarrel.2.2.2.2.2 0 = some (.aload_n 0, 1, 0, 0, 0, 0) := by decide +kernel
theorem aX1_readQuarrel_1 : i_at mX1_readQuarrel.2.2.2.2.2 1 = some (.getfield 9, 3, 1, 0, 221, 0) := by decide +kernel
theorem aX1_readQuarrel_4 : i_at mX1_readQuarrel.2.2.2.2.2 4 = some (.iconst 0, 1, 0, 0, 0, 0) := by decide +kernel
theorem aX1_readQuarrel_5 : i_at mX1_readQuarrel.2.2.2.2.2 5 = some (.aload_n 0, 1, 0, 0, 0, 0) := by decide +kernel
theorem aX1_readQuarrel_6 : i_at mX1_readQuarrel.2.2.2.2.2 6 = some (.getfield 15, 3, 1, 1, 222, 0) := by decide +kernel
theorem aX1_readQuarrel_9 : i_at mX1_readQuarrel.2.2.2.2.2 9 = some (.getfield 80, 3, 5, 3, 165, 0) := by decide +kernel
theorem aX1_readQuarrel_12 : i_at mX1_readQuarrel.2.2.2.2.2 12 = some (.iconst 1, 1, 0, 0, 0, 0) := by decide +kernel
theorem aX1_readQuarrel_13 : i_at mX1_readQuarrel.2.2.2.2.2 13 = some (.isub, 1, 0, 0, 0, 0) := by decide +kernel
theorem aX1_readQuarrel_14 : i_at mX1_readQuarrel.2.2.2.2.2 14 = some (.invokevirtual 86, 3, 80, 2, 604, 0) := by decide +kernel
theorem aX1_readQuarrel_17 : i_at mX1_readQuarrel.2.2.2.2.2 17 = some (.istore_n 1, 1, 0, 0, 0, 0) := by decide +kernel
theorem aX1_readQuarrel_18 : i_at mX1_readQuarrel.2.2.2.2.2 18 = some (.aload_n 0, 1, 0, 0, 0, 0) := by decide +kernel
theorem aX1_readQuarrel_19 : i_at mX1_readQuarrel.2.2.2.2.2 19 = some (.getfield 9, 3, 1, 0, 221, 0) := by decide +kernel
theorem aX1_readQuarrel_22 : i_at mX1_readQuarrel.2.2.2.2.2 22 = some (.invokevirtual 37, 3, 78, 0, 625, 0) := by decide +kernel
theorem aX1_readQuarrel_25 : i_at mX1_readQuarrel.2.2.2.2.2 25 = some (.pop, 1, 0, 0, 0, 0) := by decide +kernel
theorem aX1_readQuarrel_26 : i_at mX1_readQuarrel.2.2.2.2.2 26 = some (.aload_n 0, 1, 0, 0, 0, 0) := by decide +kernel
theorem aX1_readQuarrel_27 : i_at mX1_readQuarrel.2.2.2.2.2 27 = some (.getfield 9, 3, 1, 0, 221, 0) := by decide +kernel
theorem aX1_readQuarrel_30 : i_at mX1_readQuarrel.2.2.2.2.2 30 = some (.getfield 45, 3, 8, 2, 131, 0) := by decide +kernel
theorem aX1_readQuarrel_33 : i_at mX1_readQuarrel.2.2.2.2.2 33 = some (.istore_n 2, 1, 0, 0, 0, 0) := by decide +kernel
theorem aX1_readQuarrel_34 : i_at mX1_readQuarrel.2.2.2.2.2 34 = some (.aload_n 0, 1, 0, 0, 0, 0) := by decide +kernel
theorem aX1_readQuarrel_35 : i_at mX1_readQuarrel.2.2.2.2.2 35 = some (.getfield 9, 3, 1, 0, 221, 0) := by decide +kernel
theorem aX1_readQuarrel_38 : i_at mX1_readQuarrel.2.2.2.2.2 38 = some (.iconst 0, 1, 0, 0, 0, 0) := by decide +kernel
theorem aX1_readQuarrel_39 : i_at mX1_readQuarrel.2.2.2.2.2 39 = some (.aload_n 0, 1, 0, 0, 0, 0) := by decide +kernel
theorem aX1_readQuarrel_40 : i_at mX1_readQuarrel.2.2.2.2.2 40 = some (.getfield 15, 3, 1, 1, 222, 0) := by decide +kernel
theorem aX1_readQuarrel_43 : i_at mX1_readQuarrel.2.2.2.2.2 43 = some (.getfield 80, 3, 5, 3, 165, 0) := by decide +kernel
theorem aX1_readQuarrel_46 : i_at mX1_readQuarrel.2.2.2.2.2 46 = some (.iconst 1, 1, 0, 0, 0, 0) := by decide +kernel
theorem aX1_readQuarrel_47 : i_at mX1_readQuarrel.2.2.2.2.2 47 = some (.isub, 1, 0, 0, 0, 0) := by decide +kernel
theorem aX1_readQuarrel_48 : i_at mX1_readQuarrel.2.2.2.2.2 48 = some (.invokevirtual 86, 3, 80, 2, 604, 0) := by decide +kernel
theorem aX1_readQuarrel_51 : i_at mX1_readQuarrel.2.2.2.2.2 51 = some (.istore_n 3, 1, 0, 0, 0, 0) := by decide +kernel
theorem aX1_readQuarrel_52 : i_at mX1_readQuarrel.2.2.2.2.2 52 = some (.iload_n 1, 1, 0, 0, 0, 0) := by decide +kernel
theorem aX1_readQuarrel_53 : i_at mX1_readQuarrel.2.2.2.2.2 53 = some (.iload_n 3, 1, 0, 0, 0, 0) := by decide +kernel
theorem aX1_readQuarrel_54 : i_at mX1_readQuarrel.2.2.2.2.2 54 = some (.if_icmp .ne 12, 3, 66, 0, 0, 0) := by decide +kernel
theorem aX1_readQuarrel_57 : i_at mX1_readQuarrel.2.2.2.2.2 57 = some (.aload_n 0, 1, 0, 0, 0, 0) := by decide +kernel
theorem aX1_readQuarrel_58 : i_at mX1_readQuarrel.2.2.2.2.2 58 = some (.getfield 9, 3, 1, 0, 221, 0) := by decide +kernel
theorem aX1_readQuarrel_61 : i_at mX1_readQuarrel.2.2.2.2.2 61 = some (.iload_n 2, 1, 0, 0, 0, 0) := by decide +kernel
theorem aX1_readQuarrel_62 : i_at mX1_readQuarrel.2.2.2.2.2 62 = some (.iconst 1, 1, 0, 0, 0, 0) := by decide +kernel
theorem aX1_readQuarrel_63 : i_at mX1_readQuarrel.2.2.2.2.2 63 = some (.invokevirtual 48, 3, 77, 2, 588, 0) := by decide +kernel
theorem aX1_readQuarrel_66 : i_at mX1_readQuarrel.2.2.2.2.2 66 = some (.aload_n 0, 1, 0, 0, 0, 0) := by decide +kernel
theorem aX1_readQuarrel_67 : i_at mX1_readQuarrel.2.2.2.2.2 67 = some (.getfield 9, 3, 1, 0, 221, 0) := by decide +kernel
theorem aX1_readQuarrel_70 : i_at mX1_readQuarrel.2.2.2.2.2 70 = some (.getfield 33, 3, 8, 3, 134, 0) := by decide +kernel
theorem aX1_readQuarrel_73 : i_at mX1_readQuarrel.2.2.2.2.2 73 = some (.ifCond .ne 33, 3, 106, 0, 0, 0) := by decide +kernel
theorem aX1_readQuarrel_76 : i_at mX1_readQuarrel.2.2.2.2.2 76 = some (.aload_n 0, 1, 0, 0, 0, 0) := by decide +kernel
theorem aX1_readQuarrel_77 : i_at mX1_readQuarrel.2.2.2.2.2 77 = some (.getfield 15, 3, 1, 1, 222, 0) := by decide +kernel
theorem aX1_readQuarrel_80 : i_at mX1_readQuarrel.2.2.2.2.2 80 = some (.getfield 113, 3, 5, 6, 182, 0) := by decide +kernel
theorem aX1_readQuarrel_83 : i_at mX1_readQuarrel.2.2.2.2.2 83 = some (.iload_n 1, 1, 0, 0, 0, 0) := by decide +kernel
theorem aX1_readQuarrel_84 : i_at mX1_readQuarrel.2.2.2.2.2 84 = some (.dup2, 1, 0, 0, 0, 0) := by decide +kernel
theorem aX1_readQuarrel_85 : i_at mX1_readQuarrel.2.2.2.2.2 85 = some (.iaload, 1, 0, 0, 0, 0) := by decide +kernel
theorem aX1_readQuarrel_86 : i_at mX1_readQuarrel.2.2.2.2.2 86 = some (.iconst 1, 1, 0, 0, 0, 0) := by decide +kernel
theorem aX1_readQuarrel_87 : i_at mX1_readQuarrel.2.2.2.2.2 87 = some (.iload_n 3, 1, 0, 0, 0, 0) := by decide +kernel
theorem aX1_readQuarrel_88 : i_at mX1_readQuarrel.2.2.2.2.2 88 = some (.ishl, 1, 0, 0, 0, 0) := by decide +kernel
theorem aX1_readQuarrel_89 : i_at mX1_readQuarrel.2.2.2.2.2 89 = some (.ior, 1, 0, 0, 0, 0) := by decide +kernel
theorem aX1_readQuarrel_90 : i_at mX1_readQuarrel.2.2.2.2.2 90 = some (.iastore, 1, 0, 0, 0, 0) := by decide +kernel
theorem aX1_readQuarrel_91 : i_at mX1_readQuarrel.2.2.2.2.2 91 = some (.aload_n 0, 1, 0, 0, 0, 0) := by decide +kernel
theorem aX1_readQuarrel_92 : i_at mX1_readQuarrel.2.2.2.2.2 92 = some (.getfield 15, 3, 1, 1, 222, 0) := by decide +kernel
theorem aX1_readQuarrel_95 : i_at mX1_readQuarrel.2.2.2.2.2 95 = some (.getfield 113, 3, 5, 6, 182, 0) := by decide +kernel
theorem aX1_readQuarrel_98 : i_at mX1_readQuarrel.2.2.2.2.2 98 = some (.iload_n 3, 1, 0, 0, 0, 0) := by decide +kernel
theorem aX1_readQuarrel_99 : i_at mX1_readQuarrel.2.2.2.2.2 99 = some (.dup2, 1, 0, 0, 0, 0) := by decide +kernel
theorem aX1_readQuarrel_100 : i_at mX1_readQuarrel.2.2.2.2.2 100 = some (.iaload, 1, 0, 0, 0, 0) := by decide +kernel
theorem aX1_readQuarrel_101 : i_at mX1_readQuarrel.2.2.2.2.2 101 = some (.iconst 1, 1, 0, 0, 0, 0) := by decide +kernel
theorem aX1_readQuarrel_102 : i_at mX1_readQuarrel.2.2.2.2.2 102 = some (.iload_n 1, 1, 0, 0, 0, 0) := by decide +kernel
theorem aX1_readQuarrel_103 : i_at mX1_readQuarrel.2.2.2.2.2 103 = some (.ishl, 1, 0, 0, 0, 0) := by decide +kernel
theorem aX1_readQuarrel_104 : i_at mX1_readQuarrel.2.2.2.2.2 104 = some (.ior, 1, 0, 0, 0, 0) := by decide +kernel
theorem aX1_readQuarrel_105 : i_at mX1_readQuarrel.2.2.2.2.2 105 = some (.iastore, 1, 0, 0, 0, 0) := by decide +kernel
theorem aX1_readQuarrel_106 : i_at mX1_readQuarrel.2.2.2.2.2 106 = some (.return_, 1, 0, 0, 0, 0) := by decide +kernel
noncomputable def fX1_readQuarrel_J106 (sh : List kd) (r1 : Int32) (s5 : St) (r7 : Int32) (s111 : St) : Option (Unit × St) := some ((), s111)
noncomputable def fX1_readQuarrel_J66 (sh : List kd) (r1 : Int32) (s5 : St) (r7 : Int32) (s60 : St) : Option (Unit × St) := if ¬ (s60.1 1 3) = 0 then fX1_readQuarrel_J106 sh r1 s5 r7 s60 else if i_ok r1 6 then if i_ok r1 6 then if i_ok r7 6 then if i_ok r7 6 then i_jp (s_A (s_A s60 5 r1.toNatClampNeg ((s60.2.1 5 r1.toNatClampNeg) ||| (1 <<< (r7 &&& 31)))) 5 r7.toNatClampNeg (((s_A s60 5 r1.toNatClampNeg ((s60.2.1 5 r1.toNatClampNeg) ||| (1 <<< (r7 &&& 31)))).2.1 5 r7.toNatClampNeg) ||| (1 <<< (r1 &&& 31)))) (fun (s117 : St) => fX1_readQuarrel_J106 sh r1 s5 r7 s117) else none else none else none else none
noncomputable def fX1_readQuarrel (sh : List kd) (σ : St) : Option (Unit × St) := i_bd (fX9_number sh σ 0 ((σ.1 3 3) - 1)) (fun r1 s2 => i_bd (fX9_sign sh s2) (fun r4 s5 => i_bd (fX9_number sh s5 0 ((s5.1 3 3) - 1)) (fun r7 s8 => if ¬ r1 = r7 then fX1_readQuarrel_J66 sh r1 s5 r7 s8 else i_bd (fX9_refuse sh s8 (s5.1 1 2) 1) (fun r120 s121 => fX1_readQuarrel_J66 sh r1 s5 r7 s121))))
set_option maxRecDepth 20000 in
set_option maxHeartbeats 2000000 in
theorem tX1_readQuarrel_J106 {sh : List kd} {τ : St} {r : Unit} (hsh : cSh sh) {r1 : Int32} {s5 : St} {r7 : Int32} {s111 : St} (hE : fX1_readQuarrel_J106 sh r1 s5 r7 s111 = some (r, τ)) : g_R sh 2 mX1_readQuarrel none τ 106 [.ref 9, .int r1, .int (s5.1 1 2), .int r7] [] (s111) := by
  unfold fX1_readQuarrel_J106 at hE
  obtain ⟨rfl, rfl⟩ := i_some_inj hE
  exact g_vret aX1_readQuarrel_106 rfl
set_option maxRecDepth 20000 in
set_option maxHeartbeats 2000000 in
theorem tX1_readQuarrel_J66 {sh : List kd} {τ : St} {r : Unit} (hsh : cSh sh) {r1 : Int32} {s5 : St} {r7 : Int32} {s60 : St} (hE : fX1_readQuarrel_J66 sh r1 s5 r7 s60 = some (r, τ)) : g_R sh 2 mX1_readQuarrel none τ 66 [.ref 9, .int r1, .int (s5.1 1 2), .int r7] [] (s60) := by
  unfold fX1_readQuarrel_J66 at hE
  refine g_ldan aX1_readQuarrel_66 rfl ?_
  refine g_getR aX1_readQuarrel_67 (sC_9 hsh) rfl ?_
  refine g_getI aX1_readQuarrel_70 (sC_1 hsh) rfl ?_
  by_cases hc112 : ¬ (s60.1 1 3) = 0
  · rw [if_pos hc112] at hE
    refine g_if_ne_t aX1_readQuarrel_73 hc112 ?_
    exact tX1_readQuarrel_J106 hsh hE
  · rw [if_neg hc112] at hE
    refine g_if_ne_f aX1_readQuarrel_73 hc112 ?_
    refine g_ldan aX1_readQuarrel_76 rfl ?_
    refine g_getR aX1_readQuarrel_77 (sC_9 hsh) rfl ?_
    refine g_getR aX1_readQuarrel_80 ((rShB_3 hsh).1) rfl ?_
    refine g_ldin aX1_readQuarrel_83 rfl ?_
    refine g_dup2 aX1_readQuarrel_84 ?_
    obtain ⟨h113, hE⟩ := i_ifn hE
    refine g_ild aX1_readQuarrel_85 (sC_5 hsh) h113 ?_
    refine g_iconst (x := 1) aX1_readQuarrel_86 rfl ?_
    refine g_ldin aX1_readQuarrel_87 rfl ?_
    refine g_ishl aX1_readQuarrel_88 ?_
    refine g_ior aX1_readQuarrel_89 ?_
    obtain ⟨h114, hE⟩ := i_ifn hE
    refine g_ist aX1_readQuarrel_90 (sC_5 hsh) h114 ?_
    refine g_ldan aX1_readQuarrel_91 rfl ?_
    refine g_getR aX1_readQuarrel_92 (sC_9 hsh) rfl ?_
    refine g_getR aX1_readQuarrel_95 ((rShB_3 hsh).1) rfl ?_
    refine g_ldin aX1_readQuarrel_98 rfl ?_
    refine g_dup2 aX1_readQuarrel_99 ?_
    obtain ⟨h115, hE⟩ := i_ifn hE
    refine g_ild aX1_readQuarrel_100 (sC_5 hsh) h115 ?_
    refine g_iconst (x := 1) aX1_readQuarrel_101 rfl ?_
    refine g_ldin aX1_readQuarrel_102 rfl ?_
    refine g_ishl aX1_readQuarrel_103 ?_
    refine g_ior aX1_readQuarrel_104 ?_
    obtain ⟨h116, hE⟩ := i_ifn hE
    refine g_ist aX1_readQuarrel_105 (sC_5 hsh) h116 ?_
    obtain ⟨s117, h118, hE⟩ := i_jp_some hE
    rw [← h118]
    exact tX1_readQuarrel_J106 hsh hE
set_option maxRecDepth 20000 in
set_option maxHeartbeats 2000000 in
theorem tX1_readQuarrel {sh : List kd} {σ τ : St} {r : Unit} (hsh : cSh sh) (hE : fX1_readQuarrel sh σ = some (r, τ)) : i_X 3 13 [.ref 9] (s_h sh σ) 0 0 none (s_h sh τ) := by
  refine g_X (M := mX1_readQuarrel) (loc := [.ref 9, .retAddr 0, .retAddr 0, .retAddr 0]) rfl (Nat.le_of_ble_eq_true rfl) rfl ?_
  unfold fX1_readQuarrel at hE
  refine g_ldan aX1_readQuarrel_0 rfl ?_
  refine g_getR aX1_readQuarrel_1 (sC_9 hsh) rfl ?_
  refine g_iconst (x := 0) aX1_readQuarrel_4 rfl ?_
  refine g_ldan aX1_readQuarrel_5 rfl ?_
  refine g_getR aX1_readQuarrel_6 (sC_9 hsh) rfl ?_
  refine g_getI aX1_readQuarrel_9 ((rShB_3 hsh).1) rfl ?_
  refine g_iconst (x := 1) aX1_readQuarrel_12 rfl ?_
  refine g_isub aX1_readQuarrel_13 ?_
  obtain ⟨r1, s2, h3, hE⟩ := i_bd_some hE
  refine g_calV (As := [.int 0, .int ((σ.1 3 3) - 1)]) (rest := []) aX1_readQuarrel_14 (i_X_mono (by omega) (tX9_number hsh h3)) (sC_1 hsh) (by decide +kernel) rfl rfl (Nat.le_of_ble_eq_true rfl) rfl ?_
  refine g_stin (loc2 := [.ref 9, .int r1, .retAddr 0, .retAddr 0]) aX1_readQuarrel_17 (Nat.le_of_ble_eq_true rfl) rfl ?_
  refine g_ldan aX1_readQuarrel_18 rfl ?_
  refine g_getR aX1_readQuarrel_19 (sC_9 hsh) rfl ?_
  obtain ⟨r4, s5, h6, hE⟩ := i_bd_some hE
  refine g_calV (As := []) (rest := []) aX1_readQuarrel_22 (i_X_mono (by omega) (tX9_sign hsh h6)) (sC_1 hsh) (by decide +kernel) rfl rfl (Nat.le_of_ble_eq_true rfl) rfl ?_
  refine g_popi aX1_readQuarrel_25 ?_
  refine g_ldan aX1_readQuarrel_26 rfl ?_
  refine g_getR aX1_readQuarrel_27 (sC_9 hsh) rfl ?_
  refine g_getI aX1_readQuarrel_30 (sC_1 hsh) rfl ?_
  refine g_stin (loc2 := [.ref 9, .int r1, .int (s5.1 1 2), .retAddr 0]) aX1_readQuarrel_33 (Nat.le_of_ble_eq_true rfl) rfl ?_
  refine g_ldan aX1_readQuarrel_34 rfl ?_
  refine g_getR aX1_readQuarrel_35 (sC_9 hsh) rfl ?_
  refine g_iconst (x := 0) aX1_readQuarrel_38 rfl ?_
  refine g_ldan aX1_readQuarrel_39 rfl ?_
  refine g_getR aX1_readQuarrel_40 (sC_9 hsh) rfl ?_
  refine g_getI aX1_readQuarrel_43 ((rShB_3 hsh).1) rfl ?_
  refine g_iconst (x := 1) aX1_readQuarrel_46 rfl ?_
  refine g_isub aX1_readQuarrel_47 ?_
  obtain ⟨r7, s8, h9, hE⟩ := i_bd_some hE
  refine g_calV (As := [.int 0, .int ((s5.1 3 3) - 1)]) (rest := []) aX1_readQuarrel_48 (i_X_mono (by omega) (tX9_number hsh h9)) (sC_1 hsh) (by decide +kernel) rfl rfl (Nat.le_of_ble_eq_true rfl) rfl ?_
  refine g_stin (loc2 := [.ref 9, .int r1, .int (s5.1 1 2), .int r7]) aX1_readQuarrel_51 (Nat.le_of_ble_eq_true rfl) rfl ?_
  refine g_ldin aX1_readQuarrel_52 rfl ?_
  refine g_ldin aX1_readQuarrel_53 rfl ?_
  by_cases hc119 : ¬ r1 = r7
  · rw [if_pos hc119] at hE
    refine g_ic_ne_t aX1_readQuarrel_54 hc119 ?_
    exact tX1_readQuarrel_J66 hsh hE
  · rw [if_neg hc119] at hE
    refine g_ic_ne_f aX1_readQuarrel_54 hc119 ?_
    refine g_ldan aX1_readQuarrel_57 rfl ?_
    refine g_getR aX1_readQuarrel_58 (sC_9 hsh) rfl ?_
    refine g_ldin aX1_readQuarrel_61 rfl ?_
    refine g_iconst (x := 1) aX1_readQuarrel_62 rfl ?_
    obtain ⟨r120, s121, h122, hE⟩ := i_bd_some hE
    refine g_calV (As := [.int (s5.1 1 2), .int 1]) (rest := []) aX1_readQuarrel_63 (i_X_mono (by omega) (tX9_refuse hsh h122)) (sC_1 hsh) (by decide +kernel) rfl rfl (Nat.le_of_ble_eq_true rfl) rfl ?_
    exact tX1_readQuarrel_J66 hsh hE
theorem aX2_placeOf_0 : i_at mX2_placeOf.2.2.2.2.2 0 = some (.aload_n 0, 1, 0, 0, 0, 0) := by decide +kernel
theorem aX2_placeOf_1 : i_at mX2_placeOf.2.2.2.2.2 1 = some (.getfield 7, 3, 9, 0, 344, 0) := by decide +kernel
theorem aX2_placeOf_4 : i_at mX2_placeOf.2.2.2.2.2 4 = some (.aload_n 0, 1, 0, 0, 0, 0) := by decide +kernel
theorem aX2_placeOf_5 : i_at mX2_placeOf.2.2.2.2.2 5 = some (.getfield 13, 3, 9, 1, 349, 0) := by decide +kernel
theorem aX2_placeOf_8 : i_at mX2_placeOf.2.2.2.2.2 8 = some (.getfield 17, 3, 3, 5, 314, 0) := by decide +kernel
theorem aX2_placeOf_11 : i_at mX2_placeOf.2.2.2.2.2 11 = some (.iload_n 1, 1, 0, 0, 0, 0) := by decide +kernel
theorem aX2_placeOf_12 : i_at mX2_placeOf.2.2.2.2.2 12 = some (.iaload, 1, 0, 0, 0, 0) := by decide +kernel
theorem aX2_placeOf_13 : i_at mX2_placeOf.2.2.2.2.2 13 = some (.invokevirtual 23, 3, 56, 1, 958, 0) := by decide +kernel
theorem aX2_placeOf_16 : i_at mX2_placeOf.2.2.2.2.2 16 = some (.istore_n 2, 1, 0, 0, 0, 0) := by decide +kernel
theorem aX2_placeOf_17 : i_at mX2_placeOf.2.2.2.2.2 17 = some (.iconst 0, 1, 0, 0, 0, 0) := by decide +kernel
theorem aX2_placeOf_18 : i_at mX2_placeOf.2.2.2.2.2 18 = some (.istore_n 3, 1, 0, 0, 0, 0) := by decide +kernel
theorem aX2_placeOf_19 : i_at mX2_placeOf.2.2.2.2.2 19 = some (.iconst 0, 1, 0, 0, 0, 0) := by decide +kernel
theorem aX2_placeOf_20 : i_at mX2_placeOf.2.2.2.2.2 20 = some (.istore 4, 2, 0, 0, 0, 0) := by decide +kernel
theorem aX2_placeOf_22 : i_at mX2_placeOf.2.2.2.2.2 22 = some (.iload 4, 2, 0, 0, 0, 0) := by decide +kernel
theorem aX2_placeOf_24 : i_at mX2_placeOf.2.2.2.2.2 24 = some (.aload_n 0, 1, 0, 0, 0, 0) := by decide +kernel
theorem aX2_placeOf_25 : i_at mX2_placeOf.2.2.2.2.2 25 = some (.getfield 7, 3, 9, 0, 344, 0) := by decide +kernel
theorem aX2_placeOf_28 : i_at mX2_placeOf.2.2.2.2.2 28 = some (.getfield 29, 3, 5, 4, 170, 0) := by decide +kernel
theorem aX2_placeOf_31 : i_at mX2_placeOf.2.2.2.2.2 31 = some (.if_icmp .ge 49, 3, 80, 0, 0, 0) := by decide +kernel
theorem aX2_placeOf_34 : i_at mX2_placeOf.2.2.2.2.2 34 = some (.aload_n 0, 1, 0, 0, 0, 0) := by decide +kernel
theorem aX2_placeOf_35 : i_at mX2_placeOf.2.2.2.2.2 35 = some (.getfield 7, 3, 9, 0, 344, 0) := by decide +kernel
theorem aX2_placeOf_38 : i_at mX2_placeOf.2.2.2.2.2 38 = some (.aload_n 0, 1, 0, 0, 0, 0) := by decide +kernel
theorem aX2_placeOf_39 : i_at mX2_placeOf.2.2.2.2.2 39 = some (.getfield 13, 3, 9, 1, 349, 0) := by decide +kernel
theorem aX2_placeOf_42 : i_at mX2_placeOf.2.2.2.2.2 42 = some (.getfield 17, 3, 3, 5, 314, 0) := by decide +kernel
theorem aX2_placeOf_45 : i_at mX2_placeOf.2.2.2.2.2 45 = some (.iload 4, 2, 0, 0, 0, 0) := by decide +kernel
theorem aX2_placeOf_47 : i_at mX2_placeOf.2.2.2.2.2 47 = some (.iaload, 1, 0, 0, 0, 0) := by decide +kernel
theorem aX2_placeOf_48 : i_at mX2_placeOf.2.2.2.2.2 48 = some (.invokevirtual 23, 3, 56, 1, 958, 0) := by decide +kernel
theorem aX2_placeOf_51 : i_at mX2_placeOf.2.2.2.2.2 51 = some (.istore 5, 2, 0, 0, 0, 0) := by decide +kernel
theorem aX2_placeOf_53 : i_at mX2_placeOf.2.2.2.2.2 53 = some (.iload 5, 2, 0, 0, 0, 0) := by decide +kernel
theorem aX2_placeOf_55 : i_at mX2_placeOf.2.2.2.2.2 55 = some (.iload_n 2, 1, 0, 0, 0, 0) := by decide +kernel
theorem aX2_placeOf_56 : i_at mX2_placeOf.2.2.2.2.2 56 = some (.if_icmp .gt 15, 3, 71, 0, 0, 0) := by decide +kernel
theorem aX2_placeOf_59 : i_at mX2_placeOf.2.2.2.2.2 59 = some (.iload 5, 2, 0, 0, 0, 0) := by decide +kernel
theorem aX2_placeOf_61 : i_at mX2_placeOf.2.2.2.2.2 61 = some (.iload_n 2, 1, 0, 0, 0, 0) := by decide +kernel
theorem aX2_placeOf_62 : i_at mX2_placeOf.2.2.2.2.2 62 = some (.if_icmp .ne 12, 3, 74, 0, 0, 0) := by decide +kernel
theorem aX2_placeOf_65 : i_at mX2_placeOf.2.2.2.2.2 65 = some (.iload 4, 2, 0, 0, 0, 0) := by decide +kernel
theorem aX2_placeOf_67 : i_at mX2_placeOf.2.2.2.2.2 67 = some (.iload_n 1, 1, 0, 0, 0, 0) := by decide +kernel
theorem aX2_placeOf_68 : i_at mX2_placeOf.2.2.2.2.2 68 = some (.if_icmp .ge 6, 3, 74, 0, 0, 0) := by decide +kernel
theorem aX2_placeOf_71 : i_at mX2_placeOf.2.2.2.2.2 71 = some (.iinc 3 1, 3, 0, 0, 0, 0) := by decide +kernel
theorem aX2_placeOf_74 : i_at mX2_placeOf.2.2.2.2.2 74 = some (.iinc 4 1, 3, 0, 0, 0, 0) := by decide +kernel
theorem aX2_placeOf_77 : i_at mX2_placeOf.2.2.2.2.2 77 = some (.goto (-55), 3, 22, 0, 0, 0) := by decide +kernel
theorem aX2_placeOf_80 : i_at mX2_placeOf.2.2.2.2.2 80 = some (.iload_n 3, 1, 0, 0, 0, 0) := by decide +kernel
theorem aX2_placeOf_81 : i_at mX2_placeOf.2.2.2.2.2 81 = some (.ireturn, 1, 0, 0, 0, 0) := by decide +kernel
noncomputable def fX2_placeOf_J74 (sh : List kd) (p0 : Nat) (p1 : Int32) (r2 : Int32) (x6 : Int32) (r62 : Int32) (s63 : St) (k22 : Int32 → Int32 → Value → St → Option (Int32 × St)) (x115 : Int32) : Option (Int32 × St) := k22 x115 (x6 + 1) (.int r62) s63
noncomputable def fX2_placeOf_L22 (sh : List kd) (p0 : Nat) (p1 : Int32) (r2 : Int32) : Nat → Int32 → Int32 → Value → St → Option (Int32 × St)
  | 0, _, _, _, _ => none
  | n9 + 1, x5, x6, x7, s8 => if (s8.1 (p0 + 1) 4) ≤ x6 then some (x5, s8) else if i_ok x6 6 then i_bd (fX6_rankOf sh s8 (p0 + 1) (s8.2.1 ((p0 + 7) + 2) x6.toNatClampNeg)) (fun r62 s63 => if r2 < r62 then fX2_placeOf_J74 sh p0 p1 r2 x6 r62 s63 (fX2_placeOf_L22 sh p0 p1 r2 n9) (x5 + 1) else if ¬ r62 = r2 then fX2_placeOf_J74 sh p0 p1 r2 x6 r62 s63 (fX2_placeOf_L22 sh p0 p1 r2 n9) x5 else if p1 ≤ x6 then fX2_placeOf_J74 sh p0 p1 r2 x6 r62 s63 (fX2_placeOf_L22 sh p0 p1 r2 n9) x5 else fX2_placeOf_J74 sh p0 p1 r2 x6 r62 s63 (fX2_placeOf_L22 sh p0 p1 r2 n9) (x5 + 1)) else none
noncomputable def fX2_placeOf (sh : List kd) (σ : St) (p0 : Nat) (p1 : Int32) : Option (Int32 × St) := if i_ok p1 6 then i_bd (fX6_rankOf sh σ (p0 + 1) (σ.2.1 ((p0 + 7) + 2) p1.toNatClampNeg)) (fun r2 s3 => fX2_placeOf_L22 sh p0 p1 r2 i_F 0 0 (.retAddr 0) s3) else none
set_option maxRecDepth 20000 in
set_option maxHeartbeats 2000000 in
theorem tX2_placeOf_J74 {sh : List kd} {τ : St} {r : Int32} (hsh : cSh sh) {p0 : Nat} {p1 : Int32} {r2 : Int32} {x6 : Int32} {r62 : Int32} {s63 : St} {x115 : Int32} {k22 : Int32 → Int32 → Value → St → Option (Int32 × St)} (hp0 : wSh sh p0) (hk22 : ∀ (x5 : Int32) (x6 : Int32) (x7 : Value) (s8 : St), k22 x5 x6 x7 s8 = some (r, τ) → g_R sh 1 mX2_placeOf (some (.int r)) τ 22 [.ref p0, .int p1, .int r2, .int x5, .int x6, x7] [] (s8)) (hE : fX2_placeOf_J74 sh p0 p1 r2 x6 r62 s63 k22 x115 = some (r, τ)) : g_R sh 1 mX2_placeOf (some (.int r)) τ 74 [.ref p0, .int p1, .int r2, .int x115, .int x6, .int r62] [] (s63) := by
  unfold fX2_placeOf_J74 at hE
  refine g_iinc (y := 1) (loc2 := [.ref p0, .int p1, .int r2, .int x115, .int (x6 + 1), .int r62]) aX2_placeOf_74 rfl rfl rfl ?_
  refine g_goto aX2_placeOf_77 ?_
  exact hk22 _ _ _ _ hE
set_option maxRecDepth 20000 in
set_option maxHeartbeats 2000000 in
theorem tX2_placeOf_L22 {sh : List kd} {τ : St} {r : Int32} (hsh : cSh sh) {p0 : Nat} {p1 : Int32} {r2 : Int32} (hp0 : wSh sh p0) : ∀ (n0 : Nat) (x5 : Int32) (x6 : Int32) (x7 : Value) (s8 : St), fX2_placeOf_L22 sh p0 p1 r2 n0 x5 x6 x7 s8 = some (r, τ) → g_R sh 1 mX2_placeOf (some (.int r)) τ 22 [.ref p0, .int p1, .int r2, .int x5, .int x6, x7] [] (s8) := by
  intro n0
  induction n0 with
  | zero => intro _ _ _ _ hE; cases hE
  | succ n9 ih =>
    intro x5 x6 x7 s8 hE
    unfold fX2_placeOf_L22 at hE
    refine g_ldi aX2_placeOf_22 rfl ?_
    refine g_ldan aX2_placeOf_24 rfl ?_
    refine g_getR aX2_placeOf_25 (hp0.1) rfl ?_
    refine g_getI aX2_placeOf_28 (hp0.2.1.1) rfl ?_
    by_cases hc60 : (s8.1 (p0 + 1) 4) ≤ x6
    · rw [if_pos hc60] at hE
      refine g_ic_ge_t aX2_placeOf_31 hc60 ?_
      refine g_ldin aX2_placeOf_80 rfl ?_
      obtain ⟨rfl, rfl⟩ := i_some_inj hE
      exact g_iret aX2_placeOf_81 rfl rfl
    · rw [if_neg hc60] at hE
      refine g_ic_ge_f aX2_placeOf_31 hc60 ?_
      refine g_ldan aX2_placeOf_34 rfl ?_
      refine g_getR aX2_placeOf_35 (hp0.1) rfl ?_
      refine g_ldan aX2_placeOf_38 rfl ?_
      refine g_getR aX2_placeOf_39 (hp0.1) rfl ?_
      refine g_getR aX2_placeOf_42 (hp0.2.2.1.1) rfl ?_
      refine g_ldi aX2_placeOf_45 rfl ?_
      obtain ⟨h61, hE⟩ := i_ifn hE
      refine g_ild aX2_placeOf_47 (hp0.2.2.1.2.2.1) h61 ?_
      obtain ⟨r62, s63, h64, hE⟩ := i_bd_some hE
      refine g_calV (As := [.int (s8.2.1 ((p0 + 7) + 2) x6.toNatClampNeg)]) (rest := []) aX2_placeOf_48 (i_X_mono (by omega) (tX6_rankOf hsh hp0.2.1 h64)) (hp0.2.1.1) (by decide +kernel) rfl rfl (Nat.le_of_ble_eq_true rfl) rfl ?_
      refine g_sti (loc2 := [.ref p0, .int p1, .int r2, .int x5, .int x6, .int r62]) aX2_placeOf_51 (Nat.le_of_ble_eq_true rfl) rfl ?_
      refine g_ldi aX2_placeOf_53 rfl ?_
      refine g_ldin aX2_placeOf_55 rfl ?_
      by_cases hc116 : r2 < r62
      · rw [if_pos hc116] at hE
        refine g_ic_gt_t aX2_placeOf_56 hc116 ?_
        refine g_iinc (y := 1) (loc2 := [.ref p0, .int p1, .int r2, .int (x5 + 1), .int x6, .int r62]) aX2_placeOf_71 rfl rfl rfl ?_
        exact tX2_placeOf_J74 hsh hp0 ih hE
      · rw [if_neg hc116] at hE
        refine g_ic_gt_f aX2_placeOf_56 hc116 ?_
        refine g_ldi aX2_placeOf_59 rfl ?_
        refine g_ldin aX2_placeOf_61 rfl ?_
        by_cases hc117 : ¬ r62 = r2
        · rw [if_pos hc117] at hE
          refine g_ic_ne_t aX2_placeOf_62 hc117 ?_
          exact tX2_placeOf_J74 hsh hp0 ih hE
        · rw [if_neg hc117] at hE
          refine g_ic_ne_f aX2_placeOf_62 hc117 ?_
          refine g_ldi aX2_placeOf_65 rfl ?_
          refine g_ldin aX2_placeOf_67 rfl ?_
          by_cases hc118 : p1 ≤ x6
          · rw [if_pos hc118] at hE
            refine g_ic_ge_t aX2_placeOf_68 hc118 ?_
            exact tX2_placeOf_J74 hsh hp0 ih hE
          · rw [if_neg hc118] at hE
            refine g_ic_ge_f aX2_placeOf_68 hc118 ?_
            refine g_iinc (y := 1) (loc2 := [.ref p0, .int p1, .int r2, .int (x5 + 1), .int x6, .int r62]) aX2_placeOf_71 rfl rfl rfl ?_
            exact tX2_placeOf_J74 hsh hp0 ih hE
set_option maxRecDepth 20000 in
set_option maxHeartbeats 2000000 in
theorem tX2_placeOf {sh : List kd} {σ τ : St} {r : Int32} (hsh : cSh sh) {p0 : Nat} {p1 : Int32} (hp0 : wSh sh p0) (hE : fX2_placeOf sh σ p0 p1 = some (r, τ)) : i_X 2 14 [.ref p0, .int p1] (s_h sh σ) 0 0 (some (.int r)) (s_h sh τ) := by
  refine g_X (M := mX2_placeOf) (loc := [.ref p0, .int p1, .retAddr 0, .retAddr 0, .retAddr 0, .retAddr 0]) rfl (Nat.le_of_ble_eq_true rfl) rfl ?_
  unfold fX2_placeOf at hE
  refine g_ldan aX2_placeOf_0 rfl ?_
  refine g_getR aX2_placeOf_1 (hp0.1) rfl ?_
  refine g_ldan aX2_placeOf_4 rfl ?_
  refine g_getR aX2_placeOf_5 (hp0.1) rfl ?_
  refine g_getR aX2_placeOf_8 (hp0.2.2.1.1) rfl ?_
  refine g_ldin aX2_placeOf_11 rfl ?_
  obtain ⟨h1, hE⟩ := i_ifn hE
  refine g_ild aX2_placeOf_12 (hp0.2.2.1.2.2.1) h1 ?_
  obtain ⟨r2, s3, h4, hE⟩ := i_bd_some hE
  refine g_calV (As := [.int (σ.2.1 ((p0 + 7) + 2) p1.toNatClampNeg)]) (rest := []) aX2_placeOf_13 (i_X_mono (by omega) (tX6_rankOf hsh hp0.2.1 h4)) (hp0.2.1.1) (by decide +kernel) rfl rfl (Nat.le_of_ble_eq_true rfl) rfl ?_
  refine g_stin (loc2 := [.ref p0, .int p1, .int r2, .retAddr 0, .retAddr 0, .retAddr 0]) aX2_placeOf_16 (Nat.le_of_ble_eq_true rfl) rfl ?_
  refine g_iconst (x := 0) aX2_placeOf_17 rfl ?_
  refine g_stin (loc2 := [.ref p0, .int p1, .int r2, .int 0, .retAddr 0, .retAddr 0]) aX2_placeOf_18 (Nat.le_of_ble_eq_true rfl) rfl ?_
  refine g_iconst (x := 0) aX2_placeOf_19 rfl ?_
  refine g_sti (loc2 := [.ref p0, .int p1, .int r2, .int 0, .int 0, .retAddr 0]) aX2_placeOf_20 (Nat.le_of_ble_eq_true rfl) rfl ?_
  exact tX2_placeOf_L22 hsh hp0 i_F _ _ _ _ hE
theorem aX2_fewestToStrip_0 : i_at mX2_fewestToStrip.2.2.2.2.2 0 = some (.iconst 1, 1, 0, 0, 0, 0) := by decide +kernel
theorem aX2_fewestToStrip_1 : i_at mX2_fewestToStrip.2.2.2.2.2 1 = some (.aload_n 0, 1, 0, 0, 0, 0) := by decide +kernel
theorem aX2_fewestToStrip_2 : i_at mX2_fewestToStrip.2.2.2.2.2 2 = some (.getfield 7, 3, 9, 0, 344, 0) := by decide +kernel
theorem aX2_fewestToStrip_5 : i_at mX2_fewestToStrip.2.2.2.2.2 5 = some (.getfield 29, 3, 5, 4, 170, 0) := by decide +kernel
theorem aX2_fewestToStrip_8 : i_at mX2_fewestToStrip.2.2.2.2.2 8 = some (.ishl, 1, 0, 0, 0, 0) := by decide +kernel
theorem aX2_fewestToStrip_9 : i_at mX2_fewestToStrip.2.2.2.2.2 9 = some (.iconst 1, 1, 0, 0, 0, 0) := by decide +kernel
theorem aX2_fewestToStrip_10 : i_at mX2_fewestToStrip.2.2.2.2.2 10 = some (.isub, 1, 0, 0, 0, 0) := by decide +kernel
theorem aX2_fewestToStrip_11 : i_at mX2_fewestToStrip.2.2.2.2.2 11 = some (.istore_n 1, 1, 0, 0, 0, 0) := by decide +kernel
theorem aX2_fewestToStrip_12 : i_at mX2_fewestToStrip.2.2.2.2.2 12 = some (.iload_n 1, 1, 0, 0, 0, 0) := by decide +kernel
theorem aX2_fewestToStrip_13 : i_at mX2_fewestToStrip.2.2.2.2.2 13 = some (.istore_n 2, 1, 0, 0, 0, 0) := by decide +kernel
theorem aX2_fewestToStrip_14 : i_at mX2_fewestToStrip.2.2.2.2.2 14 = some (.iconst 0, 1, 0, 0, 0, 0) := by decide +kernel
theorem aX2_fewestToStrip_15 : i_at mX2_fewestToStrip.2.2.2.2.2 15 = some (.istore_n 3, 1, 0, 0, 0, 0) := by decide +kernel
theorem aX2_fewestToStrip_16 : i_at mX2_fewestToStrip.2.2.2.2.2 16 = some (.iload_n 3, 1, 0, 0, 0, 0) := by decide +kernel
theorem aX2_fewestToStrip_17 : i_at mX2_fewestToStrip.2.2.2.2.2 17 = some (.iload_n 1, 1, 0, 0, 0, 0) := by decide +kernel
theorem aX2_fewestToStrip_18 : i_at mX2_fewestToStrip.2.2.2.2.2 18 = some (.if_icmp .ge 30, 3, 48, 0, 0, 0) := by decide +kernel
theorem aX2_fewestToStrip_21 : i_at mX2_fewestToStrip.2.2.2.2.2 21 = some (.iload_n 3, 1, 0, 0, 0, 0) := by decide +kernel
theorem aX2_fewestToStrip_22 : i_at mX2_fewestToStrip.2.2.2.2.2 22 = some (.invokestatic 33, 3, 230, 1, 966, 0) := by decide +kernel
theorem aX2_fewestToStrip_25 : i_at mX2_fewestToStrip.2.2.2.2.2 25 = some (.iload_n 2, 1, 0, 0, 0, 0) := by decide +kernel
theorem aX2_fewestToStrip_26 : i_at mX2_fewestToStrip.2.2.2.2.2 26 = some (.invokestatic 33, 3, 230, 1, 966, 0) := by decide +kernel
theorem aX2_fewestToStrip_29 : i_at mX2_fewestToStrip.2.2.2.2.2 29 = some (.if_icmp .ge 13, 3, 42, 0, 0, 0) := by decide +kernel
theorem aX2_fewestToStrip_32 : i_at mX2_fewestToStrip.2.2.2.2.2 32 = some (.aload_n 0, 1, 0, 0, 0, 0) := by decide +kernel
theorem aX2_fewestToStrip_33 : i_at mX2_fewestToStrip.2.2.2.2.2 33 = some (.iload_n 3, 1, 0, 0, 0, 0) := by decide +kernel
theorem aX2_fewestToStrip_34 : i_at mX2_fewestToStrip.2.2.2.2.2 34 = some (.invokestatic 38, 3, 16, 2, 967, 0) := by decide +kernel
theorem aX2_fewestToStrip_37 : i_at mX2_fewestToStrip.2.2.2.2.2 37 = some (.ifCond .eq 5, 3, 42, 0, 0, 0) := by decide +kernel
theorem aX2_fewestToStrip_40 : i_at mX2_fewestToStrip.2.2.2.2.2 40 = some (.iload_n 3, 1, 0, 0, 0, 0) := by decide +kernel
theorem aX2_fewestToStrip_41 : i_at mX2_fewestToStrip.2.2.2.2.2 41 = some (.istore_n 2, 1, 0, 0, 0, 0) := by decide +kernel
theorem aX2_fewestToStrip_42 : i_at mX2_fewestToStrip.2.2.2.2.2 42 = some (.iinc 3 1, 3, 0, 0, 0, 0) := by decide +kernel
theorem aX2_fewestToStrip_45 : i_at mX2_fewestToStrip.2.2.2.2.2 45 = some (.goto (-29), 3, 16, 0, 0, 0) := by decide +kernel
theorem aX2_fewestToStrip_48 : i_at mX2_fewestToStrip.2.2.2.2.2 48 = some (.iload_n 2, 1, 0, 0, 0, 0) := by decide +kernel
theorem aX2_fewestToStrip_49 : i_at mX2_fewestToStrip.2.2.2.2.2 49 = some (.ireturn, 1, 0, 0, 0, 0) := by decide +kernel
noncomputable def fX2_fewestToStrip_J42 (sh : List kd) (p0 : Nat) (σ : St) (x2 : Int32) (k16 : Int32 → Int32 → St → Option (Int32 × St)) (x112 : Int32) (s113 : St) : Option (Int32 × St) := k16 x112 (x2 + 1) s113
noncomputable def fX2_fewestToStrip_L16 (sh : List kd) (p0 : Nat) (σ : St) : Nat → Int32 → Int32 → St → Option (Int32 × St)
  | 0, _, _, _ => none
  | n4 + 1, x1, x2, s3 => if ((1 <<< ((σ.1 (p0 + 1) 4) &&& 31)) - 1) ≤ x2 then some (x1, s3) else i_bd (fJ6_bitCount_0f7a4 sh s3 x2) (fun r56 s57 => i_bd (fJ6_bitCount_0f7a4 sh s57 x1) (fun r59 s60 => if r59 ≤ r56 then fX2_fewestToStrip_J42 sh p0 σ x2 (fX2_fewestToStrip_L16 sh p0 σ n4) x1 s60 else i_bd (fX2_isPeaceWithout sh s60 p0 x2) (fun r115 s116 => fX2_fewestToStrip_J42 sh p0 σ x2 (fX2_fewestToStrip_L16 sh p0 σ n4) ((if r115 = 0 then x1 else x2) : Int32) s116)))
noncomputable def fX2_fewestToStrip (sh : List kd) (σ : St) (p0 : Nat) : Option (Int32 × St) := fX2_fewestToStrip_L16 sh p0 σ i_F ((1 <<< ((σ.1 (p0 + 1) 4) &&& 31)) - 1) 0 σ
set_option maxRecDepth 20000 in
set_option maxHeartbeats 2000000 in
theorem tX2_fewestToStrip_J42 {sh : List kd} {τ : St} {r : Int32} (hsh : cSh sh) {p0 : Nat} {σ : St} {x2 : Int32} {x112 : Int32} {s113 : St} {k16 : Int32 → Int32 → St → Option (Int32 × St)} (hp0 : wSh sh p0) (hk16 : ∀ (x1 : Int32) (x2 : Int32) (s3 : St), k16 x1 x2 s3 = some (r, τ) → g_R sh 1 mX2_fewestToStrip (some (.int r)) τ 16 [.ref p0, .int ((1 <<< ((σ.1 (p0 + 1) 4) &&& 31)) - 1), .int x1, .int x2] [] (s3)) (hE : fX2_fewestToStrip_J42 sh p0 σ x2 k16 x112 s113 = some (r, τ)) : g_R sh 1 mX2_fewestToStrip (some (.int r)) τ 42 [.ref p0, .int ((1 <<< ((σ.1 (p0 + 1) 4) &&& 31)) - 1), .int x112, .int x2] [] (s113) := by
  unfold fX2_fewestToStrip_J42 at hE
  refine g_iinc (y := 1) (loc2 := [.ref p0, .int ((1 <<< ((σ.1 (p0 + 1) 4) &&& 31)) - 1), .int x112, .int (x2 + 1)]) aX2_fewestToStrip_42 rfl rfl rfl ?_
  refine g_goto aX2_fewestToStrip_45 ?_
  exact hk16 _ _ _ hE
set_option maxRecDepth 20000 in
set_option maxHeartbeats 2000000 in
theorem tX2_fewestToStrip_L16 {sh : List kd} {τ : St} {r : Int32} (hsh : cSh sh) {p0 : Nat} {σ : St} (hp0 : wSh sh p0) : ∀ (n0 : Nat) (x1 : Int32) (x2 : Int32) (s3 : St), fX2_fewestToStrip_L16 sh p0 σ n0 x1 x2 s3 = some (r, τ) → g_R sh 1 mX2_fewestToStrip (some (.int r)) τ 16 [.ref p0, .int ((1 <<< ((σ.1 (p0 + 1) 4) &&& 31)) - 1), .int x1, .int x2] [] (s3) := by
  intro n0
  induction n0 with
  | zero => intro _ _ _ hE; cases hE
  | succ n4 ih =>
    intro x1 x2 s3 hE
    unfold fX2_fewestToStrip_L16 at hE
    refine g_ldin aX2_fewestToStrip_16 rfl ?_
    refine g_ldin aX2_fewestToStrip_17 rfl ?_
    by_cases hc55 : ((1 <<< ((σ.1 (p0 + 1) 4) &&& 31)) - 1) ≤ x2
    · rw [if_pos hc55] at hE
      refine g_ic_ge_t aX2_fewestToStrip_18 hc55 ?_
      refine g_ldin aX2_fewestToStrip_48 rfl ?_
      obtain ⟨rfl, rfl⟩ := i_some_inj hE
      exact g_iret aX2_fewestToStrip_49 rfl rfl
    · rw [if_neg hc55] at hE
      refine g_ic_ge_f aX2_fewestToStrip_18 hc55 ?_
      refine g_ldin aX2_fewestToStrip_21 rfl ?_
      obtain ⟨r56, s57, h58, hE⟩ := i_bd_some hE
      refine g_calS (As := [.int x2]) (rest := []) aX2_fewestToStrip_22 (i_X_mono (by omega) (tJ6_bitCount_0f7a4 hsh h58)) rfl rfl (Nat.le_of_ble_eq_true rfl) rfl ?_
      refine g_ldin aX2_fewestToStrip_25 rfl ?_
      obtain ⟨r59, s60, h61, hE⟩ := i_bd_some hE
      refine g_calS (As := [.int x1]) (rest := [.int r56]) aX2_fewestToStrip_26 (i_X_mono (by omega) (tJ6_bitCount_0f7a4 hsh h61)) rfl rfl (Nat.le_of_ble_eq_true rfl) rfl ?_
      by_cases hc114 : r59 ≤ r56
      · rw [if_pos hc114] at hE
        refine g_ic_ge_t aX2_fewestToStrip_29 hc114 ?_
        exact tX2_fewestToStrip_J42 hsh hp0 ih hE
      · rw [if_neg hc114] at hE
        refine g_ic_ge_f aX2_fewestToStrip_29 hc114 ?_
        refine g_ldan aX2_fewestToStrip_32 rfl ?_
        refine g_ldin aX2_fewestToStrip_33 rfl ?_
        obtain ⟨r115, s116, h117, hE⟩ := i_bd_some hE
        refine g_calS (As := [.ref p0, .int x2]) (rest := []) aX2_fewestToStrip_34 (i_X_mono (by omega) (tX2_isPeaceWithout hsh hp0 h117)) rfl rfl (Nat.le_of_ble_eq_true rfl) rfl ?_
        have hJ : g_R sh 1 mX2_fewestToStrip (some (.int r)) τ 42 [.ref p0, .int ((1 <<< ((σ.1 (p0 + 1) 4) &&& 31)) - 1), .int ((if r115 = 0 then x1 else x2) : Int32), .int x2] [] (s116) := by
          exact tX2_fewestToStrip_J42 hsh hp0 ih hE
        clear hE
        by_cases hc117 : r115 = 0
        · (try rw [if_pos hc117] at hJ)
          refine g_if_eq_t aX2_fewestToStrip_37 hc117 ?_
          exact hJ
        · (try rw [if_neg hc117] at hJ)
          refine g_if_eq_f aX2_fewestToStrip_37 hc117 ?_
          refine g_ldin aX2_fewestToStrip_40 rfl ?_
          refine g_stin (loc2 := [.ref p0, .int ((1 <<< ((σ.1 (p0 + 1) 4) &&& 31)) - 1), .int x2, .int x2]) aX2_fewestToStrip_41 (Nat.le_of_ble_eq_true rfl) rfl ?_
          exact hJ
set_option maxRecDepth 20000 in
set_option maxHeartbeats 2000000 in
theorem tX2_fewestToStrip {sh : List kd} {σ τ : St} {r : Int32} (hsh : cSh sh) {p0 : Nat} (hp0 : wSh sh p0) (hE : fX2_fewestToStrip sh σ p0 = some (r, τ)) : i_X 2 15 [.ref p0] (s_h sh σ) 0 0 (some (.int r)) (s_h sh τ) := by
  refine g_X (M := mX2_fewestToStrip) (loc := [.ref p0, .retAddr 0, .retAddr 0, .retAddr 0]) rfl (Nat.le_of_ble_eq_true rfl) rfl ?_
  unfold fX2_fewestToStrip at hE
  refine g_iconst (x := 1) aX2_fewestToStrip_0 rfl ?_
  refine g_ldan aX2_fewestToStrip_1 rfl ?_
  refine g_getR aX2_fewestToStrip_2 (hp0.1) rfl ?_
  refine g_getI aX2_fewestToStrip_5 (hp0.2.1.1) rfl ?_
  refine g_ishl aX2_fewestToStrip_8 ?_
  refine g_iconst (x := 1) aX2_fewestToStrip_9 rfl ?_
  refine g_isub aX2_fewestToStrip_10 ?_
  refine g_stin (loc2 := [.ref p0, .int ((1 <<< ((σ.1 (p0 + 1) 4) &&& 31)) - 1), .retAddr 0, .retAddr 0]) aX2_fewestToStrip_11 (Nat.le_of_ble_eq_true rfl) rfl ?_
  refine g_ldin aX2_fewestToStrip_12 rfl ?_
  refine g_stin (loc2 := [.ref p0, .int ((1 <<< ((σ.1 (p0 + 1) 4) &&& 31)) - 1), .int ((1 <<< ((σ.1 (p0 + 1) 4) &&& 31)) - 1), .retAddr 0]) aX2_fewestToStrip_13 (Nat.le_of_ble_eq_true rfl) rfl ?_
  refine g_iconst (x := 0) aX2_fewestToStrip_14 rfl ?_
  refine g_stin (loc2 := [.ref p0, .int ((1 <<< ((σ.1 (p0 + 1) 4) &&& 31)) - 1), .int ((1 <<< ((σ.1 (p0 + 1) 4) &&& 31)) - 1), .int 0]) aX2_fewestToStrip_15 (Nat.le_of_ble_eq_true rfl) rfl ?_
  exact tX2_fewestToStrip_L16 hsh hp0 i_F _ _ _ hE
theorem aX2_goldOf_0 : i_at mX2_goldOf.2.2.2.2.2 0 = some (.iconst 0, 1, 0, 0, 0, 0) := by decide +kernel
theorem aX2_goldOf_1 : i_at mX2_goldOf.2.2.2.2.2 1 = some (.istore_n 3, 1, 0, 0, 0, 0) := by decide +kernel
theorem aX2_goldOf_2 : i_at mX2_goldOf.2.2.2.2.2 2 = some (.iconst 0, 1, 0, 0, 0, 0) := by decide +kernel
theorem aX2_goldOf_3 : i_at mX2_goldOf.2.2.2.2.2 3 = some (.istore 4, 2, 0, 0, 0, 0) := by decide +kernel
theorem aX2_goldOf_5 : i_at mX2_goldOf.2.2.2.2.2 5 = some (.iload 4, 2, 0, 0, 0, 0) := by decide +kernel
theorem aX2_goldOf_7 : i_at mX2_goldOf.2.2.2.2.2 7 = some (.aload_n 0, 1, 0, 0, 0, 0) := by decide +kernel
theorem aX2_goldOf_8 : i_at mX2_goldOf.2.2.2.2.2 8 = some (.getfield 7, 3, 9, 0, 344, 0) := by decide +kernel
theorem aX2_goldOf_11 : i_at mX2_goldOf.2.2.2.2.2 11 = some (.getfield 29, 3, 5, 4, 170, 0) := by decide +kernel
theorem aX2_goldOf_14 : i_at mX2_goldOf.2.2.2.2.2 14 = some (.if_icmp .ge 29, 3, 43, 0, 0, 0) := by decide +kernel
theorem aX2_goldOf_17 : i_at mX2_goldOf.2.2.2.2.2 17 = some (.iload_n 3, 1, 0, 0, 0, 0) := by decide +kernel
theorem aX2_goldOf_18 : i_at mX2_goldOf.2.2.2.2.2 18 = some (.aload_n 0, 1, 0, 0, 0, 0) := by decide +kernel
theorem aX2_goldOf_19 : i_at mX2_goldOf.2.2.2.2.2 19 = some (.getfield 7, 3, 9, 0, 344, 0) := by decide +kernel
theorem aX2_goldOf_22 : i_at mX2_goldOf.2.2.2.2.2 22 = some (.aload_n 0, 1, 0, 0, 0, 0) := by decide +kernel
theorem aX2_goldOf_23 : i_at mX2_goldOf.2.2.2.2.2 23 = some (.getfield 13, 3, 9, 1, 349, 0) := by decide +kernel
theorem aX2_goldOf_26 : i_at mX2_goldOf.2.2.2.2.2 26 = some (.getfield 17, 3, 3, 5, 314, 0) := by decide +kernel
theorem aX2_goldOf_29 : i_at mX2_goldOf.2.2.2.2.2 29 = some (.iload 4, 2, 0, 0, 0, 0) := by decide +kernel
theorem aX2_goldOf_31 : i_at mX2_goldOf.2.2.2.2.2 31 = some (.iaload, 1, 0, 0, 0, 0) := by decide +kernel
theorem aX2_goldOf_32 : i_at mX2_goldOf.2.2.2.2.2 32 = some (.invokevirtual 23, 3, 56, 1, 958, 0) := by decide +kernel
theorem aX2_goldOf_35 : i_at mX2_goldOf.2.2.2.2.2 35 = some (.iadd, 1, 0, 0, 0, 0) := by decide +kernel
theorem aX2_goldOf_36 : i_at mX2_goldOf.2.2.2.2.2 36 = some (.istore_n 3, 1, 0, 0, 0, 0) := by decide +kernel
theorem aX2_goldOf_37 : i_at mX2_goldOf.2.2.2.2.2 37 = some (.iinc 4 1, 3, 0, 0, 0, 0) := by decide +kernel
theorem aX2_goldOf_40 : i_at mX2_goldOf.2.2.2.2.2 40 = some (.goto (-35), 3, 5, 0, 0, 0) := by decide +kernel
theorem aX2_goldOf_43 : i_at mX2_goldOf.2.2.2.2.2 43 = some (.iload_n 3, 1, 0, 0, 0, 0) := by decide +kernel
theorem aX2_goldOf_44 : i_at mX2_goldOf.2.2.2.2.2 44 = some (.ifCond .gt 5, 3, 49, 0, 0, 0) := by decide +kernel
theorem aX2_goldOf_47 : i_at mX2_goldOf.2.2.2.2.2 47 = some (.iconst 0, 1, 0, 0, 0, 0) := by decide +kernel
theorem aX2_goldOf_48 : i_at mX2_goldOf.2.2.2.2.2 48 = some (.ireturn, 1, 0, 0, 0, 0) := by decide +kernel
theorem aX2_goldOf_49 : i_at mX2_goldOf.2.2.2.2.2 49 = some (.iload_n 1, 1, 0, 0, 0, 0) := by decide +kernel
theorem aX2_goldOf_50 : i_at mX2_goldOf.2.2.2.2.2 50 = some (.aload_n 0, 1, 0, 0, 0, 0) := by decide +kernel
theorem aX2_goldOf_51 : i_at mX2_goldOf.2.2.2.2.2 51 = some (.getfield 7, 3, 9, 0, 344, 0) := by decide +kernel
theorem aX2_goldOf_54 : i_at mX2_goldOf.2.2.2.2.2 54 = some (.aload_n 0, 1, 0, 0, 0, 0) := by decide +kernel
theorem aX2_goldOf_55 : i_at mX2_goldOf.2.2.2.2.2 55 = some (.getfield 13, 3, 9, 1, 349, 0) := by decide +kernel
theorem aX2_goldOf_58 : i_at mX2_goldOf.2.2.2.2.2 58 = some (.getfield 17, 3, 3, 5, 314, 0) := by decide +kernel
theorem aX2_goldOf_61 : i_at mX2_goldOf.2.2.2.2.2 61 = some (.iload_n 2, 1, 0, 0, 0, 0) := by decide +kernel
theorem aX2_goldOf_62 : i_at mX2_goldOf.2.2.2.2.2 62 = some (.iaload, 1, 0, 0, 0, 0) := by decide +kernel
theorem aX2_goldOf_63 : i_at mX2_goldOf.2.2.2.2.2 63 = some (.invokevirtual 23, 3, 56, 1, 958, 0) := by decide +kernel
theorem aX2_goldOf_66 : i_at mX2_goldOf.2.2.2.2.2 66 = some (.imul, 1, 0, 0, 0, 0) := by decide +kernel
theorem aX2_goldOf_67 : i_at mX2_goldOf.2.2.2.2.2 67 = some (.istore 4, 2, 0, 0, 0, 0) := by decide +kernel
theorem aX2_goldOf_69 : i_at mX2_goldOf.2.2.2.2.2 69 = some (.iload_n 1, 1, 0, 0, 0, 0) := by decide +kernel
theorem aX2_goldOf_70 : i_at mX2_goldOf.2.2.2.2.2 70 = some (.istore 5, 2, 0, 0, 0, 0) := by decide +kernel
theorem aX2_goldOf_72 : i_at mX2_goldOf.2.2.2.2.2 72 = some (.iconst 0, 1, 0, 0, 0, 0) := by decide +kernel
theorem aX2_goldOf_73 : i_at mX2_goldOf.2.2.2.2.2 73 = some (.istore 6, 2, 0, 0, 0, 0) := by decide +kernel
theorem aX2_goldOf_75 : i_at mX2_goldOf.2.2.2.2.2 75 = some (.iconst 0, 1, 0, 0, 0, 0) := by decide +kernel
theorem aX2_goldOf_76 : i_at mX2_goldOf.2.2.2.2.2 76 = some (.istore 7, 2, 0, 0, 0, 0) := by decide +kernel
theorem aX2_goldOf_78 : i_at mX2_goldOf.2.2.2.2.2 78 = some (.iload 7, 2, 0, 0, 0, 0) := by decide +kernel
theorem aX2_goldOf_80 : i_at mX2_goldOf.2.2.2.2.2 80 = some (.aload_n 0, 1, 0, 0, 0, 0) := by decide +kernel
theorem aX2_goldOf_81 : i_at mX2_goldOf.2.2.2.2.2 81 = some (.getfield 7, 3, 9, 0, 344, 0) := by decide +kernel
theorem aX2_goldOf_84 : i_at mX2_goldOf.2.2.2.2.2 84 = some (.getfield 29, 3, 5, 4, 170, 0) := by decide +kernel
theorem aX2_goldOf_87 : i_at mX2_goldOf.2.2.2.2.2 87 = some (.if_icmp .ge 70, 3, 157, 0, 0, 0) := by decide +kernel
theorem aX2_goldOf_90 : i_at mX2_goldOf.2.2.2.2.2 90 = some (.iload_n 1, 1, 0, 0, 0, 0) := by decide +kernel
theorem aX2_goldOf_91 : i_at mX2_goldOf.2.2.2.2.2 91 = some (.aload_n 0, 1, 0, 0, 0, 0) := by decide +kernel
theorem aX2_goldOf_92 : i_at mX2_goldOf.2.2.2.2.2 92 = some (.getfield 7, 3, 9, 0, 344, 0) := by decide +kernel
theorem aX2_goldOf_95 : i_at mX2_goldOf.2.2.2.2.2 95 = some (.aload_n 0, 1, 0, 0, 0, 0) := by decide +kernel
theorem aX2_goldOf_96 : i_at mX2_goldOf.2.2.2.2.2 96 = some (.getfield 13, 3, 9, 1, 349, 0) := by decide +kernel
theorem aX2_goldOf_99 : i_at mX2_goldOf.2.2.2.2.2 99 = some (.getfield 17, 3, 3, 5, 314, 0) := by decide +kernel
theorem aX2_goldOf_102 : i_at mX2_goldOf.2.2.2.2.2 102 = some (.iload 7, 2, 0, 0, 0, 0) := by decide +kernel
theorem aX2_goldOf_104 : i_at mX2_goldOf.2.2.2.2.2 104 = some (.iaload, 1, 0, 0, 0, 0) := by decide +kernel
theorem aX2_goldOf_105 : i_at mX2_goldOf.2.2.2.2.2 105 = some (.invokevirtual 23, 3, 56, 1, 958, 0) := by decide +kernel
theorem aX2_goldOf_108 : i_at mX2_goldOf.2.2.2.2.2 108 = some (.imul, 1, 0, 0, 0, 0) := by decide +kernel
theorem aX2_goldOf_109 : i_at mX2_goldOf.2.2.2.2.2 109 = some (.istore 8, 2, 0, 0, 0, 0) := by decide +kernel
theorem aX2_goldOf_111 : i_at mX2_goldOf.2.2.2.2.2 111 = some (.iload 5, 2, 0, 0, 0, 0) := by decide +kernel
theorem aX2_goldOf_113 : i_at mX2_goldOf.2.2.2.2.2 113 = some (.iload 8, 2, 0, 0, 0, 0) := by decide +kernel
theorem aX2_goldOf_115 : i_at mX2_goldOf.2.2.2.2.2 115 = some (.iload_n 3, 1, 0, 0, 0, 0) := by decide +kernel
theorem aX2_goldOf_116 : i_at mX2_goldOf.2.2.2.2.2 116 = some (.idiv, 1, 0, 0, 0, 0) := by decide +kernel
theorem aX2_goldOf_117 : i_at mX2_goldOf.2.2.2.2.2 117 = some (.isub, 1, 0, 0, 0, 0) := by decide +kernel
theorem aX2_goldOf_118 : i_at mX2_goldOf.2.2.2.2.2 118 = some (.istore 5, 2, 0, 0, 0, 0) := by decide +kernel
theorem aX2_goldOf_120 : i_at mX2_goldOf.2.2.2.2.2 120 = some (.iload 8, 2, 0, 0, 0, 0) := by decide +kernel
theorem aX2_goldOf_122 : i_at mX2_goldOf.2.2.2.2.2 122 = some (.iload_n 3, 1, 0, 0, 0, 0) := by decide +kernel
theorem aX2_goldOf_123 : i_at mX2_goldOf.2.2.2.2.2 123 = some (.irem, 1, 0, 0, 0, 0) := by decide +kernel
theorem aX2_goldOf_124 : i_at mX2_goldOf.2.2.2.2.2 124 = some (.iload 4, 2, 0, 0, 0, 0) := by decide +kernel
theorem aX2_goldOf_126 : i_at mX2_goldOf.2.2.2.2.2 126 = some (.iload_n 3, 1, 0, 0, 0, 0) := by decide +kernel
theorem aX2_goldOf_127 : i_at mX2_goldOf.2.2.2.2.2 127 = some (.irem, 1, 0, 0, 0, 0) := by decide +kernel
theorem aX2_goldOf_128 : i_at mX2_goldOf.2.2.2.2.2 128 = some (.if_icmp .gt 20, 3, 148, 0, 0, 0) := by decide +kernel
theorem aX2_goldOf_131 : i_at mX2_goldOf.2.2.2.2.2 131 = some (.iload 8, 2, 0, 0, 0, 0) := by decide +kernel
theorem aX2_goldOf_133 : i_at mX2_goldOf.2.2.2.2.2 133 = some (.iload_n 3, 1, 0, 0, 0, 0) := by decide +kernel
theorem aX2_goldOf_134 : i_at mX2_goldOf.2.2.2.2.2 134 = some (.irem, 1, 0, 0, 0, 0) := by decide +kernel
theorem aX2_goldOf_135 : i_at mX2_goldOf.2.2.2.2.2 135 = some (.iload 4, 2, 0, 0, 0, 0) := by decide +kernel
theorem aX2_goldOf_137 : i_at mX2_goldOf.2.2.2.2.2 137 = some (.iload_n 3, 1, 0, 0, 0, 0) := by decide +kernel
theorem aX2_goldOf_138 : i_at mX2_goldOf.2.2.2.2.2 138 = some (.irem, 1, 0, 0, 0, 0) := by decide +kernel
theorem aX2_goldOf_139 : i_at mX2_goldOf.2.2.2.2.2 139 = some (.if_icmp .ne 12, 3, 151, 0, 0, 0) := by decide +kernel
theorem aX2_goldOf_142 : i_at mX2_goldOf.2.2.2.2.2 142 = some (.iload 7, 2, 0, 0, 0, 0) := by decide +kernel
theorem aX2_goldOf_144 : i_at mX2_goldOf.2.2.2.2.2 144 = some (.iload_n 2, 1, 0, 0, 0, 0) := by decide +kernel
theorem aX2_goldOf_145 : i_at mX2_goldOf.2.2.2.2.2 145 = some (.if_icmp .ge 6, 3, 151, 0, 0, 0) := by decide +kernel
theorem aX2_goldOf_148 : i_at mX2_goldOf.2.2.2.2.2 148 = some (.iinc 6 1, 3, 0, 0, 0, 0) := by decide +kernel
theorem aX2_goldOf_151 : i_at mX2_goldOf.2.2.2.2.2 151 = some (.iinc 7 1, 3, 0, 0, 0, 0) := by decide +kernel
theorem aX2_goldOf_154 : i_at mX2_goldOf.2.2.2.2.2 154 = some (.goto (-76), 3, 78, 0, 0, 0) := by decide +kernel
theorem aX2_goldOf_157 : i_at mX2_goldOf.2.2.2.2.2 157 = some (.iload 4, 2, 0, 0, 0, 0) := by decide +kernel
theorem aX2_goldOf_159 : i_at mX2_goldOf.2.2.2.2.2 159 = some (.iload_n 3, 1, 0, 0, 0, 0) := by decide +kernel
theorem aX2_goldOf_160 : i_at mX2_goldOf.2.2.2.2.2 160 = some (.idiv, 1, 0, 0, 0, 0) := by decide +kernel
theorem aX2_goldOf_161 : i_at mX2_goldOf.2.2.2.2.2 161 = some (.iload 6, 2, 0, 0, 0, 0) := by decide +kernel
theorem aX2_goldOf_163 : i_at mX2_goldOf.2.2.2.2.2 163 = some (.iload 5, 2, 0, 0, 0, 0) := by decide +kernel
theorem aX2_goldOf_165 : i_at mX2_goldOf.2.2.2.2.2 165 = some (.if_icmp .ge 7, 3, 172, 0, 0, 0) := by decide +kernel
theorem aX2_goldOf_168 : i_at mX2_goldOf.2.2.2.2.2 168 = some (.iconst 1, 1, 0, 0, 0, 0) := by decide +kernel
theorem aX2_goldOf_169 : i_at mX2_goldOf.2.2.2.2.2 169 = some (.goto 4, 3, 173, 0, 0, 0) := by decide +kernel
theorem aX2_goldOf_172 : i_at mX2_goldOf.2.2.2.2.2 172 = some (.iconst 0, 1, 0, 0, 0, 0) := by decide +kernel
theorem aX2_goldOf_173 : i_at mX2_goldOf.2.2.2.2.2 173 = some (.iadd, 1, 0, 0, 0, 0) := by decide +kernel
theorem aX2_goldOf_174 : i_at mX2_goldOf.2.2.2.2.2 174 = some (.ireturn, 1, 0, 0, 0, 0) := by decide +kernel
noncomputable def fX2_goldOf_L5 (sh : List kd) (p0 : Nat) (p1 : Int32) (p2 : Int32) (k43 : Int32 → Int32 → St → Option (Int32 × St)) : Nat → Int32 → Int32 → St → Option (Int32 × St)
  | 0, _, _, _ => none
  | n57 + 1, x1, x2, s3 => if (s3.1 (p0 + 1) 4) ≤ x2 then k43 x1 x2 s3 else if i_ok x2 6 then i_bd (fX6_rankOf sh s3 (p0 + 1) (s3.2.1 ((p0 + 7) + 2) x2.toNatClampNeg)) (fun r60 s61 => (fX2_goldOf_L5 sh p0 p1 p2 k43 n57 (x1 + r60) (x2 + 1) s61)) else none
noncomputable def fX2_goldOf_J151 (sh : List kd) (p0 : Nat) (p1 : Int32) (p2 : Int32) (x54 : Int32) (r65 : Int32) (x68 : Int32) (x70 : Int32) (r131 : Int32) (s132 : St) (k78 : Int32 → Int32 → Int32 → Value → St → Option (Int32 × St)) (x187 : Int32) : Option (Int32 × St) := k78 (x68 - ((p1 * r131) / x54)) x187 (x70 + 1) (.int (p1 * r131)) s132
noncomputable def fX2_goldOf_L78 (sh : List kd) (p0 : Nat) (p1 : Int32) (p2 : Int32) (x54 : Int32) (r65 : Int32) (k157 : Int32 → Int32 → Int32 → Value → St → Option (Int32 × St)) : Nat → Int32 → Int32 → Int32 → Value → St → Option (Int32 × St)
  | 0, _, _, _, _, _ => none
  | n128 + 1, x68, x69, x70, x71, s72 => if (s72.1 (p0 + 1) 4) ≤ x70 then k157 x68 x69 x70 x71 s72 else if i_ok x70 6 then i_bd (fX6_rankOf sh s72 (p0 + 1) (s72.2.1 ((p0 + 7) + 2) x70.toNatClampNeg)) (fun r131 s132 => if x54 = 0 then none else if x54 = 0 then none else if x54 = 0 then none else if ((p1 * r65) - (p1 * r65) / x54 * x54) < ((p1 * r131) - (p1 * r131) / x54 * x54) then fX2_goldOf_J151 sh p0 p1 p2 x54 r65 x68 x70 r131 s132 (fX2_goldOf_L78 sh p0 p1 p2 x54 r65 k157 n128) (x69 + 1) else if x54 = 0 then none else if x54 = 0 then none else if ¬ ((p1 * r131) - (p1 * r131) / x54 * x54) = ((p1 * r65) - (p1 * r65) / x54 * x54) then fX2_goldOf_J151 sh p0 p1 p2 x54 r65 x68 x70 r131 s132 (fX2_goldOf_L78 sh p0 p1 p2 x54 r65 k157 n128) x69 else if p2 ≤ x70 then fX2_goldOf_J151 sh p0 p1 p2 x54 r65 x68 x70 r131 s132 (fX2_goldOf_L78 sh p0 p1 p2 x54 r65 k157 n128) x69 else fX2_goldOf_J151 sh p0 p1 p2 x54 r65 x68 x70 r131 s132 (fX2_goldOf_L78 sh p0 p1 p2 x54 r65 k157 n128) (x69 + 1)) else none
noncomputable def fX2_goldOf_X157 (sh : List kd) (p0 : Nat) (p1 : Int32) (p2 : Int32) (x54 : Int32) (r65 : Int32) (x123 : Int32) (x124 : Int32) (x125 : Int32) (x126 : Value) (s127 : St) : Option (Int32 × St) := if x54 = 0 then none else some ((((p1 * r65) / x54) + ((if x123 ≤ x124 then 0 else 1) : Int32)), s127)
noncomputable def fX2_goldOf_X43 (sh : List kd) (p0 : Nat) (p1 : Int32) (p2 : Int32) (x54 : Int32) (x55 : Int32) (s56 : St) : Option (Int32 × St) := if 0 < x54 then if i_ok p2 6 then i_bd (fX6_rankOf sh s56 (p0 + 1) (s56.2.1 ((p0 + 7) + 2) p2.toNatClampNeg)) (fun r65 s66 => fX2_goldOf_L78 sh p0 p1 p2 x54 r65 (fun (x123 : Int32) (x124 : Int32) (x125 : Int32) (x126 : Value) (s127 : St) => fX2_goldOf_X157 sh p0 p1 p2 x54 r65 x123 x124 x125 x126 s127) i_F p1 0 0 (.retAddr 0) s66) else none else some (0, s56)
noncomputable def fX2_goldOf (sh : List kd) (σ : St) (p0 : Nat) (p1 : Int32) (p2 : Int32) : Option (Int32 × St) := fX2_goldOf_L5 sh p0 p1 p2 (fun (x54 : Int32) (x55 : Int32) (s56 : St) => fX2_goldOf_X43 sh p0 p1 p2 x54 x55 s56) i_F 0 0 σ
set_option maxRecDepth 20000 in
set_option maxHeartbeats 2000000 in
theorem tX2_goldOf_L5 {sh : List kd} {τ : St} {r : Int32} (hsh : cSh sh) {p0 : Nat} {p1 : Int32} {p2 : Int32} {k43 : Int32 → Int32 → St → Option (Int32 × St)} (hp0 : wSh sh p0) (hk43 : ∀ (x54 : Int32) (x55 : Int32) (s56 : St), k43 x54 x55 s56 = some (r, τ) → g_R sh 1 mX2_goldOf (some (.int r)) τ 43 [.ref p0, .int p1, .int p2, .int x54, .int x55, .retAddr 0, .retAddr 0, .retAddr 0, .retAddr 0] [] (s56)) : ∀ (n0 : Nat) (x1 : Int32) (x2 : Int32) (s3 : St), fX2_goldOf_L5 sh p0 p1 p2 k43 n0 x1 x2 s3 = some (r, τ) → g_R sh 1 mX2_goldOf (some (.int r)) τ 5 [.ref p0, .int p1, .int p2, .int x1, .int x2, .retAddr 0, .retAddr 0, .retAddr 0, .retAddr 0] [] (s3) := by
  intro n0
  induction n0 with
  | zero => intro _ _ _ hE; cases hE
  | succ n57 ih =>
    intro x1 x2 s3 hE
    unfold fX2_goldOf_L5 at hE
    refine g_ldi aX2_goldOf_5 rfl ?_
    refine g_ldan aX2_goldOf_7 rfl ?_
    refine g_getR aX2_goldOf_8 (hp0.1) rfl ?_
    refine g_getI aX2_goldOf_11 (hp0.2.1.1) rfl ?_
    by_cases hc58 : (s3.1 (p0 + 1) 4) ≤ x2
    · rw [if_pos hc58] at hE
      refine g_ic_ge_t aX2_goldOf_14 hc58 ?_
      exact hk43 _ _ _ hE
    · rw [if_neg hc58] at hE
      refine g_ic_ge_f aX2_goldOf_14 hc58 ?_
      refine g_ldin aX2_goldOf_17 rfl ?_
      refine g_ldan aX2_goldOf_18 rfl ?_
      refine g_getR aX2_goldOf_19 (hp0.1) rfl ?_
      refine g_ldan aX2_goldOf_22 rfl ?_
      refine g_getR aX2_goldOf_23 (hp0.1) rfl ?_
      refine g_getR aX2_goldOf_26 (hp0.2.2.1.1) rfl ?_
      refine g_ldi aX2_goldOf_29 rfl ?_
      obtain ⟨h59, hE⟩ := i_ifn hE
      refine g_ild aX2_goldOf_31 (hp0.2.2.1.2.2.1) h59 ?_
      obtain ⟨r60, s61, h62, hE⟩ := i_bd_some hE
      refine g_calV (As := [.int (s3.2.1 ((p0 + 7) + 2) x2.toNatClampNeg)]) (rest := [.int x1]) aX2_goldOf_32 (i_X_mono (by omega) (tX6_rankOf hsh hp0.2.1 h62)) (hp0.2.1.1) (by decide +kernel) rfl rfl (Nat.le_of_ble_eq_true rfl) rfl ?_
      refine g_iadd aX2_goldOf_35 ?_
      refine g_stin (loc2 := [.ref p0, .int p1, .int p2, .int (x1 + r60), .int x2, .retAddr 0, .retAddr 0, .retAddr 0, .retAddr 0]) aX2_goldOf_36 (Nat.le_of_ble_eq_true rfl) rfl ?_
      refine g_iinc (y := 1) (loc2 := [.ref p0, .int p1, .int p2, .int (x1 + r60), .int (x2 + 1), .retAddr 0, .retAddr 0, .retAddr 0, .retAddr 0]) aX2_goldOf_37 rfl rfl rfl ?_
      refine g_goto aX2_goldOf_40 ?_
      exact ih _ _ _ hE
set_option maxRecDepth 20000 in
set_option maxHeartbeats 2000000 in
theorem tX2_goldOf_J151 {sh : List kd} {τ : St} {r : Int32} (hsh : cSh sh) {p0 : Nat} {p1 : Int32} {p2 : Int32} {x54 : Int32} {r65 : Int32} {x68 : Int32} {x70 : Int32} {r131 : Int32} {s132 : St} {x187 : Int32} {k78 : Int32 → Int32 → Int32 → Value → St → Option (Int32 × St)} (hp0 : wSh sh p0) (hk78 : ∀ (x68 : Int32) (x69 : Int32) (x70 : Int32) (x71 : Value) (s72 : St), k78 x68 x69 x70 x71 s72 = some (r, τ) → g_R sh 1 mX2_goldOf (some (.int r)) τ 78 [.ref p0, .int p1, .int p2, .int x54, .int (p1 * r65), .int x68, .int x69, .int x70, x71] [] (s72)) (hE : fX2_goldOf_J151 sh p0 p1 p2 x54 r65 x68 x70 r131 s132 k78 x187 = some (r, τ)) : g_R sh 1 mX2_goldOf (some (.int r)) τ 151 [.ref p0, .int p1, .int p2, .int x54, .int (p1 * r65), .int (x68 - ((p1 * r131) / x54)), .int x187, .int x70, .int (p1 * r131)] [] (s132) := by
  unfold fX2_goldOf_J151 at hE
  refine g_iinc (y := 1) (loc2 := [.ref p0, .int p1, .int p2, .int x54, .int (p1 * r65), .int (x68 - ((p1 * r131) / x54)), .int x187, .int (x70 + 1), .int (p1 * r131)]) aX2_goldOf_151 rfl rfl rfl ?_
  refine g_goto aX2_goldOf_154 ?_
  exact hk78 _ _ _ _ _ hE
set_option maxRecDepth 20000 in
set_option maxHeartbeats 2000000 in
theorem tX2_goldOf_L78 {sh : List kd} {τ : St} {r : Int32} (hsh : cSh sh) {p0 : Nat} {p1 : Int32} {p2 : Int32} {x54 : Int32} {r65 : Int32} {k157 : Int32 → Int32 → Int32 → Value → St → Option (Int32 × St)} (hp0 : wSh sh p0) (hk157 : ∀ (x123 : Int32) (x124 : Int32) (x125 : Int32) (x126 : Value) (s127 : St), k157 x123 x124 x125 x126 s127 = some (r, τ) → g_R sh 1 mX2_goldOf (some (.int r)) τ 157 [.ref p0, .int p1, .int p2, .int x54, .int (p1 * r65), .int x123, .int x124, .int x125, x126] [] (s127)) : ∀ (n0 : Nat) (x68 : Int32) (x69 : Int32) (x70 : Int32) (x71 : Value) (s72 : St), fX2_goldOf_L78 sh p0 p1 p2 x54 r65 k157 n0 x68 x69 x70 x71 s72 = some (r, τ) → g_R sh 1 mX2_goldOf (some (.int r)) τ 78 [.ref p0, .int p1, .int p2, .int x54, .int (p1 * r65), .int x68, .int x69, .int x70, x71] [] (s72) := by
  intro n0
  induction n0 with
  | zero => intro _ _ _ _ _ hE; cases hE
  | succ n128 ih =>
    intro x68 x69 x70 x71 s72 hE
    unfold fX2_goldOf_L78 at hE
    refine g_ldi aX2_goldOf_78 rfl ?_
    refine g_ldan aX2_goldOf_80 rfl ?_
    refine g_getR aX2_goldOf_81 (hp0.1) rfl ?_
    refine g_getI aX2_goldOf_84 (hp0.2.1.1) rfl ?_
    by_cases hc129 : (s72.1 (p0 + 1) 4) ≤ x70
    · rw [if_pos hc129] at hE
      refine g_ic_ge_t aX2_goldOf_87 hc129 ?_
      exact hk157 _ _ _ _ _ hE
    · rw [if_neg hc129] at hE
      refine g_ic_ge_f aX2_goldOf_87 hc129 ?_
      refine g_ldin aX2_goldOf_90 rfl ?_
      refine g_ldan aX2_goldOf_91 rfl ?_
      refine g_getR aX2_goldOf_92 (hp0.1) rfl ?_
      refine g_ldan aX2_goldOf_95 rfl ?_
      refine g_getR aX2_goldOf_96 (hp0.1) rfl ?_
      refine g_getR aX2_goldOf_99 (hp0.2.2.1.1) rfl ?_
      refine g_ldi aX2_goldOf_102 rfl ?_
      obtain ⟨h130, hE⟩ := i_ifn hE
      refine g_ild aX2_goldOf_104 (hp0.2.2.1.2.2.1) h130 ?_
      obtain ⟨r131, s132, h133, hE⟩ := i_bd_some hE
      refine g_calV (As := [.int (s72.2.1 ((p0 + 7) + 2) x70.toNatClampNeg)]) (rest := [.int p1]) aX2_goldOf_105 (i_X_mono (by omega) (tX6_rankOf hsh hp0.2.1 h133)) (hp0.2.1.1) (by decide +kernel) rfl rfl (Nat.le_of_ble_eq_true rfl) rfl ?_
      refine g_imul aX2_goldOf_108 ?_
      refine g_sti (loc2 := [.ref p0, .int p1, .int p2, .int x54, .int (p1 * r65), .int x68, .int x69, .int x70, .int (p1 * r131)]) aX2_goldOf_109 (Nat.le_of_ble_eq_true rfl) rfl ?_
      refine g_ldi aX2_goldOf_111 rfl ?_
      refine g_ldi aX2_goldOf_113 rfl ?_
      refine g_ldin aX2_goldOf_115 rfl ?_
      obtain ⟨h134, hE⟩ := i_nif hE
      refine g_idiv aX2_goldOf_116 h134 ?_
      refine g_isub aX2_goldOf_117 ?_
      refine g_sti (loc2 := [.ref p0, .int p1, .int p2, .int x54, .int (p1 * r65), .int (x68 - ((p1 * r131) / x54)), .int x69, .int x70, .int (p1 * r131)]) aX2_goldOf_118 (Nat.le_of_ble_eq_true rfl) rfl ?_
      refine g_ldi aX2_goldOf_120 rfl ?_
      refine g_ldin aX2_goldOf_122 rfl ?_
      obtain ⟨h135, hE⟩ := i_nif hE
      refine g_irem aX2_goldOf_123 h135 ?_
      refine g_ldi aX2_goldOf_124 rfl ?_
      refine g_ldin aX2_goldOf_126 rfl ?_
      obtain ⟨h136, hE⟩ := i_nif hE
      refine g_irem aX2_goldOf_127 h136 ?_
      by_cases hc188 : ((p1 * r65) - (p1 * r65) / x54 * x54) < ((p1 * r131) - (p1 * r131) / x54 * x54)
      · rw [if_pos hc188] at hE
        refine g_ic_gt_t aX2_goldOf_128 hc188 ?_
        refine g_iinc (y := 1) (loc2 := [.ref p0, .int p1, .int p2, .int x54, .int (p1 * r65), .int (x68 - ((p1 * r131) / x54)), .int (x69 + 1), .int x70, .int (p1 * r131)]) aX2_goldOf_148 rfl rfl rfl ?_
        exact tX2_goldOf_J151 hsh hp0 ih hE
      · rw [if_neg hc188] at hE
        refine g_ic_gt_f aX2_goldOf_128 hc188 ?_
        refine g_ldi aX2_goldOf_131 rfl ?_
        refine g_ldin aX2_goldOf_133 rfl ?_
        obtain ⟨h189, hE⟩ := i_nif hE
        refine g_irem aX2_goldOf_134 h189 ?_
        refine g_ldi aX2_goldOf_135 rfl ?_
        refine g_ldin aX2_goldOf_137 rfl ?_
        obtain ⟨h190, hE⟩ := i_nif hE
        refine g_irem aX2_goldOf_138 h190 ?_
        by_cases hc191 : ¬ ((p1 * r131) - (p1 * r131) / x54 * x54) = ((p1 * r65) - (p1 * r65) / x54 * x54)
        · rw [if_pos hc191] at hE
          refine g_ic_ne_t aX2_goldOf_139 hc191 ?_
          exact tX2_goldOf_J151 hsh hp0 ih hE
        · rw [if_neg hc191] at hE
          refine g_ic_ne_f aX2_goldOf_139 hc191 ?_
          refine g_ldi aX2_goldOf_142 rfl ?_
          refine g_ldin aX2_goldOf_144 rfl ?_
          by_cases hc192 : p2 ≤ x70
          · rw [if_pos hc192] at hE
            refine g_ic_ge_t aX2_goldOf_145 hc192 ?_
            exact tX2_goldOf_J151 hsh hp0 ih hE
          · rw [if_neg hc192] at hE
            refine g_ic_ge_f aX2_goldOf_145 hc192 ?_
            refine g_iinc (y := 1) (loc2 := [.ref p0, .int p1, .int p2, .int x54, .int (p1 * r65), .int (x68 - ((p1 * r131) / x54)), .int (x69 + 1), .int x70, .int (p1 * r131)]) aX2_goldOf_148 rfl rfl rfl ?_
            exact tX2_goldOf_J151 hsh hp0 ih hE
set_option maxRecDepth 20000 in
set_option maxHeartbeats 2000000 in
theorem tX2_goldOf_X157 {sh : List kd} {τ : St} {r : Int32} (hsh : cSh sh) {p0 : Nat} {p1 : Int32} {p2 : Int32} {x54 : Int32} {r65 : Int32} {x123 : Int32} {x124 : Int32} {x125 : Int32} {x126 : Value} {s127 : St} (hp0 : wSh sh p0) (hE : fX2_goldOf_X157 sh p0 p1 p2 x54 r65 x123 x124 x125 x126 s127 = some (r, τ)) : g_R sh 1 mX2_goldOf (some (.int r)) τ 157 [.ref p0, .int p1, .int p2, .int x54, .int (p1 * r65), .int x123, .int x124, .int x125, x126] [] (s127) := by
  unfold fX2_goldOf_X157 at hE
  refine g_ldi aX2_goldOf_157 rfl ?_
  refine g_ldin aX2_goldOf_159 rfl ?_
  obtain ⟨h193, hE⟩ := i_nif hE
  refine g_idiv aX2_goldOf_160 h193 ?_
  refine g_ldi aX2_goldOf_161 rfl ?_
  refine g_ldi aX2_goldOf_163 rfl ?_
  have hJ : g_R sh 1 mX2_goldOf (some (.int r)) τ 173 [.ref p0, .int p1, .int p2, .int x54, .int (p1 * r65), .int x123, .int x124, .int x125, x126] [.int ((if x123 ≤ x124 then 0 else 1) : Int32), .int ((p1 * r65) / x54)] (s127) := by
    refine g_iadd aX2_goldOf_173 ?_
    obtain ⟨rfl, rfl⟩ := i_some_inj hE
    exact g_iret aX2_goldOf_174 rfl rfl
  clear hE
  by_cases hc193 : x123 ≤ x124
  · (try rw [if_pos hc193] at hJ)
    refine g_ic_ge_t aX2_goldOf_165 hc193 ?_
    refine g_iconst (x := 0) aX2_goldOf_172 rfl ?_
    exact hJ
  · (try rw [if_neg hc193] at hJ)
    refine g_ic_ge_f aX2_goldOf_165 hc193 ?_
    refine g_iconst (x := 1) aX2_goldOf_168 rfl ?_
    refine g_goto aX2_goldOf_169 ?_
    exact hJ
set_option maxRecDepth 20000 in
set_option maxHeartbeats 2000000 in
theorem tX2_goldOf_X43 {sh : List kd} {τ : St} {r : Int32} (hsh : cSh sh) {p0 : Nat} {p1 : Int32} {p2 : Int32} {x54 : Int32} {x55 : Int32} {s56 : St} (hp0 : wSh sh p0) (hE : fX2_goldOf_X43 sh p0 p1 p2 x54 x55 s56 = some (r, τ)) : g_R sh 1 mX2_goldOf (some (.int r)) τ 43 [.ref p0, .int p1, .int p2, .int x54, .int x55, .retAddr 0, .retAddr 0, .retAddr 0, .retAddr 0] [] (s56) := by
  unfold fX2_goldOf_X43 at hE
  refine g_ldin aX2_goldOf_43 rfl ?_
  by_cases hc63 : 0 < x54
  · rw [if_pos hc63] at hE
    refine g_if_gt_t aX2_goldOf_44 hc63 ?_
    refine g_ldin aX2_goldOf_49 rfl ?_
    refine g_ldan aX2_goldOf_50 rfl ?_
    refine g_getR aX2_goldOf_51 (hp0.1) rfl ?_
    refine g_ldan aX2_goldOf_54 rfl ?_
    refine g_getR aX2_goldOf_55 (hp0.1) rfl ?_
    refine g_getR aX2_goldOf_58 (hp0.2.2.1.1) rfl ?_
    refine g_ldin aX2_goldOf_61 rfl ?_
    obtain ⟨h64, hE⟩ := i_ifn hE
    refine g_ild aX2_goldOf_62 (hp0.2.2.1.2.2.1) h64 ?_
    obtain ⟨r65, s66, h67, hE⟩ := i_bd_some hE
    refine g_calV (As := [.int (s56.2.1 ((p0 + 7) + 2) p2.toNatClampNeg)]) (rest := [.int p1]) aX2_goldOf_63 (i_X_mono (by omega) (tX6_rankOf hsh hp0.2.1 h67)) (hp0.2.1.1) (by decide +kernel) rfl rfl (Nat.le_of_ble_eq_true rfl) rfl ?_
    refine g_imul aX2_goldOf_66 ?_
    refine g_sti (loc2 := [.ref p0, .int p1, .int p2, .int x54, .int (p1 * r65), .retAddr 0, .retAddr 0, .retAddr 0, .retAddr 0]) aX2_goldOf_67 (Nat.le_of_ble_eq_true rfl) rfl ?_
    refine g_ldin aX2_goldOf_69 rfl ?_
    refine g_sti (loc2 := [.ref p0, .int p1, .int p2, .int x54, .int (p1 * r65), .int p1, .retAddr 0, .retAddr 0, .retAddr 0]) aX2_goldOf_70 (Nat.le_of_ble_eq_true rfl) rfl ?_
    refine g_iconst (x := 0) aX2_goldOf_72 rfl ?_
    refine g_sti (loc2 := [.ref p0, .int p1, .int p2, .int x54, .int (p1 * r65), .int p1, .int 0, .retAddr 0, .retAddr 0]) aX2_goldOf_73 (Nat.le_of_ble_eq_true rfl) rfl ?_
    refine g_iconst (x := 0) aX2_goldOf_75 rfl ?_
    refine g_sti (loc2 := [.ref p0, .int p1, .int p2, .int x54, .int (p1 * r65), .int p1, .int 0, .int 0, .retAddr 0]) aX2_goldOf_76 (Nat.le_of_ble_eq_true rfl) rfl ?_
    exact tX2_goldOf_L78 hsh hp0 (fun x123 x124 x125 x126 s127 hE => tX2_goldOf_X157 hsh hp0 hE) i_F _ _ _ _ _ hE
  · rw [if_neg hc63] at hE
    refine g_if_gt_f aX2_goldOf_44 hc63 ?_
    refine g_iconst (x := 0) aX2_goldOf_47 rfl ?_
    obtain ⟨rfl, rfl⟩ := i_some_inj hE
    exact g_iret aX2_goldOf_48 rfl rfl
set_option maxRecDepth 20000 in
set_option maxHeartbeats 2000000 in
theorem tX2_goldOf {sh : List kd} {σ τ : St} {r : Int32} (hsh : cSh sh) {p0 : Nat} {p1 : Int32} {p2 : Int32} (hp0 : wSh sh p0) (hE : fX2_goldOf sh σ p0 p1 p2 = some (r, τ)) : i_X 2 17 [.ref p0, .int p1, .int p2] (s_h sh σ) 0 0 (some (.int r)) (s_h sh τ) := by
  refine g_X (M := mX2_goldOf) (loc := [.ref p0, .int p1, .int p2, .retAddr 0, .retAddr 0, .retAddr 0, .retAddr 0, .retAddr 0, .retAddr 0]) rfl (Nat.le_of_ble_eq_true rfl) rfl ?_
  unfold fX2_goldOf at hE
  refine g_iconst (x := 0) aX2_goldOf_0 rfl ?_
  refine g_stin (loc2 := [.ref p0, .int p1, .int p2, .int 0, .retAddr 0, .retAddr 0, .retAddr 0, .retAddr 0, .retAddr 0]) aX2_goldOf_1 (Nat.le_of_ble_eq_true rfl) rfl ?_
  refine g_iconst (x := 0) aX2_goldOf_2 rfl ?_
  refine g_sti (loc2 := [.ref p0, .int p1, .int p2, .int 0, .int 0, .retAddr 0, .retAddr 0, .retAddr 0, .retAddr 0]) aX2_goldOf_3 (Nat.le_of_ble_eq_true rfl) rfl ?_
  exact tX2_goldOf_L5 hsh hp0 (fun x54 x55 s56 hE => tX2_goldOf_X43 hsh hp0 hE) i_F _ _ _ hE
theorem aX3_mostAlike_0 : i_at mX3_mostAlike.2.2.2.2.2 0 = some (.aload_n 0, 1, 0, 0, 0, 0) := by decide +kernel
theorem aX3_mostAlike_1 : i_at mX3_mostAlike.2.2.2.2.2 1 = some (.getfield 27, 3, 2, 5, 434, 0) := by decide +kernel
theorem aX3_mostAlike_4 : i_at mX3_mostAlike.2.2.2.2.2 4 = some (.iconst 0, 1, 0, 0, 0, 0) := by decide +kernel
theorem aX3_mostAlike_5 : i_at mX3_mostAlike.2.2.2.2.2 5 = some (.invokestatic 83, 3, 231, 2, 1043, 0) := by decide +kernel
theorem aX3_mostAlike_8 : i_at mX3_mostAlike.2.2.2.2.2 8 = some (.iconst 0, 1, 0, 0, 0, 0) := by decide +kernel
theorem aX3_mostAlike_9 : i_at mX3_mostAlike.2.2.2.2.2 9 = some (.istore_n 2, 1, 0, 0, 0, 0) := by decide +kernel
theorem aX3_mostAlike_10 : i_at mX3_mostAlike.2.2.2.2.2 10 = some (.iconst 0, 1, 0, 0, 0, 0) := by decide +kernel
theorem aX3_mostAlike_11 : i_at mX3_mostAlike.2.2.2.2.2 11 = some (.istore_n 3, 1, 0, 0, 0, 0) := by decide +kernel
theorem aX3_mostAlike_12 : i_at mX3_mostAlike.2.2.2.2.2 12 = some (.iload_n 3, 1, 0, 0, 0, 0) := by decide +kernel
theorem aX3_mostAlike_13 : i_at mX3_mostAlike.2.2.2.2.2 13 = some (.bipush 7, 2, 0, 0, 0, 0) := by decide +kernel
theorem aX3_mostAlike_15 : i_at mX3_mostAlike.2.2.2.2.2 15 = some (.if_icmp .ge 53, 3, 68, 0, 0, 0) := by decide +kernel
theorem aX3_mostAlike_18 : i_at mX3_mostAlike.2.2.2.2.2 18 = some (.aload_n 0, 1, 0, 0, 0, 0) := by decide +kernel
theorem aX3_mostAlike_19 : i_at mX3_mostAlike.2.2.2.2.2 19 = some (.getfield 23, 3, 2, 4, 433, 0) := by decide +kernel
theorem aX3_mostAlike_22 : i_at mX3_mostAlike.2.2.2.2.2 22 = some (.iload_n 3, 1, 0, 0, 0, 0) := by decide +kernel
theorem aX3_mostAlike_23 : i_at mX3_mostAlike.2.2.2.2.2 23 = some (.baload, 1, 0, 0, 0, 0) := by decide +kernel
theorem aX3_mostAlike_24 : i_at mX3_mostAlike.2.2.2.2.2 24 = some (.ifCond .eq 38, 3, 62, 0, 0, 0) := by decide +kernel
theorem aX3_mostAlike_27 : i_at mX3_mostAlike.2.2.2.2.2 27 = some (.aload_n 0, 1, 0, 0, 0, 0) := by decide +kernel
theorem aX3_mostAlike_28 : i_at mX3_mostAlike.2.2.2.2.2 28 = some (.getfield 20, 3, 2, 3, 432, 0) := by decide +kernel
theorem aX3_mostAlike_31 : i_at mX3_mostAlike.2.2.2.2.2 31 = some (.iload_n 3, 1, 0, 0, 0, 0) := by decide +kernel
theorem aX3_mostAlike_32 : i_at mX3_mostAlike.2.2.2.2.2 32 = some (.aaload, 1, 0, 0, 0, 0) := by decide +kernel
theorem aX3_mostAlike_33 : i_at mX3_mostAlike.2.2.2.2.2 33 = some (.iload_n 1, 1, 0, 0, 0, 0) := by decide +kernel
theorem aX3_mostAlike_34 : i_at mX3_mostAlike.2.2.2.2.2 34 = some (.iaload, 1, 0, 0, 0, 0) := by decide +kernel
theorem aX3_mostAlike_35 : i_at mX3_mostAlike.2.2.2.2.2 35 = some (.iconst 1, 1, 0, 0, 0, 0) := by decide +kernel
theorem aX3_mostAlike_36 : i_at mX3_mostAlike.2.2.2.2.2 36 = some (.iadd, 1, 0, 0, 0, 0) := by decide +kernel
theorem aX3_mostAlike_37 : i_at mX3_mostAlike.2.2.2.2.2 37 = some (.istore 4, 2, 0, 0, 0, 0) := by decide +kernel
theorem aX3_mostAlike_39 : i_at mX3_mostAlike.2.2.2.2.2 39 = some (.aload_n 0, 1, 0, 0, 0, 0) := by decide +kernel
theorem aX3_mostAlike_40 : i_at mX3_mostAlike.2.2.2.2.2 40 = some (.getfield 27, 3, 2, 5, 434, 0) := by decide +kernel
theorem aX3_mostAlike_43 : i_at mX3_mostAlike.2.2.2.2.2 43 = some (.iload 4, 2, 0, 0, 0, 0) := by decide +kernel
theorem aX3_mostAlike_45 : i_at mX3_mostAlike.2.2.2.2.2 45 = some (.dup2, 1, 0, 0, 0, 0) := by decide +kernel
theorem aX3_mostAlike_46 : i_at mX3_mostAlike.2.2.2.2.2 46 = some (.iaload, 1, 0, 0, 0, 0) := by decide +kernel
theorem aX3_mostAlike_47 : i_at mX3_mostAlike.2.2.2.2.2 47 = some (.iconst 1, 1, 0, 0, 0, 0) := by decide +kernel
theorem aX3_mostAlike_48 : i_at mX3_mostAlike.2.2.2.2.2 48 = some (.iadd, 1, 0, 0, 0, 0) := by decide +kernel
theorem aX3_mostAlike_49 : i_at mX3_mostAlike.2.2.2.2.2 49 = some (.iastore, 1, 0, 0, 0, 0) := by decide +kernel
theorem aX3_mostAlike_50 : i_at mX3_mostAlike.2.2.2.2.2 50 = some (.iload_n 2, 1, 0, 0, 0, 0) := by decide +kernel
theorem aX3_mostAlike_51 : i_at mX3_mostAlike.2.2.2.2.2 51 = some (.aload_n 0, 1, 0, 0, 0, 0) := by decide +kernel
theorem aX3_mostAlike_52 : i_at mX3_mostAlike.2.2.2.2.2 52 = some (.getfield 27, 3, 2, 5, 434, 0) := by decide +kernel
theorem aX3_mostAlike_55 : i_at mX3_mostAlike.2.2.2.2.2 55 = some (.iload 4, 2, 0, 0, 0, 0) := by decide +kernel
theorem aX3_mostAlike_57 : i_at mX3_mostAlike.2.2.2.2.2 57 = some (.iaload, 1, 0, 0, 0, 0) := by decide +kernel
theorem aX3_mostAlike_58 : i_at mX3_mostAlike.2.2.2.2.2 58 = some (.invokestatic 89, 3, 1001, 2, 1044, 0) := by decide +kernel
theorem aX3_mostAlike_61 : i_at mX3_mostAlike.2.2.2.2.2 61 = some (.istore_n 2, 1, 0, 0, 0, 0) := by decide +kernel
theorem aX3_mostAlike_62 : i_at mX3_mostAlike.2.2.2.2.2 62 = some (.iinc 3 1, 3, 0, 0, 0, 0) := by decide +kernel
theorem aX3_mostAlike_65 : i_at mX3_mostAlike.2.2.2.2.2 65 = some (.goto (-53), 3, 12, 0, 0, 0) := by decide +kernel
theorem aX3_mostAlike_68 : i_at mX3_mostAlike.2.2.2.2.2 68 = some (.iload_n 2, 1, 0, 0, 0, 0) := by decide +kernel
theorem aX3_mostAlike_69 : i_at mX3_mostAlike.2.2.2.2.2 69 = some (.ireturn, 1, 0, 0, 0, 0) := by decide +kernel
noncomputable def fX3_mostAlike_J62 (sh : List kd) (p1 : Int32) (x5 : Int32) (k12 : Int32 → Int32 → Value → St → Option (Int32 × St)) (x111 : Int32) (x112 : Value) (s113 : St) : Option (Int32 × St) := k12 x111 (x5 + 1) x112 s113
noncomputable def fX3_mostAlike_L12 (sh : List kd) (p1 : Int32) : Nat → Int32 → Int32 → Value → St → Option (Int32 × St)
  | 0, _, _, _, _ => none
  | n8 + 1, x4, x5, x6, s7 => if 7 ≤ x5 then some (x4, s7) else if i_ok x5 7 then if (s7.2.1 157 x5.toNatClampNeg) = 0 then fX3_mostAlike_J62 sh p1 x5 (fX3_mostAlike_L12 sh p1 n8) x4 x6 s7 else if i_ok x5 7 then i_om (s7.2.2.2 149 x5.toNatClampNeg) (fun q116 => i_al sh .int q116 (fun n118 => if i_ok p1 n118 then if i_ok ((s7.2.1 q116 p1.toNatClampNeg) + 1) 7 then if i_ok ((s7.2.1 q116 p1.toNatClampNeg) + 1) 7 then i_jp (s_A s7 158 ((s7.2.1 q116 p1.toNatClampNeg) + 1).toNatClampNeg ((s7.2.1 158 ((s7.2.1 q116 p1.toNatClampNeg) + 1).toNatClampNeg) + 1)) (fun (s123 : St) => if i_ok ((s7.2.1 q116 p1.toNatClampNeg) + 1) 7 then fX3_mostAlike_J62 sh p1 x5 (fX3_mostAlike_L12 sh p1 n8) (if x4 < (s123.2.1 158 ((s7.2.1 q116 p1.toNatClampNeg) + 1).toNatClampNeg) then (s123.2.1 158 ((s7.2.1 q116 p1.toNatClampNeg) + 1).toNatClampNeg) else x4) (.int ((s7.2.1 q116 p1.toNatClampNeg) + 1)) s123 else none) else none else none else none)) else none else none
noncomputable def fX3_mostAlike (sh : List kd) (σ : St) (p1 : Int32) : Option (Int32 × St) := i_bd (fJ7_fill_53178 sh σ 158 0) (fun r1 s2 => fX3_mostAlike_L12 sh p1 i_F 0 0 (.retAddr 0) s2)
set_option maxRecDepth 20000 in
set_option maxHeartbeats 2000000 in
theorem tX3_mostAlike_J62 {sh : List kd} {τ : St} {r : Int32} (hsh : cSh sh) {p1 : Int32} {x5 : Int32} {x111 : Int32} {x112 : Value} {s113 : St} {k12 : Int32 → Int32 → Value → St → Option (Int32 × St)} (hk12 : ∀ (x4 : Int32) (x5 : Int32) (x6 : Value) (s7 : St), k12 x4 x5 x6 s7 = some (r, τ) → g_R sh 1 mX3_mostAlike (some (.int r)) τ 12 [.ref 143, .int p1, .int x4, .int x5, x6] [] (s7)) (hE : fX3_mostAlike_J62 sh p1 x5 k12 x111 x112 s113 = some (r, τ)) : g_R sh 1 mX3_mostAlike (some (.int r)) τ 62 [.ref 143, .int p1, .int x111, .int x5, x112] [] (s113) := by
  unfold fX3_mostAlike_J62 at hE
  refine g_iinc (y := 1) (loc2 := [.ref 143, .int p1, .int x111, .int (x5 + 1), x112]) aX3_mostAlike_62 rfl rfl rfl ?_
  refine g_goto aX3_mostAlike_65 ?_
  exact hk12 _ _ _ _ hE
set_option maxRecDepth 20000 in
set_option maxHeartbeats 2000000 in
theorem tX3_mostAlike_L12 {sh : List kd} {τ : St} {r : Int32} (hsh : cSh sh) {p1 : Int32} : ∀ (n0 : Nat) (x4 : Int32) (x5 : Int32) (x6 : Value) (s7 : St), fX3_mostAlike_L12 sh p1 n0 x4 x5 x6 s7 = some (r, τ) → g_R sh 1 mX3_mostAlike (some (.int r)) τ 12 [.ref 143, .int p1, .int x4, .int x5, x6] [] (s7) := by
  intro n0
  induction n0 with
  | zero => intro _ _ _ _ hE; cases hE
  | succ n8 ih =>
    intro x4 x5 x6 s7 hE
    unfold fX3_mostAlike_L12 at hE
    refine g_ldin aX3_mostAlike_12 rfl ?_
    refine g_bipush (x := 7) aX3_mostAlike_13 rfl ?_
    by_cases hc59 : 7 ≤ x5
    · rw [if_pos hc59] at hE
      refine g_ic_ge_t aX3_mostAlike_15 hc59 ?_
      refine g_ldin aX3_mostAlike_68 rfl ?_
      obtain ⟨rfl, rfl⟩ := i_some_inj hE
      exact g_iret aX3_mostAlike_69 rfl rfl
    · rw [if_neg hc59] at hE
      refine g_ic_ge_f aX3_mostAlike_15 hc59 ?_
      refine g_ldan aX3_mostAlike_18 rfl ?_
      refine g_getR aX3_mostAlike_19 (sC_143 hsh) rfl ?_
      refine g_ldin aX3_mostAlike_22 rfl ?_
      obtain ⟨h60, hE⟩ := i_ifn hE
      refine g_zld aX3_mostAlike_23 (sC_157 hsh) h60 ?_
      by_cases hc114 : (s7.2.1 157 x5.toNatClampNeg) = 0
      · rw [if_pos hc114] at hE
        refine g_if_eq_t aX3_mostAlike_24 hc114 ?_
        exact tX3_mostAlike_J62 hsh ih hE
      · rw [if_neg hc114] at hE
        refine g_if_eq_f aX3_mostAlike_24 hc114 ?_
        refine g_ldan aX3_mostAlike_27 rfl ?_
        refine g_getR aX3_mostAlike_28 (sC_143 hsh) rfl ?_
        refine g_ldin aX3_mostAlike_31 rfl ?_
        obtain ⟨h115, hE⟩ := i_ifn hE
        refine g_aldA aX3_mostAlike_32 (sC_149 hsh) h115 ?_
        refine g_ldin aX3_mostAlike_33 rfl ?_
        obtain ⟨q116, h117, hE⟩ := i_om_some hE
        rw [h117]
        obtain ⟨n118, h119, hE⟩ := i_al_some hE
        obtain ⟨h120, hE⟩ := i_ifn hE
        refine g_ild aX3_mostAlike_34 (h119) h120 ?_
        refine g_iconst (x := 1) aX3_mostAlike_35 rfl ?_
        refine g_iadd aX3_mostAlike_36 ?_
        refine g_sti (loc2 := [.ref 143, .int p1, .int x4, .int x5, .int ((s7.2.1 q116 p1.toNatClampNeg) + 1)]) aX3_mostAlike_37 (Nat.le_of_ble_eq_true rfl) rfl ?_
        refine g_ldan aX3_mostAlike_39 rfl ?_
        refine g_getR aX3_mostAlike_40 (sC_143 hsh) rfl ?_
        refine g_ldi aX3_mostAlike_43 rfl ?_
        refine g_dup2 aX3_mostAlike_45 ?_
        obtain ⟨h121, hE⟩ := i_ifn hE
        refine g_ild aX3_mostAlike_46 (sC_158 hsh) h121 ?_
        refine g_iconst (x := 1) aX3_mostAlike_47 rfl ?_
        refine g_iadd aX3_mostAlike_48 ?_
        obtain ⟨h122, hE⟩ := i_ifn hE
        refine g_ist aX3_mostAlike_49 (sC_158 hsh) h122 ?_
        obtain ⟨s123, h124, hE⟩ := i_jp_some hE
        rw [← h124]
        refine g_ldin aX3_mostAlike_50 rfl ?_
        refine g_ldan aX3_mostAlike_51 rfl ?_
        refine g_getR aX3_mostAlike_52 (sC_143 hsh) rfl ?_
        refine g_ldi aX3_mostAlike_55 rfl ?_
        obtain ⟨h125, hE⟩ := i_ifn hE
        refine g_ild aX3_mostAlike_57 (sC_158 hsh) h125 ?_
        refine g_max aX3_mostAlike_58 (Nat.le_of_ble_eq_true rfl) ?_
        refine g_stin (loc2 := [.ref 143, .int p1, .int (if x4 < (s123.2.1 158 ((s7.2.1 q116 p1.toNatClampNeg) + 1).toNatClampNeg) then (s123.2.1 158 ((s7.2.1 q116 p1.toNatClampNeg) + 1).toNatClampNeg) else x4), .int x5, .int ((s7.2.1 q116 p1.toNatClampNeg) + 1)]) aX3_mostAlike_61 (Nat.le_of_ble_eq_true rfl) rfl ?_
        exact tX3_mostAlike_J62 hsh ih hE
set_option maxRecDepth 20000 in
set_option maxHeartbeats 2000000 in
theorem tX3_mostAlike {sh : List kd} {σ τ : St} {r : Int32} (hsh : cSh sh) {p1 : Int32} (hE : fX3_mostAlike sh σ p1 = some (r, τ)) : i_X 2 24 [.ref 143, .int p1] (s_h sh σ) 0 0 (some (.int r)) (s_h sh τ) := by
  refine g_X (M := mX3_mostAlike) (loc := [.ref 143, .int p1, .retAddr 0, .retAddr 0, .retAddr 0]) rfl (Nat.le_of_ble_eq_true rfl) rfl ?_
  unfold fX3_mostAlike at hE
  refine g_ldan aX3_mostAlike_0 rfl ?_
  refine g_getR aX3_mostAlike_1 (sC_143 hsh) rfl ?_
  refine g_iconst (x := 0) aX3_mostAlike_4 rfl ?_
  obtain ⟨r1, s2, h3, hE⟩ := i_bd_some hE
  refine g_calS (As := [.ref 158, .int 0]) (rest := []) aX3_mostAlike_5 (i_X_mono (by omega) (tJ7_fill_53178 hsh h3)) rfl rfl (Nat.le_of_ble_eq_true rfl) rfl ?_
  refine g_iconst (x := 0) aX3_mostAlike_8 rfl ?_
  refine g_stin (loc2 := [.ref 143, .int p1, .int 0, .retAddr 0, .retAddr 0]) aX3_mostAlike_9 (Nat.le_of_ble_eq_true rfl) rfl ?_
  refine g_iconst (x := 0) aX3_mostAlike_10 rfl ?_
  refine g_stin (loc2 := [.ref 143, .int p1, .int 0, .int 0, .retAddr 0]) aX3_mostAlike_11 (Nat.le_of_ble_eq_true rfl) rfl ?_
  exact tX3_mostAlike_L12 hsh i_F _ _ _ _ hE
theorem aX4_begin_0 : i_at mX4_begin.2.2.2.2.2 0 = some (.aload_n 0, 1, 0, 0, 0, 0) := by decide +kernel
theorem aX4_begin_1 : i_at mX4_begin.2.2.2.2.2 1 = some (.iconst 0, 1, 0, 0, 0, 0) := by decide +kernel
theorem aX4_begin_2 : i_at mX4_begin.2.2.2.2.2 2 = some (.putfield 31, 3, 3, 0, 292, 0) := by decide +kernel
theorem aX4_begin_5 : i_at mX4_begin.2.2.2.2.2 5 = some (.aload_n 0, 1, 0, 0, 0, 0) := by decide +kernel
theorem aX4_begin_6 : i_at mX4_begin.2.2.2.2.2 6 = some (.iconst (-1), 1, 0, 0, 0, 0) := by decide +kernel
theorem aX4_begin_7 : i_at mX4_begin.2.2.2.2.2 7 = some (.putfield 9, 3, 3, 1, 296, 0) := by decide +kernel
theorem aX4_begin_10 : i_at mX4_begin.2.2.2.2.2 10 = some (.aload_n 0, 1, 0, 0, 0, 0) := by decide +kernel
theorem aX4_begin_11 : i_at mX4_begin.2.2.2.2.2 11 = some (.iconst (-1), 1, 0, 0, 0, 0) := by decide +kernel
theorem aX4_begin_12 : i_at mX4_begin.2.2.2.2.2 12 = some (.putfield 15, 3, 3, 2, 301, 0) := by decide +kernel
theorem aX4_begin_15 : i_at mX4_begin.2.2.2.2.2 15 = some (.aload_n 0, 1, 0, 0, 0, 0) := by decide +kernel
theorem aX4_begin_16 : i_at mX4_begin.2.2.2.2.2 16 = some (.iconst 0, 1, 0, 0, 0, 0) := by decide +kernel
theorem aX4_begin_17 : i_at mX4_begin.2.2.2.2.2 17 = some (.putfield 34, 3, 3, 3, 306, 0) := by decide +kernel
theorem aX4_begin_20 : i_at mX4_begin.2.2.2.2.2 20 = some (.aload_n 1, 1, 0, 0, 0, 0) := by decide +kernel
theorem aX4_begin_21 : i_at mX4_begin.2.2.2.2.2 21 = some (.getfield 37, 3, 5, 8, 188, 0) := by decide +kernel
theorem aX4_begin_24 : i_at mX4_begin.2.2.2.2.2 24 = some (.iconst 0, 1, 0, 0, 0, 0) := by decide +kernel
theorem aX4_begin_25 : i_at mX4_begin.2.2.2.2.2 25 = some (.aload_n 0, 1, 0, 0, 0, 0) := by decide +kernel
theorem aX4_begin_26 : i_at mX4_begin.2.2.2.2.2 26 = some (.getfield 18, 3, 3, 4, 309, 0) := by decide +kernel
theorem aX4_begin_29 : i_at mX4_begin.2.2.2.2.2 29 = some (.iconst 0, 1, 0, 0, 0, 0) := by decide +kernel
theorem aX4_begin_30 : i_at mX4_begin.2.2.2.2.2 30 = some (.bipush 6, 2, 0, 0, 0, 0) := by decide +kernel
theorem aX4_begin_32 : i_at mX4_begin.2.2.2.2.2 32 = some (.invokestatic 40, 3, 1003, 5, 641, 0) := by decide +kernel
theorem aX4_begin_35 : i_at mX4_begin.2.2.2.2.2 35 = some (.aload_n 0, 1, 0, 0, 0, 0) := by decide +kernel
theorem aX4_begin_36 : i_at mX4_begin.2.2.2.2.2 36 = some (.getfield 22, 3, 3, 5, 313, 0) := by decide +kernel
theorem aX4_begin_39 : i_at mX4_begin.2.2.2.2.2 39 = some (.iconst 0, 1, 0, 0, 0, 0) := by decide +kernel
theorem aX4_begin_40 : i_at mX4_begin.2.2.2.2.2 40 = some (.invokestatic 46, 3, 231, 2, 642, 0) := by decide +kernel
theorem aX4_begin_43 : i_at mX4_begin.2.2.2.2.2 43 = some (.aload_n 0, 1, 0, 0, 0, 0) := by decide +kernel
theorem aX4_begin_44 : i_at mX4_begin.2.2.2.2.2 44 = some (.getfield 25, 3, 3, 6, 318, 0) := by decide +kernel
theorem aX4_begin_47 : i_at mX4_begin.2.2.2.2.2 47 = some (.iconst 0, 1, 0, 0, 0, 0) := by decide +kernel
theorem aX4_begin_48 : i_at mX4_begin.2.2.2.2.2 48 = some (.invokestatic 46, 3, 231, 2, 642, 0) := by decide +kernel
theorem aX4_begin_51 : i_at mX4_begin.2.2.2.2.2 51 = some (.aload_n 0, 1, 0, 0, 0, 0) := by decide +kernel
theorem aX4_begin_52 : i_at mX4_begin.2.2.2.2.2 52 = some (.getfield 28, 3, 3, 7, 321, 0) := by decide +kernel
theorem aX4_begin_55 : i_at mX4_begin.2.2.2.2.2 55 = some (.iconst 0, 1, 0, 0, 0, 0) := by decide +kernel
theorem aX4_begin_56 : i_at mX4_begin.2.2.2.2.2 56 = some (.invokestatic 46, 3, 231, 2, 642, 0) := by decide +kernel
theorem aX4_begin_59 : i_at mX4_begin.2.2.2.2.2 59 = some (.return_, 1, 0, 0, 0, 0) := by decide +kernel
noncomputable def fX4_begin (sh : List kd) (σ : St) (p0 : Nat) (p1 : Nat) : Option (Unit × St) := if i_cok 0 0 6 6 6 then i_jp (s_C (s_F (s_F (s_F (s_F σ p0 0 0) p0 1 (-1)) p0 2 (-1)) p0 3 0) (p1 + 4) (p0 + 1) (0 : Int32).toNatClampNeg (0 : Int32).toNatClampNeg (6 : Int32).toNatClampNeg) (fun (s2 : St) => i_bd (fJ7_fill_53178 sh s2 (p0 + 2) 0) (fun r4 s5 => i_bd (fJ7_fill_53178 sh s5 (p0 + 3) 0) (fun r7 s8 => i_bd (fJ7_fill_53178 sh s8 (p0 + 4) 0) (fun r10 s11 => some ((), s11))))) else none
set_option maxRecDepth 20000 in
set_option maxHeartbeats 2000000 in
theorem tX4_begin {sh : List kd} {σ τ : St} {r : Unit} (hsh : cSh sh) {p0 : Nat} {p1 : Nat} (hp0 : lSh sh p0) (hp1 : rSh sh p1) (hE : fX4_begin sh σ p0 p1 = some (r, τ)) : i_X 2 26 [.ref p0, .ref p1] (s_h sh σ) 0 0 none (s_h sh τ) := by
  refine g_X (M := mX4_begin) (loc := [.ref p0, .ref p1]) rfl (Nat.le_of_ble_eq_true rfl) rfl ?_
  unfold fX4_begin at hE
  refine g_ldan aX4_begin_0 rfl ?_
  refine g_iconst (x := 0) aX4_begin_1 rfl ?_
  refine g_putI aX4_begin_2 (hp0.1) rfl rfl ?_
  refine g_ldan aX4_begin_5 rfl ?_
  refine g_iconst (x := (-1)) aX4_begin_6 rfl ?_
  refine g_putI aX4_begin_7 (hp0.1) rfl rfl ?_
  refine g_ldan aX4_begin_10 rfl ?_
  refine g_iconst (x := (-1)) aX4_begin_11 rfl ?_
  refine g_putI aX4_begin_12 (hp0.1) rfl rfl ?_
  refine g_ldan aX4_begin_15 rfl ?_
  refine g_iconst (x := 0) aX4_begin_16 rfl ?_
  refine g_putI aX4_begin_17 (hp0.1) rfl rfl ?_
  refine g_ldan aX4_begin_20 rfl ?_
  refine g_getR aX4_begin_21 (hp1.1) rfl ?_
  refine g_iconst (x := 0) aX4_begin_24 rfl ?_
  refine g_ldan aX4_begin_25 rfl ?_
  refine g_getR aX4_begin_26 (hp0.1) rfl ?_
  refine g_iconst (x := 0) aX4_begin_29 rfl ?_
  refine g_bipush (x := 6) aX4_begin_30 rfl ?_
  obtain ⟨h1, hE⟩ := i_ifn hE
  refine g_cpy aX4_begin_32 (hp1.2.2.2.2.1) (hp0.2.1) h1 (Nat.le_of_ble_eq_true rfl) ?_
  obtain ⟨s2, h3, hE⟩ := i_jp_some hE
  rw [← h3]
  refine g_ldan aX4_begin_35 rfl ?_
  refine g_getR aX4_begin_36 (hp0.1) rfl ?_
  refine g_iconst (x := 0) aX4_begin_39 rfl ?_
  obtain ⟨r4, s5, h6, hE⟩ := i_bd_some hE
  refine g_calS (As := [.ref (p0 + 2), .int 0]) (rest := []) aX4_begin_40 (i_X_mono (by omega) (tJ7_fill_53178 hsh h6)) rfl rfl (Nat.le_of_ble_eq_true rfl) rfl ?_
  refine g_ldan aX4_begin_43 rfl ?_
  refine g_getR aX4_begin_44 (hp0.1) rfl ?_
  refine g_iconst (x := 0) aX4_begin_47 rfl ?_
  obtain ⟨r7, s8, h9, hE⟩ := i_bd_some hE
  refine g_calS (As := [.ref (p0 + 3), .int 0]) (rest := []) aX4_begin_48 (i_X_mono (by omega) (tJ7_fill_53178 hsh h9)) rfl rfl (Nat.le_of_ble_eq_true rfl) rfl ?_
  refine g_ldan aX4_begin_51 rfl ?_
  refine g_getR aX4_begin_52 (hp0.1) rfl ?_
  refine g_iconst (x := 0) aX4_begin_55 rfl ?_
  obtain ⟨r10, s11, h12, hE⟩ := i_bd_some hE
  refine g_calS (As := [.ref (p0 + 4), .int 0]) (rest := []) aX4_begin_56 (i_X_mono (by omega) (tJ7_fill_53178 hsh h12)) rfl rfl (Nat.le_of_ble_eq_true rfl) rfl ?_
  obtain ⟨rfl, rfl⟩ := i_some_inj hE
  exact g_vret aX4_begin_59 rfl
