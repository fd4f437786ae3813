/-! X0_pass X1_read X3_playFromBegin X5_goOn X5_after X5_firstDubbing X5_leastDeed X5_isSpared X5_bestTray X5_timesHeld X5_neverHeld -/
theorem aX0_pass_0 : i_at mX0_pass.2.2.2.2.2 0 = some (.aload_n 0, 1, 0, 0, 0, 0) := by decide +kernel
theorem aX0_pass_1 : i_at mX0_pass.2.2.2.2.2 1 = some (.aload_n 1, 1, 0, 0, 0, 0) := by decide +kernel
theorem aX0_pass_2 : i_at mX0_pass.2.2.2.2.2 2 = some (.aload_n 2, 1, 0, 0, 0, 0) := by decide +kernel
theorem aX0_pass_3 : i_at mX0_pass.2.2.2.2.2 3 = some (.iload_n 3, 1, 0, 0, 0, 0) := by decide +kernel
theorem aX0_pass_4 : i_at mX0_pass.2.2.2.2.2 4 = some (.invokevirtual 61, 3, 1, 3, 797, 0) := by decide +kernel
theorem aX0_pass_7 : i_at mX0_pass.2.2.2.2.2 7 = some (.istore 4, 2, 0, 0, 0, 0) := by decide +kernel
theorem aX0_pass_9 : i_at mX0_pass.2.2.2.2.2 9 = some (.aload_n 1, 1, 0, 0, 0, 0) := by decide +kernel
theorem aX0_pass_10 : i_at mX0_pass.2.2.2.2.2 10 = some (.iconst (-1), 1, 0, 0, 0, 0) := by decide +kernel
theorem aX0_pass_11 : i_at mX0_pass.2.2.2.2.2 11 = some (.putfield 30, 3, 3, 2, 302, 0) := by decide +kernel
theorem aX0_pass_14 : i_at mX0_pass.2.2.2.2.2 14 = some (.aload_n 1, 1, 0, 0, 0, 0) := by decide +kernel
theorem aX0_pass_15 : i_at mX0_pass.2.2.2.2.2 15 = some (.iconst 0, 1, 0, 0, 0, 0) := by decide +kernel
theorem aX0_pass_16 : i_at mX0_pass.2.2.2.2.2 16 = some (.aload_n 1, 1, 0, 0, 0, 0) := by decide +kernel
theorem aX0_pass_17 : i_at mX0_pass.2.2.2.2.2 17 = some (.getfield 24, 3, 3, 3, 305, 0) := by decide +kernel
theorem aX0_pass_20 : i_at mX0_pass.2.2.2.2.2 20 = some (.iconst 1, 1, 0, 0, 0, 0) := by decide +kernel
theorem aX0_pass_21 : i_at mX0_pass.2.2.2.2.2 21 = some (.isub, 1, 0, 0, 0, 0) := by decide +kernel
theorem aX0_pass_22 : i_at mX0_pass.2.2.2.2.2 22 = some (.invokestatic 65, 3, 1001, 2, 809, 0) := by decide +kernel
theorem aX0_pass_25 : i_at mX0_pass.2.2.2.2.2 25 = some (.putfield 24, 3, 3, 3, 305, 0) := by decide +kernel
theorem aX0_pass_28 : i_at mX0_pass.2.2.2.2.2 28 = some (.aload_n 1, 1, 0, 0, 0, 0) := by decide +kernel
theorem aX0_pass_29 : i_at mX0_pass.2.2.2.2.2 29 = some (.iload 4, 2, 0, 0, 0, 0) := by decide +kernel
theorem aX0_pass_31 : i_at mX0_pass.2.2.2.2.2 31 = some (.putfield 71, 3, 3, 1, 297, 0) := by decide +kernel
theorem aX0_pass_34 : i_at mX0_pass.2.2.2.2.2 34 = some (.iload 4, 2, 0, 0, 0, 0) := by decide +kernel
theorem aX0_pass_36 : i_at mX0_pass.2.2.2.2.2 36 = some (.ifCond .lt 14, 3, 50, 0, 0, 0) := by decide +kernel
theorem aX0_pass_39 : i_at mX0_pass.2.2.2.2.2 39 = some (.aload_n 1, 1, 0, 0, 0, 0) := by decide +kernel
theorem aX0_pass_40 : i_at mX0_pass.2.2.2.2.2 40 = some (.getfield 74, 3, 3, 7, 322, 0) := by decide +kernel
theorem aX0_pass_43 : i_at mX0_pass.2.2.2.2.2 43 = some (.iload 4, 2, 0, 0, 0, 0) := by decide +kernel
theorem aX0_pass_45 : i_at mX0_pass.2.2.2.2.2 45 = some (.dup2, 1, 0, 0, 0, 0) := by decide +kernel
theorem aX0_pass_46 : i_at mX0_pass.2.2.2.2.2 46 = some (.iaload, 1, 0, 0, 0, 0) := by decide +kernel
theorem aX0_pass_47 : i_at mX0_pass.2.2.2.2.2 47 = some (.iconst 1, 1, 0, 0, 0, 0) := by decide +kernel
theorem aX0_pass_48 : i_at mX0_pass.2.2.2.2.2 48 = some (.iadd, 1, 0, 0, 0, 0) := by decide +kernel
theorem aX0_pass_49 : i_at mX0_pass.2.2.2.2.2 49 = some (.iastore, 1, 0, 0, 0, 0) := by decide +kernel
theorem aX0_pass_50 : i_at mX0_pass.2.2.2.2.2 50 = some (.iconst 0, 1, 0, 0, 0, 0) := by decide +kernel
theorem aX0_pass_51 : i_at mX0_pass.2.2.2.2.2 51 = some (.istore 5, 2, 0, 0, 0, 0) := by decide +kernel
theorem aX0_pass_53 : i_at mX0_pass.2.2.2.2.2 53 = some (.iconst 0, 1, 0, 0, 0, 0) := by decide +kernel
theorem aX0_pass_54 : i_at mX0_pass.2.2.2.2.2 54 = some (.istore 6, 2, 0, 0, 0, 0) := by decide +kernel
theorem aX0_pass_56 : i_at mX0_pass.2.2.2.2.2 56 = some (.iload 6, 2, 0, 0, 0, 0) := by decide +kernel
theorem aX0_pass_58 : i_at mX0_pass.2.2.2.2.2 58 = some (.aload_n 2, 1, 0, 0, 0, 0) := by decide +kernel
theorem aX0_pass_59 : i_at mX0_pass.2.2.2.2.2 59 = some (.getfield 77, 3, 5, 4, 171, 0) := by decide +kernel
theorem aX0_pass_62 : i_at mX0_pass.2.2.2.2.2 62 = some (.if_icmp .ge 86, 3, 148, 0, 0, 0) := by decide +kernel
theorem aX0_pass_65 : i_at mX0_pass.2.2.2.2.2 65 = some (.aload_n 1, 1, 0, 0, 0, 0) := by decide +kernel
theorem aX0_pass_66 : i_at mX0_pass.2.2.2.2.2 66 = some (.iload 6, 2, 0, 0, 0, 0) := by decide +kernel
theorem aX0_pass_68 : i_at mX0_pass.2.2.2.2.2 68 = some (.aload_n 2, 1, 0, 0, 0, 0) := by decide +kernel
theorem aX0_pass_69 : i_at mX0_pass.2.2.2.2.2 69 = some (.getfield 80, 3, 5, 9, 191, 0) := by decide +kernel
theorem aX0_pass_72 : i_at mX0_pass.2.2.2.2.2 72 = some (.iload 6, 2, 0, 0, 0, 0) := by decide +kernel
theorem aX0_pass_74 : i_at mX0_pass.2.2.2.2.2 74 = some (.iaload, 1, 0, 0, 0, 0) := by decide +kernel
theorem aX0_pass_75 : i_at mX0_pass.2.2.2.2.2 75 = some (.invokevirtual 83, 3, 28, 2, 838, 0) := by decide +kernel
theorem aX0_pass_78 : i_at mX0_pass.2.2.2.2.2 78 = some (.aload_n 1, 1, 0, 0, 0, 0) := by decide +kernel
theorem aX0_pass_79 : i_at mX0_pass.2.2.2.2.2 79 = some (.getfield 87, 3, 3, 4, 310, 0) := by decide +kernel
theorem aX0_pass_82 : i_at mX0_pass.2.2.2.2.2 82 = some (.iload 6, 2, 0, 0, 0, 0) := by decide +kernel
theorem aX0_pass_84 : i_at mX0_pass.2.2.2.2.2 84 = some (.iaload, 1, 0, 0, 0, 0) := by decide +kernel
theorem aX0_pass_85 : i_at mX0_pass.2.2.2.2.2 85 = some (.aload_n 2, 1, 0, 0, 0, 0) := by decide +kernel
theorem aX0_pass_86 : i_at mX0_pass.2.2.2.2.2 86 = some (.getfield 90, 3, 5, 2, 160, 0) := by decide +kernel
theorem aX0_pass_89 : i_at mX0_pass.2.2.2.2.2 89 = some (.if_icmp .lt 53, 3, 142, 0, 0, 0) := by decide +kernel
theorem aX0_pass_92 : i_at mX0_pass.2.2.2.2.2 92 = some (.iload 5, 2, 0, 0, 0, 0) := by decide +kernel
theorem aX0_pass_94 : i_at mX0_pass.2.2.2.2.2 94 = some (.iconst 1, 1, 0, 0, 0, 0) := by decide +kernel
theorem aX0_pass_95 : i_at mX0_pass.2.2.2.2.2 95 = some (.iload 6, 2, 0, 0, 0, 0) := by decide +kernel
theorem aX0_pass_97 : i_at mX0_pass.2.2.2.2.2 97 = some (.ishl, 1, 0, 0, 0, 0) := by decide +kernel
theorem aX0_pass_98 : i_at mX0_pass.2.2.2.2.2 98 = some (.ior, 1, 0, 0, 0, 0) := by decide +kernel
theorem aX0_pass_99 : i_at mX0_pass.2.2.2.2.2 99 = some (.istore 5, 2, 0, 0, 0, 0) := by decide +kernel
theorem aX0_pass_101 : i_at mX0_pass.2.2.2.2.2 101 = some (.aload_n 1, 1, 0, 0, 0, 0) := by decide +kernel
theorem aX0_pass_102 : i_at mX0_pass.2.2.2.2.2 102 = some (.getfield 87, 3, 3, 4, 310, 0) := by decide +kernel
theorem aX0_pass_105 : i_at mX0_pass.2.2.2.2.2 105 = some (.iload 6, 2, 0, 0, 0, 0) := by decide +kernel
theorem aX0_pass_107 : i_at mX0_pass.2.2.2.2.2 107 = some (.iconst 0, 1, 0, 0, 0, 0) := by decide +kernel
theorem aX0_pass_108 : i_at mX0_pass.2.2.2.2.2 108 = some (.iastore, 1, 0, 0, 0, 0) := by decide +kernel
theorem aX0_pass_109 : i_at mX0_pass.2.2.2.2.2 109 = some (.iload 4, 2, 0, 0, 0, 0) := by decide +kernel
theorem aX0_pass_111 : i_at mX0_pass.2.2.2.2.2 111 = some (.ifCond .lt 20, 3, 131, 0, 0, 0) := by decide +kernel
theorem aX0_pass_114 : i_at mX0_pass.2.2.2.2.2 114 = some (.aload_n 1, 1, 0, 0, 0, 0) := by decide +kernel
theorem aX0_pass_115 : i_at mX0_pass.2.2.2.2.2 115 = some (.getfield 93, 3, 3, 5, 315, 0) := by decide +kernel
theorem aX0_pass_118 : i_at mX0_pass.2.2.2.2.2 118 = some (.iload 6, 2, 0, 0, 0, 0) := by decide +kernel
theorem aX0_pass_120 : i_at mX0_pass.2.2.2.2.2 120 = some (.dup2, 1, 0, 0, 0, 0) := by decide +kernel
theorem aX0_pass_121 : i_at mX0_pass.2.2.2.2.2 121 = some (.iaload, 1, 0, 0, 0, 0) := by decide +kernel
theorem aX0_pass_122 : i_at mX0_pass.2.2.2.2.2 122 = some (.iconst 1, 1, 0, 0, 0, 0) := by decide +kernel
theorem aX0_pass_123 : i_at mX0_pass.2.2.2.2.2 123 = some (.iload 4, 2, 0, 0, 0, 0) := by decide +kernel
theorem aX0_pass_125 : i_at mX0_pass.2.2.2.2.2 125 = some (.ishl, 1, 0, 0, 0, 0) := by decide +kernel
theorem aX0_pass_126 : i_at mX0_pass.2.2.2.2.2 126 = some (.ior, 1, 0, 0, 0, 0) := by decide +kernel
theorem aX0_pass_127 : i_at mX0_pass.2.2.2.2.2 127 = some (.iastore, 1, 0, 0, 0, 0) := by decide +kernel
theorem aX0_pass_128 : i_at mX0_pass.2.2.2.2.2 128 = some (.goto 14, 3, 142, 0, 0, 0) := by decide +kernel
theorem aX0_pass_131 : i_at mX0_pass.2.2.2.2.2 131 = some (.aload_n 1, 1, 0, 0, 0, 0) := by decide +kernel
theorem aX0_pass_132 : i_at mX0_pass.2.2.2.2.2 132 = some (.getfield 96, 3, 3, 6, 319, 0) := by decide +kernel
theorem aX0_pass_135 : i_at mX0_pass.2.2.2.2.2 135 = some (.iload 6, 2, 0, 0, 0, 0) := by decide +kernel
theorem aX0_pass_137 : i_at mX0_pass.2.2.2.2.2 137 = some (.dup2, 1, 0, 0, 0, 0) := by decide +kernel
theorem aX0_pass_138 : i_at mX0_pass.2.2.2.2.2 138 = some (.iaload, 1, 0, 0, 0, 0) := by decide +kernel
theorem aX0_pass_139 : i_at mX0_pass.2.2.2.2.2 139 = some (.iconst 1, 1, 0, 0, 0, 0) := by decide +kernel
theorem aX0_pass_140 : i_at mX0_pass.2.2.2.2.2 140 = some (.iadd, 1, 0, 0, 0, 0) := by decide +kernel
theorem aX0_pass_141 : i_at mX0_pass.2.2.2.2.2 141 = some (.iastore, 1, 0, 0, 0, 0) := by decide +kernel
theorem aX0_pass_142 : i_at mX0_pass.2.2.2.2.2 142 = some (.iinc 6 1, 3, 0, 0, 0, 0) := by decide +kernel
theorem aX0_pass_145 : i_at mX0_pass.2.2.2.2.2 145 = some (.goto (-89), 3, 56, 0, 0, 0) := by decide +kernel
theorem aX0_pass_148 : i_at mX0_pass.2.2.2.2.2 148 = some (.aload_n 1, 1, 0, 0, 0, 0) := by decide +kernel
theorem aX0_pass_149 : i_at mX0_pass.2.2.2.2.2 149 = some (.dup, 1, 0, 0, 0, 0) := by decide +kernel
theorem aX0_pass_150 : i_at mX0_pass.2.2.2.2.2 150 = some (.getfield 39, 3, 3, 0, 293, 0) := by decide +kernel
theorem aX0_pass_153 : i_at mX0_pass.2.2.2.2.2 153 = some (.iconst 1, 1, 0, 0, 0, 0) := by decide +kernel
theorem aX0_pass_154 : i_at mX0_pass.2.2.2.2.2 154 = some (.iadd, 1, 0, 0, 0, 0) := by decide +kernel
theorem aX0_pass_155 : i_at mX0_pass.2.2.2.2.2 155 = some (.putfield 39, 3, 3, 0, 293, 0) := by decide +kernel
theorem aX0_pass_158 : i_at mX0_pass.2.2.2.2.2 158 = some (.iload 5, 2, 0, 0, 0, 0) := by decide +kernel
theorem aX0_pass_160 : i_at mX0_pass.2.2.2.2.2 160 = some (.ireturn, 1, 0, 0, 0, 0) := by decide +kernel
noncomputable def fX0_pass_J142 (sh : List kd) (p1 : Nat) (p2 : Nat) (p3 : Int32) (r1 : Int32) (x58 : Int32) (k56 : Int32 → Int32 → St → Option (Int32 × St)) (x170 : Int32) (s171 : St) : Option (Int32 × St) := k56 x170 (x58 + 1) s171
noncomputable def fX0_pass_L56 (sh : List kd) (p1 : Nat) (p2 : Nat) (p3 : Int32) (r1 : Int32) (k148 : Int32 → Int32 → St → Option (Int32 × St)) : Nat → Int32 → Int32 → St → Option (Int32 × St)
  | 0, _, _, _ => none
  | n113 + 1, x57, x58, s59 => if (s59.1 p2 4) ≤ x58 then k148 x57 x58 s59 else if i_ok x58 6 then i_bd (fX4_thank sh s59 p1 x58 (s59.2.1 (p2 + 5) x58.toNatClampNeg)) (fun r116 s117 => if i_ok x58 6 then if (s117.2.1 (p1 + 1) x58.toNatClampNeg) < (s117.1 p2 2) then fX0_pass_J142 sh p1 p2 p3 r1 x58 (fX0_pass_L56 sh p1 p2 p3 r1 k148 n113) x57 s117 else if i_ok x58 6 then if r1 < 0 then if i_ok x58 6 then if i_ok x58 6 then i_jp (s_A (s_A s117 (p1 + 1) x58.toNatClampNeg 0) (p1 + 3) x58.toNatClampNeg (((s_A s117 (p1 + 1) x58.toNatClampNeg 0).2.1 (p1 + 3) x58.toNatClampNeg) + 1)) (fun (s177 : St) => fX0_pass_J142 sh p1 p2 p3 r1 x58 (fX0_pass_L56 sh p1 p2 p3 r1 k148 n113) (x57 ||| (1 <<< (x58 &&& 31))) s177) else none else none else if i_ok x58 6 then if i_ok x58 6 then i_jp (s_A (s_A s117 (p1 + 1) x58.toNatClampNeg 0) (p1 + 2) x58.toNatClampNeg (((s_A s117 (p1 + 1) x58.toNatClampNeg 0).2.1 (p1 + 2) x58.toNatClampNeg) ||| (1 <<< (r1 &&& 31)))) (fun (s181 : St) => fX0_pass_J142 sh p1 p2 p3 r1 x58 (fX0_pass_L56 sh p1 p2 p3 r1 k148 n113) (x57 ||| (1 <<< (x58 &&& 31))) s181) else none else none else none else none) else none
noncomputable def fX0_pass_X148 (sh : List kd) (p1 : Nat) (p2 : Nat) (p3 : Int32) (r1 : Int32) (x110 : Int32) (x111 : Int32) (s112 : St) : Option (Int32 × St) := some (x110, s_F s112 p1 0 ((s112.1 p1 0) + 1))
noncomputable def fX0_pass_J50 (sh : List kd) (p1 : Nat) (p2 : Nat) (p3 : Int32) (r1 : Int32) (s56 : St) : Option (Int32 × St) := fX0_pass_L56 sh p1 p2 p3 r1 (fun (x110 : Int32) (x111 : Int32) (s112 : St) => fX0_pass_X148 sh p1 p2 p3 r1 x110 x111 s112) i_F 0 0 s56
noncomputable def fX0_pass (sh : List kd) (σ : St) (p1 : Nat) (p2 : Nat) (p3 : Int32) : Option (Int32 × St) := i_bd (fX0_hand sh σ p1 p2 p3) (fun r1 s2 => i_jp (s_F (s_F (s_F s2 p1 2 (-1)) p1 3 (if 0 < (((s_F s2 p1 2 (-1)).1 p1 3) - 1) then (((s_F s2 p1 2 (-1)).1 p1 3) - 1) else 0)) p1 1 r1) (fun (s4 : St) => if r1 < 0 then fX0_pass_J50 sh p1 p2 p3 r1 s4 else if i_ok r1 6 then if i_ok r1 6 then fX0_pass_J50 sh p1 p2 p3 r1 (s_A s4 (p1 + 4) r1.toNatClampNeg ((s4.2.1 (p1 + 4) r1.toNatClampNeg) + 1)) else none else none))
set_option maxRecDepth 20000 in
set_option maxHeartbeats 2000000 in
theorem tX0_pass_J142 {sh : List kd} {τ : St} {r : Int32} (hsh : cSh sh) {p1 : Nat} {p2 : Nat} {p3 : Int32} {r1 : Int32} {x58 : Int32} {x170 : Int32} {s171 : St} {k56 : Int32 → Int32 → St → Option (Int32 × St)} (hp1 : lSh sh p1) (hp2 : rSh sh p2) (hk56 : ∀ (x57 : Int32) (x58 : Int32) (s59 : St), k56 x57 x58 s59 = some (r, τ) → g_R sh 4 mX0_pass (some (.int r)) τ 56 [.ref 16, .ref p1, .ref p2, .int p3, .int r1, .int x57, .int x58] [] (s59)) (hE : fX0_pass_J142 sh p1 p2 p3 r1 x58 k56 x170 s171 = some (r, τ)) : g_R sh 4 mX0_pass (some (.int r)) τ 142 [.ref 16, .ref p1, .ref p2, .int p3, .int r1, .int x170, .int x58] [] (s171) := by
  unfold fX0_pass_J142 at hE
  refine g_iinc (y := 1) (loc2 := [.ref 16, .ref p1, .ref p2, .int p3, .int r1, .int x170, .int (x58 + 1)]) aX0_pass_142 rfl rfl rfl ?_
  refine g_goto aX0_pass_145 ?_
  exact hk56 _ _ _ hE
set_option maxRecDepth 20000 in
set_option maxHeartbeats 2000000 in
theorem tX0_pass_L56 {sh : List kd} {τ : St} {r : Int32} (hsh : cSh sh) {p1 : Nat} {p2 : Nat} {p3 : Int32} {r1 : Int32} {k148 : Int32 → Int32 → St → Option (Int32 × St)} (hp1 : lSh sh p1) (hp2 : rSh sh p2) (hk148 : ∀ (x110 : Int32) (x111 : Int32) (s112 : St), k148 x110 x111 s112 = some (r, τ) → g_R sh 4 mX0_pass (some (.int r)) τ 148 [.ref 16, .ref p1, .ref p2, .int p3, .int r1, .int x110, .int x111] [] (s112)) : ∀ (n0 : Nat) (x57 : Int32) (x58 : Int32) (s59 : St), fX0_pass_L56 sh p1 p2 p3 r1 k148 n0 x57 x58 s59 = some (r, τ) → g_R sh 4 mX0_pass (some (.int r)) τ 56 [.ref 16, .ref p1, .ref p2, .int p3, .int r1, .int x57, .int x58] [] (s59) := by
  intro n0
  induction n0 with
  | zero => intro _ _ _ hE; cases hE
  | succ n113 ih =>
    intro x57 x58 s59 hE
    unfold fX0_pass_L56 at hE
    refine g_ldi aX0_pass_56 rfl ?_
    refine g_ldan aX0_pass_58 rfl ?_
    refine g_getI aX0_pass_59 (hp2.1) rfl ?_
    by_cases hc114 : (s59.1 p2 4) ≤ x58
    · rw [if_pos hc114] at hE
      refine g_ic_ge_t aX0_pass_62 hc114 ?_
      exact hk148 _ _ _ hE
    · rw [if_neg hc114] at hE
      refine g_ic_ge_f aX0_pass_62 hc114 ?_
      refine g_ldan aX0_pass_65 rfl ?_
      refine g_ldi aX0_pass_66 rfl ?_
      refine g_ldan aX0_pass_68 rfl ?_
      refine g_getR aX0_pass_69 (hp2.1) rfl ?_
      refine g_ldi aX0_pass_72 rfl ?_
      obtain ⟨h115, hE⟩ := i_ifn hE
      refine g_ild aX0_pass_74 (hp2.2.2.2.2.2) h115 ?_
      obtain ⟨r116, s117, h118, hE⟩ := i_bd_some hE
      refine g_calV (As := [.int x58, .int (s59.2.1 (p2 + 5) x58.toNatClampNeg)]) (rest := []) aX0_pass_75 (i_X_mono (by omega) (tX4_thank hsh hp1 h118)) (hp1.1) (by decide +kernel) rfl rfl (Nat.le_of_ble_eq_true rfl) rfl ?_
      refine g_ldan aX0_pass_78 rfl ?_
      refine g_getR aX0_pass_79 (hp1.1) rfl ?_
      refine g_ldi aX0_pass_82 rfl ?_
      obtain ⟨h119, hE⟩ := i_ifn hE
      refine g_ild aX0_pass_84 (hp1.2.1) h119 ?_
      refine g_ldan aX0_pass_85 rfl ?_
      refine g_getI aX0_pass_86 (hp2.1) rfl ?_
      by_cases hc172 : (s117.2.1 (p1 + 1) x58.toNatClampNeg) < (s117.1 p2 2)
      · rw [if_pos hc172] at hE
        refine g_ic_lt_t aX0_pass_89 hc172 ?_
        exact tX0_pass_J142 hsh hp1 hp2 ih hE
      · rw [if_neg hc172] at hE
        refine g_ic_lt_f aX0_pass_89 hc172 ?_
        refine g_ldi aX0_pass_92 rfl ?_
        refine g_iconst (x := 1) aX0_pass_94 rfl ?_
        refine g_ldi aX0_pass_95 rfl ?_
        refine g_ishl aX0_pass_97 ?_
        refine g_ior aX0_pass_98 ?_
        refine g_sti (loc2 := [.ref 16, .ref p1, .ref p2, .int p3, .int r1, .int (x57 ||| (1 <<< (x58 &&& 31))), .int x58]) aX0_pass_99 (Nat.le_of_ble_eq_true rfl) rfl ?_
        refine g_ldan aX0_pass_101 rfl ?_
        refine g_getR aX0_pass_102 (hp1.1) rfl ?_
        refine g_ldi aX0_pass_105 rfl ?_
        refine g_iconst (x := 0) aX0_pass_107 rfl ?_
        obtain ⟨h173, hE⟩ := i_ifn hE
        refine g_ist aX0_pass_108 (hp1.2.1) h173 ?_
        refine g_ldi aX0_pass_109 rfl ?_
        by_cases hc174 : r1 < 0
        · rw [if_pos hc174] at hE
          refine g_if_lt_t aX0_pass_111 hc174 ?_
          refine g_ldan aX0_pass_131 rfl ?_
          refine g_getR aX0_pass_132 (hp1.1) rfl ?_
          refine g_ldi aX0_pass_135 rfl ?_
          refine g_dup2 aX0_pass_137 ?_
          obtain ⟨h175, hE⟩ := i_ifn hE
          refine g_ild aX0_pass_138 (hp1.2.2.2.1) h175 ?_
          refine g_iconst (x := 1) aX0_pass_139 rfl ?_
          refine g_iadd aX0_pass_140 ?_
          obtain ⟨h176, hE⟩ := i_ifn hE
          refine g_ist aX0_pass_141 (hp1.2.2.2.1) h176 ?_
          obtain ⟨s177, h178, hE⟩ := i_jp_some hE
          rw [← h178]
          exact tX0_pass_J142 hsh hp1 hp2 ih hE
        · rw [if_neg hc174] at hE
          refine g_if_lt_f aX0_pass_111 hc174 ?_
          refine g_ldan aX0_pass_114 rfl ?_
          refine g_getR aX0_pass_115 (hp1.1) rfl ?_
          refine g_ldi aX0_pass_118 rfl ?_
          refine g_dup2 aX0_pass_120 ?_
          obtain ⟨h179, hE⟩ := i_ifn hE
          refine g_ild aX0_pass_121 (hp1.2.2.1) h179 ?_
          refine g_iconst (x := 1) aX0_pass_122 rfl ?_
          refine g_ldi aX0_pass_123 rfl ?_
          refine g_ishl aX0_pass_125 ?_
          refine g_ior aX0_pass_126 ?_
          obtain ⟨h180, hE⟩ := i_ifn hE
          refine g_ist aX0_pass_127 (hp1.2.2.1) h180 ?_
          obtain ⟨s181, h182, hE⟩ := i_jp_some hE
          rw [← h182]
          refine g_goto aX0_pass_128 ?_
          exact tX0_pass_J142 hsh hp1 hp2 ih hE
set_option maxRecDepth 20000 in
set_option maxHeartbeats 2000000 in
theorem tX0_pass_X148 {sh : List kd} {τ : St} {r : Int32} (hsh : cSh sh) {p1 : Nat} {p2 : Nat} {p3 : Int32} {r1 : Int32} {x110 : Int32} {x111 : Int32} {s112 : St} (hp1 : lSh sh p1) (hp2 : rSh sh p2) (hE : fX0_pass_X148 sh p1 p2 p3 r1 x110 x111 s112 = some (r, τ)) : g_R sh 4 mX0_pass (some (.int r)) τ 148 [.ref 16, .ref p1, .ref p2, .int p3, .int r1, .int x110, .int x111] [] (s112) := by
  unfold fX0_pass_X148 at hE
  refine g_ldan aX0_pass_148 rfl ?_
  refine g_dupa aX0_pass_149 ?_
  refine g_getI aX0_pass_150 (hp1.1) rfl ?_
  refine g_iconst (x := 1) aX0_pass_153 rfl ?_
  refine g_iadd aX0_pass_154 ?_
  refine g_putI aX0_pass_155 (hp1.1) rfl rfl ?_
  refine g_ldi aX0_pass_158 rfl ?_
  cases hE
  exact g_iret aX0_pass_160 rfl rfl
set_option maxRecDepth 20000 in
set_option maxHeartbeats 2000000 in
theorem tX0_pass_J50 {sh : List kd} {τ : St} {r : Int32} (hsh : cSh sh) {p1 : Nat} {p2 : Nat} {p3 : Int32} {r1 : Int32} {s56 : St} (hp1 : lSh sh p1) (hp2 : rSh sh p2) (hE : fX0_pass_J50 sh p1 p2 p3 r1 s56 = some (r, τ)) : g_R sh 4 mX0_pass (some (.int r)) τ 50 [.ref 16, .ref p1, .ref p2, .int p3, .int r1, .retAddr 0, .retAddr 0] [] (s56) := by
  unfold fX0_pass_J50 at hE
  refine g_iconst (x := 0) aX0_pass_50 rfl ?_
  refine g_sti (loc2 := [.ref 16, .ref p1, .ref p2, .int p3, .int r1, .int 0, .retAddr 0]) aX0_pass_51 (Nat.le_of_ble_eq_true rfl) rfl ?_
  refine g_iconst (x := 0) aX0_pass_53 rfl ?_
  refine g_sti (loc2 := [.ref 16, .ref p1, .ref p2, .int p3, .int r1, .int 0, .int 0]) aX0_pass_54 (Nat.le_of_ble_eq_true rfl) rfl ?_
  exact tX0_pass_L56 hsh hp1 hp2 (fun x110 x111 s112 hE => tX0_pass_X148 hsh hp1 hp2 hE) i_F _ _ _ hE
set_option maxRecDepth 20000 in
set_option maxHeartbeats 2000000 in
theorem tX0_pass {sh : List kd} {σ τ : St} {r : Int32} (hsh : cSh sh) {p1 : Nat} {p2 : Nat} {p3 : Int32} (hp1 : lSh sh p1) (hp2 : rSh sh p2) (hE : fX0_pass sh σ p1 p2 p3 = some (r, τ)) : i_X 5 2 [.ref 16, .ref p1, .ref p2, .int p3] (s_h sh σ) 0 0 (some (.int r)) (s_h sh τ) := by
  refine g_X (M := mX0_pass) (loc := [.ref 16, .ref p1, .ref p2, .int p3, .retAddr 0, .retAddr 0, .retAddr 0]) rfl (Nat.le_of_ble_eq_true rfl) rfl ?_
  unfold fX0_pass at hE
  refine g_ldan aX0_pass_0 rfl ?_
  refine g_ldan aX0_pass_1 rfl ?_
  refine g_ldan aX0_pass_2 rfl ?_
  refine g_ldin aX0_pass_3 rfl ?_
  obtain ⟨r1, s2, h3, hE⟩ := i_bd_some hE
  refine g_calV (As := [.ref p1, .ref p2, .int p3]) (rest := []) aX0_pass_4 (i_X_mono (by omega) (tX0_hand hsh hp1 hp2 h3)) (sC_16 hsh) (by decide +kernel) rfl rfl (Nat.le_of_ble_eq_true rfl) rfl ?_
  refine g_sti (loc2 := [.ref 16, .ref p1, .ref p2, .int p3, .int r1, .retAddr 0, .retAddr 0]) aX0_pass_7 (Nat.le_of_ble_eq_true rfl) rfl ?_
  refine g_ldan aX0_pass_9 rfl ?_
  refine g_iconst (x := (-1)) aX0_pass_10 rfl ?_
  refine g_putI aX0_pass_11 (hp1.1) rfl rfl ?_
  refine g_ldan aX0_pass_14 rfl ?_
  refine g_iconst (x := 0) aX0_pass_15 rfl ?_
  refine g_ldan aX0_pass_16 rfl ?_
  refine g_getI aX0_pass_17 (hp1.1) rfl ?_
  refine g_iconst (x := 1) aX0_pass_20 rfl ?_
  refine g_isub aX0_pass_21 ?_
  refine g_max aX0_pass_22 (Nat.le_of_ble_eq_true rfl) ?_
  refine g_putI aX0_pass_25 (hp1.1) rfl rfl ?_
  refine g_ldan aX0_pass_28 rfl ?_
  refine g_ldi aX0_pass_29 rfl ?_
  refine g_putI aX0_pass_31 (hp1.1) rfl rfl ?_
  obtain ⟨s4, h5, hE⟩ := i_jp_some hE
  rw [← h5]
  refine g_ldi aX0_pass_34 rfl ?_
  by_cases hc183 : r1 < 0
  · rw [if_pos hc183] at hE
    refine g_if_lt_t aX0_pass_36 hc183 ?_
    exact tX0_pass_J50 hsh hp1 hp2 hE
  · rw [if_neg hc183] at hE
    refine g_if_lt_f aX0_pass_36 hc183 ?_
    refine g_ldan aX0_pass_39 rfl ?_
    refine g_getR aX0_pass_40 (hp1.1) rfl ?_
    refine g_ldi aX0_pass_43 rfl ?_
    refine g_dup2 aX0_pass_45 ?_
    obtain ⟨h184, hE⟩ := i_ifn hE
    refine g_ild aX0_pass_46 (hp1.2.2.2.2) h184 ?_
    refine g_iconst (x := 1) aX0_pass_47 rfl ?_
    refine g_iadd aX0_pass_48 ?_
    obtain ⟨h185, hE⟩ := i_ifn hE
    refine g_ist aX0_pass_49 (hp1.2.2.2.2) h185 ?_
    exact tX0_pass_J50 hsh hp1 hp2 hE
theorem aX1_read_0 : i_at mX1_read.2.2.2.2.2 0 = some (.aload_n 0, 1, 0, 0, 0, 0) := by decide +kernel
theorem aX1_read_1 : i_at mX1_read.2.2.2.2.2 1 = some (.getfield 9, 3, 1, 0, 221, 0) := by decide +kernel
theorem aX1_read_4 : i_at mX1_read.2.2.2.2.2 4 = some (.invokevirtual 19, 3, 76, 0, 508, 0) := by decide +kernel
theorem aX1_read_7 : i_at mX1_read.2.2.2.2.2 7 = some (.aload_n 0, 1, 0, 0, 0, 0) := by decide +kernel
theorem aX1_read_8 : i_at mX1_read.2.2.2.2.2 8 = some (.getfield 15, 3, 1, 1, 222, 0) := by decide +kernel
theorem aX1_read_11 : i_at mX1_read.2.2.2.2.2 11 = some (.invokevirtual 24, 3, 51, 0, 512, 0) := by decide +kernel
theorem aX1_read_14 : i_at mX1_read.2.2.2.2.2 14 = some (.iconst 0, 1, 0, 0, 0, 0) := by decide +kernel
theorem aX1_read_15 : i_at mX1_read.2.2.2.2.2 15 = some (.istore_n 1, 1, 0, 0, 0, 0) := by decide +kernel
theorem aX1_read_16 : i_at mX1_read.2.2.2.2.2 16 = some (.iload_n 1, 1, 0, 0, 0, 0) := by decide +kernel
theorem aX1_read_17 : i_at mX1_read.2.2.2.2.2 17 = some (.bipush 40, 2, 0, 0, 0, 0) := by decide +kernel
theorem aX1_read_19 : i_at mX1_read.2.2.2.2.2 19 = some (.if_icmp .gt 68, 3, 87, 0, 0, 0) := by decide +kernel
theorem aX1_read_22 : i_at mX1_read.2.2.2.2.2 22 = some (.aload_n 0, 1, 0, 0, 0, 0) := by decide +kernel
theorem aX1_read_23 : i_at mX1_read.2.2.2.2.2 23 = some (.iload_n 1, 1, 0, 0, 0, 0) := by decide +kernel
theorem aX1_read_24 : i_at mX1_read.2.2.2.2.2 24 = some (.invokevirtual 29, 3, 7, 1, 519, 0) := by decide +kernel
theorem aX1_read_27 : i_at mX1_read.2.2.2.2.2 27 = some (.aload_n 0, 1, 0, 0, 0, 0) := by decide +kernel
theorem aX1_read_28 : i_at mX1_read.2.2.2.2.2 28 = some (.getfield 9, 3, 1, 0, 221, 0) := by decide +kernel
theorem aX1_read_31 : i_at mX1_read.2.2.2.2.2 31 = some (.getfield 33, 3, 8, 3, 134, 0) := by decide +kernel
theorem aX1_read_34 : i_at mX1_read.2.2.2.2.2 34 = some (.ifCond .ne 53, 3, 87, 0, 0, 0) := by decide +kernel
theorem aX1_read_37 : i_at mX1_read.2.2.2.2.2 37 = some (.aload_n 0, 1, 0, 0, 0, 0) := by decide +kernel
theorem aX1_read_38 : i_at mX1_read.2.2.2.2.2 38 = some (.getfield 9, 3, 1, 0, 221, 0) := by decide +kernel
theorem aX1_read_41 : i_at mX1_read.2.2.2.2.2 41 = some (.invokevirtual 37, 3, 78, 0, 625, 0) := by decide +kernel
theorem aX1_read_44 : i_at mX1_read.2.2.2.2.2 44 = some (.iconst (-1), 1, 0, 0, 0, 0) := by decide +kernel
theorem aX1_read_45 : i_at mX1_read.2.2.2.2.2 45 = some (.if_icmp .ne 6, 3, 51, 0, 0, 0) := by decide +kernel
theorem aX1_read_48 : i_at mX1_read.2.2.2.2.2 48 = some (.goto 39, 3, 87, 0, 0, 0) := by decide +kernel
theorem aX1_read_51 : i_at mX1_read.2.2.2.2.2 51 = some (.aload_n 0, 1, 0, 0, 0, 0) := by decide +kernel
theorem aX1_read_52 : i_at mX1_read.2.2.2.2.2 52 = some (.getfield 9, 3, 1, 0, 221, 0) := by decide +kernel
theorem aX1_read_55 : i_at mX1_read.2.2.2.2.2 55 = some (.bipush 59, 2, 0, 0, 0, 0) := by decide +kernel
theorem aX1_read_57 : i_at mX1_read.2.2.2.2.2 57 = some (.invokevirtual 41, 3, 79, 1, 626, 0) := by decide +kernel
theorem aX1_read_60 : i_at mX1_read.2.2.2.2.2 60 = some (.ifCond .ne 21, 3, 81, 0, 0, 0) := by decide +kernel
theorem aX1_read_63 : i_at mX1_read.2.2.2.2.2 63 = some (.aload_n 0, 1, 0, 0, 0, 0) := by decide +kernel
theorem aX1_read_64 : i_at mX1_read.2.2.2.2.2 64 = some (.getfield 9, 3, 1, 0, 221, 0) := by decide +kernel
theorem aX1_read_67 : i_at mX1_read.2.2.2.2.2 67 = some (.aload_n 0, 1, 0, 0, 0, 0) := by decide +kernel
theorem aX1_read_68 : i_at mX1_read.2.2.2.2.2 68 = some (.getfield 9, 3, 1, 0, 221, 0) := by decide +kernel
theorem aX1_read_71 : i_at mX1_read.2.2.2.2.2 71 = some (.getfield 45, 3, 8, 2, 131, 0) := by decide +kernel
theorem aX1_read_74 : i_at mX1_read.2.2.2.2.2 74 = some (.iconst 0, 1, 0, 0, 0, 0) := by decide +kernel
theorem aX1_read_75 : i_at mX1_read.2.2.2.2.2 75 = some (.invokevirtual 48, 3, 77, 2, 588, 0) := by decide +kernel
theorem aX1_read_78 : i_at mX1_read.2.2.2.2.2 78 = some (.goto 9, 3, 87, 0, 0, 0) := by decide +kernel
theorem aX1_read_81 : i_at mX1_read.2.2.2.2.2 81 = some (.iinc 1 1, 3, 0, 0, 0, 0) := by decide +kernel
theorem aX1_read_84 : i_at mX1_read.2.2.2.2.2 84 = some (.goto (-68), 3, 16, 0, 0, 0) := by decide +kernel
theorem aX1_read_87 : i_at mX1_read.2.2.2.2.2 87 = some (.aload_n 0, 1, 0, 0, 0, 0) := by decide +kernel
theorem aX1_read_88 : i_at mX1_read.2.2.2.2.2 88 = some (.getfield 9, 3, 1, 0, 221, 0) := by decide +kernel
theorem aX1_read_91 : i_at mX1_read.2.2.2.2.2 91 = some (.getfield 33, 3, 8, 3, 134, 0) := by decide +kernel
theorem aX1_read_94 : i_at mX1_read.2.2.2.2.2 94 = some (.ireturn, 1, 0, 0, 0, 0) := by decide +kernel
noncomputable def fX1_read_L16 (sh : List kd) (k48 : Int32 → St → Option (Int32 × St)) (k63 : Int32 → St → Option (Int32 × St)) (k87 : Int32 → St → Option (Int32 × St)) : Nat → Int32 → St → Option (Int32 × St)
  | 0, _, _ => none
  | n165 + 1, x7, s8 => if 40 < x7 then k87 x7 s8 else i_bd (fX1_readClause sh s8 x7) (fun r167 s168 => if ¬ (s168.1 1 3) = 0 then k87 x7 s168 else i_bd (fX9_sign sh s168) (fun r171 s172 => if ¬ r171 = (-1) then i_bd (fX9_takeSign sh s172 59) (fun r175 s176 => if ¬ r175 = 0 then (fX1_read_L16 sh k48 k63 k87 n165 (x7 + 1) s176) else k63 x7 s176) else k48 x7 s172))
noncomputable def fX1_read_X48 (sh : List kd) (x59 : Int32) (s60 : St) : Option (Int32 × St) := some ((s60.1 1 3), s60)
noncomputable def fX1_read_X63 (sh : List kd) (x111 : Int32) (s112 : St) : Option (Int32 × St) := i_bd (fX9_refuse sh s112 (s112.1 1 2) 0) (fun r179 s180 => some ((s180.1 1 3), s180))
noncomputable def fX1_read_X87 (sh : List kd) (x163 : Int32) (s164 : St) : Option (Int32 × St) := some ((s164.1 1 3), s164)
noncomputable def fX1_read (sh : List kd) (σ : St) : Option (Int32 × St) := i_bd (fX9_rewind sh σ) (fun r1 s2 => i_bd (fX6_clear sh s2 3) (fun r4 s5 => fX1_read_L16 sh (fun (x59 : Int32) (s60 : St) => fX1_read_X48 sh x59 s60) (fun (x111 : Int32) (s112 : St) => fX1_read_X63 sh x111 s112) (fun (x163 : Int32) (s164 : St) => fX1_read_X87 sh x163 s164) i_F 0 s5))
set_option maxRecDepth 20000 in
set_option maxHeartbeats 2000000 in
theorem tX1_read_L16 {sh : List kd} {τ : St} {r : Int32} (hsh : cSh sh) {k48 : Int32 → St → Option (Int32 × St)} {k63 : Int32 → St → Option (Int32 × St)} {k87 : Int32 → St → Option (Int32 × St)} (hk48 : ∀ (x59 : Int32) (s60 : St), k48 x59 s60 = some (r, τ) → g_R sh 4 mX1_read (some (.int r)) τ 48 [.ref 9, .int x59] [] (s60)) (hk63 : ∀ (x111 : Int32) (s112 : St), k63 x111 s112 = some (r, τ) → g_R sh 4 mX1_read (some (.int r)) τ 63 [.ref 9, .int x111] [] (s112)) (hk87 : ∀ (x163 : Int32) (s164 : St), k87 x163 s164 = some (r, τ) → g_R sh 4 mX1_read (some (.int r)) τ 87 [.ref 9, .int x163] [] (s164)) : ∀ (n0 : Nat) (x7 : Int32) (s8 : St), fX1_read_L16 sh k48 k63 k87 n0 x7 s8 = some (r, τ) → g_R sh 4 mX1_read (some (.int r)) τ 16 [.ref 9, .int x7] [] (s8) := by
  intro n0
  induction n0 with
  | zero => intro _ _ hE; cases hE
  | succ n165 ih =>
    intro x7 s8 hE
    unfold fX1_read_L16 at hE
    refine g_ldin aX1_read_16 rfl ?_
    refine g_bipush (x := 40) aX1_read_17 rfl ?_
    by_cases hc166 : 40 < x7
    · rw [if_pos hc166] at hE
      refine g_ic_gt_t aX1_read_19 hc166 ?_
      exact hk87 _ _ hE
    · rw [if_neg hc166] at hE
      refine g_ic_gt_f aX1_read_19 hc166 ?_
      refine g_ldan aX1_read_22 rfl ?_
      refine g_ldin aX1_read_23 rfl ?_
      obtain ⟨r167, s168, h169, hE⟩ := i_bd_some hE
      refine g_calV (As := [.int x7]) (rest := []) aX1_read_24 (i_X_mono (by omega) (tX1_readClause hsh h169)) (sC_9 hsh) (by decide +kernel) rfl rfl (Nat.le_of_ble_eq_true rfl) rfl ?_
      refine g_ldan aX1_read_27 rfl ?_
      refine g_getR aX1_read_28 (sC_9 hsh) rfl ?_
      refine g_getI aX1_read_31 (sC_1 hsh) rfl ?_
      by_cases hc170 : ¬ (s168.1 1 3) = 0
      · rw [if_pos hc170] at hE
        refine g_if_ne_t aX1_read_34 hc170 ?_
        exact hk87 _ _ hE
      · rw [if_neg hc170] at hE
        refine g_if_ne_f aX1_read_34 hc170 ?_
        refine g_ldan aX1_read_37 rfl ?_
        refine g_getR aX1_read_38 (sC_9 hsh) rfl ?_
        obtain ⟨r171, s172, h173, hE⟩ := i_bd_some hE
        refine g_calV (As := []) (rest := []) aX1_read_41 (i_X_mono (by omega) (tX9_sign hsh h173)) (sC_1 hsh) (by decide +kernel) rfl rfl (Nat.le_of_ble_eq_true rfl) rfl ?_
        refine g_iconst (x := (-1)) aX1_read_44 rfl ?_
        by_cases hc174 : ¬ r171 = (-1)
        · rw [if_pos hc174] at hE
          refine g_ic_ne_t aX1_read_45 hc174 ?_
          refine g_ldan aX1_read_51 rfl ?_
          refine g_getR aX1_read_52 (sC_9 hsh) rfl ?_
          refine g_bipush (x := 59) aX1_read_55 rfl ?_
          obtain ⟨r175, s176, h177, hE⟩ := i_bd_some hE
          refine g_calV (As := [.int 59]) (rest := []) aX1_read_57 (i_X_mono (by omega) (tX9_takeSign hsh h177)) (sC_1 hsh) (by decide +kernel) rfl rfl (Nat.le_of_ble_eq_true rfl) rfl ?_
          by_cases hc178 : ¬ r175 = 0
          · rw [if_pos hc178] at hE
            refine g_if_ne_t aX1_read_60 hc178 ?_
            refine g_iinc (y := 1) (loc2 := [.ref 9, .int (x7 + 1)]) aX1_read_81 rfl rfl rfl ?_
            refine g_goto aX1_read_84 ?_
            exact ih _ _ hE
          · rw [if_neg hc178] at hE
            refine g_if_ne_f aX1_read_60 hc178 ?_
            exact hk63 _ _ hE
        · rw [if_neg hc174] at hE
          refine g_ic_ne_f aX1_read_45 hc174 ?_
          exact hk48 _ _ hE
set_option maxRecDepth 20000 in
set_option maxHeartbeats 2000000 in
theorem tX1_read_X48 {sh : List kd} {τ : St} {r : Int32} (hsh : cSh sh) {x59 : Int32} {s60 : St} (hE : fX1_read_X48 sh x59 s60 = some (r, τ)) : g_R sh 4 mX1_read (some (.int r)) τ 48 [.ref 9, .int x59] [] (s60) := by
  unfold fX1_read_X48 at hE
  refine g_goto aX1_read_48 ?_
  refine g_ldan aX1_read_87 rfl ?_
  refine g_getR aX1_read_88 (sC_9 hsh) rfl ?_
  refine g_getI aX1_read_91 (sC_1 hsh) rfl ?_
  cases hE
  exact g_iret aX1_read_94 rfl rfl
set_option maxRecDepth 20000 in
set_option maxHeartbeats 2000000 in
theorem tX1_read_X63 {sh : List kd} {τ : St} {r : Int32} (hsh : cSh sh) {x111 : Int32} {s112 : St} (hE : fX1_read_X63 sh x111 s112 = some (r, τ)) : g_R sh 4 mX1_read (some (.int r)) τ 63 [.ref 9, .int x111] [] (s112) := by
  unfold fX1_read_X63 at hE
  refine g_ldan aX1_read_63 rfl ?_
  refine g_getR aX1_read_64 (sC_9 hsh) rfl ?_
  refine g_ldan aX1_read_67 rfl ?_
  refine g_getR aX1_read_68 (sC_9 hsh) rfl ?_
  refine g_getI aX1_read_71 (sC_1 hsh) rfl ?_
  refine g_iconst (x := 0) aX1_read_74 rfl ?_
  obtain ⟨r179, s180, h181, hE⟩ := i_bd_some hE
  refine g_calV (As := [.int (s112.1 1 2), .int 0]) (rest := []) aX1_read_75 (i_X_mono (by omega) (tX9_refuse hsh h181)) (sC_1 hsh) (by decide +kernel) rfl rfl (Nat.le_of_ble_eq_true rfl) rfl ?_
  refine g_goto aX1_read_78 ?_
  refine g_ldan aX1_read_87 rfl ?_
  refine g_getR aX1_read_88 (sC_9 hsh) rfl ?_
  refine g_getI aX1_read_91 (sC_1 hsh) rfl ?_
  cases hE
  exact g_iret aX1_read_94 rfl rfl
set_option maxRecDepth 20000 in
set_option maxHeartbeats 2000000 in
theorem tX1_read_X87 {sh : List kd} {τ : St} {r : Int32} (hsh : cSh sh) {x163 : Int32} {s164 : St} (hE : fX1_read_X87 sh x163 s164 = some (r, τ)) : g_R sh 4 mX1_read (some (.int r)) τ 87 [.ref 9, .int x163] [] (s164) := by
  unfold fX1_read_X87 at hE
  refine g_ldan aX1_read_87 rfl ?_
  refine g_getR aX1_read_88 (sC_9 hsh) rfl ?_
  refine g_getI aX1_read_91 (sC_1 hsh) rfl ?_
  cases hE
  exact g_iret aX1_read_94 rfl rfl
set_option maxRecDepth 20000 in
set_option maxHeartbeats 2000000 in
theorem tX1_read {sh : List kd} {σ τ : St} {r : Int32} (hsh : cSh sh) (hE : fX1_read sh σ = some (r, τ)) : i_X 5 6 [.ref 9] (s_h sh σ) 0 0 (some (.int r)) (s_h sh τ) := by
  refine g_X (M := mX1_read) (loc := [.ref 9, .retAddr 0]) rfl (Nat.le_of_ble_eq_true rfl) rfl ?_
  unfold fX1_read at hE
  refine g_ldan aX1_read_0 rfl ?_
  refine g_getR aX1_read_1 (sC_9 hsh) rfl ?_
  obtain ⟨r1, s2, h3, hE⟩ := i_bd_some hE
  refine g_calV (As := []) (rest := []) aX1_read_4 (i_X_mono (by omega) (tX9_rewind hsh h3)) (sC_1 hsh) (by decide +kernel) rfl rfl (Nat.le_of_ble_eq_true rfl) rfl ?_
  refine g_ldan aX1_read_7 rfl ?_
  refine g_getR aX1_read_8 (sC_9 hsh) rfl ?_
  obtain ⟨r4, s5, h6, hE⟩ := i_bd_some hE
  refine g_calV (As := []) (rest := []) aX1_read_11 (i_X_mono (by omega) (tX6_clear hsh (rShB_3 hsh) h6)) ((rShB_3 hsh).1) (by decide +kernel) rfl rfl (Nat.le_of_ble_eq_true rfl) rfl ?_
  refine g_iconst (x := 0) aX1_read_14 rfl ?_
  refine g_stin (loc2 := [.ref 9, .int 0]) aX1_read_15 (Nat.le_of_ble_eq_true rfl) rfl ?_
  exact tX1_read_L16 hsh (fun x59 s60 hE => tX1_read_X48 hsh hE) (fun x111 s112 hE => tX1_read_X63 hsh hE) (fun x163 s164 hE => tX1_read_X87 hsh hE) i_F _ _ hE
theorem aX3_playFromBegin_0 : i_at mX3_playFromBegin.2.2.2.2.2 0 = some (.aload_n 0, 1, 0, 0, 0, 0) := by decide +kernel
theorem aX3_playFromBegin_1 : i_at mX3_playFromBegin.2.2.2.2.2 1 = some (.getfield 12, 3, 2, 2, 431, 0) := by decide +kernel
theorem aX3_playFromBegin_4 : i_at mX3_playFromBegin.2.2.2.2.2 4 = some (.aload_n 0, 1, 0, 0, 0, 0) := by decide +kernel
theorem aX3_playFromBegin_5 : i_at mX3_playFromBegin.2.2.2.2.2 5 = some (.getfield 31, 3, 2, 0, 429, 0) := by decide +kernel
theorem aX3_playFromBegin_8 : i_at mX3_playFromBegin.2.2.2.2.2 8 = some (.getfield 51, 3, 9, 0, 345, 0) := by decide +kernel
theorem aX3_playFromBegin_11 : i_at mX3_playFromBegin.2.2.2.2.2 11 = some (.invokevirtual 57, 3, 26, 1, 1021, 0) := by decide +kernel
theorem aX3_playFromBegin_14 : i_at mX3_playFromBegin.2.2.2.2.2 14 = some (.iconst 0, 1, 0, 0, 0, 0) := by decide +kernel
theorem aX3_playFromBegin_15 : i_at mX3_playFromBegin.2.2.2.2.2 15 = some (.istore_n 2, 1, 0, 0, 0, 0) := by decide +kernel
theorem aX3_playFromBegin_16 : i_at mX3_playFromBegin.2.2.2.2.2 16 = some (.iload_n 2, 1, 0, 0, 0, 0) := by decide +kernel
theorem aX3_playFromBegin_17 : i_at mX3_playFromBegin.2.2.2.2.2 17 = some (.bipush 60, 2, 0, 0, 0, 0) := by decide +kernel
theorem aX3_playFromBegin_19 : i_at mX3_playFromBegin.2.2.2.2.2 19 = some (.if_icmp .gt 46, 3, 65, 0, 0, 0) := by decide +kernel
theorem aX3_playFromBegin_22 : i_at mX3_playFromBegin.2.2.2.2.2 22 = some (.aload_n 0, 1, 0, 0, 0, 0) := by decide +kernel
theorem aX3_playFromBegin_23 : i_at mX3_playFromBegin.2.2.2.2.2 23 = some (.getfield 35, 3, 2, 1, 430, 0) := by decide +kernel
theorem aX3_playFromBegin_26 : i_at mX3_playFromBegin.2.2.2.2.2 26 = some (.aload_n 0, 1, 0, 0, 0, 0) := by decide +kernel
theorem aX3_playFromBegin_27 : i_at mX3_playFromBegin.2.2.2.2.2 27 = some (.getfield 12, 3, 2, 2, 431, 0) := by decide +kernel
theorem aX3_playFromBegin_30 : i_at mX3_playFromBegin.2.2.2.2.2 30 = some (.aload_n 0, 1, 0, 0, 0, 0) := by decide +kernel
theorem aX3_playFromBegin_31 : i_at mX3_playFromBegin.2.2.2.2.2 31 = some (.getfield 31, 3, 2, 0, 429, 0) := by decide +kernel
theorem aX3_playFromBegin_34 : i_at mX3_playFromBegin.2.2.2.2.2 34 = some (.getfield 51, 3, 9, 0, 345, 0) := by decide +kernel
theorem aX3_playFromBegin_37 : i_at mX3_playFromBegin.2.2.2.2.2 37 = some (.iload_n 1, 1, 0, 0, 0, 0) := by decide +kernel
theorem aX3_playFromBegin_38 : i_at mX3_playFromBegin.2.2.2.2.2 38 = some (.iconst 1, 1, 0, 0, 0, 0) := by decide +kernel
theorem aX3_playFromBegin_39 : i_at mX3_playFromBegin.2.2.2.2.2 39 = some (.isub, 1, 0, 0, 0, 0) := by decide +kernel
theorem aX3_playFromBegin_40 : i_at mX3_playFromBegin.2.2.2.2.2 40 = some (.invokevirtual 61, 3, 2, 3, 1022, 0) := by decide +kernel
theorem aX3_playFromBegin_43 : i_at mX3_playFromBegin.2.2.2.2.2 43 = some (.pop, 1, 0, 0, 0, 0) := by decide +kernel
theorem aX3_playFromBegin_44 : i_at mX3_playFromBegin.2.2.2.2.2 44 = some (.aload_n 0, 1, 0, 0, 0, 0) := by decide +kernel
theorem aX3_playFromBegin_45 : i_at mX3_playFromBegin.2.2.2.2.2 45 = some (.getfield 20, 3, 2, 3, 432, 0) := by decide +kernel
theorem aX3_playFromBegin_48 : i_at mX3_playFromBegin.2.2.2.2.2 48 = some (.iload_n 1, 1, 0, 0, 0, 0) := by decide +kernel
theorem aX3_playFromBegin_49 : i_at mX3_playFromBegin.2.2.2.2.2 49 = some (.aaload, 1, 0, 0, 0, 0) := by decide +kernel
theorem aX3_playFromBegin_50 : i_at mX3_playFromBegin.2.2.2.2.2 50 = some (.iload_n 2, 1, 0, 0, 0, 0) := by decide +kernel
theorem aX3_playFromBegin_51 : i_at mX3_playFromBegin.2.2.2.2.2 51 = some (.aload_n 0, 1, 0, 0, 0, 0) := by decide +kernel
theorem aX3_playFromBegin_52 : i_at mX3_playFromBegin.2.2.2.2.2 52 = some (.getfield 12, 3, 2, 2, 431, 0) := by decide +kernel
theorem aX3_playFromBegin_55 : i_at mX3_playFromBegin.2.2.2.2.2 55 = some (.getfield 67, 3, 3, 1, 298, 0) := by decide +kernel
theorem aX3_playFromBegin_58 : i_at mX3_playFromBegin.2.2.2.2.2 58 = some (.iastore, 1, 0, 0, 0, 0) := by decide +kernel
theorem aX3_playFromBegin_59 : i_at mX3_playFromBegin.2.2.2.2.2 59 = some (.iinc 2 1, 3, 0, 0, 0, 0) := by decide +kernel
theorem aX3_playFromBegin_62 : i_at mX3_playFromBegin.2.2.2.2.2 62 = some (.goto (-46), 3, 16, 0, 0, 0) := by decide +kernel
theorem aX3_playFromBegin_65 : i_at mX3_playFromBegin.2.2.2.2.2 65 = some (.return_, 1, 0, 0, 0, 0) := by decide +kernel
noncomputable def fX3_playFromBegin_L16 (sh : List kd) (p1 : Int32) : Nat → Int32 → St → Option (Unit × St)
  | 0, _, _ => none
  | n6 + 1, x4, s5 => if 60 < x4 then some ((), s5) else i_bd (fX0_pass sh s5 144 20 (p1 - 1)) (fun r58 s59 => if i_ok p1 7 then i_om (s59.2.2.2 149 p1.toNatClampNeg) (fun q62 => i_al sh .int q62 (fun n64 => if i_ok x4 n64 then (fX3_playFromBegin_L16 sh p1 n6 (x4 + 1) (s_A s59 q62 x4.toNatClampNeg (s59.1 144 1))) else none)) else none)
noncomputable def fX3_playFromBegin (sh : List kd) (σ : St) (p1 : Int32) : Option (Unit × St) := i_bd (fX4_begin sh σ 144 20) (fun r1 s2 => fX3_playFromBegin_L16 sh p1 i_F 0 s2)
set_option maxRecDepth 20000 in
set_option maxHeartbeats 2000000 in
theorem tX3_playFromBegin_L16 {sh : List kd} {τ : St} {r : Unit} (hsh : cSh sh) {p1 : Int32} : ∀ (n0 : Nat) (x4 : Int32) (s5 : St), fX3_playFromBegin_L16 sh p1 n0 x4 s5 = some (r, τ) → g_R sh 5 mX3_playFromBegin none τ 16 [.ref 143, .int p1, .int x4] [] (s5) := by
  intro n0
  induction n0 with
  | zero => intro _ _ hE; cases hE
  | succ n6 ih =>
    intro x4 s5 hE
    unfold fX3_playFromBegin_L16 at hE
    refine g_ldin aX3_playFromBegin_16 rfl ?_
    refine g_bipush (x := 60) aX3_playFromBegin_17 rfl ?_
    by_cases hc57 : 60 < x4
    · rw [if_pos hc57] at hE
      refine g_ic_gt_t aX3_playFromBegin_19 hc57 ?_
      cases hE
      exact g_vret aX3_playFromBegin_65 rfl
    · rw [if_neg hc57] at hE
      refine g_ic_gt_f aX3_playFromBegin_19 hc57 ?_
      refine g_ldan aX3_playFromBegin_22 rfl ?_
      refine g_getR aX3_playFromBegin_23 (sC_143 hsh) rfl ?_
      refine g_ldan aX3_playFromBegin_26 rfl ?_
      refine g_getR aX3_playFromBegin_27 (sC_143 hsh) rfl ?_
      refine g_ldan aX3_playFromBegin_30 rfl ?_
      refine g_getR aX3_playFromBegin_31 (sC_143 hsh) rfl ?_
      refine g_getR aX3_playFromBegin_34 ((wShB_19 hsh).1) rfl ?_
      refine g_ldin aX3_playFromBegin_37 rfl ?_
      refine g_iconst (x := 1) aX3_playFromBegin_38 rfl ?_
      refine g_isub aX3_playFromBegin_39 ?_
      obtain ⟨r58, s59, h60, hE⟩ := i_bd_some hE
      refine g_calV (As := [.ref 144, .ref 20, .int (p1 - 1)]) (rest := []) aX3_playFromBegin_40 (i_X_mono (by omega) (tX0_pass hsh (lShB_144 hsh) (rShB_20 hsh) h60)) (sC_16 hsh) (by decide +kernel) rfl rfl (Nat.le_of_ble_eq_true rfl) rfl ?_
      refine g_popi aX3_playFromBegin_43 ?_
      refine g_ldan aX3_playFromBegin_44 rfl ?_
      refine g_getR aX3_playFromBegin_45 (sC_143 hsh) rfl ?_
      refine g_ldin aX3_playFromBegin_48 rfl ?_
      obtain ⟨h61, hE⟩ := i_ifn hE
      refine g_aldA aX3_playFromBegin_49 (sC_149 hsh) h61 ?_
      refine g_ldin aX3_playFromBegin_50 rfl ?_
      refine g_ldan aX3_playFromBegin_51 rfl ?_
      refine g_getR aX3_playFromBegin_52 (sC_143 hsh) rfl ?_
      refine g_getI aX3_playFromBegin_55 ((lShB_144 hsh).1) rfl ?_
      obtain ⟨q62, h63, hE⟩ := i_om_some hE
      rw [h63]
      obtain ⟨n64, h65, hE⟩ := i_al_some hE
      obtain ⟨h66, hE⟩ := i_ifn hE
      refine g_ist aX3_playFromBegin_58 (h65) h66 ?_
      refine g_iinc (y := 1) (loc2 := [.ref 143, .int p1, .int (x4 + 1)]) aX3_playFromBegin_59 rfl rfl rfl ?_
      refine g_goto aX3_playFromBegin_62 ?_
      exact ih _ _ hE
set_option maxRecDepth 20000 in
set_option maxHeartbeats 2000000 in
theorem tX3_playFromBegin {sh : List kd} {σ τ : St} {r : Unit} (hsh : cSh sh) {p1 : Int32} (hE : fX3_playFromBegin sh σ p1 = some (r, τ)) : i_X 6 20 [.ref 143, .int p1] (s_h sh σ) 0 0 none (s_h sh τ) := by
  refine g_X (M := mX3_playFromBegin) (loc := [.ref 143, .int p1, .retAddr 0]) rfl (Nat.le_of_ble_eq_true rfl) rfl ?_
  unfold fX3_playFromBegin at hE
  refine g_ldan aX3_playFromBegin_0 rfl ?_
  refine g_getR aX3_playFromBegin_1 (sC_143 hsh) rfl ?_
  refine g_ldan aX3_playFromBegin_4 rfl ?_
  refine g_getR aX3_playFromBegin_5 (sC_143 hsh) rfl ?_
  refine g_getR aX3_playFromBegin_8 ((wShB_19 hsh).1) rfl ?_
  obtain ⟨r1, s2, h3, hE⟩ := i_bd_some hE
  refine g_calV (As := [.ref 20]) (rest := []) aX3_playFromBegin_11 (i_X_mono (by omega) (tX4_begin hsh (lShB_144 hsh) (rShB_20 hsh) h3)) ((lShB_144 hsh).1) (by decide +kernel) rfl rfl (Nat.le_of_ble_eq_true rfl) rfl ?_
  refine g_iconst (x := 0) aX3_playFromBegin_14 rfl ?_
  refine g_stin (loc2 := [.ref 143, .int p1, .int 0]) aX3_playFromBegin_15 (Nat.le_of_ble_eq_true rfl) rfl ?_
  exact tX3_playFromBegin_L16 hsh i_F _ _ hE
theorem aX5_goOn_0 : i_at mX5_goOn.2.2.2.2.2 0 = some (.iconst 0, 1, 0, 0, 0, 0) := by decide +kernel
theorem aX5_goOn_1 : i_at mX5_goOn.2.2.2.2.2 1 = some (.istore_n 2, 1, 0, 0, 0, 0) := by decide +kernel
theorem aX5_goOn_2 : i_at mX5_goOn.2.2.2.2.2 2 = some (.iload_n 2, 1, 0, 0, 0, 0) := by decide +kernel
theorem aX5_goOn_3 : i_at mX5_goOn.2.2.2.2.2 3 = some (.iload_n 1, 1, 0, 0, 0, 0) := by decide +kernel
theorem aX5_goOn_4 : i_at mX5_goOn.2.2.2.2.2 4 = some (.if_icmp .ge 35, 3, 39, 0, 0, 0) := by decide +kernel
theorem aX5_goOn_7 : i_at mX5_goOn.2.2.2.2.2 7 = some (.aload_n 0, 1, 0, 0, 0, 0) := by decide +kernel
theorem aX5_goOn_8 : i_at mX5_goOn.2.2.2.2.2 8 = some (.getfield 32, 3, 4, 1, 401, 0) := by decide +kernel
theorem aX5_goOn_11 : i_at mX5_goOn.2.2.2.2.2 11 = some (.aload_n 0, 1, 0, 0, 0, 0) := by decide +kernel
theorem aX5_goOn_12 : i_at mX5_goOn.2.2.2.2.2 12 = some (.getfield 12, 3, 4, 2, 402, 0) := by decide +kernel
theorem aX5_goOn_15 : i_at mX5_goOn.2.2.2.2.2 15 = some (.aload_n 0, 1, 0, 0, 0, 0) := by decide +kernel
theorem aX5_goOn_16 : i_at mX5_goOn.2.2.2.2.2 16 = some (.getfield 28, 3, 4, 0, 400, 0) := by decide +kernel
theorem aX5_goOn_19 : i_at mX5_goOn.2.2.2.2.2 19 = some (.getfield 45, 3, 9, 0, 346, 0) := by decide +kernel
theorem aX5_goOn_22 : i_at mX5_goOn.2.2.2.2.2 22 = some (.aload_n 0, 1, 0, 0, 0, 0) := by decide +kernel
theorem aX5_goOn_23 : i_at mX5_goOn.2.2.2.2.2 23 = some (.getfield 28, 3, 4, 0, 400, 0) := by decide +kernel
theorem aX5_goOn_26 : i_at mX5_goOn.2.2.2.2.2 26 = some (.getfield 49, 3, 9, 8, 366, 0) := by decide +kernel
theorem aX5_goOn_29 : i_at mX5_goOn.2.2.2.2.2 29 = some (.invokevirtual 53, 3, 2, 3, 896, 0) := by decide +kernel
theorem aX5_goOn_32 : i_at mX5_goOn.2.2.2.2.2 32 = some (.pop, 1, 0, 0, 0, 0) := by decide +kernel
theorem aX5_goOn_33 : i_at mX5_goOn.2.2.2.2.2 33 = some (.iinc 2 1, 3, 0, 0, 0, 0) := by decide +kernel
theorem aX5_goOn_36 : i_at mX5_goOn.2.2.2.2.2 36 = some (.goto (-34), 3, 2, 0, 0, 0) := by decide +kernel
theorem aX5_goOn_39 : i_at mX5_goOn.2.2.2.2.2 39 = some (.return_, 1, 0, 0, 0, 0) := by decide +kernel
noncomputable def fX5_goOn_L2 (sh : List kd) (p1 : Int32) : Nat → Int32 → St → Option (Unit × St)
  | 0, _, _ => none
  | n3 + 1, x1, s2 => if p1 ≤ x1 then some ((), s2) else i_bd (fX0_pass sh s2 135 20 (s2.1 19 8)) (fun r55 s56 => (fX5_goOn_L2 sh p1 n3 (x1 + 1) s56))
noncomputable def fX5_goOn (sh : List kd) (σ : St) (p1 : Int32) : Option (Unit × St) := fX5_goOn_L2 sh p1 i_F 0 σ
set_option maxRecDepth 20000 in
set_option maxHeartbeats 2000000 in
theorem tX5_goOn_L2 {sh : List kd} {τ : St} {r : Unit} (hsh : cSh sh) {p1 : Int32} : ∀ (n0 : Nat) (x1 : Int32) (s2 : St), fX5_goOn_L2 sh p1 n0 x1 s2 = some (r, τ) → g_R sh 5 mX5_goOn none τ 2 [.ref 134, .int p1, .int x1] [] (s2) := by
  intro n0
  induction n0 with
  | zero => intro _ _ hE; cases hE
  | succ n3 ih =>
    intro x1 s2 hE
    unfold fX5_goOn_L2 at hE
    refine g_ldin aX5_goOn_2 rfl ?_
    refine g_ldin aX5_goOn_3 rfl ?_
    by_cases hc54 : p1 ≤ x1
    · rw [if_pos hc54] at hE
      refine g_ic_ge_t aX5_goOn_4 hc54 ?_
      cases hE
      exact g_vret aX5_goOn_39 rfl
    · rw [if_neg hc54] at hE
      refine g_ic_ge_f aX5_goOn_4 hc54 ?_
      refine g_ldan aX5_goOn_7 rfl ?_
      refine g_getR aX5_goOn_8 (sC_134 hsh) rfl ?_
      refine g_ldan aX5_goOn_11 rfl ?_
      refine g_getR aX5_goOn_12 (sC_134 hsh) rfl ?_
      refine g_ldan aX5_goOn_15 rfl ?_
      refine g_getR aX5_goOn_16 (sC_134 hsh) rfl ?_
      refine g_getR aX5_goOn_19 ((wShB_19 hsh).1) rfl ?_
      refine g_ldan aX5_goOn_22 rfl ?_
      refine g_getR aX5_goOn_23 (sC_134 hsh) rfl ?_
      refine g_getI aX5_goOn_26 ((wShB_19 hsh).1) rfl ?_
      obtain ⟨r55, s56, h57, hE⟩ := i_bd_some hE
      refine g_calV (As := [.ref 135, .ref 20, .int (s2.1 19 8)]) (rest := []) aX5_goOn_29 (i_X_mono (by omega) (tX0_pass hsh (lShB_135 hsh) (rShB_20 hsh) h57)) (sC_16 hsh) (by decide +kernel) rfl rfl (Nat.le_of_ble_eq_true rfl) rfl ?_
      refine g_popi aX5_goOn_32 ?_
      refine g_iinc (y := 1) (loc2 := [.ref 134, .int p1, .int (x1 + 1)]) aX5_goOn_33 rfl rfl rfl ?_
      refine g_goto aX5_goOn_36 ?_
      exact ih _ _ hE
set_option maxRecDepth 20000 in
set_option maxHeartbeats 2000000 in
theorem tX5_goOn {sh : List kd} {σ τ : St} {r : Unit} (hsh : cSh sh) {p1 : Int32} (hE : fX5_goOn sh σ p1 = some (r, τ)) : i_X 6 34 [.ref 134, .int p1] (s_h sh σ) 0 0 none (s_h sh τ) := by
  refine g_X (M := mX5_goOn) (loc := [.ref 134, .int p1, .retAddr 0]) rfl (Nat.le_of_ble_eq_true rfl) rfl ?_
  unfold fX5_goOn at hE
  refine g_iconst (x := 0) aX5_goOn_0 rfl ?_
  refine g_stin (loc2 := [.ref 134, .int p1, .int 0]) aX5_goOn_1 (Nat.le_of_ble_eq_true rfl) rfl ?_
  exact tX5_goOn_L2 hsh i_F _ _ hE
theorem aX5_after_0 : i_at mX5_after.2.2.2.2.2 0 = some (.aload_n 0, 1, 0, 0, 0, 0) := by decide +kernel
theorem aX5_after_1 : i_at mX5_after.2.2.2.2.2 1 = some (.invokevirtual 59, 3, 33, 0, 887, 0) := by decide +kernel
theorem aX5_after_4 : i_at mX5_after.2.2.2.2.2 4 = some (.aload_n 0, 1, 0, 0, 0, 0) := by decide +kernel
theorem aX5_after_5 : i_at mX5_after.2.2.2.2.2 5 = some (.iload_n 2, 1, 0, 0, 0, 0) := by decide +kernel
theorem aX5_after_6 : i_at mX5_after.2.2.2.2.2 6 = some (.invokevirtual 62, 3, 34, 1, 892, 0) := by decide +kernel
theorem aX5_after_9 : i_at mX5_after.2.2.2.2.2 9 = some (.iload_n 3, 1, 0, 0, 0, 0) := by decide +kernel
theorem aX5_after_10 : i_at mX5_after.2.2.2.2.2 10 = some (.ifCond .ne 29, 3, 39, 0, 0, 0) := by decide +kernel
theorem aX5_after_13 : i_at mX5_after.2.2.2.2.2 13 = some (.aload_n 0, 1, 0, 0, 0, 0) := by decide +kernel
theorem aX5_after_14 : i_at mX5_after.2.2.2.2.2 14 = some (.getfield 32, 3, 4, 1, 401, 0) := by decide +kernel
theorem aX5_after_17 : i_at mX5_after.2.2.2.2.2 17 = some (.aload_n 0, 1, 0, 0, 0, 0) := by decide +kernel
theorem aX5_after_18 : i_at mX5_after.2.2.2.2.2 18 = some (.getfield 12, 3, 4, 2, 402, 0) := by decide +kernel
theorem aX5_after_21 : i_at mX5_after.2.2.2.2.2 21 = some (.aload_n 0, 1, 0, 0, 0, 0) := by decide +kernel
theorem aX5_after_22 : i_at mX5_after.2.2.2.2.2 22 = some (.getfield 28, 3, 4, 0, 400, 0) := by decide +kernel
theorem aX5_after_25 : i_at mX5_after.2.2.2.2.2 25 = some (.getfield 45, 3, 9, 0, 346, 0) := by decide +kernel
theorem aX5_after_28 : i_at mX5_after.2.2.2.2.2 28 = some (.aload_n 0, 1, 0, 0, 0, 0) := by decide +kernel
theorem aX5_after_29 : i_at mX5_after.2.2.2.2.2 29 = some (.getfield 28, 3, 4, 0, 400, 0) := by decide +kernel
theorem aX5_after_32 : i_at mX5_after.2.2.2.2.2 32 = some (.getfield 49, 3, 9, 8, 366, 0) := by decide +kernel
theorem aX5_after_35 : i_at mX5_after.2.2.2.2.2 35 = some (.invokevirtual 66, 3, 1, 3, 897, 0) := by decide +kernel
theorem aX5_after_38 : i_at mX5_after.2.2.2.2.2 38 = some (.ireturn, 1, 0, 0, 0, 0) := by decide +kernel
theorem aX5_after_39 : i_at mX5_after.2.2.2.2.2 39 = some (.iload_n 3, 1, 0, 0, 0, 0) := by decide +kernel
theorem aX5_after_40 : i_at mX5_after.2.2.2.2.2 40 = some (.iconst 1, 1, 0, 0, 0, 0) := by decide +kernel
theorem aX5_after_41 : i_at mX5_after.2.2.2.2.2 41 = some (.if_icmp .ne 15, 3, 56, 0, 0, 0) := by decide +kernel
theorem aX5_after_44 : i_at mX5_after.2.2.2.2.2 44 = some (.aload_n 0, 1, 0, 0, 0, 0) := by decide +kernel
theorem aX5_after_45 : i_at mX5_after.2.2.2.2.2 45 = some (.getfield 12, 3, 4, 2, 402, 0) := by decide +kernel
theorem aX5_after_48 : i_at mX5_after.2.2.2.2.2 48 = some (.getfield 69, 3, 3, 5, 316, 0) := by decide +kernel
theorem aX5_after_51 : i_at mX5_after.2.2.2.2.2 51 = some (.iload_n 1, 1, 0, 0, 0, 0) := by decide +kernel
theorem aX5_after_52 : i_at mX5_after.2.2.2.2.2 52 = some (.iaload, 1, 0, 0, 0, 0) := by decide +kernel
theorem aX5_after_53 : i_at mX5_after.2.2.2.2.2 53 = some (.goto 12, 3, 65, 0, 0, 0) := by decide +kernel
theorem aX5_after_56 : i_at mX5_after.2.2.2.2.2 56 = some (.aload_n 0, 1, 0, 0, 0, 0) := by decide +kernel
theorem aX5_after_57 : i_at mX5_after.2.2.2.2.2 57 = some (.getfield 12, 3, 4, 2, 402, 0) := by decide +kernel
theorem aX5_after_60 : i_at mX5_after.2.2.2.2.2 60 = some (.getfield 72, 3, 3, 4, 311, 0) := by decide +kernel
theorem aX5_after_63 : i_at mX5_after.2.2.2.2.2 63 = some (.iload_n 1, 1, 0, 0, 0, 0) := by decide +kernel
theorem aX5_after_64 : i_at mX5_after.2.2.2.2.2 64 = some (.iaload, 1, 0, 0, 0, 0) := by decide +kernel
theorem aX5_after_65 : i_at mX5_after.2.2.2.2.2 65 = some (.ireturn, 1, 0, 0, 0, 0) := by decide +kernel
noncomputable def fX5_after_J65 (sh : List kd) (p1 : Int32) (p2 : Int32) (p3 : Int32) (s5 : St) (x58 : Int32) : Option (Int32 × St) := some (x58, s5)
noncomputable def fX5_after (sh : List kd) (σ : St) (p1 : Int32) (p2 : Int32) (p3 : Int32) : Option (Int32 × St) := i_bd (fX5_begin sh σ) (fun r1 s2 => i_bd (fX5_goOn sh s2 p2) (fun r4 s5 => if ¬ p3 = 0 then if ¬ p3 = 1 then if i_ok p1 6 then fX5_after_J65 sh p1 p2 p3 s5 (s5.2.1 136 p1.toNatClampNeg) else none else if i_ok p1 6 then fX5_after_J65 sh p1 p2 p3 s5 (s5.2.1 137 p1.toNatClampNeg) else none else i_bd (fX0_hand sh s5 135 20 (s5.1 19 8)) (fun r62 s63 => some (r62, s63))))
set_option maxRecDepth 20000 in
set_option maxHeartbeats 2000000 in
theorem tX5_after_J65 {sh : List kd} {τ : St} {r : Int32} (hsh : cSh sh) {p1 : Int32} {p2 : Int32} {p3 : Int32} {s5 : St} {x58 : Int32} (hE : fX5_after_J65 sh p1 p2 p3 s5 x58 = some (r, τ)) : g_R sh 6 mX5_after (some (.int r)) τ 65 [.ref 134, .int p1, .int p2, .int p3] [.int x58] (s5) := by
  unfold fX5_after_J65 at hE
  cases hE
  exact g_iret aX5_after_65 rfl rfl
set_option maxRecDepth 20000 in
set_option maxHeartbeats 2000000 in
theorem tX5_after {sh : List kd} {σ τ : St} {r : Int32} (hsh : cSh sh) {p1 : Int32} {p2 : Int32} {p3 : Int32} (hE : fX5_after sh σ p1 p2 p3 = some (r, τ)) : i_X 7 35 [.ref 134, .int p1, .int p2, .int p3] (s_h sh σ) 0 0 (some (.int r)) (s_h sh τ) := by
  refine g_X (M := mX5_after) (loc := [.ref 134, .int p1, .int p2, .int p3]) rfl (Nat.le_of_ble_eq_true rfl) rfl ?_
  unfold fX5_after at hE
  refine g_ldan aX5_after_0 rfl ?_
  obtain ⟨r1, s2, h3, hE⟩ := i_bd_some hE
  refine g_calV (As := []) (rest := []) aX5_after_1 (i_X_mono (by omega) (tX5_begin hsh h3)) (sC_134 hsh) (by decide +kernel) rfl rfl (Nat.le_of_ble_eq_true rfl) rfl ?_
  refine g_ldan aX5_after_4 rfl ?_
  refine g_ldin aX5_after_5 rfl ?_
  obtain ⟨r4, s5, h6, hE⟩ := i_bd_some hE
  refine g_calV (As := [.int p2]) (rest := []) aX5_after_6 (i_X_mono (by omega) (tX5_goOn hsh h6)) (sC_134 hsh) (by decide +kernel) rfl rfl (Nat.le_of_ble_eq_true rfl) rfl ?_
  refine g_ldin aX5_after_9 rfl ?_
  by_cases hc7 : ¬ p3 = 0
  · rw [if_pos hc7] at hE
    refine g_if_ne_t aX5_after_10 hc7 ?_
    refine g_ldin aX5_after_39 rfl ?_
    refine g_iconst (x := 1) aX5_after_40 rfl ?_
    by_cases hc59 : ¬ p3 = 1
    · rw [if_pos hc59] at hE
      refine g_ic_ne_t aX5_after_41 hc59 ?_
      refine g_ldan aX5_after_56 rfl ?_
      refine g_getR aX5_after_57 (sC_134 hsh) rfl ?_
      refine g_getR aX5_after_60 ((lShB_135 hsh).1) rfl ?_
      refine g_ldin aX5_after_63 rfl ?_
      obtain ⟨h60, hE⟩ := i_ifn hE
      refine g_ild aX5_after_64 (sC_136 hsh) h60 ?_
      exact tX5_after_J65 hsh hE
    · rw [if_neg hc59] at hE
      refine g_ic_ne_f aX5_after_41 hc59 ?_
      refine g_ldan aX5_after_44 rfl ?_
      refine g_getR aX5_after_45 (sC_134 hsh) rfl ?_
      refine g_getR aX5_after_48 ((lShB_135 hsh).1) rfl ?_
      refine g_ldin aX5_after_51 rfl ?_
      obtain ⟨h61, hE⟩ := i_ifn hE
      refine g_ild aX5_after_52 (sC_137 hsh) h61 ?_
      refine g_goto aX5_after_53 ?_
      exact tX5_after_J65 hsh hE
  · rw [if_neg hc7] at hE
    refine g_if_ne_f aX5_after_10 hc7 ?_
    refine g_ldan aX5_after_13 rfl ?_
    refine g_getR aX5_after_14 (sC_134 hsh) rfl ?_
    refine g_ldan aX5_after_17 rfl ?_
    refine g_getR aX5_after_18 (sC_134 hsh) rfl ?_
    refine g_ldan aX5_after_21 rfl ?_
    refine g_getR aX5_after_22 (sC_134 hsh) rfl ?_
    refine g_getR aX5_after_25 ((wShB_19 hsh).1) rfl ?_
    refine g_ldan aX5_after_28 rfl ?_
    refine g_getR aX5_after_29 (sC_134 hsh) rfl ?_
    refine g_getI aX5_after_32 ((wShB_19 hsh).1) rfl ?_
    obtain ⟨r62, s63, h64, hE⟩ := i_bd_some hE
    refine g_calV (As := [.ref 135, .ref 20, .int (s5.1 19 8)]) (rest := []) aX5_after_35 (i_X_mono (by omega) (tX0_hand hsh (lShB_135 hsh) (rShB_20 hsh) h64)) (sC_16 hsh) (by decide +kernel) rfl rfl (Nat.le_of_ble_eq_true rfl) rfl ?_
    cases hE
    exact g_iret aX5_after_38 rfl rfl
theorem aX5_firstDubbing_0 : i_at mX5_firstDubbing.2.2.2.2.2 0 = some (.aload_n 0, 1, 0, 0, 0, 0) := by decide +kernel
theorem aX5_firstDubbing_1 : i_at mX5_firstDubbing.2.2.2.2.2 1 = some (.invokevirtual 59, 3, 33, 0, 887, 0) := by decide +kernel
theorem aX5_firstDubbing_4 : i_at mX5_firstDubbing.2.2.2.2.2 4 = some (.iconst 0, 1, 0, 0, 0, 0) := by decide +kernel
theorem aX5_firstDubbing_5 : i_at mX5_firstDubbing.2.2.2.2.2 5 = some (.istore_n 3, 1, 0, 0, 0, 0) := by decide +kernel
theorem aX5_firstDubbing_6 : i_at mX5_firstDubbing.2.2.2.2.2 6 = some (.iload_n 3, 1, 0, 0, 0, 0) := by decide +kernel
theorem aX5_firstDubbing_7 : i_at mX5_firstDubbing.2.2.2.2.2 7 = some (.bipush 100, 2, 0, 0, 0, 0) := by decide +kernel
theorem aX5_firstDubbing_9 : i_at mX5_firstDubbing.2.2.2.2.2 9 = some (.if_icmp .ge 69, 3, 78, 0, 0, 0) := by decide +kernel
theorem aX5_firstDubbing_12 : i_at mX5_firstDubbing.2.2.2.2.2 12 = some (.aload_n 0, 1, 0, 0, 0, 0) := by decide +kernel
theorem aX5_firstDubbing_13 : i_at mX5_firstDubbing.2.2.2.2.2 13 = some (.getfield 32, 3, 4, 1, 401, 0) := by decide +kernel
theorem aX5_firstDubbing_16 : i_at mX5_firstDubbing.2.2.2.2.2 16 = some (.aload_n 0, 1, 0, 0, 0, 0) := by decide +kernel
theorem aX5_firstDubbing_17 : i_at mX5_firstDubbing.2.2.2.2.2 17 = some (.getfield 12, 3, 4, 2, 402, 0) := by decide +kernel
theorem aX5_firstDubbing_20 : i_at mX5_firstDubbing.2.2.2.2.2 20 = some (.aload_n 0, 1, 0, 0, 0, 0) := by decide +kernel
theorem aX5_firstDubbing_21 : i_at mX5_firstDubbing.2.2.2.2.2 21 = some (.getfield 28, 3, 4, 0, 400, 0) := by decide +kernel
theorem aX5_firstDubbing_24 : i_at mX5_firstDubbing.2.2.2.2.2 24 = some (.getfield 45, 3, 9, 0, 346, 0) := by decide +kernel
theorem aX5_firstDubbing_27 : i_at mX5_firstDubbing.2.2.2.2.2 27 = some (.aload_n 0, 1, 0, 0, 0, 0) := by decide +kernel
theorem aX5_firstDubbing_28 : i_at mX5_firstDubbing.2.2.2.2.2 28 = some (.getfield 28, 3, 4, 0, 400, 0) := by decide +kernel
theorem aX5_firstDubbing_31 : i_at mX5_firstDubbing.2.2.2.2.2 31 = some (.getfield 49, 3, 9, 8, 366, 0) := by decide +kernel
theorem aX5_firstDubbing_34 : i_at mX5_firstDubbing.2.2.2.2.2 34 = some (.invokevirtual 53, 3, 2, 3, 896, 0) := by decide +kernel
theorem aX5_firstDubbing_37 : i_at mX5_firstDubbing.2.2.2.2.2 37 = some (.istore 4, 2, 0, 0, 0, 0) := by decide +kernel
theorem aX5_firstDubbing_39 : i_at mX5_firstDubbing.2.2.2.2.2 39 = some (.iload 4, 2, 0, 0, 0, 0) := by decide +kernel
theorem aX5_firstDubbing_41 : i_at mX5_firstDubbing.2.2.2.2.2 41 = some (.iload_n 1, 1, 0, 0, 0, 0) := by decide +kernel
theorem aX5_firstDubbing_42 : i_at mX5_firstDubbing.2.2.2.2.2 42 = some (.ishr, 1, 0, 0, 0, 0) := by decide +kernel
theorem aX5_firstDubbing_43 : i_at mX5_firstDubbing.2.2.2.2.2 43 = some (.iconst 1, 1, 0, 0, 0, 0) := by decide +kernel
theorem aX5_firstDubbing_44 : i_at mX5_firstDubbing.2.2.2.2.2 44 = some (.iand, 1, 0, 0, 0, 0) := by decide +kernel
theorem aX5_firstDubbing_45 : i_at mX5_firstDubbing.2.2.2.2.2 45 = some (.ifCond .eq 27, 3, 72, 0, 0, 0) := by decide +kernel
theorem aX5_firstDubbing_48 : i_at mX5_firstDubbing.2.2.2.2.2 48 = some (.iload_n 2, 1, 0, 0, 0, 0) := by decide +kernel
theorem aX5_firstDubbing_49 : i_at mX5_firstDubbing.2.2.2.2.2 49 = some (.ifCond .eq 15, 3, 64, 0, 0, 0) := by decide +kernel
theorem aX5_firstDubbing_52 : i_at mX5_firstDubbing.2.2.2.2.2 52 = some (.aload_n 0, 1, 0, 0, 0, 0) := by decide +kernel
theorem aX5_firstDubbing_53 : i_at mX5_firstDubbing.2.2.2.2.2 53 = some (.getfield 12, 3, 4, 2, 402, 0) := by decide +kernel
theorem aX5_firstDubbing_56 : i_at mX5_firstDubbing.2.2.2.2.2 56 = some (.getfield 75, 3, 3, 0, 294, 0) := by decide +kernel
theorem aX5_firstDubbing_59 : i_at mX5_firstDubbing.2.2.2.2.2 59 = some (.iconst 1, 1, 0, 0, 0, 0) := by decide +kernel
theorem aX5_firstDubbing_60 : i_at mX5_firstDubbing.2.2.2.2.2 60 = some (.isub, 1, 0, 0, 0, 0) := by decide +kernel
theorem aX5_firstDubbing_61 : i_at mX5_firstDubbing.2.2.2.2.2 61 = some (.goto 10, 3, 71, 0, 0, 0) := by decide +kernel
theorem aX5_firstDubbing_64 : i_at mX5_firstDubbing.2.2.2.2.2 64 = some (.aload_n 0, 1, 0, 0, 0, 0) := by decide +kernel
theorem aX5_firstDubbing_65 : i_at mX5_firstDubbing.2.2.2.2.2 65 = some (.getfield 12, 3, 4, 2, 402, 0) := by decide +kernel
theorem aX5_firstDubbing_68 : i_at mX5_firstDubbing.2.2.2.2.2 68 = some (.getfield 78, 3, 3, 1, 299, 0) := by decide +kernel
theorem aX5_firstDubbing_71 : i_at mX5_firstDubbing.2.2.2.2.2 71 = some (.ireturn, 1, 0, 0, 0, 0) := by decide +kernel
theorem aX5_firstDubbing_72 : i_at mX5_firstDubbing.2.2.2.2.2 72 = some (.iinc 3 1, 3, 0, 0, 0, 0) := by decide +kernel
theorem aX5_firstDubbing_75 : i_at mX5_firstDubbing.2.2.2.2.2 75 = some (.goto (-69), 3, 6, 0, 0, 0) := by decide +kernel
theorem aX5_firstDubbing_78 : i_at mX5_firstDubbing.2.2.2.2.2 78 = some (.bipush (-2), 2, 0, 0, 0, 0) := by decide +kernel
theorem aX5_firstDubbing_80 : i_at mX5_firstDubbing.2.2.2.2.2 80 = some (.ireturn, 1, 0, 0, 0, 0) := by decide +kernel
noncomputable def fX5_firstDubbing_L6 (sh : List kd) (p1 : Int32) (p2 : Int32) (k48 : Int32 → Int32 → St → Option (Int32 × St)) : Nat → Int32 → Value → St → Option (Int32 × St)
  | 0, _, _, _ => none
  | n60 + 1, x4, x5, s6 => if 100 ≤ x4 then some ((-2), s6) else i_bd (fX0_pass sh s6 135 20 (s6.1 19 8)) (fun r62 s63 => if ((r62 >>> (p1 &&& 31)) &&& 1) = 0 then (fX5_firstDubbing_L6 sh p1 p2 k48 n60 (x4 + 1) (.int r62) s63) else k48 x4 r62 s63)
noncomputable def fX5_firstDubbing_X48 (sh : List kd) (p1 : Int32) (p2 : Int32) (x57 : Int32) (x58 : Int32) (s59 : St) : Option (Int32 × St) := some (((if p2 = 0 then (s59.1 135 1) else ((s59.1 135 0) - 1)) : Int32), s59)
noncomputable def fX5_firstDubbing (sh : List kd) (σ : St) (p1 : Int32) (p2 : Int32) : Option (Int32 × St) := i_bd (fX5_begin sh σ) (fun r1 s2 => fX5_firstDubbing_L6 sh p1 p2 (fun (x57 : Int32) (x58 : Int32) (s59 : St) => fX5_firstDubbing_X48 sh p1 p2 x57 x58 s59) i_F 0 (.retAddr 0) s2)
set_option maxRecDepth 20000 in
set_option maxHeartbeats 2000000 in
theorem tX5_firstDubbing_L6 {sh : List kd} {τ : St} {r : Int32} (hsh : cSh sh) {p1 : Int32} {p2 : Int32} {k48 : Int32 → Int32 → St → Option (Int32 × St)} (hk48 : ∀ (x57 : Int32) (x58 : Int32) (s59 : St), k48 x57 x58 s59 = some (r, τ) → g_R sh 5 mX5_firstDubbing (some (.int r)) τ 48 [.ref 134, .int p1, .int p2, .int x57, .int x58] [] (s59)) : ∀ (n0 : Nat) (x4 : Int32) (x5 : Value) (s6 : St), fX5_firstDubbing_L6 sh p1 p2 k48 n0 x4 x5 s6 = some (r, τ) → g_R sh 5 mX5_firstDubbing (some (.int r)) τ 6 [.ref 134, .int p1, .int p2, .int x4, x5] [] (s6) := by
  intro n0
  induction n0 with
  | zero => intro _ _ _ hE; cases hE
  | succ n60 ih =>
    intro x4 x5 s6 hE
    unfold fX5_firstDubbing_L6 at hE
    refine g_ldin aX5_firstDubbing_6 rfl ?_
    refine g_bipush (x := 100) aX5_firstDubbing_7 rfl ?_
    by_cases hc61 : 100 ≤ x4
    · rw [if_pos hc61] at hE
      refine g_ic_ge_t aX5_firstDubbing_9 hc61 ?_
      refine g_bipush (x := (-2)) aX5_firstDubbing_78 rfl ?_
      cases hE
      exact g_iret aX5_firstDubbing_80 rfl rfl
    · rw [if_neg hc61] at hE
      refine g_ic_ge_f aX5_firstDubbing_9 hc61 ?_
      refine g_ldan aX5_firstDubbing_12 rfl ?_
      refine g_getR aX5_firstDubbing_13 (sC_134 hsh) rfl ?_
      refine g_ldan aX5_firstDubbing_16 rfl ?_
      refine g_getR aX5_firstDubbing_17 (sC_134 hsh) rfl ?_
      refine g_ldan aX5_firstDubbing_20 rfl ?_
      refine g_getR aX5_firstDubbing_21 (sC_134 hsh) rfl ?_
      refine g_getR aX5_firstDubbing_24 ((wShB_19 hsh).1) rfl ?_
      refine g_ldan aX5_firstDubbing_27 rfl ?_
      refine g_getR aX5_firstDubbing_28 (sC_134 hsh) rfl ?_
      refine g_getI aX5_firstDubbing_31 ((wShB_19 hsh).1) rfl ?_
      obtain ⟨r62, s63, h64, hE⟩ := i_bd_some hE
      refine g_calV (As := [.ref 135, .ref 20, .int (s6.1 19 8)]) (rest := []) aX5_firstDubbing_34 (i_X_mono (by omega) (tX0_pass hsh (lShB_135 hsh) (rShB_20 hsh) h64)) (sC_16 hsh) (by decide +kernel) rfl rfl (Nat.le_of_ble_eq_true rfl) rfl ?_
      refine g_sti (loc2 := [.ref 134, .int p1, .int p2, .int x4, .int r62]) aX5_firstDubbing_37 (Nat.le_of_ble_eq_true rfl) rfl ?_
      refine g_ldi aX5_firstDubbing_39 rfl ?_
      refine g_ldin aX5_firstDubbing_41 rfl ?_
      refine g_ishr aX5_firstDubbing_42 ?_
      refine g_iconst (x := 1) aX5_firstDubbing_43 rfl ?_
      refine g_iand aX5_firstDubbing_44 ?_
      by_cases hc65 : ((r62 >>> (p1 &&& 31)) &&& 1) = 0
      · rw [if_pos hc65] at hE
        refine g_if_eq_t aX5_firstDubbing_45 hc65 ?_
        refine g_iinc (y := 1) (loc2 := [.ref 134, .int p1, .int p2, .int (x4 + 1), .int r62]) aX5_firstDubbing_72 rfl rfl rfl ?_
        refine g_goto aX5_firstDubbing_75 ?_
        exact ih _ _ _ hE
      · rw [if_neg hc65] at hE
        refine g_if_eq_f aX5_firstDubbing_45 hc65 ?_
        exact hk48 _ _ _ hE
set_option maxRecDepth 20000 in
set_option maxHeartbeats 2000000 in
theorem tX5_firstDubbing_X48 {sh : List kd} {τ : St} {r : Int32} (hsh : cSh sh) {p1 : Int32} {p2 : Int32} {x57 : Int32} {x58 : Int32} {s59 : St} (hE : fX5_firstDubbing_X48 sh p1 p2 x57 x58 s59 = some (r, τ)) : g_R sh 5 mX5_firstDubbing (some (.int r)) τ 48 [.ref 134, .int p1, .int p2, .int x57, .int x58] [] (s59) := by
  unfold fX5_firstDubbing_X48 at hE
  refine g_ldin aX5_firstDubbing_48 rfl ?_
  have hJ : g_R sh 5 mX5_firstDubbing (some (.int r)) τ 71 [.ref 134, .int p1, .int p2, .int x57, .int x58] [.int ((if p2 = 0 then (s59.1 135 1) else ((s59.1 135 0) - 1)) : Int32)] (s59) := by
    cases hE
    exact g_iret aX5_firstDubbing_71 rfl rfl
  clear hE
  by_cases hc65 : p2 = 0
  · (try rw [if_pos hc65] at hJ)
    refine g_if_eq_t aX5_firstDubbing_49 hc65 ?_
    refine g_ldan aX5_firstDubbing_64 rfl ?_
    refine g_getR aX5_firstDubbing_65 (sC_134 hsh) rfl ?_
    refine g_getI aX5_firstDubbing_68 ((lShB_135 hsh).1) rfl ?_
    exact hJ
  · (try rw [if_neg hc65] at hJ)
    refine g_if_eq_f aX5_firstDubbing_49 hc65 ?_
    refine g_ldan aX5_firstDubbing_52 rfl ?_
    refine g_getR aX5_firstDubbing_53 (sC_134 hsh) rfl ?_
    refine g_getI aX5_firstDubbing_56 ((lShB_135 hsh).1) rfl ?_
    refine g_iconst (x := 1) aX5_firstDubbing_59 rfl ?_
    refine g_isub aX5_firstDubbing_60 ?_
    refine g_goto aX5_firstDubbing_61 ?_
    exact hJ
set_option maxRecDepth 20000 in
set_option maxHeartbeats 2000000 in
theorem tX5_firstDubbing {sh : List kd} {σ τ : St} {r : Int32} (hsh : cSh sh) {p1 : Int32} {p2 : Int32} (hE : fX5_firstDubbing sh σ p1 p2 = some (r, τ)) : i_X 6 36 [.ref 134, .int p1, .int p2] (s_h sh σ) 0 0 (some (.int r)) (s_h sh τ) := by
  refine g_X (M := mX5_firstDubbing) (loc := [.ref 134, .int p1, .int p2, .retAddr 0, .retAddr 0]) rfl (Nat.le_of_ble_eq_true rfl) rfl ?_
  unfold fX5_firstDubbing at hE
  refine g_ldan aX5_firstDubbing_0 rfl ?_
  obtain ⟨r1, s2, h3, hE⟩ := i_bd_some hE
  refine g_calV (As := []) (rest := []) aX5_firstDubbing_1 (i_X_mono (by omega) (tX5_begin hsh h3)) (sC_134 hsh) (by decide +kernel) rfl rfl (Nat.le_of_ble_eq_true rfl) rfl ?_
  refine g_iconst (x := 0) aX5_firstDubbing_4 rfl ?_
  refine g_stin (loc2 := [.ref 134, .int p1, .int p2, .int 0, .retAddr 0]) aX5_firstDubbing_5 (Nat.le_of_ble_eq_true rfl) rfl ?_
  exact tX5_firstDubbing_L6 hsh (fun x57 x58 s59 hE => tX5_firstDubbing_X48 hsh hE) i_F _ _ _ hE
theorem aX5_leastDeed_0 : i_at mX5_leastDeed.2.2.2.2.2 0 = some (.bipush (-2), 2, 0, 0, 0, 0) := by decide +kernel
theorem aX5_leastDeed_2 : i_at mX5_leastDeed.2.2.2.2.2 2 = some (.istore 4, 2, 0, 0, 0, 0) := by decide +kernel
theorem aX5_leastDeed_4 : i_at mX5_leastDeed.2.2.2.2.2 4 = some (.iconst 0, 1, 0, 0, 0, 0) := by decide +kernel
theorem aX5_leastDeed_5 : i_at mX5_leastDeed.2.2.2.2.2 5 = some (.istore 5, 2, 0, 0, 0, 0) := by decide +kernel
theorem aX5_leastDeed_7 : i_at mX5_leastDeed.2.2.2.2.2 7 = some (.iload 5, 2, 0, 0, 0, 0) := by decide +kernel
theorem aX5_leastDeed_9 : i_at mX5_leastDeed.2.2.2.2.2 9 = some (.sipush 200, 3, 0, 0, 0, 0) := by decide +kernel
theorem aX5_leastDeed_12 : i_at mX5_leastDeed.2.2.2.2.2 12 = some (.if_icmp .gt 172, 3, 184, 0, 0, 0) := by decide +kernel
theorem aX5_leastDeed_15 : i_at mX5_leastDeed.2.2.2.2.2 15 = some (.aload_n 0, 1, 0, 0, 0, 0) := by decide +kernel
theorem aX5_leastDeed_16 : i_at mX5_leastDeed.2.2.2.2.2 16 = some (.invokevirtual 59, 3, 33, 0, 887, 0) := by decide +kernel
theorem aX5_leastDeed_19 : i_at mX5_leastDeed.2.2.2.2.2 19 = some (.aload_n 0, 1, 0, 0, 0, 0) := by decide +kernel
theorem aX5_leastDeed_20 : i_at mX5_leastDeed.2.2.2.2.2 20 = some (.getfield 12, 3, 4, 2, 402, 0) := by decide +kernel
theorem aX5_leastDeed_23 : i_at mX5_leastDeed.2.2.2.2.2 23 = some (.iload_n 1, 1, 0, 0, 0, 0) := by decide +kernel
theorem aX5_leastDeed_24 : i_at mX5_leastDeed.2.2.2.2.2 24 = some (.iload 5, 2, 0, 0, 0, 0) := by decide +kernel
theorem aX5_leastDeed_26 : i_at mX5_leastDeed.2.2.2.2.2 26 = some (.invokevirtual 81, 3, 28, 2, 914, 0) := by decide +kernel
theorem aX5_leastDeed_29 : i_at mX5_leastDeed.2.2.2.2.2 29 = some (.aload_n 0, 1, 0, 0, 0, 0) := by decide +kernel
theorem aX5_leastDeed_30 : i_at mX5_leastDeed.2.2.2.2.2 30 = some (.getfield 32, 3, 4, 1, 401, 0) := by decide +kernel
theorem aX5_leastDeed_33 : i_at mX5_leastDeed.2.2.2.2.2 33 = some (.aload_n 0, 1, 0, 0, 0, 0) := by decide +kernel
theorem aX5_leastDeed_34 : i_at mX5_leastDeed.2.2.2.2.2 34 = some (.getfield 12, 3, 4, 2, 402, 0) := by decide +kernel
theorem aX5_leastDeed_37 : i_at mX5_leastDeed.2.2.2.2.2 37 = some (.aload_n 0, 1, 0, 0, 0, 0) := by decide +kernel
theorem aX5_leastDeed_38 : i_at mX5_leastDeed.2.2.2.2.2 38 = some (.getfield 28, 3, 4, 0, 400, 0) := by decide +kernel
theorem aX5_leastDeed_41 : i_at mX5_leastDeed.2.2.2.2.2 41 = some (.getfield 45, 3, 9, 0, 346, 0) := by decide +kernel
theorem aX5_leastDeed_44 : i_at mX5_leastDeed.2.2.2.2.2 44 = some (.aload_n 0, 1, 0, 0, 0, 0) := by decide +kernel
theorem aX5_leastDeed_45 : i_at mX5_leastDeed.2.2.2.2.2 45 = some (.getfield 28, 3, 4, 0, 400, 0) := by decide +kernel
theorem aX5_leastDeed_48 : i_at mX5_leastDeed.2.2.2.2.2 48 = some (.getfield 49, 3, 9, 8, 366, 0) := by decide +kernel
theorem aX5_leastDeed_51 : i_at mX5_leastDeed.2.2.2.2.2 51 = some (.invokevirtual 53, 3, 2, 3, 896, 0) := by decide +kernel
theorem aX5_leastDeed_54 : i_at mX5_leastDeed.2.2.2.2.2 54 = some (.istore 6, 2, 0, 0, 0, 0) := by decide +kernel
theorem aX5_leastDeed_56 : i_at mX5_leastDeed.2.2.2.2.2 56 = some (.iload 6, 2, 0, 0, 0, 0) := by decide +kernel
theorem aX5_leastDeed_58 : i_at mX5_leastDeed.2.2.2.2.2 58 = some (.iload_n 1, 1, 0, 0, 0, 0) := by decide +kernel
theorem aX5_leastDeed_59 : i_at mX5_leastDeed.2.2.2.2.2 59 = some (.ishr, 1, 0, 0, 0, 0) := by decide +kernel
theorem aX5_leastDeed_60 : i_at mX5_leastDeed.2.2.2.2.2 60 = some (.iconst 1, 1, 0, 0, 0, 0) := by decide +kernel
theorem aX5_leastDeed_61 : i_at mX5_leastDeed.2.2.2.2.2 61 = some (.iand, 1, 0, 0, 0, 0) := by decide +kernel
theorem aX5_leastDeed_62 : i_at mX5_leastDeed.2.2.2.2.2 62 = some (.ifCond .eq 7, 3, 69, 0, 0, 0) := by decide +kernel
theorem aX5_leastDeed_65 : i_at mX5_leastDeed.2.2.2.2.2 65 = some (.iconst 1, 1, 0, 0, 0, 0) := by decide +kernel
theorem aX5_leastDeed_66 : i_at mX5_leastDeed.2.2.2.2.2 66 = some (.goto 4, 3, 70, 0, 0, 0) := by decide +kernel
theorem aX5_leastDeed_69 : i_at mX5_leastDeed.2.2.2.2.2 69 = some (.iconst 0, 1, 0, 0, 0, 0) := by decide +kernel
theorem aX5_leastDeed_70 : i_at mX5_leastDeed.2.2.2.2.2 70 = some (.istore 7, 2, 0, 0, 0, 0) := by decide +kernel
theorem aX5_leastDeed_72 : i_at mX5_leastDeed.2.2.2.2.2 72 = some (.aload_n 0, 1, 0, 0, 0, 0) := by decide +kernel
theorem aX5_leastDeed_73 : i_at mX5_leastDeed.2.2.2.2.2 73 = some (.getfield 12, 3, 4, 2, 402, 0) := by decide +kernel
theorem aX5_leastDeed_76 : i_at mX5_leastDeed.2.2.2.2.2 76 = some (.getfield 78, 3, 3, 1, 299, 0) := by decide +kernel
theorem aX5_leastDeed_79 : i_at mX5_leastDeed.2.2.2.2.2 79 = some (.istore 8, 2, 0, 0, 0, 0) := by decide +kernel
theorem aX5_leastDeed_81 : i_at mX5_leastDeed.2.2.2.2.2 81 = some (.iload 7, 2, 0, 0, 0, 0) := by decide +kernel
theorem aX5_leastDeed_83 : i_at mX5_leastDeed.2.2.2.2.2 83 = some (.ifCond .eq 13, 3, 96, 0, 0, 0) := by decide +kernel
theorem aX5_leastDeed_86 : i_at mX5_leastDeed.2.2.2.2.2 86 = some (.iload 8, 2, 0, 0, 0, 0) := by decide +kernel
theorem aX5_leastDeed_88 : i_at mX5_leastDeed.2.2.2.2.2 88 = some (.iload 4, 2, 0, 0, 0, 0) := by decide +kernel
theorem aX5_leastDeed_90 : i_at mX5_leastDeed.2.2.2.2.2 90 = some (.if_icmp .ne 6, 3, 96, 0, 0, 0) := by decide +kernel
theorem aX5_leastDeed_93 : i_at mX5_leastDeed.2.2.2.2.2 93 = some (.goto 85, 3, 178, 0, 0, 0) := by decide +kernel
theorem aX5_leastDeed_96 : i_at mX5_leastDeed.2.2.2.2.2 96 = some (.iconst 1, 1, 0, 0, 0, 0) := by decide +kernel
theorem aX5_leastDeed_97 : i_at mX5_leastDeed.2.2.2.2.2 97 = some (.istore 9, 2, 0, 0, 0, 0) := by decide +kernel
theorem aX5_leastDeed_99 : i_at mX5_leastDeed.2.2.2.2.2 99 = some (.iload 9, 2, 0, 0, 0, 0) := by decide +kernel
theorem aX5_leastDeed_101 : i_at mX5_leastDeed.2.2.2.2.2 101 = some (.iload_n 3, 1, 0, 0, 0, 0) := by decide +kernel
theorem aX5_leastDeed_102 : i_at mX5_leastDeed.2.2.2.2.2 102 = some (.if_icmp .ge 47, 3, 149, 0, 0, 0) := by decide +kernel
theorem aX5_leastDeed_105 : i_at mX5_leastDeed.2.2.2.2.2 105 = some (.aload_n 0, 1, 0, 0, 0, 0) := by decide +kernel
theorem aX5_leastDeed_106 : i_at mX5_leastDeed.2.2.2.2.2 106 = some (.getfield 12, 3, 4, 2, 402, 0) := by decide +kernel
theorem aX5_leastDeed_109 : i_at mX5_leastDeed.2.2.2.2.2 109 = some (.iload_n 1, 1, 0, 0, 0, 0) := by decide +kernel
theorem aX5_leastDeed_110 : i_at mX5_leastDeed.2.2.2.2.2 110 = some (.iload_n 2, 1, 0, 0, 0, 0) := by decide +kernel
theorem aX5_leastDeed_111 : i_at mX5_leastDeed.2.2.2.2.2 111 = some (.invokevirtual 85, 3, 29, 2, 915, 0) := by decide +kernel
theorem aX5_leastDeed_114 : i_at mX5_leastDeed.2.2.2.2.2 114 = some (.ifCond .ne 35, 3, 149, 0, 0, 0) := by decide +kernel
theorem aX5_leastDeed_117 : i_at mX5_leastDeed.2.2.2.2.2 117 = some (.aload_n 0, 1, 0, 0, 0, 0) := by decide +kernel
theorem aX5_leastDeed_118 : i_at mX5_leastDeed.2.2.2.2.2 118 = some (.getfield 32, 3, 4, 1, 401, 0) := by decide +kernel
theorem aX5_leastDeed_121 : i_at mX5_leastDeed.2.2.2.2.2 121 = some (.aload_n 0, 1, 0, 0, 0, 0) := by decide +kernel
theorem aX5_leastDeed_122 : i_at mX5_leastDeed.2.2.2.2.2 122 = some (.getfield 12, 3, 4, 2, 402, 0) := by decide +kernel
theorem aX5_leastDeed_125 : i_at mX5_leastDeed.2.2.2.2.2 125 = some (.aload_n 0, 1, 0, 0, 0, 0) := by decide +kernel
theorem aX5_leastDeed_126 : i_at mX5_leastDeed.2.2.2.2.2 126 = some (.getfield 28, 3, 4, 0, 400, 0) := by decide +kernel
theorem aX5_leastDeed_129 : i_at mX5_leastDeed.2.2.2.2.2 129 = some (.getfield 45, 3, 9, 0, 346, 0) := by decide +kernel
theorem aX5_leastDeed_132 : i_at mX5_leastDeed.2.2.2.2.2 132 = some (.aload_n 0, 1, 0, 0, 0, 0) := by decide +kernel
theorem aX5_leastDeed_133 : i_at mX5_leastDeed.2.2.2.2.2 133 = some (.getfield 28, 3, 4, 0, 400, 0) := by decide +kernel
theorem aX5_leastDeed_136 : i_at mX5_leastDeed.2.2.2.2.2 136 = some (.getfield 49, 3, 9, 8, 366, 0) := by decide +kernel
theorem aX5_leastDeed_139 : i_at mX5_leastDeed.2.2.2.2.2 139 = some (.invokevirtual 53, 3, 2, 3, 896, 0) := by decide +kernel
theorem aX5_leastDeed_142 : i_at mX5_leastDeed.2.2.2.2.2 142 = some (.pop, 1, 0, 0, 0, 0) := by decide +kernel
theorem aX5_leastDeed_143 : i_at mX5_leastDeed.2.2.2.2.2 143 = some (.iinc 9 1, 3, 0, 0, 0, 0) := by decide +kernel
theorem aX5_leastDeed_146 : i_at mX5_leastDeed.2.2.2.2.2 146 = some (.goto (-47), 3, 99, 0, 0, 0) := by decide +kernel
theorem aX5_leastDeed_149 : i_at mX5_leastDeed.2.2.2.2.2 149 = some (.aload_n 0, 1, 0, 0, 0, 0) := by decide +kernel
theorem aX5_leastDeed_150 : i_at mX5_leastDeed.2.2.2.2.2 150 = some (.getfield 12, 3, 4, 2, 402, 0) := by decide +kernel
theorem aX5_leastDeed_153 : i_at mX5_leastDeed.2.2.2.2.2 153 = some (.iload_n 1, 1, 0, 0, 0, 0) := by decide +kernel
theorem aX5_leastDeed_154 : i_at mX5_leastDeed.2.2.2.2.2 154 = some (.iload_n 2, 1, 0, 0, 0, 0) := by decide +kernel
theorem aX5_leastDeed_155 : i_at mX5_leastDeed.2.2.2.2.2 155 = some (.invokevirtual 85, 3, 29, 2, 915, 0) := by decide +kernel
theorem aX5_leastDeed_158 : i_at mX5_leastDeed.2.2.2.2.2 158 = some (.ifCond .eq 6, 3, 164, 0, 0, 0) := by decide +kernel
theorem aX5_leastDeed_161 : i_at mX5_leastDeed.2.2.2.2.2 161 = some (.iload 5, 2, 0, 0, 0, 0) := by decide +kernel
theorem aX5_leastDeed_163 : i_at mX5_leastDeed.2.2.2.2.2 163 = some (.ireturn, 1, 0, 0, 0, 0) := by decide +kernel
theorem aX5_leastDeed_164 : i_at mX5_leastDeed.2.2.2.2.2 164 = some (.iload 7, 2, 0, 0, 0, 0) := by decide +kernel
theorem aX5_leastDeed_166 : i_at mX5_leastDeed.2.2.2.2.2 166 = some (.ifCond .eq 8, 3, 174, 0, 0, 0) := by decide +kernel
theorem aX5_leastDeed_169 : i_at mX5_leastDeed.2.2.2.2.2 169 = some (.iload 8, 2, 0, 0, 0, 0) := by decide +kernel
theorem aX5_leastDeed_171 : i_at mX5_leastDeed.2.2.2.2.2 171 = some (.goto 5, 3, 176, 0, 0, 0) := by decide +kernel
theorem aX5_leastDeed_174 : i_at mX5_leastDeed.2.2.2.2.2 174 = some (.iload 4, 2, 0, 0, 0, 0) := by decide +kernel
theorem aX5_leastDeed_176 : i_at mX5_leastDeed.2.2.2.2.2 176 = some (.istore 4, 2, 0, 0, 0, 0) := by decide +kernel
theorem aX5_leastDeed_178 : i_at mX5_leastDeed.2.2.2.2.2 178 = some (.iinc 5 1, 3, 0, 0, 0, 0) := by decide +kernel
theorem aX5_leastDeed_181 : i_at mX5_leastDeed.2.2.2.2.2 181 = some (.goto (-174), 3, 7, 0, 0, 0) := by decide +kernel
theorem aX5_leastDeed_184 : i_at mX5_leastDeed.2.2.2.2.2 184 = some (.bipush (-2), 2, 0, 0, 0, 0) := by decide +kernel
theorem aX5_leastDeed_186 : i_at mX5_leastDeed.2.2.2.2.2 186 = some (.ireturn, 1, 0, 0, 0, 0) := by decide +kernel
noncomputable def fX5_leastDeed_L99 (sh : List kd) (p1 : Int32) (p2 : Int32) (p3 : Int32) (x1 : Int32) (x2 : Int32) (r16 : Int32) (s17 : St) (k149 : Int32 → St → Option (Int32 × St)) : Nat → Int32 → St → Option (Int32 × St)
  | 0, _, _ => none
  | n74 + 1, x20, s21 => if p3 ≤ x20 then k149 x20 s21 else i_bd (fX4_hasTitle sh s21 135 p1 p2) (fun r76 s77 => if ¬ r76 = 0 then k149 x20 s77 else i_bd (fX0_pass sh s77 135 20 (s77.1 19 8)) (fun r80 s81 => (fX5_leastDeed_L99 sh p1 p2 p3 x1 x2 r16 s17 k149 n74 (x20 + 1) s81)))
noncomputable def fX5_leastDeed_X149 (sh : List kd) (p1 : Int32) (p2 : Int32) (p3 : Int32) (x1 : Int32) (x2 : Int32) (r16 : Int32) (s17 : St) (k7 : Int32 → Int32 → Value → Value → Value → Value → St → Option (Int32 × St)) (x72 : Int32) (s73 : St) : Option (Int32 × St) := i_bd (fX4_hasTitle sh s73 135 p1 p2) (fun r83 s84 => if r83 = 0 then k7 ((if ((if ((r16 >>> (p1 &&& 31)) &&& 1) = 0 then 0 else 1) : Int32) = 0 then x1 else (s17.1 135 1)) : Int32) (x2 + 1) (.int r16) (.int ((if ((r16 >>> (p1 &&& 31)) &&& 1) = 0 then 0 else 1) : Int32)) (.int (s17.1 135 1)) (.int x72) s84 else some (x2, s84))
noncomputable def fX5_leastDeed_L99_90 (sh : List kd) (p1 : Int32) (p2 : Int32) (p3 : Int32) (x1 : Int32) (x2 : Int32) (r16 : Int32) (s17 : St) (k149 : Int32 → St → Option (Int32 × St)) : Nat → Int32 → St → Option (Int32 × St)
  | 0, _, _ => none
  | n143 + 1, x89, s90 => if p3 ≤ x89 then k149 x89 s90 else i_bd (fX4_hasTitle sh s90 135 p1 p2) (fun r145 s146 => if ¬ r145 = 0 then k149 x89 s146 else i_bd (fX0_pass sh s146 135 20 (s146.1 19 8)) (fun r149 s150 => (fX5_leastDeed_L99_90 sh p1 p2 p3 x1 x2 r16 s17 k149 n143 (x89 + 1) s150)))
noncomputable def fX5_leastDeed_X149_151 (sh : List kd) (p1 : Int32) (p2 : Int32) (p3 : Int32) (x1 : Int32) (x2 : Int32) (r16 : Int32) (s17 : St) (k7 : Int32 → Int32 → Value → Value → Value → Value → St → Option (Int32 × St)) (x141 : Int32) (s142 : St) : Option (Int32 × St) := i_bd (fX4_hasTitle sh s142 135 p1 p2) (fun r152 s153 => if r152 = 0 then k7 ((if ((if ((r16 >>> (p1 &&& 31)) &&& 1) = 0 then 0 else 1) : Int32) = 0 then x1 else (s17.1 135 1)) : Int32) (x2 + 1) (.int r16) (.int ((if ((r16 >>> (p1 &&& 31)) &&& 1) = 0 then 0 else 1) : Int32)) (.int (s17.1 135 1)) (.int x141) s153 else some (x2, s153))
noncomputable def fX5_leastDeed_L7 (sh : List kd) (p1 : Int32) (p2 : Int32) (p3 : Int32) : Nat → Int32 → Int32 → Value → Value → Value → Value → St → Option (Int32 × St)
  | 0, _, _, _, _, _, _, _ => none
  | n8 + 1, x1, x2, x3, x4, x5, x6, s7 => if 200 < x2 then some ((-2), s7) else i_bd (fX5_begin sh s7) (fun r10 s11 => i_bd (fX4_thank sh s11 135 p1 x2) (fun r13 s14 => i_bd (fX0_pass sh s14 135 20 (s14.1 19 8)) (fun r16 s17 => if ((if ((r16 >>> (p1 &&& 31)) &&& 1) = 0 then 0 else 1) : Int32) = 0 then fX5_leastDeed_L99 sh p1 p2 p3 x1 x2 r16 s17 (fun (x72 : Int32) (s73 : St) => fX5_leastDeed_X149 sh p1 p2 p3 x1 x2 r16 s17 (fX5_leastDeed_L7 sh p1 p2 p3 n8) x72 s73) i_F 1 s17 else if ¬ (s17.1 135 1) = x1 then fX5_leastDeed_L99_90 sh p1 p2 p3 x1 x2 r16 s17 (fun (x141 : Int32) (s142 : St) => fX5_leastDeed_X149_151 sh p1 p2 p3 x1 x2 r16 s17 (fX5_leastDeed_L7 sh p1 p2 p3 n8) x141 s142) i_F 1 s17 else (fX5_leastDeed_L7 sh p1 p2 p3 n8 x1 (x2 + 1) (.int r16) (.int ((if ((r16 >>> (p1 &&& 31)) &&& 1) = 0 then 0 else 1) : Int32)) (.int (s17.1 135 1)) x6 s17))))
noncomputable def fX5_leastDeed (sh : List kd) (σ : St) (p1 : Int32) (p2 : Int32) (p3 : Int32) : Option (Int32 × St) := fX5_leastDeed_L7 sh p1 p2 p3 i_F (-2) 0 (.retAddr 0) (.retAddr 0) (.retAddr 0) (.retAddr 0) σ
set_option maxRecDepth 20000 in
set_option maxHeartbeats 2000000 in
theorem tX5_leastDeed_L99 {sh : List kd} {τ : St} {r : Int32} (hsh : cSh sh) {p1 : Int32} {p2 : Int32} {p3 : Int32} {x1 : Int32} {x2 : Int32} {r16 : Int32} {s17 : St} {k149 : Int32 → St → Option (Int32 × St)} (hk149 : ∀ (x72 : Int32) (s73 : St), k149 x72 s73 = some (r, τ) → g_R sh 5 mX5_leastDeed (some (.int r)) τ 149 [.ref 134, .int p1, .int p2, .int p3, .int x1, .int x2, .int r16, .int ((if ((r16 >>> (p1 &&& 31)) &&& 1) = 0 then 0 else 1) : Int32), .int (s17.1 135 1), .int x72] [] (s73)) : ∀ (n0 : Nat) (x20 : Int32) (s21 : St), fX5_leastDeed_L99 sh p1 p2 p3 x1 x2 r16 s17 k149 n0 x20 s21 = some (r, τ) → g_R sh 5 mX5_leastDeed (some (.int r)) τ 99 [.ref 134, .int p1, .int p2, .int p3, .int x1, .int x2, .int r16, .int ((if ((r16 >>> (p1 &&& 31)) &&& 1) = 0 then 0 else 1) : Int32), .int (s17.1 135 1), .int x20] [] (s21) := by
  intro n0
  induction n0 with
  | zero => intro _ _ hE; cases hE
  | succ n74 ih =>
    intro x20 s21 hE
    unfold fX5_leastDeed_L99 at hE
    refine g_ldi aX5_leastDeed_99 rfl ?_
    refine g_ldin aX5_leastDeed_101 rfl ?_
    by_cases hc75 : p3 ≤ x20
    · rw [if_pos hc75] at hE
      refine g_ic_ge_t aX5_leastDeed_102 hc75 ?_
      exact hk149 _ _ hE
    · rw [if_neg hc75] at hE
      refine g_ic_ge_f aX5_leastDeed_102 hc75 ?_
      refine g_ldan aX5_leastDeed_105 rfl ?_
      refine g_getR aX5_leastDeed_106 (sC_134 hsh) rfl ?_
      refine g_ldin aX5_leastDeed_109 rfl ?_
      refine g_ldin aX5_leastDeed_110 rfl ?_
      obtain ⟨r76, s77, h78, hE⟩ := i_bd_some hE
      refine g_calV (As := [.int p1, .int p2]) (rest := []) aX5_leastDeed_111 (i_X_mono (by omega) (tX4_hasTitle hsh (lShB_135 hsh) h78)) ((lShB_135 hsh).1) (by decide +kernel) rfl rfl (Nat.le_of_ble_eq_true rfl) rfl ?_
      by_cases hc79 : ¬ r76 = 0
      · rw [if_pos hc79] at hE
        refine g_if_ne_t aX5_leastDeed_114 hc79 ?_
        exact hk149 _ _ hE
      · rw [if_neg hc79] at hE
        refine g_if_ne_f aX5_leastDeed_114 hc79 ?_
        refine g_ldan aX5_leastDeed_117 rfl ?_
        refine g_getR aX5_leastDeed_118 (sC_134 hsh) rfl ?_
        refine g_ldan aX5_leastDeed_121 rfl ?_
        refine g_getR aX5_leastDeed_122 (sC_134 hsh) rfl ?_
        refine g_ldan aX5_leastDeed_125 rfl ?_
        refine g_getR aX5_leastDeed_126 (sC_134 hsh) rfl ?_
        refine g_getR aX5_leastDeed_129 ((wShB_19 hsh).1) rfl ?_
        refine g_ldan aX5_leastDeed_132 rfl ?_
        refine g_getR aX5_leastDeed_133 (sC_134 hsh) rfl ?_
        refine g_getI aX5_leastDeed_136 ((wShB_19 hsh).1) rfl ?_
        obtain ⟨r80, s81, h82, hE⟩ := i_bd_some hE
        refine g_calV (As := [.ref 135, .ref 20, .int (s77.1 19 8)]) (rest := []) aX5_leastDeed_139 (i_X_mono (by omega) (tX0_pass hsh (lShB_135 hsh) (rShB_20 hsh) h82)) (sC_16 hsh) (by decide +kernel) rfl rfl (Nat.le_of_ble_eq_true rfl) rfl ?_
        refine g_popi aX5_leastDeed_142 ?_
        refine g_iinc (y := 1) (loc2 := [.ref 134, .int p1, .int p2, .int p3, .int x1, .int x2, .int r16, .int ((if ((r16 >>> (p1 &&& 31)) &&& 1) = 0 then 0 else 1) : Int32), .int (s17.1 135 1), .int (x20 + 1)]) aX5_leastDeed_143 rfl rfl rfl ?_
        refine g_goto aX5_leastDeed_146 ?_
        exact ih _ _ hE
set_option maxRecDepth 20000 in
set_option maxHeartbeats 2000000 in
theorem tX5_leastDeed_X149 {sh : List kd} {τ : St} {r : Int32} (hsh : cSh sh) {p1 : Int32} {p2 : Int32} {p3 : Int32} {x1 : Int32} {x2 : Int32} {r16 : Int32} {s17 : St} {x72 : Int32} {s73 : St} {k7 : Int32 → Int32 → Value → Value → Value → Value → St → Option (Int32 × St)} (hk7 : ∀ (x1 : Int32) (x2 : Int32) (x3 : Value) (x4 : Value) (x5 : Value) (x6 : Value) (s7 : St), k7 x1 x2 x3 x4 x5 x6 s7 = some (r, τ) → g_R sh 5 mX5_leastDeed (some (.int r)) τ 7 [.ref 134, .int p1, .int p2, .int p3, .int x1, .int x2, x3, x4, x5, x6] [] (s7)) (hE : fX5_leastDeed_X149 sh p1 p2 p3 x1 x2 r16 s17 k7 x72 s73 = some (r, τ)) : g_R sh 5 mX5_leastDeed (some (.int r)) τ 149 [.ref 134, .int p1, .int p2, .int p3, .int x1, .int x2, .int r16, .int ((if ((r16 >>> (p1 &&& 31)) &&& 1) = 0 then 0 else 1) : Int32), .int (s17.1 135 1), .int x72] [] (s73) := by
  unfold fX5_leastDeed_X149 at hE
  refine g_ldan aX5_leastDeed_149 rfl ?_
  refine g_getR aX5_leastDeed_150 (sC_134 hsh) rfl ?_
  refine g_ldin aX5_leastDeed_153 rfl ?_
  refine g_ldin aX5_leastDeed_154 rfl ?_
  obtain ⟨r83, s84, h85, hE⟩ := i_bd_some hE
  refine g_calV (As := [.int p1, .int p2]) (rest := []) aX5_leastDeed_155 (i_X_mono (by omega) (tX4_hasTitle hsh (lShB_135 hsh) h85)) ((lShB_135 hsh).1) (by decide +kernel) rfl rfl (Nat.le_of_ble_eq_true rfl) rfl ?_
  by_cases hc86 : r83 = 0
  · rw [if_pos hc86] at hE
    refine g_if_eq_t aX5_leastDeed_158 hc86 ?_
    refine g_ldi aX5_leastDeed_164 rfl ?_
    have hJ : g_R sh 5 mX5_leastDeed (some (.int r)) τ 176 [.ref 134, .int p1, .int p2, .int p3, .int x1, .int x2, .int r16, .int ((if ((r16 >>> (p1 &&& 31)) &&& 1) = 0 then 0 else 1) : Int32), .int (s17.1 135 1), .int x72] [.int ((if ((if ((r16 >>> (p1 &&& 31)) &&& 1) = 0 then 0 else 1) : Int32) = 0 then x1 else (s17.1 135 1)) : Int32)] (s84) := by
      refine g_sti (loc2 := [.ref 134, .int p1, .int p2, .int p3, .int ((if ((if ((r16 >>> (p1 &&& 31)) &&& 1) = 0 then 0 else 1) : Int32) = 0 then x1 else (s17.1 135 1)) : Int32), .int x2, .int r16, .int ((if ((r16 >>> (p1 &&& 31)) &&& 1) = 0 then 0 else 1) : Int32), .int (s17.1 135 1), .int x72]) aX5_leastDeed_176 (Nat.le_of_ble_eq_true rfl) rfl ?_
      refine g_iinc (y := 1) (loc2 := [.ref 134, .int p1, .int p2, .int p3, .int ((if ((if ((r16 >>> (p1 &&& 31)) &&& 1) = 0 then 0 else 1) : Int32) = 0 then x1 else (s17.1 135 1)) : Int32), .int (x2 + 1), .int r16, .int ((if ((r16 >>> (p1 &&& 31)) &&& 1) = 0 then 0 else 1) : Int32), .int (s17.1 135 1), .int x72]) aX5_leastDeed_178 rfl rfl rfl ?_
      refine g_goto aX5_leastDeed_181 ?_
      exact hk7 _ _ _ _ _ _ _ hE
    clear hE
    by_cases hc86 : ((if ((r16 >>> (p1 &&& 31)) &&& 1) = 0 then 0 else 1) : Int32) = 0
    · (try rw [if_pos hc86] at hJ)
      refine g_if_eq_t aX5_leastDeed_166 hc86 ?_
      refine g_ldi aX5_leastDeed_174 rfl ?_
      exact hJ
    · (try rw [if_neg hc86] at hJ)
      refine g_if_eq_f aX5_leastDeed_166 hc86 ?_
      refine g_ldi aX5_leastDeed_169 rfl ?_
      refine g_goto aX5_leastDeed_171 ?_
      exact hJ
  · rw [if_neg hc86] at hE
    refine g_if_eq_f aX5_leastDeed_158 hc86 ?_
    refine g_ldi aX5_leastDeed_161 rfl ?_
    cases hE
    exact g_iret aX5_leastDeed_163 rfl rfl
set_option maxRecDepth 20000 in
set_option maxHeartbeats 2000000 in
theorem tX5_leastDeed_L99_90 {sh : List kd} {τ : St} {r : Int32} (hsh : cSh sh) {p1 : Int32} {p2 : Int32} {p3 : Int32} {x1 : Int32} {x2 : Int32} {r16 : Int32} {s17 : St} {k149 : Int32 → St → Option (Int32 × St)} (hk149 : ∀ (x141 : Int32) (s142 : St), k149 x141 s142 = some (r, τ) → g_R sh 5 mX5_leastDeed (some (.int r)) τ 149 [.ref 134, .int p1, .int p2, .int p3, .int x1, .int x2, .int r16, .int ((if ((r16 >>> (p1 &&& 31)) &&& 1) = 0 then 0 else 1) : Int32), .int (s17.1 135 1), .int x141] [] (s142)) : ∀ (n0 : Nat) (x89 : Int32) (s90 : St), fX5_leastDeed_L99_90 sh p1 p2 p3 x1 x2 r16 s17 k149 n0 x89 s90 = some (r, τ) → g_R sh 5 mX5_leastDeed (some (.int r)) τ 99 [.ref 134, .int p1, .int p2, .int p3, .int x1, .int x2, .int r16, .int ((if ((r16 >>> (p1 &&& 31)) &&& 1) = 0 then 0 else 1) : Int32), .int (s17.1 135 1), .int x89] [] (s90) := by
  intro n0
  induction n0 with
  | zero => intro _ _ hE; cases hE
  | succ n143 ih =>
    intro x89 s90 hE
    unfold fX5_leastDeed_L99_90 at hE
    refine g_ldi aX5_leastDeed_99 rfl ?_
    refine g_ldin aX5_leastDeed_101 rfl ?_
    by_cases hc144 : p3 ≤ x89
    · rw [if_pos hc144] at hE
      refine g_ic_ge_t aX5_leastDeed_102 hc144 ?_
      exact hk149 _ _ hE
    · rw [if_neg hc144] at hE
      refine g_ic_ge_f aX5_leastDeed_102 hc144 ?_
      refine g_ldan aX5_leastDeed_105 rfl ?_
      refine g_getR aX5_leastDeed_106 (sC_134 hsh) rfl ?_
      refine g_ldin aX5_leastDeed_109 rfl ?_
      refine g_ldin aX5_leastDeed_110 rfl ?_
      obtain ⟨r145, s146, h147, hE⟩ := i_bd_some hE
      refine g_calV (As := [.int p1, .int p2]) (rest := []) aX5_leastDeed_111 (i_X_mono (by omega) (tX4_hasTitle hsh (lShB_135 hsh) h147)) ((lShB_135 hsh).1) (by decide +kernel) rfl rfl (Nat.le_of_ble_eq_true rfl) rfl ?_
      by_cases hc148 : ¬ r145 = 0
      · rw [if_pos hc148] at hE
        refine g_if_ne_t aX5_leastDeed_114 hc148 ?_
        exact hk149 _ _ hE
      · rw [if_neg hc148] at hE
        refine g_if_ne_f aX5_leastDeed_114 hc148 ?_
        refine g_ldan aX5_leastDeed_117 rfl ?_
        refine g_getR aX5_leastDeed_118 (sC_134 hsh) rfl ?_
        refine g_ldan aX5_leastDeed_121 rfl ?_
        refine g_getR aX5_leastDeed_122 (sC_134 hsh) rfl ?_
        refine g_ldan aX5_leastDeed_125 rfl ?_
        refine g_getR aX5_leastDeed_126 (sC_134 hsh) rfl ?_
        refine g_getR aX5_leastDeed_129 ((wShB_19 hsh).1) rfl ?_
        refine g_ldan aX5_leastDeed_132 rfl ?_
        refine g_getR aX5_leastDeed_133 (sC_134 hsh) rfl ?_
        refine g_getI aX5_leastDeed_136 ((wShB_19 hsh).1) rfl ?_
        obtain ⟨r149, s150, h151, hE⟩ := i_bd_some hE
        refine g_calV (As := [.ref 135, .ref 20, .int (s146.1 19 8)]) (rest := []) aX5_leastDeed_139 (i_X_mono (by omega) (tX0_pass hsh (lShB_135 hsh) (rShB_20 hsh) h151)) (sC_16 hsh) (by decide +kernel) rfl rfl (Nat.le_of_ble_eq_true rfl) rfl ?_
        refine g_popi aX5_leastDeed_142 ?_
        refine g_iinc (y := 1) (loc2 := [.ref 134, .int p1, .int p2, .int p3, .int x1, .int x2, .int r16, .int ((if ((r16 >>> (p1 &&& 31)) &&& 1) = 0 then 0 else 1) : Int32), .int (s17.1 135 1), .int (x89 + 1)]) aX5_leastDeed_143 rfl rfl rfl ?_
        refine g_goto aX5_leastDeed_146 ?_
        exact ih _ _ hE
set_option maxRecDepth 20000 in
set_option maxHeartbeats 2000000 in
theorem tX5_leastDeed_X149_151 {sh : List kd} {τ : St} {r : Int32} (hsh : cSh sh) {p1 : Int32} {p2 : Int32} {p3 : Int32} {x1 : Int32} {x2 : Int32} {r16 : Int32} {s17 : St} {x141 : Int32} {s142 : St} {k7 : Int32 → Int32 → Value → Value → Value → Value → St → Option (Int32 × St)} (hk7 : ∀ (x1 : Int32) (x2 : Int32) (x3 : Value) (x4 : Value) (x5 : Value) (x6 : Value) (s7 : St), k7 x1 x2 x3 x4 x5 x6 s7 = some (r, τ) → g_R sh 5 mX5_leastDeed (some (.int r)) τ 7 [.ref 134, .int p1, .int p2, .int p3, .int x1, .int x2, x3, x4, x5, x6] [] (s7)) (hE : fX5_leastDeed_X149_151 sh p1 p2 p3 x1 x2 r16 s17 k7 x141 s142 = some (r, τ)) : g_R sh 5 mX5_leastDeed (some (.int r)) τ 149 [.ref 134, .int p1, .int p2, .int p3, .int x1, .int x2, .int r16, .int ((if ((r16 >>> (p1 &&& 31)) &&& 1) = 0 then 0 else 1) : Int32), .int (s17.1 135 1), .int x141] [] (s142) := by
  unfold fX5_leastDeed_X149_151 at hE
  refine g_ldan aX5_leastDeed_149 rfl ?_
  refine g_getR aX5_leastDeed_150 (sC_134 hsh) rfl ?_
  refine g_ldin aX5_leastDeed_153 rfl ?_
  refine g_ldin aX5_leastDeed_154 rfl ?_
  obtain ⟨r152, s153, h154, hE⟩ := i_bd_some hE
  refine g_calV (As := [.int p1, .int p2]) (rest := []) aX5_leastDeed_155 (i_X_mono (by omega) (tX4_hasTitle hsh (lShB_135 hsh) h154)) ((lShB_135 hsh).1) (by decide +kernel) rfl rfl (Nat.le_of_ble_eq_true rfl) rfl ?_
  by_cases hc155 : r152 = 0
  · rw [if_pos hc155] at hE
    refine g_if_eq_t aX5_leastDeed_158 hc155 ?_
    refine g_ldi aX5_leastDeed_164 rfl ?_
    have hJ : g_R sh 5 mX5_leastDeed (some (.int r)) τ 176 [.ref 134, .int p1, .int p2, .int p3, .int x1, .int x2, .int r16, .int ((if ((r16 >>> (p1 &&& 31)) &&& 1) = 0 then 0 else 1) : Int32), .int (s17.1 135 1), .int x141] [.int ((if ((if ((r16 >>> (p1 &&& 31)) &&& 1) = 0 then 0 else 1) : Int32) = 0 then x1 else (s17.1 135 1)) : Int32)] (s153) := by
      refine g_sti (loc2 := [.ref 134, .int p1, .int p2, .int p3, .int ((if ((if ((r16 >>> (p1 &&& 31)) &&& 1) = 0 then 0 else 1) : Int32) = 0 then x1 else (s17.1 135 1)) : Int32), .int x2, .int r16, .int ((if ((r16 >>> (p1 &&& 31)) &&& 1) = 0 then 0 else 1) : Int32), .int (s17.1 135 1), .int x141]) aX5_leastDeed_176 (Nat.le_of_ble_eq_true rfl) rfl ?_
      refine g_iinc (y := 1) (loc2 := [.ref 134, .int p1, .int p2, .int p3, .int ((if ((if ((r16 >>> (p1 &&& 31)) &&& 1) = 0 then 0 else 1) : Int32) = 0 then x1 else (s17.1 135 1)) : Int32), .int (x2 + 1), .int r16, .int ((if ((r16 >>> (p1 &&& 31)) &&& 1) = 0 then 0 else 1) : Int32), .int (s17.1 135 1), .int x141]) aX5_leastDeed_178 rfl rfl rfl ?_
      refine g_goto aX5_leastDeed_181 ?_
      exact hk7 _ _ _ _ _ _ _ hE
    clear hE
    by_cases hc155 : ((if ((r16 >>> (p1 &&& 31)) &&& 1) = 0 then 0 else 1) : Int32) = 0
    · (try rw [if_pos hc155] at hJ)
      refine g_if_eq_t aX5_leastDeed_166 hc155 ?_
      refine g_ldi aX5_leastDeed_174 rfl ?_
      exact hJ
    · (try rw [if_neg hc155] at hJ)
      refine g_if_eq_f aX5_leastDeed_166 hc155 ?_
      refine g_ldi aX5_leastDeed_169 rfl ?_
      refine g_goto aX5_leastDeed_171 ?_
      exact hJ
  · rw [if_neg hc155] at hE
    refine g_if_eq_f aX5_leastDeed_158 hc155 ?_
    refine g_ldi aX5_leastDeed_161 rfl ?_
    cases hE
    exact g_iret aX5_leastDeed_163 rfl rfl
set_option maxRecDepth 20000 in
set_option maxHeartbeats 2000000 in
theorem tX5_leastDeed_L7 {sh : List kd} {τ : St} {r : Int32} (hsh : cSh sh) {p1 : Int32} {p2 : Int32} {p3 : Int32} : ∀ (n0 : Nat) (x1 : Int32) (x2 : Int32) (x3 : Value) (x4 : Value) (x5 : Value) (x6 : Value) (s7 : St), fX5_leastDeed_L7 sh p1 p2 p3 n0 x1 x2 x3 x4 x5 x6 s7 = some (r, τ) → g_R sh 5 mX5_leastDeed (some (.int r)) τ 7 [.ref 134, .int p1, .int p2, .int p3, .int x1, .int x2, x3, x4, x5, x6] [] (s7) := by
  intro n0
  induction n0 with
  | zero => intro _ _ _ _ _ _ _ hE; cases hE
  | succ n8 ih =>
    intro x1 x2 x3 x4 x5 x6 s7 hE
    unfold fX5_leastDeed_L7 at hE
    refine g_ldi aX5_leastDeed_7 rfl ?_
    refine g_sipush (x := 200) aX5_leastDeed_9 rfl ?_
    by_cases hc9 : 200 < x2
    · rw [if_pos hc9] at hE
      refine g_ic_gt_t aX5_leastDeed_12 hc9 ?_
      refine g_bipush (x := (-2)) aX5_leastDeed_184 rfl ?_
      cases hE
      exact g_iret aX5_leastDeed_186 rfl rfl
    · rw [if_neg hc9] at hE
      refine g_ic_gt_f aX5_leastDeed_12 hc9 ?_
      refine g_ldan aX5_leastDeed_15 rfl ?_
      obtain ⟨r10, s11, h12, hE⟩ := i_bd_some hE
      refine g_calV (As := []) (rest := []) aX5_leastDeed_16 (i_X_mono (by omega) (tX5_begin hsh h12)) (sC_134 hsh) (by decide +kernel) rfl rfl (Nat.le_of_ble_eq_true rfl) rfl ?_
      refine g_ldan aX5_leastDeed_19 rfl ?_
      refine g_getR aX5_leastDeed_20 (sC_134 hsh) rfl ?_
      refine g_ldin aX5_leastDeed_23 rfl ?_
      refine g_ldi aX5_leastDeed_24 rfl ?_
      obtain ⟨r13, s14, h15, hE⟩ := i_bd_some hE
      refine g_calV (As := [.int p1, .int x2]) (rest := []) aX5_leastDeed_26 (i_X_mono (by omega) (tX4_thank hsh (lShB_135 hsh) h15)) ((lShB_135 hsh).1) (by decide +kernel) rfl rfl (Nat.le_of_ble_eq_true rfl) rfl ?_
      refine g_ldan aX5_leastDeed_29 rfl ?_
      refine g_getR aX5_leastDeed_30 (sC_134 hsh) rfl ?_
      refine g_ldan aX5_leastDeed_33 rfl ?_
      refine g_getR aX5_leastDeed_34 (sC_134 hsh) rfl ?_
      refine g_ldan aX5_leastDeed_37 rfl ?_
      refine g_getR aX5_leastDeed_38 (sC_134 hsh) rfl ?_
      refine g_getR aX5_leastDeed_41 ((wShB_19 hsh).1) rfl ?_
      refine g_ldan aX5_leastDeed_44 rfl ?_
      refine g_getR aX5_leastDeed_45 (sC_134 hsh) rfl ?_
      refine g_getI aX5_leastDeed_48 ((wShB_19 hsh).1) rfl ?_
      obtain ⟨r16, s17, h18, hE⟩ := i_bd_some hE
      refine g_calV (As := [.ref 135, .ref 20, .int (s14.1 19 8)]) (rest := []) aX5_leastDeed_51 (i_X_mono (by omega) (tX0_pass hsh (lShB_135 hsh) (rShB_20 hsh) h18)) (sC_16 hsh) (by decide +kernel) rfl rfl (Nat.le_of_ble_eq_true rfl) rfl ?_
      refine g_sti (loc2 := [.ref 134, .int p1, .int p2, .int p3, .int x1, .int x2, .int r16, x4, x5, x6]) aX5_leastDeed_54 (Nat.le_of_ble_eq_true rfl) rfl ?_
      refine g_ldi aX5_leastDeed_56 rfl ?_
      refine g_ldin aX5_leastDeed_58 rfl ?_
      refine g_ishr aX5_leastDeed_59 ?_
      refine g_iconst (x := 1) aX5_leastDeed_60 rfl ?_
      refine g_iand aX5_leastDeed_61 ?_
      have hJ : g_R sh 5 mX5_leastDeed (some (.int r)) τ 70 [.ref 134, .int p1, .int p2, .int p3, .int x1, .int x2, .int r16, x4, x5, x6] [.int ((if ((r16 >>> (p1 &&& 31)) &&& 1) = 0 then 0 else 1) : Int32)] (s17) := by
        refine g_sti (loc2 := [.ref 134, .int p1, .int p2, .int p3, .int x1, .int x2, .int r16, .int ((if ((r16 >>> (p1 &&& 31)) &&& 1) = 0 then 0 else 1) : Int32), x5, x6]) aX5_leastDeed_70 (Nat.le_of_ble_eq_true rfl) rfl ?_
        refine g_ldan aX5_leastDeed_72 rfl ?_
        refine g_getR aX5_leastDeed_73 (sC_134 hsh) rfl ?_
        refine g_getI aX5_leastDeed_76 ((lShB_135 hsh).1) rfl ?_
        refine g_sti (loc2 := [.ref 134, .int p1, .int p2, .int p3, .int x1, .int x2, .int r16, .int ((if ((r16 >>> (p1 &&& 31)) &&& 1) = 0 then 0 else 1) : Int32), .int (s17.1 135 1), x6]) aX5_leastDeed_79 (Nat.le_of_ble_eq_true rfl) rfl ?_
        refine g_ldi aX5_leastDeed_81 rfl ?_
        by_cases hc19 : ((if ((r16 >>> (p1 &&& 31)) &&& 1) = 0 then 0 else 1) : Int32) = 0
        · rw [if_pos hc19] at hE
          refine g_if_eq_t aX5_leastDeed_83 hc19 ?_
          refine g_iconst (x := 1) aX5_leastDeed_96 rfl ?_
          refine g_sti (loc2 := [.ref 134, .int p1, .int p2, .int p3, .int x1, .int x2, .int r16, .int ((if ((r16 >>> (p1 &&& 31)) &&& 1) = 0 then 0 else 1) : Int32), .int (s17.1 135 1), .int 1]) aX5_leastDeed_97 (Nat.le_of_ble_eq_true rfl) rfl ?_
          exact tX5_leastDeed_L99 hsh (fun x72 s73 hE => tX5_leastDeed_X149 hsh ih hE) i_F _ _ hE
        · rw [if_neg hc19] at hE
          refine g_if_eq_f aX5_leastDeed_83 hc19 ?_
          refine g_ldi aX5_leastDeed_86 rfl ?_
          refine g_ldi aX5_leastDeed_88 rfl ?_
          by_cases hc88 : ¬ (s17.1 135 1) = x1
          · rw [if_pos hc88] at hE
            refine g_ic_ne_t aX5_leastDeed_90 hc88 ?_
            refine g_iconst (x := 1) aX5_leastDeed_96 rfl ?_
            refine g_sti (loc2 := [.ref 134, .int p1, .int p2, .int p3, .int x1, .int x2, .int r16, .int ((if ((r16 >>> (p1 &&& 31)) &&& 1) = 0 then 0 else 1) : Int32), .int (s17.1 135 1), .int 1]) aX5_leastDeed_97 (Nat.le_of_ble_eq_true rfl) rfl ?_
            exact tX5_leastDeed_L99_90 hsh (fun x141 s142 hE => tX5_leastDeed_X149_151 hsh ih hE) i_F _ _ hE
          · rw [if_neg hc88] at hE
            refine g_ic_ne_f aX5_leastDeed_90 hc88 ?_
            refine g_goto aX5_leastDeed_93 ?_
            refine g_iinc (y := 1) (loc2 := [.ref 134, .int p1, .int p2, .int p3, .int x1, .int (x2 + 1), .int r16, .int ((if ((r16 >>> (p1 &&& 31)) &&& 1) = 0 then 0 else 1) : Int32), .int (s17.1 135 1), x6]) aX5_leastDeed_178 rfl rfl rfl ?_
            refine g_goto aX5_leastDeed_181 ?_
            exact ih _ _ _ _ _ _ _ hE
      clear hE
      by_cases hc156 : ((r16 >>> (p1 &&& 31)) &&& 1) = 0
      · (try rw [if_pos hc156] at hJ)
        refine g_if_eq_t aX5_leastDeed_62 hc156 ?_
        refine g_iconst (x := 0) aX5_leastDeed_69 rfl ?_
        exact hJ
      · (try rw [if_neg hc156] at hJ)
        refine g_if_eq_f aX5_leastDeed_62 hc156 ?_
        refine g_iconst (x := 1) aX5_leastDeed_65 rfl ?_
        refine g_goto aX5_leastDeed_66 ?_
        exact hJ
set_option maxRecDepth 20000 in
set_option maxHeartbeats 2000000 in
theorem tX5_leastDeed {sh : List kd} {σ τ : St} {r : Int32} (hsh : cSh sh) {p1 : Int32} {p2 : Int32} {p3 : Int32} (hE : fX5_leastDeed sh σ p1 p2 p3 = some (r, τ)) : i_X 6 37 [.ref 134, .int p1, .int p2, .int p3] (s_h sh σ) 0 0 (some (.int r)) (s_h sh τ) := by
  refine g_X (M := mX5_leastDeed) (loc := [.ref 134, .int p1, .int p2, .int p3, .retAddr 0, .retAddr 0, .retAddr 0, .retAddr 0, .retAddr 0, .retAddr 0]) rfl (Nat.le_of_ble_eq_true rfl) rfl ?_
  unfold fX5_leastDeed at hE
  refine g_bipush (x := (-2)) aX5_leastDeed_0 rfl ?_
  refine g_sti (loc2 := [.ref 134, .int p1, .int p2, .int p3, .int (-2), .retAddr 0, .retAddr 0, .retAddr 0, .retAddr 0, .retAddr 0]) aX5_leastDeed_2 (Nat.le_of_ble_eq_true rfl) rfl ?_
  refine g_iconst (x := 0) aX5_leastDeed_4 rfl ?_
  refine g_sti (loc2 := [.ref 134, .int p1, .int p2, .int p3, .int (-2), .int 0, .retAddr 0, .retAddr 0, .retAddr 0, .retAddr 0]) aX5_leastDeed_5 (Nat.le_of_ble_eq_true rfl) rfl ?_
  exact tX5_leastDeed_L7 hsh i_F _ _ _ _ _ _ _ hE
theorem aX5_isSpared_0 : i_at mX5_isSpared.2.2.2.2.2 0 = some (.aload_n 0, 1, 0, 0, 0, 0) := by decide +kernel
theorem aX5_isSpared_1 : i_at mX5_isSpared.2.2.2.2.2 1 = some (.invokevirtual 59, 3, 33, 0, 887, 0) := by decide +kernel
theorem aX5_isSpared_4 : i_at mX5_isSpared.2.2.2.2.2 4 = some (.iconst 0, 1, 0, 0, 0, 0) := by decide +kernel
theorem aX5_isSpared_5 : i_at mX5_isSpared.2.2.2.2.2 5 = some (.istore 4, 2, 0, 0, 0, 0) := by decide +kernel
theorem aX5_isSpared_7 : i_at mX5_isSpared.2.2.2.2.2 7 = some (.iload 4, 2, 0, 0, 0, 0) := by decide +kernel
theorem aX5_isSpared_9 : i_at mX5_isSpared.2.2.2.2.2 9 = some (.iload_n 2, 1, 0, 0, 0, 0) := by decide +kernel
theorem aX5_isSpared_10 : i_at mX5_isSpared.2.2.2.2.2 10 = some (.if_icmp .ge 67, 3, 77, 0, 0, 0) := by decide +kernel
theorem aX5_isSpared_13 : i_at mX5_isSpared.2.2.2.2.2 13 = some (.aload_n 0, 1, 0, 0, 0, 0) := by decide +kernel
theorem aX5_isSpared_14 : i_at mX5_isSpared.2.2.2.2.2 14 = some (.getfield 12, 3, 4, 2, 402, 0) := by decide +kernel
theorem aX5_isSpared_17 : i_at mX5_isSpared.2.2.2.2.2 17 = some (.iload_n 3, 1, 0, 0, 0, 0) := by decide +kernel
theorem aX5_isSpared_18 : i_at mX5_isSpared.2.2.2.2.2 18 = some (.iload 4, 2, 0, 0, 0, 0) := by decide +kernel
theorem aX5_isSpared_20 : i_at mX5_isSpared.2.2.2.2.2 20 = some (.ishr, 1, 0, 0, 0, 0) := by decide +kernel
theorem aX5_isSpared_21 : i_at mX5_isSpared.2.2.2.2.2 21 = some (.iconst 1, 1, 0, 0, 0, 0) := by decide +kernel
theorem aX5_isSpared_22 : i_at mX5_isSpared.2.2.2.2.2 22 = some (.iand, 1, 0, 0, 0, 0) := by decide +kernel
theorem aX5_isSpared_23 : i_at mX5_isSpared.2.2.2.2.2 23 = some (.putfield 99, 3, 3, 3, 307, 0) := by decide +kernel
theorem aX5_isSpared_26 : i_at mX5_isSpared.2.2.2.2.2 26 = some (.aload_n 0, 1, 0, 0, 0, 0) := by decide +kernel
theorem aX5_isSpared_27 : i_at mX5_isSpared.2.2.2.2.2 27 = some (.getfield 32, 3, 4, 1, 401, 0) := by decide +kernel
theorem aX5_isSpared_30 : i_at mX5_isSpared.2.2.2.2.2 30 = some (.aload_n 0, 1, 0, 0, 0, 0) := by decide +kernel
theorem aX5_isSpared_31 : i_at mX5_isSpared.2.2.2.2.2 31 = some (.getfield 12, 3, 4, 2, 402, 0) := by decide +kernel
theorem aX5_isSpared_34 : i_at mX5_isSpared.2.2.2.2.2 34 = some (.aload_n 0, 1, 0, 0, 0, 0) := by decide +kernel
theorem aX5_isSpared_35 : i_at mX5_isSpared.2.2.2.2.2 35 = some (.getfield 28, 3, 4, 0, 400, 0) := by decide +kernel
theorem aX5_isSpared_38 : i_at mX5_isSpared.2.2.2.2.2 38 = some (.getfield 45, 3, 9, 0, 346, 0) := by decide +kernel
theorem aX5_isSpared_41 : i_at mX5_isSpared.2.2.2.2.2 41 = some (.aload_n 0, 1, 0, 0, 0, 0) := by decide +kernel
theorem aX5_isSpared_42 : i_at mX5_isSpared.2.2.2.2.2 42 = some (.getfield 28, 3, 4, 0, 400, 0) := by decide +kernel
theorem aX5_isSpared_45 : i_at mX5_isSpared.2.2.2.2.2 45 = some (.getfield 49, 3, 9, 8, 366, 0) := by decide +kernel
theorem aX5_isSpared_48 : i_at mX5_isSpared.2.2.2.2.2 48 = some (.invokevirtual 53, 3, 2, 3, 896, 0) := by decide +kernel
theorem aX5_isSpared_51 : i_at mX5_isSpared.2.2.2.2.2 51 = some (.istore 5, 2, 0, 0, 0, 0) := by decide +kernel
theorem aX5_isSpared_53 : i_at mX5_isSpared.2.2.2.2.2 53 = some (.iload 5, 2, 0, 0, 0, 0) := by decide +kernel
theorem aX5_isSpared_55 : i_at mX5_isSpared.2.2.2.2.2 55 = some (.ifCond .eq 16, 3, 71, 0, 0, 0) := by decide +kernel
theorem aX5_isSpared_58 : i_at mX5_isSpared.2.2.2.2.2 58 = some (.aload_n 0, 1, 0, 0, 0, 0) := by decide +kernel
theorem aX5_isSpared_59 : i_at mX5_isSpared.2.2.2.2.2 59 = some (.getfield 12, 3, 4, 2, 402, 0) := by decide +kernel
theorem aX5_isSpared_62 : i_at mX5_isSpared.2.2.2.2.2 62 = some (.getfield 78, 3, 3, 1, 299, 0) := by decide +kernel
theorem aX5_isSpared_65 : i_at mX5_isSpared.2.2.2.2.2 65 = some (.iload_n 1, 1, 0, 0, 0, 0) := by decide +kernel
theorem aX5_isSpared_66 : i_at mX5_isSpared.2.2.2.2.2 66 = some (.if_icmp .ne 5, 3, 71, 0, 0, 0) := by decide +kernel
theorem aX5_isSpared_69 : i_at mX5_isSpared.2.2.2.2.2 69 = some (.iconst 0, 1, 0, 0, 0, 0) := by decide +kernel
theorem aX5_isSpared_70 : i_at mX5_isSpared.2.2.2.2.2 70 = some (.ireturn, 1, 0, 0, 0, 0) := by decide +kernel
theorem aX5_isSpared_71 : i_at mX5_isSpared.2.2.2.2.2 71 = some (.iinc 4 1, 3, 0, 0, 0, 0) := by decide +kernel
theorem aX5_isSpared_74 : i_at mX5_isSpared.2.2.2.2.2 74 = some (.goto (-67), 3, 7, 0, 0, 0) := by decide +kernel
theorem aX5_isSpared_77 : i_at mX5_isSpared.2.2.2.2.2 77 = some (.iconst 1, 1, 0, 0, 0, 0) := by decide +kernel
theorem aX5_isSpared_78 : i_at mX5_isSpared.2.2.2.2.2 78 = some (.ireturn, 1, 0, 0, 0, 0) := by decide +kernel
noncomputable def fX5_isSpared_L7 (sh : List kd) (p1 : Int32) (p2 : Int32) (p3 : Int32) : Nat → Int32 → Value → St → Option (Int32 × St)
  | 0, _, _, _ => none
  | n7 + 1, x4, x5, s6 => if p2 ≤ x4 then some (1, s6) else i_bd (fX0_pass sh (s_F s6 135 3 ((p3 >>> (x4 &&& 31)) &&& 1)) 135 20 ((s_F s6 135 3 ((p3 >>> (x4 &&& 31)) &&& 1)).1 19 8)) (fun r9 s10 => if r9 = 0 then (fX5_isSpared_L7 sh p1 p2 p3 n7 (x4 + 1) (.int r9) s10) else if ¬ (s10.1 135 1) = p1 then (fX5_isSpared_L7 sh p1 p2 p3 n7 (x4 + 1) (.int r9) s10) else some (0, s10))
noncomputable def fX5_isSpared (sh : List kd) (σ : St) (p1 : Int32) (p2 : Int32) (p3 : Int32) : Option (Int32 × St) := i_bd (fX5_begin sh σ) (fun r1 s2 => fX5_isSpared_L7 sh p1 p2 p3 i_F 0 (.retAddr 0) s2)
set_option maxRecDepth 20000 in
set_option maxHeartbeats 2000000 in
theorem tX5_isSpared_L7 {sh : List kd} {τ : St} {r : Int32} (hsh : cSh sh) {p1 : Int32} {p2 : Int32} {p3 : Int32} : ∀ (n0 : Nat) (x4 : Int32) (x5 : Value) (s6 : St), fX5_isSpared_L7 sh p1 p2 p3 n0 x4 x5 s6 = some (r, τ) → g_R sh 5 mX5_isSpared (some (.int r)) τ 7 [.ref 134, .int p1, .int p2, .int p3, .int x4, x5] [] (s6) := by
  intro n0
  induction n0 with
  | zero => intro _ _ _ hE; cases hE
  | succ n7 ih =>
    intro x4 x5 s6 hE
    unfold fX5_isSpared_L7 at hE
    refine g_ldi aX5_isSpared_7 rfl ?_
    refine g_ldin aX5_isSpared_9 rfl ?_
    by_cases hc8 : p2 ≤ x4
    · rw [if_pos hc8] at hE
      refine g_ic_ge_t aX5_isSpared_10 hc8 ?_
      refine g_iconst (x := 1) aX5_isSpared_77 rfl ?_
      cases hE
      exact g_iret aX5_isSpared_78 rfl rfl
    · rw [if_neg hc8] at hE
      refine g_ic_ge_f aX5_isSpared_10 hc8 ?_
      refine g_ldan aX5_isSpared_13 rfl ?_
      refine g_getR aX5_isSpared_14 (sC_134 hsh) rfl ?_
      refine g_ldin aX5_isSpared_17 rfl ?_
      refine g_ldi aX5_isSpared_18 rfl ?_
      refine g_ishr aX5_isSpared_20 ?_
      refine g_iconst (x := 1) aX5_isSpared_21 rfl ?_
      refine g_iand aX5_isSpared_22 ?_
      refine g_putI aX5_isSpared_23 ((lShB_135 hsh).1) rfl rfl ?_
      refine g_ldan aX5_isSpared_26 rfl ?_
      refine g_getR aX5_isSpared_27 (sC_134 hsh) rfl ?_
      refine g_ldan aX5_isSpared_30 rfl ?_
      refine g_getR aX5_isSpared_31 (sC_134 hsh) rfl ?_
      refine g_ldan aX5_isSpared_34 rfl ?_
      refine g_getR aX5_isSpared_35 (sC_134 hsh) rfl ?_
      refine g_getR aX5_isSpared_38 ((wShB_19 hsh).1) rfl ?_
      refine g_ldan aX5_isSpared_41 rfl ?_
      refine g_getR aX5_isSpared_42 (sC_134 hsh) rfl ?_
      refine g_getI aX5_isSpared_45 ((wShB_19 hsh).1) rfl ?_
      obtain ⟨r9, s10, h11, hE⟩ := i_bd_some hE
      refine g_calV (As := [.ref 135, .ref 20, .int ((s_F s6 135 3 ((p3 >>> (x4 &&& 31)) &&& 1)).1 19 8)]) (rest := []) aX5_isSpared_48 (i_X_mono (by omega) (tX0_pass hsh (lShB_135 hsh) (rShB_20 hsh) h11)) (sC_16 hsh) (by decide +kernel) rfl rfl (Nat.le_of_ble_eq_true rfl) rfl ?_
      refine g_sti (loc2 := [.ref 134, .int p1, .int p2, .int p3, .int x4, .int r9]) aX5_isSpared_51 (Nat.le_of_ble_eq_true rfl) rfl ?_
      refine g_ldi aX5_isSpared_53 rfl ?_
      by_cases hc12 : r9 = 0
      · rw [if_pos hc12] at hE
        refine g_if_eq_t aX5_isSpared_55 hc12 ?_
        refine g_iinc (y := 1) (loc2 := [.ref 134, .int p1, .int p2, .int p3, .int (x4 + 1), .int r9]) aX5_isSpared_71 rfl rfl rfl ?_
        refine g_goto aX5_isSpared_74 ?_
        exact ih _ _ _ hE
      · rw [if_neg hc12] at hE
        refine g_if_eq_f aX5_isSpared_55 hc12 ?_
        refine g_ldan aX5_isSpared_58 rfl ?_
        refine g_getR aX5_isSpared_59 (sC_134 hsh) rfl ?_
        refine g_getI aX5_isSpared_62 ((lShB_135 hsh).1) rfl ?_
        refine g_ldin aX5_isSpared_65 rfl ?_
        by_cases hc13 : ¬ (s10.1 135 1) = p1
        · rw [if_pos hc13] at hE
          refine g_ic_ne_t aX5_isSpared_66 hc13 ?_
          refine g_iinc (y := 1) (loc2 := [.ref 134, .int p1, .int p2, .int p3, .int (x4 + 1), .int r9]) aX5_isSpared_71 rfl rfl rfl ?_
          refine g_goto aX5_isSpared_74 ?_
          exact ih _ _ _ hE
        · rw [if_neg hc13] at hE
          refine g_ic_ne_f aX5_isSpared_66 hc13 ?_
          refine g_iconst (x := 0) aX5_isSpared_69 rfl ?_
          cases hE
          exact g_iret aX5_isSpared_70 rfl rfl
set_option maxRecDepth 20000 in
set_option maxHeartbeats 2000000 in
theorem tX5_isSpared {sh : List kd} {σ τ : St} {r : Int32} (hsh : cSh sh) {p1 : Int32} {p2 : Int32} {p3 : Int32} (hE : fX5_isSpared sh σ p1 p2 p3 = some (r, τ)) : i_X 6 39 [.ref 134, .int p1, .int p2, .int p3] (s_h sh σ) 0 0 (some (.int r)) (s_h sh τ) := by
  refine g_X (M := mX5_isSpared) (loc := [.ref 134, .int p1, .int p2, .int p3, .retAddr 0, .retAddr 0]) rfl (Nat.le_of_ble_eq_true rfl) rfl ?_
  unfold fX5_isSpared at hE
  refine g_ldan aX5_isSpared_0 rfl ?_
  obtain ⟨r1, s2, h3, hE⟩ := i_bd_some hE
  refine g_calV (As := []) (rest := []) aX5_isSpared_1 (i_X_mono (by omega) (tX5_begin hsh h3)) (sC_134 hsh) (by decide +kernel) rfl rfl (Nat.le_of_ble_eq_true rfl) rfl ?_
  refine g_iconst (x := 0) aX5_isSpared_4 rfl ?_
  refine g_sti (loc2 := [.ref 134, .int p1, .int p2, .int p3, .int 0, .retAddr 0]) aX5_isSpared_5 (Nat.le_of_ble_eq_true rfl) rfl ?_
  exact tX5_isSpared_L7 hsh i_F _ _ _ hE
theorem aX5_bestTray_0 : i_at mX5_bestTray.2.2.2.2.2 0 = some (.iconst (-1), 1, 0, 0, 0, 0) := by decide +kernel
theorem aX5_bestTray_1 : i_at mX5_bestTray.2.2.2.2.2 1 = some (.istore 4, 2, 0, 0, 0, 0) := by decide +kernel
theorem aX5_bestTray_3 : i_at mX5_bestTray.2.2.2.2.2 3 = some (.iconst (-1), 1, 0, 0, 0, 0) := by decide +kernel
theorem aX5_bestTray_4 : i_at mX5_bestTray.2.2.2.2.2 4 = some (.istore 5, 2, 0, 0, 0, 0) := by decide +kernel
theorem aX5_bestTray_6 : i_at mX5_bestTray.2.2.2.2.2 6 = some (.iconst (-1), 1, 0, 0, 0, 0) := by decide +kernel
theorem aX5_bestTray_7 : i_at mX5_bestTray.2.2.2.2.2 7 = some (.istore 6, 2, 0, 0, 0, 0) := by decide +kernel
theorem aX5_bestTray_9 : i_at mX5_bestTray.2.2.2.2.2 9 = some (.iload 6, 2, 0, 0, 0, 0) := by decide +kernel
theorem aX5_bestTray_11 : i_at mX5_bestTray.2.2.2.2.2 11 = some (.aload_n 0, 1, 0, 0, 0, 0) := by decide +kernel
theorem aX5_bestTray_12 : i_at mX5_bestTray.2.2.2.2.2 12 = some (.getfield 28, 3, 4, 0, 400, 0) := by decide +kernel
theorem aX5_bestTray_15 : i_at mX5_bestTray.2.2.2.2.2 15 = some (.getfield 45, 3, 9, 0, 346, 0) := by decide +kernel
theorem aX5_bestTray_18 : i_at mX5_bestTray.2.2.2.2.2 18 = some (.getfield 102, 3, 5, 3, 168, 0) := by decide +kernel
theorem aX5_bestTray_21 : i_at mX5_bestTray.2.2.2.2.2 21 = some (.if_icmp .ge 63, 3, 84, 0, 0, 0) := by decide +kernel
theorem aX5_bestTray_24 : i_at mX5_bestTray.2.2.2.2.2 24 = some (.aload_n 0, 1, 0, 0, 0, 0) := by decide +kernel
theorem aX5_bestTray_25 : i_at mX5_bestTray.2.2.2.2.2 25 = some (.invokevirtual 59, 3, 33, 0, 887, 0) := by decide +kernel
theorem aX5_bestTray_28 : i_at mX5_bestTray.2.2.2.2.2 28 = some (.aload_n 0, 1, 0, 0, 0, 0) := by decide +kernel
theorem aX5_bestTray_29 : i_at mX5_bestTray.2.2.2.2.2 29 = some (.getfield 12, 3, 4, 2, 402, 0) := by decide +kernel
theorem aX5_bestTray_32 : i_at mX5_bestTray.2.2.2.2.2 32 = some (.iload 6, 2, 0, 0, 0, 0) := by decide +kernel
theorem aX5_bestTray_34 : i_at mX5_bestTray.2.2.2.2.2 34 = some (.putfield 107, 3, 3, 2, 303, 0) := by decide +kernel
theorem aX5_bestTray_37 : i_at mX5_bestTray.2.2.2.2.2 37 = some (.aload_n 0, 1, 0, 0, 0, 0) := by decide +kernel
theorem aX5_bestTray_38 : i_at mX5_bestTray.2.2.2.2.2 38 = some (.iload_n 2, 1, 0, 0, 0, 0) := by decide +kernel
theorem aX5_bestTray_39 : i_at mX5_bestTray.2.2.2.2.2 39 = some (.invokevirtual 62, 3, 34, 1, 892, 0) := by decide +kernel
theorem aX5_bestTray_42 : i_at mX5_bestTray.2.2.2.2.2 42 = some (.aload_n 0, 1, 0, 0, 0, 0) := by decide +kernel
theorem aX5_bestTray_43 : i_at mX5_bestTray.2.2.2.2.2 43 = some (.getfield 28, 3, 4, 0, 400, 0) := by decide +kernel
theorem aX5_bestTray_46 : i_at mX5_bestTray.2.2.2.2.2 46 = some (.getfield 45, 3, 9, 0, 346, 0) := by decide +kernel
theorem aX5_bestTray_49 : i_at mX5_bestTray.2.2.2.2.2 49 = some (.aload_n 0, 1, 0, 0, 0, 0) := by decide +kernel
theorem aX5_bestTray_50 : i_at mX5_bestTray.2.2.2.2.2 50 = some (.getfield 12, 3, 4, 2, 402, 0) := by decide +kernel
theorem aX5_bestTray_53 : i_at mX5_bestTray.2.2.2.2.2 53 = some (.getfield 69, 3, 3, 5, 316, 0) := by decide +kernel
theorem aX5_bestTray_56 : i_at mX5_bestTray.2.2.2.2.2 56 = some (.iload_n 1, 1, 0, 0, 0, 0) := by decide +kernel
theorem aX5_bestTray_57 : i_at mX5_bestTray.2.2.2.2.2 57 = some (.iaload, 1, 0, 0, 0, 0) := by decide +kernel
theorem aX5_bestTray_58 : i_at mX5_bestTray.2.2.2.2.2 58 = some (.invokevirtual 110, 3, 56, 1, 938, 0) := by decide +kernel
theorem aX5_bestTray_61 : i_at mX5_bestTray.2.2.2.2.2 61 = some (.istore 7, 2, 0, 0, 0, 0) := by decide +kernel
theorem aX5_bestTray_63 : i_at mX5_bestTray.2.2.2.2.2 63 = some (.iload 7, 2, 0, 0, 0, 0) := by decide +kernel
theorem aX5_bestTray_65 : i_at mX5_bestTray.2.2.2.2.2 65 = some (.iload 5, 2, 0, 0, 0, 0) := by decide +kernel
theorem aX5_bestTray_67 : i_at mX5_bestTray.2.2.2.2.2 67 = some (.if_icmp .le 11, 3, 78, 0, 0, 0) := by decide +kernel
theorem aX5_bestTray_70 : i_at mX5_bestTray.2.2.2.2.2 70 = some (.iload 7, 2, 0, 0, 0, 0) := by decide +kernel
theorem aX5_bestTray_72 : i_at mX5_bestTray.2.2.2.2.2 72 = some (.istore 5, 2, 0, 0, 0, 0) := by decide +kernel
theorem aX5_bestTray_74 : i_at mX5_bestTray.2.2.2.2.2 74 = some (.iload 6, 2, 0, 0, 0, 0) := by decide +kernel
theorem aX5_bestTray_76 : i_at mX5_bestTray.2.2.2.2.2 76 = some (.istore 4, 2, 0, 0, 0, 0) := by decide +kernel
theorem aX5_bestTray_78 : i_at mX5_bestTray.2.2.2.2.2 78 = some (.iinc 6 1, 3, 0, 0, 0, 0) := by decide +kernel
theorem aX5_bestTray_81 : i_at mX5_bestTray.2.2.2.2.2 81 = some (.goto (-72), 3, 9, 0, 0, 0) := by decide +kernel
theorem aX5_bestTray_84 : i_at mX5_bestTray.2.2.2.2.2 84 = some (.iload_n 3, 1, 0, 0, 0, 0) := by decide +kernel
theorem aX5_bestTray_85 : i_at mX5_bestTray.2.2.2.2.2 85 = some (.ifCond .eq 8, 3, 93, 0, 0, 0) := by decide +kernel
theorem aX5_bestTray_88 : i_at mX5_bestTray.2.2.2.2.2 88 = some (.iload 4, 2, 0, 0, 0, 0) := by decide +kernel
theorem aX5_bestTray_90 : i_at mX5_bestTray.2.2.2.2.2 90 = some (.goto 5, 3, 95, 0, 0, 0) := by decide +kernel
theorem aX5_bestTray_93 : i_at mX5_bestTray.2.2.2.2.2 93 = some (.iload 5, 2, 0, 0, 0, 0) := by decide +kernel
theorem aX5_bestTray_95 : i_at mX5_bestTray.2.2.2.2.2 95 = some (.ireturn, 1, 0, 0, 0, 0) := by decide +kernel
noncomputable def fX5_bestTray_J78 (sh : List kd) (p1 : Int32) (p2 : Int32) (p3 : Int32) (x3 : Int32) (r70 : Int32) (s71 : St) (k9 : Int32 → Int32 → Int32 → Value → St → Option (Int32 × St)) (x123 : Int32) (x124 : Int32) : Option (Int32 × St) := k9 x123 x124 (x3 + 1) (.int r70) s71
noncomputable def fX5_bestTray_L9 (sh : List kd) (p1 : Int32) (p2 : Int32) (p3 : Int32) (k84 : Int32 → Int32 → Int32 → Value → St → Option (Int32 × St)) : Nat → Int32 → Int32 → Int32 → Value → St → Option (Int32 × St)
  | 0, _, _, _, _, _ => none
  | n61 + 1, x1, x2, x3, x4, s5 => if (s5.1 20 3) ≤ x3 then k84 x1 x2 x3 x4 s5 else i_bd (fX5_begin sh s5) (fun r63 s64 => i_bd (fX5_goOn sh (s_F s64 135 2 x3) p2) (fun r66 s67 => if i_ok p1 6 then i_bd (fX6_rankOf sh s67 20 (s67.2.1 137 p1.toNatClampNeg)) (fun r70 s71 => if r70 ≤ x2 then fX5_bestTray_J78 sh p1 p2 p3 x3 r70 s71 (fX5_bestTray_L9 sh p1 p2 p3 k84 n61) x1 x2 else fX5_bestTray_J78 sh p1 p2 p3 x3 r70 s71 (fX5_bestTray_L9 sh p1 p2 p3 k84 n61) x3 r70) else none))
noncomputable def fX5_bestTray_X84 (sh : List kd) (p1 : Int32) (p2 : Int32) (p3 : Int32) (x56 : Int32) (x57 : Int32) (x58 : Int32) (x59 : Value) (s60 : St) : Option (Int32 × St) := some (((if p3 = 0 then x57 else x56) : Int32), s60)
noncomputable def fX5_bestTray (sh : List kd) (σ : St) (p1 : Int32) (p2 : Int32) (p3 : Int32) : Option (Int32 × St) := fX5_bestTray_L9 sh p1 p2 p3 (fun (x56 : Int32) (x57 : Int32) (x58 : Int32) (x59 : Value) (s60 : St) => fX5_bestTray_X84 sh p1 p2 p3 x56 x57 x58 x59 s60) i_F (-1) (-1) (-1) (.retAddr 0) σ
set_option maxRecDepth 20000 in
set_option maxHeartbeats 2000000 in
theorem tX5_bestTray_J78 {sh : List kd} {τ : St} {r : Int32} (hsh : cSh sh) {p1 : Int32} {p2 : Int32} {p3 : Int32} {x3 : Int32} {r70 : Int32} {s71 : St} {x123 : Int32} {x124 : Int32} {k9 : Int32 → Int32 → Int32 → Value → St → Option (Int32 × St)} (hk9 : ∀ (x1 : Int32) (x2 : Int32) (x3 : Int32) (x4 : Value) (s5 : St), k9 x1 x2 x3 x4 s5 = some (r, τ) → g_R sh 6 mX5_bestTray (some (.int r)) τ 9 [.ref 134, .int p1, .int p2, .int p3, .int x1, .int x2, .int x3, x4] [] (s5)) (hE : fX5_bestTray_J78 sh p1 p2 p3 x3 r70 s71 k9 x123 x124 = some (r, τ)) : g_R sh 6 mX5_bestTray (some (.int r)) τ 78 [.ref 134, .int p1, .int p2, .int p3, .int x123, .int x124, .int x3, .int r70] [] (s71) := by
  unfold fX5_bestTray_J78 at hE
  refine g_iinc (y := 1) (loc2 := [.ref 134, .int p1, .int p2, .int p3, .int x123, .int x124, .int (x3 + 1), .int r70]) aX5_bestTray_78 rfl rfl rfl ?_
  refine g_goto aX5_bestTray_81 ?_
  exact hk9 _ _ _ _ _ hE
set_option maxRecDepth 20000 in
set_option maxHeartbeats 2000000 in
theorem tX5_bestTray_L9 {sh : List kd} {τ : St} {r : Int32} (hsh : cSh sh) {p1 : Int32} {p2 : Int32} {p3 : Int32} {k84 : Int32 → Int32 → Int32 → Value → St → Option (Int32 × St)} (hk84 : ∀ (x56 : Int32) (x57 : Int32) (x58 : Int32) (x59 : Value) (s60 : St), k84 x56 x57 x58 x59 s60 = some (r, τ) → g_R sh 6 mX5_bestTray (some (.int r)) τ 84 [.ref 134, .int p1, .int p2, .int p3, .int x56, .int x57, .int x58, x59] [] (s60)) : ∀ (n0 : Nat) (x1 : Int32) (x2 : Int32) (x3 : Int32) (x4 : Value) (s5 : St), fX5_bestTray_L9 sh p1 p2 p3 k84 n0 x1 x2 x3 x4 s5 = some (r, τ) → g_R sh 6 mX5_bestTray (some (.int r)) τ 9 [.ref 134, .int p1, .int p2, .int p3, .int x1, .int x2, .int x3, x4] [] (s5) := by
  intro n0
  induction n0 with
  | zero => intro _ _ _ _ _ hE; cases hE
  | succ n61 ih =>
    intro x1 x2 x3 x4 s5 hE
    unfold fX5_bestTray_L9 at hE
    refine g_ldi aX5_bestTray_9 rfl ?_
    refine g_ldan aX5_bestTray_11 rfl ?_
    refine g_getR aX5_bestTray_12 (sC_134 hsh) rfl ?_
    refine g_getR aX5_bestTray_15 ((wShB_19 hsh).1) rfl ?_
    refine g_getI aX5_bestTray_18 ((rShB_20 hsh).1) rfl ?_
    by_cases hc62 : (s5.1 20 3) ≤ x3
    · rw [if_pos hc62] at hE
      refine g_ic_ge_t aX5_bestTray_21 hc62 ?_
      exact hk84 _ _ _ _ _ hE
    · rw [if_neg hc62] at hE
      refine g_ic_ge_f aX5_bestTray_21 hc62 ?_
      refine g_ldan aX5_bestTray_24 rfl ?_
      obtain ⟨r63, s64, h65, hE⟩ := i_bd_some hE
      refine g_calV (As := []) (rest := []) aX5_bestTray_25 (i_X_mono (by omega) (tX5_begin hsh h65)) (sC_134 hsh) (by decide +kernel) rfl rfl (Nat.le_of_ble_eq_true rfl) rfl ?_
      refine g_ldan aX5_bestTray_28 rfl ?_
      refine g_getR aX5_bestTray_29 (sC_134 hsh) rfl ?_
      refine g_ldi aX5_bestTray_32 rfl ?_
      refine g_putI aX5_bestTray_34 ((lShB_135 hsh).1) rfl rfl ?_
      refine g_ldan aX5_bestTray_37 rfl ?_
      refine g_ldin aX5_bestTray_38 rfl ?_
      obtain ⟨r66, s67, h68, hE⟩ := i_bd_some hE
      refine g_calV (As := [.int p2]) (rest := []) aX5_bestTray_39 (i_X_mono (by omega) (tX5_goOn hsh h68)) (sC_134 hsh) (by decide +kernel) rfl rfl (Nat.le_of_ble_eq_true rfl) rfl ?_
      refine g_ldan aX5_bestTray_42 rfl ?_
      refine g_getR aX5_bestTray_43 (sC_134 hsh) rfl ?_
      refine g_getR aX5_bestTray_46 ((wShB_19 hsh).1) rfl ?_
      refine g_ldan aX5_bestTray_49 rfl ?_
      refine g_getR aX5_bestTray_50 (sC_134 hsh) rfl ?_
      refine g_getR aX5_bestTray_53 ((lShB_135 hsh).1) rfl ?_
      refine g_ldin aX5_bestTray_56 rfl ?_
      obtain ⟨h69, hE⟩ := i_ifn hE
      refine g_ild aX5_bestTray_57 (sC_137 hsh) h69 ?_
      obtain ⟨r70, s71, h72, hE⟩ := i_bd_some hE
      refine g_calV (As := [.int (s67.2.1 137 p1.toNatClampNeg)]) (rest := []) aX5_bestTray_58 (i_X_mono (by omega) (tX6_rankOf hsh (rShB_20 hsh) h72)) ((rShB_20 hsh).1) (by decide +kernel) rfl rfl (Nat.le_of_ble_eq_true rfl) rfl ?_
      refine g_sti (loc2 := [.ref 134, .int p1, .int p2, .int p3, .int x1, .int x2, .int x3, .int r70]) aX5_bestTray_61 (Nat.le_of_ble_eq_true rfl) rfl ?_
      refine g_ldi aX5_bestTray_63 rfl ?_
      refine g_ldi aX5_bestTray_65 rfl ?_
      by_cases hc125 : r70 ≤ x2
      · rw [if_pos hc125] at hE
        refine g_ic_le_t aX5_bestTray_67 hc125 ?_
        exact tX5_bestTray_J78 hsh ih hE
      · rw [if_neg hc125] at hE
        refine g_ic_le_f aX5_bestTray_67 hc125 ?_
        refine g_ldi aX5_bestTray_70 rfl ?_
        refine g_sti (loc2 := [.ref 134, .int p1, .int p2, .int p3, .int x1, .int r70, .int x3, .int r70]) aX5_bestTray_72 (Nat.le_of_ble_eq_true rfl) rfl ?_
        refine g_ldi aX5_bestTray_74 rfl ?_
        refine g_sti (loc2 := [.ref 134, .int p1, .int p2, .int p3, .int x3, .int r70, .int x3, .int r70]) aX5_bestTray_76 (Nat.le_of_ble_eq_true rfl) rfl ?_
        exact tX5_bestTray_J78 hsh ih hE
set_option maxRecDepth 20000 in
set_option maxHeartbeats 2000000 in
theorem tX5_bestTray_X84 {sh : List kd} {τ : St} {r : Int32} (hsh : cSh sh) {p1 : Int32} {p2 : Int32} {p3 : Int32} {x56 : Int32} {x57 : Int32} {x58 : Int32} {x59 : Value} {s60 : St} (hE : fX5_bestTray_X84 sh p1 p2 p3 x56 x57 x58 x59 s60 = some (r, τ)) : g_R sh 6 mX5_bestTray (some (.int r)) τ 84 [.ref 134, .int p1, .int p2, .int p3, .int x56, .int x57, .int x58, x59] [] (s60) := by
  unfold fX5_bestTray_X84 at hE
  refine g_ldin aX5_bestTray_84 rfl ?_
  have hJ : g_R sh 6 mX5_bestTray (some (.int r)) τ 95 [.ref 134, .int p1, .int p2, .int p3, .int x56, .int x57, .int x58, x59] [.int ((if p3 = 0 then x57 else x56) : Int32)] (s60) := by
    cases hE
    exact g_iret aX5_bestTray_95 rfl rfl
  clear hE
  by_cases hc125 : p3 = 0
  · (try rw [if_pos hc125] at hJ)
    refine g_if_eq_t aX5_bestTray_85 hc125 ?_
    refine g_ldi aX5_bestTray_93 rfl ?_
    exact hJ
  · (try rw [if_neg hc125] at hJ)
    refine g_if_eq_f aX5_bestTray_85 hc125 ?_
    refine g_ldi aX5_bestTray_88 rfl ?_
    refine g_goto aX5_bestTray_90 ?_
    exact hJ
set_option maxRecDepth 20000 in
set_option maxHeartbeats 2000000 in
theorem tX5_bestTray {sh : List kd} {σ τ : St} {r : Int32} (hsh : cSh sh) {p1 : Int32} {p2 : Int32} {p3 : Int32} (hE : fX5_bestTray sh σ p1 p2 p3 = some (r, τ)) : i_X 7 40 [.ref 134, .int p1, .int p2, .int p3] (s_h sh σ) 0 0 (some (.int r)) (s_h sh τ) := by
  refine g_X (M := mX5_bestTray) (loc := [.ref 134, .int p1, .int p2, .int p3, .retAddr 0, .retAddr 0, .retAddr 0, .retAddr 0]) rfl (Nat.le_of_ble_eq_true rfl) rfl ?_
  unfold fX5_bestTray at hE
  refine g_iconst (x := (-1)) aX5_bestTray_0 rfl ?_
  refine g_sti (loc2 := [.ref 134, .int p1, .int p2, .int p3, .int (-1), .retAddr 0, .retAddr 0, .retAddr 0]) aX5_bestTray_1 (Nat.le_of_ble_eq_true rfl) rfl ?_
  refine g_iconst (x := (-1)) aX5_bestTray_3 rfl ?_
  refine g_sti (loc2 := [.ref 134, .int p1, .int p2, .int p3, .int (-1), .int (-1), .retAddr 0, .retAddr 0]) aX5_bestTray_4 (Nat.le_of_ble_eq_true rfl) rfl ?_
  refine g_iconst (x := (-1)) aX5_bestTray_6 rfl ?_
  refine g_sti (loc2 := [.ref 134, .int p1, .int p2, .int p3, .int (-1), .int (-1), .int (-1), .retAddr 0]) aX5_bestTray_7 (Nat.le_of_ble_eq_true rfl) rfl ?_
  exact tX5_bestTray_L9 hsh (fun x56 x57 x58 x59 s60 hE => tX5_bestTray_X84 hsh hE) i_F _ _ _ _ _ hE
theorem aX5_timesHeld_0 : i_at mX5_timesHeld.2.2.2.2.2 0 = some (.aload_n 0, 1, 0, 0, 0, 0) := by decide +kernel
theorem aX5_timesHeld_1 : i_at mX5_timesHeld.2.2.2.2.2 1 = some (.invokevirtual 59, 3, 33, 0, 887, 0) := by decide +kernel
theorem aX5_timesHeld_4 : i_at mX5_timesHeld.2.2.2.2.2 4 = some (.aload_n 0, 1, 0, 0, 0, 0) := by decide +kernel
theorem aX5_timesHeld_5 : i_at mX5_timesHeld.2.2.2.2.2 5 = some (.iload_n 2, 1, 0, 0, 0, 0) := by decide +kernel
theorem aX5_timesHeld_6 : i_at mX5_timesHeld.2.2.2.2.2 6 = some (.invokevirtual 62, 3, 34, 1, 892, 0) := by decide +kernel
theorem aX5_timesHeld_9 : i_at mX5_timesHeld.2.2.2.2.2 9 = some (.aload_n 0, 1, 0, 0, 0, 0) := by decide +kernel
theorem aX5_timesHeld_10 : i_at mX5_timesHeld.2.2.2.2.2 10 = some (.getfield 12, 3, 4, 2, 402, 0) := by decide +kernel
theorem aX5_timesHeld_13 : i_at mX5_timesHeld.2.2.2.2.2 13 = some (.getfield 113, 3, 3, 7, 324, 0) := by decide +kernel
theorem aX5_timesHeld_16 : i_at mX5_timesHeld.2.2.2.2.2 16 = some (.iload_n 1, 1, 0, 0, 0, 0) := by decide +kernel
theorem aX5_timesHeld_17 : i_at mX5_timesHeld.2.2.2.2.2 17 = some (.iaload, 1, 0, 0, 0, 0) := by decide +kernel
theorem aX5_timesHeld_18 : i_at mX5_timesHeld.2.2.2.2.2 18 = some (.aload_n 0, 1, 0, 0, 0, 0) := by decide +kernel
theorem aX5_timesHeld_19 : i_at mX5_timesHeld.2.2.2.2.2 19 = some (.getfield 28, 3, 4, 0, 400, 0) := by decide +kernel
theorem aX5_timesHeld_22 : i_at mX5_timesHeld.2.2.2.2.2 22 = some (.getfield 36, 3, 9, 1, 350, 0) := by decide +kernel
theorem aX5_timesHeld_25 : i_at mX5_timesHeld.2.2.2.2.2 25 = some (.getfield 113, 3, 3, 7, 324, 0) := by decide +kernel
theorem aX5_timesHeld_28 : i_at mX5_timesHeld.2.2.2.2.2 28 = some (.iload_n 1, 1, 0, 0, 0, 0) := by decide +kernel
theorem aX5_timesHeld_29 : i_at mX5_timesHeld.2.2.2.2.2 29 = some (.iaload, 1, 0, 0, 0, 0) := by decide +kernel
theorem aX5_timesHeld_30 : i_at mX5_timesHeld.2.2.2.2.2 30 = some (.isub, 1, 0, 0, 0, 0) := by decide +kernel
theorem aX5_timesHeld_31 : i_at mX5_timesHeld.2.2.2.2.2 31 = some (.ireturn, 1, 0, 0, 0, 0) := by decide +kernel
noncomputable def fX5_timesHeld (sh : List kd) (σ : St) (p1 : Int32) (p2 : Int32) : Option (Int32 × St) := i_bd (fX5_begin sh σ) (fun r1 s2 => i_bd (fX5_goOn sh s2 p2) (fun r4 s5 => if i_ok p1 6 then if i_ok p1 6 then some (((s5.2.1 139 p1.toNatClampNeg) - (s5.2.1 30 p1.toNatClampNeg)), s5) else none else none))
set_option maxRecDepth 20000 in
set_option maxHeartbeats 2000000 in
theorem tX5_timesHeld {sh : List kd} {σ τ : St} {r : Int32} (hsh : cSh sh) {p1 : Int32} {p2 : Int32} (hE : fX5_timesHeld sh σ p1 p2 = some (r, τ)) : i_X 7 41 [.ref 134, .int p1, .int p2] (s_h sh σ) 0 0 (some (.int r)) (s_h sh τ) := by
  refine g_X (M := mX5_timesHeld) (loc := [.ref 134, .int p1, .int p2]) rfl (Nat.le_of_ble_eq_true rfl) rfl ?_
  unfold fX5_timesHeld at hE
  refine g_ldan aX5_timesHeld_0 rfl ?_
  obtain ⟨r1, s2, h3, hE⟩ := i_bd_some hE
  refine g_calV (As := []) (rest := []) aX5_timesHeld_1 (i_X_mono (by omega) (tX5_begin hsh h3)) (sC_134 hsh) (by decide +kernel) rfl rfl (Nat.le_of_ble_eq_true rfl) rfl ?_
  refine g_ldan aX5_timesHeld_4 rfl ?_
  refine g_ldin aX5_timesHeld_5 rfl ?_
  obtain ⟨r4, s5, h6, hE⟩ := i_bd_some hE
  refine g_calV (As := [.int p2]) (rest := []) aX5_timesHeld_6 (i_X_mono (by omega) (tX5_goOn hsh h6)) (sC_134 hsh) (by decide +kernel) rfl rfl (Nat.le_of_ble_eq_true rfl) rfl ?_
  refine g_ldan aX5_timesHeld_9 rfl ?_
  refine g_getR aX5_timesHeld_10 (sC_134 hsh) rfl ?_
  refine g_getR aX5_timesHeld_13 ((lShB_135 hsh).1) rfl ?_
  refine g_ldin aX5_timesHeld_16 rfl ?_
  obtain ⟨h7, hE⟩ := i_ifn hE
  refine g_ild aX5_timesHeld_17 (sC_139 hsh) h7 ?_
  refine g_ldan aX5_timesHeld_18 rfl ?_
  refine g_getR aX5_timesHeld_19 (sC_134 hsh) rfl ?_
  refine g_getR aX5_timesHeld_22 ((wShB_19 hsh).1) rfl ?_
  refine g_getR aX5_timesHeld_25 ((lShB_26 hsh).1) rfl ?_
  refine g_ldin aX5_timesHeld_28 rfl ?_
  obtain ⟨h8, hE⟩ := i_ifn hE
  refine g_ild aX5_timesHeld_29 (sC_30 hsh) h8 ?_
  refine g_isub aX5_timesHeld_30 ?_
  cases hE
  exact g_iret aX5_timesHeld_31 rfl rfl
theorem aX5_neverHeld_0 : i_at mX5_neverHeld.2.2.2.2.2 0 = some (.aload_n 0, 1, 0, 0, 0, 0) := by decide +kernel
theorem aX5_neverHeld_1 : i_at mX5_neverHeld.2.2.2.2.2 1 = some (.invokevirtual 59, 3, 33, 0, 887, 0) := by decide +kernel
theorem aX5_neverHeld_4 : i_at mX5_neverHeld.2.2.2.2.2 4 = some (.aload_n 0, 1, 0, 0, 0, 0) := by decide +kernel
theorem aX5_neverHeld_5 : i_at mX5_neverHeld.2.2.2.2.2 5 = some (.iload_n 1, 1, 0, 0, 0, 0) := by decide +kernel
theorem aX5_neverHeld_6 : i_at mX5_neverHeld.2.2.2.2.2 6 = some (.invokevirtual 62, 3, 34, 1, 892, 0) := by decide +kernel
theorem aX5_neverHeld_9 : i_at mX5_neverHeld.2.2.2.2.2 9 = some (.iconst 0, 1, 0, 0, 0, 0) := by decide +kernel
theorem aX5_neverHeld_10 : i_at mX5_neverHeld.2.2.2.2.2 10 = some (.istore_n 2, 1, 0, 0, 0, 0) := by decide +kernel
theorem aX5_neverHeld_11 : i_at mX5_neverHeld.2.2.2.2.2 11 = some (.iconst 0, 1, 0, 0, 0, 0) := by decide +kernel
theorem aX5_neverHeld_12 : i_at mX5_neverHeld.2.2.2.2.2 12 = some (.istore_n 3, 1, 0, 0, 0, 0) := by decide +kernel
theorem aX5_neverHeld_13 : i_at mX5_neverHeld.2.2.2.2.2 13 = some (.iload_n 3, 1, 0, 0, 0, 0) := by decide +kernel
theorem aX5_neverHeld_14 : i_at mX5_neverHeld.2.2.2.2.2 14 = some (.aload_n 0, 1, 0, 0, 0, 0) := by decide +kernel
theorem aX5_neverHeld_15 : i_at mX5_neverHeld.2.2.2.2.2 15 = some (.getfield 28, 3, 4, 0, 400, 0) := by decide +kernel
theorem aX5_neverHeld_18 : i_at mX5_neverHeld.2.2.2.2.2 18 = some (.getfield 45, 3, 9, 0, 346, 0) := by decide +kernel
theorem aX5_neverHeld_21 : i_at mX5_neverHeld.2.2.2.2.2 21 = some (.getfield 102, 3, 5, 3, 168, 0) := by decide +kernel
theorem aX5_neverHeld_24 : i_at mX5_neverHeld.2.2.2.2.2 24 = some (.if_icmp .ge 39, 3, 63, 0, 0, 0) := by decide +kernel
theorem aX5_neverHeld_27 : i_at mX5_neverHeld.2.2.2.2.2 27 = some (.aload_n 0, 1, 0, 0, 0, 0) := by decide +kernel
theorem aX5_neverHeld_28 : i_at mX5_neverHeld.2.2.2.2.2 28 = some (.getfield 12, 3, 4, 2, 402, 0) := by decide +kernel
theorem aX5_neverHeld_31 : i_at mX5_neverHeld.2.2.2.2.2 31 = some (.getfield 113, 3, 3, 7, 324, 0) := by decide +kernel
theorem aX5_neverHeld_34 : i_at mX5_neverHeld.2.2.2.2.2 34 = some (.iload_n 3, 1, 0, 0, 0, 0) := by decide +kernel
theorem aX5_neverHeld_35 : i_at mX5_neverHeld.2.2.2.2.2 35 = some (.iaload, 1, 0, 0, 0, 0) := by decide +kernel
theorem aX5_neverHeld_36 : i_at mX5_neverHeld.2.2.2.2.2 36 = some (.aload_n 0, 1, 0, 0, 0, 0) := by decide +kernel
theorem aX5_neverHeld_37 : i_at mX5_neverHeld.2.2.2.2.2 37 = some (.getfield 28, 3, 4, 0, 400, 0) := by decide +kernel
theorem aX5_neverHeld_40 : i_at mX5_neverHeld.2.2.2.2.2 40 = some (.getfield 36, 3, 9, 1, 350, 0) := by decide +kernel
theorem aX5_neverHeld_43 : i_at mX5_neverHeld.2.2.2.2.2 43 = some (.getfield 113, 3, 3, 7, 324, 0) := by decide +kernel
theorem aX5_neverHeld_46 : i_at mX5_neverHeld.2.2.2.2.2 46 = some (.iload_n 3, 1, 0, 0, 0, 0) := by decide +kernel
theorem aX5_neverHeld_47 : i_at mX5_neverHeld.2.2.2.2.2 47 = some (.iaload, 1, 0, 0, 0, 0) := by decide +kernel
theorem aX5_neverHeld_48 : i_at mX5_neverHeld.2.2.2.2.2 48 = some (.if_icmp .ne 9, 3, 57, 0, 0, 0) := by decide +kernel
theorem aX5_neverHeld_51 : i_at mX5_neverHeld.2.2.2.2.2 51 = some (.iload_n 2, 1, 0, 0, 0, 0) := by decide +kernel
theorem aX5_neverHeld_52 : i_at mX5_neverHeld.2.2.2.2.2 52 = some (.iconst 1, 1, 0, 0, 0, 0) := by decide +kernel
theorem aX5_neverHeld_53 : i_at mX5_neverHeld.2.2.2.2.2 53 = some (.iload_n 3, 1, 0, 0, 0, 0) := by decide +kernel
theorem aX5_neverHeld_54 : i_at mX5_neverHeld.2.2.2.2.2 54 = some (.ishl, 1, 0, 0, 0, 0) := by decide +kernel
theorem aX5_neverHeld_55 : i_at mX5_neverHeld.2.2.2.2.2 55 = some (.ior, 1, 0, 0, 0, 0) := by decide +kernel
theorem aX5_neverHeld_56 : i_at mX5_neverHeld.2.2.2.2.2 56 = some (.istore_n 2, 1, 0, 0, 0, 0) := by decide +kernel
theorem aX5_neverHeld_57 : i_at mX5_neverHeld.2.2.2.2.2 57 = some (.iinc 3 1, 3, 0, 0, 0, 0) := by decide +kernel
theorem aX5_neverHeld_60 : i_at mX5_neverHeld.2.2.2.2.2 60 = some (.goto (-47), 3, 13, 0, 0, 0) := by decide +kernel
theorem aX5_neverHeld_63 : i_at mX5_neverHeld.2.2.2.2.2 63 = some (.iload_n 2, 1, 0, 0, 0, 0) := by decide +kernel
theorem aX5_neverHeld_64 : i_at mX5_neverHeld.2.2.2.2.2 64 = some (.ireturn, 1, 0, 0, 0, 0) := by decide +kernel
noncomputable def fX5_neverHeld_L13 (sh : List kd) (p1 : Int32) (s5 : St) : Nat → Int32 → Int32 → Option (Int32 × St)
  | 0, _, _ => none
  | n9 + 1, x7, x8 => if (s5.1 20 3) ≤ x8 then some (x7, s5) else if i_ok x8 6 then if i_ok x8 6 then (fX5_neverHeld_L13 sh p1 s5 n9 ((if ¬ (s5.2.1 139 x8.toNatClampNeg) = (s5.2.1 30 x8.toNatClampNeg) then x7 else (x7 ||| (1 <<< (x8 &&& 31)))) : Int32) (x8 + 1)) else none else none
noncomputable def fX5_neverHeld (sh : List kd) (σ : St) (p1 : Int32) : Option (Int32 × St) := i_bd (fX5_begin sh σ) (fun r1 s2 => i_bd (fX5_goOn sh s2 p1) (fun r4 s5 => fX5_neverHeld_L13 sh p1 s5 i_F 0 0))
set_option maxRecDepth 20000 in
set_option maxHeartbeats 2000000 in
theorem tX5_neverHeld_L13 {sh : List kd} {τ : St} {r : Int32} (hsh : cSh sh) {p1 : Int32} {s5 : St} : ∀ (n0 : Nat) (x7 : Int32) (x8 : Int32), fX5_neverHeld_L13 sh p1 s5 n0 x7 x8 = some (r, τ) → g_R sh 6 mX5_neverHeld (some (.int r)) τ 13 [.ref 134, .int p1, .int x7, .int x8] [] (s5) := by
  intro n0
  induction n0 with
  | zero => intro _ _ hE; cases hE
  | succ n9 ih =>
    intro x7 x8 hE
    unfold fX5_neverHeld_L13 at hE
    refine g_ldin aX5_neverHeld_13 rfl ?_
    refine g_ldan aX5_neverHeld_14 rfl ?_
    refine g_getR aX5_neverHeld_15 (sC_134 hsh) rfl ?_
    refine g_getR aX5_neverHeld_18 ((wShB_19 hsh).1) rfl ?_
    refine g_getI aX5_neverHeld_21 ((rShB_20 hsh).1) rfl ?_
    by_cases hc60 : (s5.1 20 3) ≤ x8
    · rw [if_pos hc60] at hE
      refine g_ic_ge_t aX5_neverHeld_24 hc60 ?_
      refine g_ldin aX5_neverHeld_63 rfl ?_
      cases hE
      exact g_iret aX5_neverHeld_64 rfl rfl
    · rw [if_neg hc60] at hE
      refine g_ic_ge_f aX5_neverHeld_24 hc60 ?_
      refine g_ldan aX5_neverHeld_27 rfl ?_
      refine g_getR aX5_neverHeld_28 (sC_134 hsh) rfl ?_
      refine g_getR aX5_neverHeld_31 ((lShB_135 hsh).1) rfl ?_
      refine g_ldin aX5_neverHeld_34 rfl ?_
      obtain ⟨h61, hE⟩ := i_ifn hE
      refine g_ild aX5_neverHeld_35 (sC_139 hsh) h61 ?_
      refine g_ldan aX5_neverHeld_36 rfl ?_
      refine g_getR aX5_neverHeld_37 (sC_134 hsh) rfl ?_
      refine g_getR aX5_neverHeld_40 ((wShB_19 hsh).1) rfl ?_
      refine g_getR aX5_neverHeld_43 ((lShB_26 hsh).1) rfl ?_
      refine g_ldin aX5_neverHeld_46 rfl ?_
      obtain ⟨h62, hE⟩ := i_ifn hE
      refine g_ild aX5_neverHeld_47 (sC_30 hsh) h62 ?_
      have hJ : g_R sh 6 mX5_neverHeld (some (.int r)) τ 57 [.ref 134, .int p1, .int ((if ¬ (s5.2.1 139 x8.toNatClampNeg) = (s5.2.1 30 x8.toNatClampNeg) then x7 else (x7 ||| (1 <<< (x8 &&& 31)))) : Int32), .int x8] [] (s5) := by
        refine g_iinc (y := 1) (loc2 := [.ref 134, .int p1, .int ((if ¬ (s5.2.1 139 x8.toNatClampNeg) = (s5.2.1 30 x8.toNatClampNeg) then x7 else (x7 ||| (1 <<< (x8 &&& 31)))) : Int32), .int (x8 + 1)]) aX5_neverHeld_57 rfl rfl rfl ?_
        refine g_goto aX5_neverHeld_60 ?_
        exact ih _ _ hE
      clear hE
      by_cases hc62 : ¬ (s5.2.1 139 x8.toNatClampNeg) = (s5.2.1 30 x8.toNatClampNeg)
      · (try rw [if_pos hc62] at hJ)
        refine g_ic_ne_t aX5_neverHeld_48 hc62 ?_
        exact hJ
      · (try rw [if_neg hc62] at hJ)
        refine g_ic_ne_f aX5_neverHeld_48 hc62 ?_
        refine g_ldin aX5_neverHeld_51 rfl ?_
        refine g_iconst (x := 1) aX5_neverHeld_52 rfl ?_
        refine g_ldin aX5_neverHeld_53 rfl ?_
        refine g_ishl aX5_neverHeld_54 ?_
        refine g_ior aX5_neverHeld_55 ?_
        refine g_stin (loc2 := [.ref 134, .int p1, .int (x7 ||| (1 <<< (x8 &&& 31))), .int x8]) aX5_neverHeld_56 (Nat.le_of_ble_eq_true rfl) rfl ?_
        exact hJ
set_option maxRecDepth 20000 in
set_option maxHeartbeats 2000000 in
theorem tX5_neverHeld {sh : List kd} {σ τ : St} {r : Int32} (hsh : cSh sh) {p1 : Int32} (hE : fX5_neverHeld sh σ p1 = some (r, τ)) : i_X 7 42 [.ref 134, .int p1] (s_h sh σ) 0 0 (some (.int r)) (s_h sh τ) := by
  refine g_X (M := mX5_neverHeld) (loc := [.ref 134, .int p1, .retAddr 0, .retAddr 0]) rfl (Nat.le_of_ble_eq_true rfl) rfl ?_
  unfold fX5_neverHeld at hE
  refine g_ldan aX5_neverHeld_0 rfl ?_
  obtain ⟨r1, s2, h3, hE⟩ := i_bd_some hE
  refine g_calV (As := []) (rest := []) aX5_neverHeld_1 (i_X_mono (by omega) (tX5_begin hsh h3)) (sC_134 hsh) (by decide +kernel) rfl rfl (Nat.le_of_ble_eq_true rfl) rfl ?_
  refine g_ldan aX5_neverHeld_4 rfl ?_
  refine g_ldin aX5_neverHeld_5 rfl ?_
  obtain ⟨r4, s5, h6, hE⟩ := i_bd_some hE
  refine g_calV (As := [.int p1]) (rest := []) aX5_neverHeld_6 (i_X_mono (by omega) (tX5_goOn hsh h6)) (sC_134 hsh) (by decide +kernel) rfl rfl (Nat.le_of_ble_eq_true rfl) rfl ?_
  refine g_iconst (x := 0) aX5_neverHeld_9 rfl ?_
  refine g_stin (loc2 := [.ref 134, .int p1, .int 0, .retAddr 0]) aX5_neverHeld_10 (Nat.le_of_ble_eq_true rfl) rfl ?_
  refine g_iconst (x := 0) aX5_neverHeld_11 rfl ?_
  refine g_stin (loc2 := [.ref 134, .int p1, .int 0, .int 0]) aX5_neverHeld_12 (Nat.le_of_ble_eq_true rfl) rfl ?_
  exact tX5_neverHeld_L13 hsh i_F _ _ hE
