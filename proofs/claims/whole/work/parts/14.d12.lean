/-! X12_held X12_laysDeeds X12_rests X12_laysCourse X12_couldRule X12_ruled X12_look -/
theorem aX12_held_0 : i_at mX12_held.2.2.2.2.2 0 = some (.aload_n 0, 1, 0, 0, 0, 0) := by decide +kernel
theorem aX12_held_1 : i_at mX12_held.2.2.2.2.2 1 = some (.invokevirtual 345, 3, 130, 0, 1438, 0) := by decide +kernel
theorem aX12_held_4 : i_at mX12_held.2.2.2.2.2 4 = some (.ifCond .eq 29, 3, 33, 0, 0, 0) := by decide +kernel
theorem aX12_held_7 : i_at mX12_held.2.2.2.2.2 7 = some (.iload_n 1, 1, 0, 0, 0, 0) := by decide +kernel
theorem aX12_held_8 : i_at mX12_held.2.2.2.2.2 8 = some (.i2l, 1, 0, 0, 0, 0) := by decide +kernel
theorem aX12_held_9 : i_at mX12_held.2.2.2.2.2 9 = some (.lconst 1, 1, 0, 0, 0, 0) := by decide +kernel
theorem aX12_held_10 : i_at mX12_held.2.2.2.2.2 10 = some (.ldc2_w 408, 3, 0, 0, 1544, 100) := by decide +kernel
theorem aX12_held_13 : i_at mX12_held.2.2.2.2.2 13 = some (.invokestatic 131, 3, 127, 3, 1324, 0) := by decide +kernel
theorem aX12_held_16 : i_at mX12_held.2.2.2.2.2 16 = some (.ifCond .eq 17, 3, 33, 0, 0, 0) := by decide +kernel
theorem aX12_held_19 : i_at mX12_held.2.2.2.2.2 19 = some (.iload_n 2, 1, 0, 0, 0, 0) := by decide +kernel
theorem aX12_held_20 : i_at mX12_held.2.2.2.2.2 20 = some (.bipush 6, 2, 0, 0, 0, 0) := by decide +kernel
theorem aX12_held_22 : i_at mX12_held.2.2.2.2.2 22 = some (.if_icmp .eq 13, 3, 35, 0, 0, 0) := by decide +kernel
theorem aX12_held_25 : i_at mX12_held.2.2.2.2.2 25 = some (.aload_n 0, 1, 0, 0, 0, 0) := by decide +kernel
theorem aX12_held_26 : i_at mX12_held.2.2.2.2.2 26 = some (.iload_n 2, 1, 0, 0, 0, 0) := by decide +kernel
theorem aX12_held_27 : i_at mX12_held.2.2.2.2.2 27 = some (.invokevirtual 338, 3, 131, 1, 1426, 0) := by decide +kernel
theorem aX12_held_30 : i_at mX12_held.2.2.2.2.2 30 = some (.ifCond .ne 5, 3, 35, 0, 0, 0) := by decide +kernel
theorem aX12_held_33 : i_at mX12_held.2.2.2.2.2 33 = some (.iconst (-1), 1, 0, 0, 0, 0) := by decide +kernel
theorem aX12_held_34 : i_at mX12_held.2.2.2.2.2 34 = some (.ireturn, 1, 0, 0, 0, 0) := by decide +kernel
theorem aX12_held_35 : i_at mX12_held.2.2.2.2.2 35 = some (.iconst 0, 1, 0, 0, 0, 0) := by decide +kernel
theorem aX12_held_36 : i_at mX12_held.2.2.2.2.2 36 = some (.istore_n 3, 1, 0, 0, 0, 0) := by decide +kernel
theorem aX12_held_37 : i_at mX12_held.2.2.2.2.2 37 = some (.iload_n 3, 1, 0, 0, 0, 0) := by decide +kernel
theorem aX12_held_38 : i_at mX12_held.2.2.2.2.2 38 = some (.bipush 6, 2, 0, 0, 0, 0) := by decide +kernel
theorem aX12_held_40 : i_at mX12_held.2.2.2.2.2 40 = some (.if_icmp .ge 16, 3, 56, 0, 0, 0) := by decide +kernel
theorem aX12_held_43 : i_at mX12_held.2.2.2.2.2 43 = some (.aload_n 0, 1, 0, 0, 0, 0) := by decide +kernel
theorem aX12_held_44 : i_at mX12_held.2.2.2.2.2 44 = some (.getfield 106, 3, 11, 44, 1131, 0) := by decide +kernel
theorem aX12_held_47 : i_at mX12_held.2.2.2.2.2 47 = some (.iload_n 3, 1, 0, 0, 0, 0) := by decide +kernel
theorem aX12_held_48 : i_at mX12_held.2.2.2.2.2 48 = some (.iconst 0, 1, 0, 0, 0, 0) := by decide +kernel
theorem aX12_held_49 : i_at mX12_held.2.2.2.2.2 49 = some (.iastore, 1, 0, 0, 0, 0) := by decide +kernel
theorem aX12_held_50 : i_at mX12_held.2.2.2.2.2 50 = some (.iinc 3 1, 3, 0, 0, 0, 0) := by decide +kernel
theorem aX12_held_53 : i_at mX12_held.2.2.2.2.2 53 = some (.goto (-16), 3, 37, 0, 0, 0) := by decide +kernel
theorem aX12_held_56 : i_at mX12_held.2.2.2.2.2 56 = some (.aload_n 0, 1, 0, 0, 0, 0) := by decide +kernel
theorem aX12_held_57 : i_at mX12_held.2.2.2.2.2 57 = some (.invokevirtual 410, 3, 196, 0, 1545, 0) := by decide +kernel
theorem aX12_held_60 : i_at mX12_held.2.2.2.2.2 60 = some (.iconst 0, 1, 0, 0, 0, 0) := by decide +kernel
theorem aX12_held_61 : i_at mX12_held.2.2.2.2.2 61 = some (.istore_n 3, 1, 0, 0, 0, 0) := by decide +kernel
theorem aX12_held_62 : i_at mX12_held.2.2.2.2.2 62 = some (.iload_n 3, 1, 0, 0, 0, 0) := by decide +kernel
theorem aX12_held_63 : i_at mX12_held.2.2.2.2.2 63 = some (.iload_n 1, 1, 0, 0, 0, 0) := by decide +kernel
theorem aX12_held_64 : i_at mX12_held.2.2.2.2.2 64 = some (.if_icmp .ge 39, 3, 103, 0, 0, 0) := by decide +kernel
theorem aX12_held_67 : i_at mX12_held.2.2.2.2.2 67 = some (.aload_n 0, 1, 0, 0, 0, 0) := by decide +kernel
theorem aX12_held_68 : i_at mX12_held.2.2.2.2.2 68 = some (.invokevirtual 375, 3, 183, 0, 1481, 0) := by decide +kernel
theorem aX12_held_71 : i_at mX12_held.2.2.2.2.2 71 = some (.pop, 1, 0, 0, 0, 0) := by decide +kernel
theorem aX12_held_72 : i_at mX12_held.2.2.2.2.2 72 = some (.aload_n 0, 1, 0, 0, 0, 0) := by decide +kernel
theorem aX12_held_73 : i_at mX12_held.2.2.2.2.2 73 = some (.getfield 9, 3, 11, 1, 1088, 0) := by decide +kernel
theorem aX12_held_76 : i_at mX12_held.2.2.2.2.2 76 = some (.iconst 5, 1, 0, 0, 0, 0) := by decide +kernel
theorem aX12_held_77 : i_at mX12_held.2.2.2.2.2 77 = some (.iaload, 1, 0, 0, 0, 0) := by decide +kernel
theorem aX12_held_78 : i_at mX12_held.2.2.2.2.2 78 = some (.iconst (-1), 1, 0, 0, 0, 0) := by decide +kernel
theorem aX12_held_79 : i_at mX12_held.2.2.2.2.2 79 = some (.if_icmp .eq 18, 3, 97, 0, 0, 0) := by decide +kernel
theorem aX12_held_82 : i_at mX12_held.2.2.2.2.2 82 = some (.aload_n 0, 1, 0, 0, 0, 0) := by decide +kernel
theorem aX12_held_83 : i_at mX12_held.2.2.2.2.2 83 = some (.getfield 106, 3, 11, 44, 1131, 0) := by decide +kernel
theorem aX12_held_86 : i_at mX12_held.2.2.2.2.2 86 = some (.aload_n 0, 1, 0, 0, 0, 0) := by decide +kernel
theorem aX12_held_87 : i_at mX12_held.2.2.2.2.2 87 = some (.getfield 9, 3, 11, 1, 1088, 0) := by decide +kernel
theorem aX12_held_90 : i_at mX12_held.2.2.2.2.2 90 = some (.iconst 5, 1, 0, 0, 0, 0) := by decide +kernel
theorem aX12_held_91 : i_at mX12_held.2.2.2.2.2 91 = some (.iaload, 1, 0, 0, 0, 0) := by decide +kernel
theorem aX12_held_92 : i_at mX12_held.2.2.2.2.2 92 = some (.dup2, 1, 0, 0, 0, 0) := by decide +kernel
theorem aX12_held_93 : i_at mX12_held.2.2.2.2.2 93 = some (.iaload, 1, 0, 0, 0, 0) := by decide +kernel
theorem aX12_held_94 : i_at mX12_held.2.2.2.2.2 94 = some (.iconst 1, 1, 0, 0, 0, 0) := by decide +kernel
theorem aX12_held_95 : i_at mX12_held.2.2.2.2.2 95 = some (.iadd, 1, 0, 0, 0, 0) := by decide +kernel
theorem aX12_held_96 : i_at mX12_held.2.2.2.2.2 96 = some (.iastore, 1, 0, 0, 0, 0) := by decide +kernel
theorem aX12_held_97 : i_at mX12_held.2.2.2.2.2 97 = some (.iinc 3 1, 3, 0, 0, 0, 0) := by decide +kernel
theorem aX12_held_100 : i_at mX12_held.2.2.2.2.2 100 = some (.goto (-38), 3, 62, 0, 0, 0) := by decide +kernel
theorem aX12_held_103 : i_at mX12_held.2.2.2.2.2 103 = some (.aload_n 0, 1, 0, 0, 0, 0) := by decide +kernel
theorem aX12_held_104 : i_at mX12_held.2.2.2.2.2 104 = some (.invokevirtual 416, 3, 197, 0, 1561, 0) := by decide +kernel
theorem aX12_held_107 : i_at mX12_held.2.2.2.2.2 107 = some (.iconst 0, 1, 0, 0, 0, 0) := by decide +kernel
theorem aX12_held_108 : i_at mX12_held.2.2.2.2.2 108 = some (.istore_n 3, 1, 0, 0, 0, 0) := by decide +kernel
theorem aX12_held_109 : i_at mX12_held.2.2.2.2.2 109 = some (.iconst 0, 1, 0, 0, 0, 0) := by decide +kernel
theorem aX12_held_110 : i_at mX12_held.2.2.2.2.2 110 = some (.istore 4, 2, 0, 0, 0, 0) := by decide +kernel
theorem aX12_held_112 : i_at mX12_held.2.2.2.2.2 112 = some (.iload 4, 2, 0, 0, 0, 0) := by decide +kernel
theorem aX12_held_114 : i_at mX12_held.2.2.2.2.2 114 = some (.aload_n 0, 1, 0, 0, 0, 0) := by decide +kernel
theorem aX12_held_115 : i_at mX12_held.2.2.2.2.2 115 = some (.getfield 9, 3, 11, 1, 1088, 0) := by decide +kernel
theorem aX12_held_118 : i_at mX12_held.2.2.2.2.2 118 = some (.iconst 2, 1, 0, 0, 0, 0) := by decide +kernel
theorem aX12_held_119 : i_at mX12_held.2.2.2.2.2 119 = some (.iaload, 1, 0, 0, 0, 0) := by decide +kernel
theorem aX12_held_120 : i_at mX12_held.2.2.2.2.2 120 = some (.if_icmp .ge 30, 3, 150, 0, 0, 0) := by decide +kernel
theorem aX12_held_123 : i_at mX12_held.2.2.2.2.2 123 = some (.iload_n 3, 1, 0, 0, 0, 0) := by decide +kernel
theorem aX12_held_124 : i_at mX12_held.2.2.2.2.2 124 = some (.aload_n 0, 1, 0, 0, 0, 0) := by decide +kernel
theorem aX12_held_125 : i_at mX12_held.2.2.2.2.2 125 = some (.getfield 106, 3, 11, 44, 1131, 0) := by decide +kernel
theorem aX12_held_128 : i_at mX12_held.2.2.2.2.2 128 = some (.iload 4, 2, 0, 0, 0, 0) := by decide +kernel
theorem aX12_held_130 : i_at mX12_held.2.2.2.2.2 130 = some (.iaload, 1, 0, 0, 0, 0) := by decide +kernel
theorem aX12_held_131 : i_at mX12_held.2.2.2.2.2 131 = some (.ifCond .ne 10, 3, 141, 0, 0, 0) := by decide +kernel
theorem aX12_held_134 : i_at mX12_held.2.2.2.2.2 134 = some (.iconst 1, 1, 0, 0, 0, 0) := by decide +kernel
theorem aX12_held_135 : i_at mX12_held.2.2.2.2.2 135 = some (.iload 4, 2, 0, 0, 0, 0) := by decide +kernel
theorem aX12_held_137 : i_at mX12_held.2.2.2.2.2 137 = some (.ishl, 1, 0, 0, 0, 0) := by decide +kernel
theorem aX12_held_138 : i_at mX12_held.2.2.2.2.2 138 = some (.goto 4, 3, 142, 0, 0, 0) := by decide +kernel
theorem aX12_held_141 : i_at mX12_held.2.2.2.2.2 141 = some (.iconst 0, 1, 0, 0, 0, 0) := by decide +kernel
theorem aX12_held_142 : i_at mX12_held.2.2.2.2.2 142 = some (.ior, 1, 0, 0, 0, 0) := by decide +kernel
theorem aX12_held_143 : i_at mX12_held.2.2.2.2.2 143 = some (.istore_n 3, 1, 0, 0, 0, 0) := by decide +kernel
theorem aX12_held_144 : i_at mX12_held.2.2.2.2.2 144 = some (.iinc 4 1, 3, 0, 0, 0, 0) := by decide +kernel
theorem aX12_held_147 : i_at mX12_held.2.2.2.2.2 147 = some (.goto (-35), 3, 112, 0, 0, 0) := by decide +kernel
theorem aX12_held_150 : i_at mX12_held.2.2.2.2.2 150 = some (.iload_n 2, 1, 0, 0, 0, 0) := by decide +kernel
theorem aX12_held_151 : i_at mX12_held.2.2.2.2.2 151 = some (.bipush 6, 2, 0, 0, 0, 0) := by decide +kernel
theorem aX12_held_153 : i_at mX12_held.2.2.2.2.2 153 = some (.if_icmp .ne 7, 3, 160, 0, 0, 0) := by decide +kernel
theorem aX12_held_156 : i_at mX12_held.2.2.2.2.2 156 = some (.iload_n 3, 1, 0, 0, 0, 0) := by decide +kernel
theorem aX12_held_157 : i_at mX12_held.2.2.2.2.2 157 = some (.goto 9, 3, 166, 0, 0, 0) := by decide +kernel
theorem aX12_held_160 : i_at mX12_held.2.2.2.2.2 160 = some (.aload_n 0, 1, 0, 0, 0, 0) := by decide +kernel
theorem aX12_held_161 : i_at mX12_held.2.2.2.2.2 161 = some (.getfield 106, 3, 11, 44, 1131, 0) := by decide +kernel
theorem aX12_held_164 : i_at mX12_held.2.2.2.2.2 164 = some (.iload_n 2, 1, 0, 0, 0, 0) := by decide +kernel
theorem aX12_held_165 : i_at mX12_held.2.2.2.2.2 165 = some (.iaload, 1, 0, 0, 0, 0) := by decide +kernel
theorem aX12_held_166 : i_at mX12_held.2.2.2.2.2 166 = some (.ireturn, 1, 0, 0, 0, 0) := by decide +kernel
noncomputable def fX12_held_L37 (sh : List kd) (p1 : Int32) (p2 : Int32) (k56 : Int32 → St → Option (Int32 × St)) : Nat → Int32 → St → Option (Int32 × St)
  | 0, _, _ => none
  | n64 + 1, x10, s11 => if 6 ≤ x10 then k56 x10 s11 else if i_ok x10 6 then (fX12_held_L37 sh p1 p2 k56 n64 (x10 + 1) (s_A s11 31 x10.toNatClampNeg 0)) else none
noncomputable def fX12_held_J97 (sh : List kd) (p1 : Int32) (p2 : Int32) (x70 : Int32) (k62 : Int32 → St → Option (Int32 × St)) (s180 : St) : Option (Int32 × St) := k62 (x70 + 1) s180
noncomputable def fX12_held_L62 (sh : List kd) (p1 : Int32) (p2 : Int32) (k103 : Int32 → St → Option (Int32 × St)) : Nat → Int32 → St → Option (Int32 × St)
  | 0, _, _ => none
  | n124 + 1, x70, s71 => if p1 ≤ x70 then k103 x70 s71 else i_bd (fX12_goes sh s71) (fun r126 s127 => if i_ok 5 11 then if (s127.2.1 1 (5 : Int32).toNatClampNeg) = (-1) then fX12_held_J97 sh p1 p2 x70 (fX12_held_L62 sh p1 p2 k103 n124) s127 else if i_ok 5 11 then if i_ok (s127.2.1 1 (5 : Int32).toNatClampNeg) 6 then if i_ok (s127.2.1 1 (5 : Int32).toNatClampNeg) 6 then i_jp (s_A s127 31 (s127.2.1 1 (5 : Int32).toNatClampNeg).toNatClampNeg ((s127.2.1 31 (s127.2.1 1 (5 : Int32).toNatClampNeg).toNatClampNeg) + 1)) (fun (s185 : St) => fX12_held_J97 sh p1 p2 x70 (fX12_held_L62 sh p1 p2 k103 n124) s185) else none else none else none else none)
noncomputable def fX12_held_L112 (sh : List kd) (p1 : Int32) (p2 : Int32) (s188 : St) (k150 : Int32 → Int32 → Option (Int32 × St)) : Nat → Int32 → Int32 → Option (Int32 × St)
  | 0, _, _ => none
  | n244 + 1, x190, x191 => if i_ok 2 11 then if (s188.2.1 1 (2 : Int32).toNatClampNeg) ≤ x191 then k150 x190 x191 else if i_ok x191 6 then (fX12_held_L112 sh p1 p2 s188 k150 n244 (x190 ||| ((if ¬ (s188.2.1 31 x191.toNatClampNeg) = 0 then 0 else (1 <<< (x191 &&& 31))) : Int32)) (x191 + 1)) else none else none
noncomputable def fX12_held_J166 (sh : List kd) (p1 : Int32) (p2 : Int32) (s188 : St) (x242 : Int32) (x243 : Int32) (x299 : Int32) : Option (Int32 × St) := some (x299, s188)
noncomputable def fX12_held_X150 (sh : List kd) (p1 : Int32) (p2 : Int32) (s188 : St) (x242 : Int32) (x243 : Int32) : Option (Int32 × St) := if ¬ p2 = 6 then if i_ok p2 6 then fX12_held_J166 sh p1 p2 s188 x242 x243 (s188.2.1 31 p2.toNatClampNeg) else none else fX12_held_J166 sh p1 p2 s188 x242 x243 x242
noncomputable def fX12_held_X103 (sh : List kd) (p1 : Int32) (p2 : Int32) (x122 : Int32) (s123 : St) : Option (Int32 × St) := i_bd (fX12_laysBack sh s123) (fun r187 s188 => fX12_held_L112 sh p1 p2 s188 (fun (x242 : Int32) (x243 : Int32) => fX12_held_X150 sh p1 p2 s188 x242 x243) i_F 0 0)
noncomputable def fX12_held_X56 (sh : List kd) (p1 : Int32) (p2 : Int32) (x62 : Int32) (s63 : St) : Option (Int32 × St) := i_bd (fX12_keepsAll sh s63) (fun r67 s68 => fX12_held_L62 sh p1 p2 (fun (x122 : Int32) (s123 : St) => fX12_held_X103 sh p1 p2 x122 s123) i_F 0 s68)
noncomputable def fX12_held_L37_307 (sh : List kd) (p1 : Int32) (p2 : Int32) (k56 : Int32 → St → Option (Int32 × St)) : Nat → Int32 → St → Option (Int32 × St)
  | 0, _, _ => none
  | n360 + 1, x306, s307 => if 6 ≤ x306 then k56 x306 s307 else if i_ok x306 6 then (fX12_held_L37_307 sh p1 p2 k56 n360 (x306 + 1) (s_A s307 31 x306.toNatClampNeg 0)) else none
noncomputable def fX12_held_J97_476 (sh : List kd) (p1 : Int32) (p2 : Int32) (x366 : Int32) (k62 : Int32 → St → Option (Int32 × St)) (s476 : St) : Option (Int32 × St) := k62 (x366 + 1) s476
noncomputable def fX12_held_L62_367 (sh : List kd) (p1 : Int32) (p2 : Int32) (k103 : Int32 → St → Option (Int32 × St)) : Nat → Int32 → St → Option (Int32 × St)
  | 0, _, _ => none
  | n420 + 1, x366, s367 => if p1 ≤ x366 then k103 x366 s367 else i_bd (fX12_goes sh s367) (fun r422 s423 => if i_ok 5 11 then if (s423.2.1 1 (5 : Int32).toNatClampNeg) = (-1) then fX12_held_J97_476 sh p1 p2 x366 (fX12_held_L62_367 sh p1 p2 k103 n420) s423 else if i_ok 5 11 then if i_ok (s423.2.1 1 (5 : Int32).toNatClampNeg) 6 then if i_ok (s423.2.1 1 (5 : Int32).toNatClampNeg) 6 then i_jp (s_A s423 31 (s423.2.1 1 (5 : Int32).toNatClampNeg).toNatClampNeg ((s423.2.1 31 (s423.2.1 1 (5 : Int32).toNatClampNeg).toNatClampNeg) + 1)) (fun (s481 : St) => fX12_held_J97_476 sh p1 p2 x366 (fX12_held_L62_367 sh p1 p2 k103 n420) s481) else none else none else none else none)
noncomputable def fX12_held_L112_487 (sh : List kd) (p1 : Int32) (p2 : Int32) (s484 : St) (k150 : Int32 → Int32 → Option (Int32 × St)) : Nat → Int32 → Int32 → Option (Int32 × St)
  | 0, _, _ => none
  | n540 + 1, x486, x487 => if i_ok 2 11 then if (s484.2.1 1 (2 : Int32).toNatClampNeg) ≤ x487 then k150 x486 x487 else if i_ok x487 6 then (fX12_held_L112_487 sh p1 p2 s484 k150 n540 (x486 ||| ((if ¬ (s484.2.1 31 x487.toNatClampNeg) = 0 then 0 else (1 <<< (x487 &&& 31))) : Int32)) (x487 + 1)) else none else none
noncomputable def fX12_held_J166_595 (sh : List kd) (p1 : Int32) (p2 : Int32) (s484 : St) (x538 : Int32) (x539 : Int32) (x595 : Int32) : Option (Int32 × St) := some (x595, s484)
noncomputable def fX12_held_X150_544 (sh : List kd) (p1 : Int32) (p2 : Int32) (s484 : St) (x538 : Int32) (x539 : Int32) : Option (Int32 × St) := if ¬ p2 = 6 then if i_ok p2 6 then fX12_held_J166_595 sh p1 p2 s484 x538 x539 (s484.2.1 31 p2.toNatClampNeg) else none else fX12_held_J166_595 sh p1 p2 s484 x538 x539 x538
noncomputable def fX12_held_X103_482 (sh : List kd) (p1 : Int32) (p2 : Int32) (x418 : Int32) (s419 : St) : Option (Int32 × St) := i_bd (fX12_laysBack sh s419) (fun r483 s484 => fX12_held_L112_487 sh p1 p2 s484 (fun (x538 : Int32) (x539 : Int32) => fX12_held_X150_544 sh p1 p2 s484 x538 x539) i_F 0 0)
noncomputable def fX12_held_X56_362 (sh : List kd) (p1 : Int32) (p2 : Int32) (x358 : Int32) (s359 : St) : Option (Int32 × St) := i_bd (fX12_keepsAll sh s359) (fun r363 s364 => fX12_held_L62_367 sh p1 p2 (fun (x418 : Int32) (s419 : St) => fX12_held_X103_482 sh p1 p2 x418 s419) i_F 0 s364)
noncomputable def fX12_held (sh : List kd) (σ : St) (p1 : Int32) (p2 : Int32) : Option (Int32 × St) := i_bd (fX12_isCourt sh σ) (fun r1 s2 => if r1 = 0 then some ((-1), s2) else i_bd (fX12_in sh s2 p1.toInt64 1 100) (fun r5 s6 => if r5 = 0 then some ((-1), s6) else if p2 = 6 then fX12_held_L37 sh p1 p2 (fun (x62 : Int32) (s63 : St) => fX12_held_X56 sh p1 p2 x62 s63) i_F 0 s6 else i_bd (fX12_isThing sh s6 p2) (fun r302 s303 => if ¬ r302 = 0 then fX12_held_L37_307 sh p1 p2 (fun (x358 : Int32) (s359 : St) => fX12_held_X56_362 sh p1 p2 x358 s359) i_F 0 s303 else some ((-1), s303))))
set_option maxRecDepth 20000 in
set_option maxHeartbeats 2000000 in
theorem tX12_held_L37 {sh : List kd} {τ : St} {r : Int32} (hsh : rmSh sh) {p1 : Int32} {p2 : Int32} {k56 : Int32 → St → Option (Int32 × St)} (hk56 : ∀ (x62 : Int32) (s63 : St), k56 x62 s63 = some (r, τ) → g_R sh 7 mX12_held (some (.int r)) τ 56 [.ref 0, .int p1, .int p2, .int x62, .retAddr 0] [] (s63)) : ∀ (n0 : Nat) (x10 : Int32) (s11 : St), fX12_held_L37 sh p1 p2 k56 n0 x10 s11 = some (r, τ) → g_R sh 7 mX12_held (some (.int r)) τ 37 [.ref 0, .int p1, .int p2, .int x10, .retAddr 0] [] (s11) := by
  intro n0
  induction n0 with
  | zero => intro _ _ hE; cases hE
  | succ n64 ih =>
    intro x10 s11 hE
    unfold fX12_held_L37 at hE
    refine g_ldin aX12_held_37 rfl ?_
    refine g_bipush (x := 6) aX12_held_38 rfl ?_
    by_cases hc65 : 6 ≤ x10
    · rw [if_pos hc65] at hE
      refine g_ic_ge_t aX12_held_40 hc65 ?_
      exact hk56 _ _ hE
    · rw [if_neg hc65] at hE
      refine g_ic_ge_f aX12_held_40 hc65 ?_
      refine g_ldan aX12_held_43 rfl ?_
      refine g_getR aX12_held_44 (sR_0 hsh) rfl ?_
      refine g_ldin aX12_held_47 rfl ?_
      refine g_iconst (x := 0) aX12_held_48 rfl ?_
      obtain ⟨h66, hE⟩ := i_ifn hE
      refine g_ist aX12_held_49 (sR_31 hsh) h66 ?_
      refine g_iinc (y := 1) (loc2 := [.ref 0, .int p1, .int p2, .int (x10 + 1), .retAddr 0]) aX12_held_50 rfl rfl rfl ?_
      refine g_goto aX12_held_53 ?_
      exact ih _ _ hE
set_option maxRecDepth 20000 in
set_option maxHeartbeats 2000000 in
theorem tX12_held_J97 {sh : List kd} {τ : St} {r : Int32} (hsh : rmSh sh) {p1 : Int32} {p2 : Int32} {x70 : Int32} {s180 : St} {k62 : Int32 → St → Option (Int32 × St)} (hk62 : ∀ (x70 : Int32) (s71 : St), k62 x70 s71 = some (r, τ) → g_R sh 7 mX12_held (some (.int r)) τ 62 [.ref 0, .int p1, .int p2, .int x70, .retAddr 0] [] (s71)) (hE : fX12_held_J97 sh p1 p2 x70 k62 s180 = some (r, τ)) : g_R sh 7 mX12_held (some (.int r)) τ 97 [.ref 0, .int p1, .int p2, .int x70, .retAddr 0] [] (s180) := by
  unfold fX12_held_J97 at hE
  refine g_iinc (y := 1) (loc2 := [.ref 0, .int p1, .int p2, .int (x70 + 1), .retAddr 0]) aX12_held_97 rfl rfl rfl ?_
  refine g_goto aX12_held_100 ?_
  exact hk62 _ _ hE
set_option maxRecDepth 20000 in
set_option maxHeartbeats 2000000 in
theorem tX12_held_L62 {sh : List kd} {τ : St} {r : Int32} (hsh : rmSh sh) {p1 : Int32} {p2 : Int32} {k103 : Int32 → St → Option (Int32 × St)} (hk103 : ∀ (x122 : Int32) (s123 : St), k103 x122 s123 = some (r, τ) → g_R sh 7 mX12_held (some (.int r)) τ 103 [.ref 0, .int p1, .int p2, .int x122, .retAddr 0] [] (s123)) : ∀ (n0 : Nat) (x70 : Int32) (s71 : St), fX12_held_L62 sh p1 p2 k103 n0 x70 s71 = some (r, τ) → g_R sh 7 mX12_held (some (.int r)) τ 62 [.ref 0, .int p1, .int p2, .int x70, .retAddr 0] [] (s71) := by
  intro n0
  induction n0 with
  | zero => intro _ _ hE; cases hE
  | succ n124 ih =>
    intro x70 s71 hE
    unfold fX12_held_L62 at hE
    refine g_ldin aX12_held_62 rfl ?_
    refine g_ldin aX12_held_63 rfl ?_
    by_cases hc125 : p1 ≤ x70
    · rw [if_pos hc125] at hE
      refine g_ic_ge_t aX12_held_64 hc125 ?_
      exact hk103 _ _ hE
    · rw [if_neg hc125] at hE
      refine g_ic_ge_f aX12_held_64 hc125 ?_
      refine g_ldan aX12_held_67 rfl ?_
      obtain ⟨r126, s127, h128, hE⟩ := i_bd_some hE
      refine g_calV (As := []) (rest := []) aX12_held_68 (i_X_mono (by omega) (tX12_goes hsh h128)) (sR_0 hsh) (by decide +kernel) rfl rfl (Nat.le_of_ble_eq_true rfl) rfl ?_
      refine g_popi aX12_held_71 ?_
      refine g_ldan aX12_held_72 rfl ?_
      refine g_getR aX12_held_73 (sR_0 hsh) rfl ?_
      refine g_iconst (x := 5) aX12_held_76 rfl ?_
      obtain ⟨h129, hE⟩ := i_ifn hE
      refine g_ild aX12_held_77 (sR_1 hsh) h129 ?_
      refine g_iconst (x := (-1)) aX12_held_78 rfl ?_
      by_cases hc181 : (s127.2.1 1 (5 : Int32).toNatClampNeg) = (-1)
      · rw [if_pos hc181] at hE
        refine g_ic_eq_t aX12_held_79 hc181 ?_
        exact tX12_held_J97 hsh ih hE
      · rw [if_neg hc181] at hE
        refine g_ic_eq_f aX12_held_79 hc181 ?_
        refine g_ldan aX12_held_82 rfl ?_
        refine g_getR aX12_held_83 (sR_0 hsh) rfl ?_
        refine g_ldan aX12_held_86 rfl ?_
        refine g_getR aX12_held_87 (sR_0 hsh) rfl ?_
        refine g_iconst (x := 5) aX12_held_90 rfl ?_
        obtain ⟨h182, hE⟩ := i_ifn hE
        refine g_ild aX12_held_91 (sR_1 hsh) h182 ?_
        refine g_dup2 aX12_held_92 ?_
        obtain ⟨h183, hE⟩ := i_ifn hE
        refine g_ild aX12_held_93 (sR_31 hsh) h183 ?_
        refine g_iconst (x := 1) aX12_held_94 rfl ?_
        refine g_iadd aX12_held_95 ?_
        obtain ⟨h184, hE⟩ := i_ifn hE
        refine g_ist aX12_held_96 (sR_31 hsh) h184 ?_
        obtain ⟨s185, h186, hE⟩ := i_jp_some hE
        rw [← h186]
        exact tX12_held_J97 hsh ih hE
set_option maxRecDepth 20000 in
set_option maxHeartbeats 2000000 in
theorem tX12_held_L112 {sh : List kd} {τ : St} {r : Int32} (hsh : rmSh sh) {p1 : Int32} {p2 : Int32} {s188 : St} {k150 : Int32 → Int32 → Option (Int32 × St)} (hk150 : ∀ (x242 : Int32) (x243 : Int32), k150 x242 x243 = some (r, τ) → g_R sh 7 mX12_held (some (.int r)) τ 150 [.ref 0, .int p1, .int p2, .int x242, .int x243] [] (s188)) : ∀ (n0 : Nat) (x190 : Int32) (x191 : Int32), fX12_held_L112 sh p1 p2 s188 k150 n0 x190 x191 = some (r, τ) → g_R sh 7 mX12_held (some (.int r)) τ 112 [.ref 0, .int p1, .int p2, .int x190, .int x191] [] (s188) := by
  intro n0
  induction n0 with
  | zero => intro _ _ hE; cases hE
  | succ n244 ih =>
    intro x190 x191 hE
    unfold fX12_held_L112 at hE
    refine g_ldi aX12_held_112 rfl ?_
    refine g_ldan aX12_held_114 rfl ?_
    refine g_getR aX12_held_115 (sR_0 hsh) rfl ?_
    refine g_iconst (x := 2) aX12_held_118 rfl ?_
    obtain ⟨h245, hE⟩ := i_ifn hE
    refine g_ild aX12_held_119 (sR_1 hsh) h245 ?_
    by_cases hc246 : (s188.2.1 1 (2 : Int32).toNatClampNeg) ≤ x191
    · rw [if_pos hc246] at hE
      refine g_ic_ge_t aX12_held_120 hc246 ?_
      exact hk150 _ _ hE
    · rw [if_neg hc246] at hE
      refine g_ic_ge_f aX12_held_120 hc246 ?_
      refine g_ldin aX12_held_123 rfl ?_
      refine g_ldan aX12_held_124 rfl ?_
      refine g_getR aX12_held_125 (sR_0 hsh) rfl ?_
      refine g_ldi aX12_held_128 rfl ?_
      obtain ⟨h247, hE⟩ := i_ifn hE
      refine g_ild aX12_held_130 (sR_31 hsh) h247 ?_
      have hJ : g_R sh 7 mX12_held (some (.int r)) τ 142 [.ref 0, .int p1, .int p2, .int x190, .int x191] [.int ((if ¬ (s188.2.1 31 x191.toNatClampNeg) = 0 then 0 else (1 <<< (x191 &&& 31))) : Int32), .int x190] (s188) := by
        refine g_ior aX12_held_142 ?_
        refine g_stin (loc2 := [.ref 0, .int p1, .int p2, .int (x190 ||| ((if ¬ (s188.2.1 31 x191.toNatClampNeg) = 0 then 0 else (1 <<< (x191 &&& 31))) : Int32)), .int x191]) aX12_held_143 (Nat.le_of_ble_eq_true rfl) rfl ?_
        refine g_iinc (y := 1) (loc2 := [.ref 0, .int p1, .int p2, .int (x190 ||| ((if ¬ (s188.2.1 31 x191.toNatClampNeg) = 0 then 0 else (1 <<< (x191 &&& 31))) : Int32)), .int (x191 + 1)]) aX12_held_144 rfl rfl rfl ?_
        refine g_goto aX12_held_147 ?_
        exact ih _ _ hE
      clear hE
      by_cases hc247 : ¬ (s188.2.1 31 x191.toNatClampNeg) = 0
      · (try rw [if_pos hc247] at hJ)
        refine g_if_ne_t aX12_held_131 hc247 ?_
        refine g_iconst (x := 0) aX12_held_141 rfl ?_
        exact hJ
      · (try rw [if_neg hc247] at hJ)
        refine g_if_ne_f aX12_held_131 hc247 ?_
        refine g_iconst (x := 1) aX12_held_134 rfl ?_
        refine g_ldi aX12_held_135 rfl ?_
        refine g_ishl aX12_held_137 ?_
        refine g_goto aX12_held_138 ?_
        exact hJ
set_option maxRecDepth 20000 in
set_option maxHeartbeats 2000000 in
theorem tX12_held_J166 {sh : List kd} {τ : St} {r : Int32} (hsh : rmSh sh) {p1 : Int32} {p2 : Int32} {s188 : St} {x242 : Int32} {x243 : Int32} {x299 : Int32} (hE : fX12_held_J166 sh p1 p2 s188 x242 x243 x299 = some (r, τ)) : g_R sh 7 mX12_held (some (.int r)) τ 166 [.ref 0, .int p1, .int p2, .int x242, .int x243] [.int x299] (s188) := by
  unfold fX12_held_J166 at hE
  obtain ⟨rfl, rfl⟩ := i_some_inj hE
  exact g_iret aX12_held_166 rfl rfl
set_option maxRecDepth 20000 in
set_option maxHeartbeats 2000000 in
theorem tX12_held_X150 {sh : List kd} {τ : St} {r : Int32} (hsh : rmSh sh) {p1 : Int32} {p2 : Int32} {s188 : St} {x242 : Int32} {x243 : Int32} (hE : fX12_held_X150 sh p1 p2 s188 x242 x243 = some (r, τ)) : g_R sh 7 mX12_held (some (.int r)) τ 150 [.ref 0, .int p1, .int p2, .int x242, .int x243] [] (s188) := by
  unfold fX12_held_X150 at hE
  refine g_ldin aX12_held_150 rfl ?_
  refine g_bipush (x := 6) aX12_held_151 rfl ?_
  by_cases hc300 : ¬ p2 = 6
  · rw [if_pos hc300] at hE
    refine g_ic_ne_t aX12_held_153 hc300 ?_
    refine g_ldan aX12_held_160 rfl ?_
    refine g_getR aX12_held_161 (sR_0 hsh) rfl ?_
    refine g_ldin aX12_held_164 rfl ?_
    obtain ⟨h301, hE⟩ := i_ifn hE
    refine g_ild aX12_held_165 (sR_31 hsh) h301 ?_
    exact tX12_held_J166 hsh hE
  · rw [if_neg hc300] at hE
    refine g_ic_ne_f aX12_held_153 hc300 ?_
    refine g_ldin aX12_held_156 rfl ?_
    refine g_goto aX12_held_157 ?_
    exact tX12_held_J166 hsh hE
set_option maxRecDepth 20000 in
set_option maxHeartbeats 2000000 in
theorem tX12_held_X103 {sh : List kd} {τ : St} {r : Int32} (hsh : rmSh sh) {p1 : Int32} {p2 : Int32} {x122 : Int32} {s123 : St} (hE : fX12_held_X103 sh p1 p2 x122 s123 = some (r, τ)) : g_R sh 7 mX12_held (some (.int r)) τ 103 [.ref 0, .int p1, .int p2, .int x122, .retAddr 0] [] (s123) := by
  unfold fX12_held_X103 at hE
  refine g_ldan aX12_held_103 rfl ?_
  obtain ⟨r187, s188, h189, hE⟩ := i_bd_some hE
  refine g_calV (As := []) (rest := []) aX12_held_104 (i_X_mono (by omega) (tX12_laysBack hsh h189)) (sR_0 hsh) (by decide +kernel) rfl rfl (Nat.le_of_ble_eq_true rfl) rfl ?_
  refine g_iconst (x := 0) aX12_held_107 rfl ?_
  refine g_stin (loc2 := [.ref 0, .int p1, .int p2, .int 0, .retAddr 0]) aX12_held_108 (Nat.le_of_ble_eq_true rfl) rfl ?_
  refine g_iconst (x := 0) aX12_held_109 rfl ?_
  refine g_sti (loc2 := [.ref 0, .int p1, .int p2, .int 0, .int 0]) aX12_held_110 (Nat.le_of_ble_eq_true rfl) rfl ?_
  exact tX12_held_L112 hsh (fun x242 x243 hE => tX12_held_X150 hsh hE) i_F _ _ hE
set_option maxRecDepth 20000 in
set_option maxHeartbeats 2000000 in
theorem tX12_held_X56 {sh : List kd} {τ : St} {r : Int32} (hsh : rmSh sh) {p1 : Int32} {p2 : Int32} {x62 : Int32} {s63 : St} (hE : fX12_held_X56 sh p1 p2 x62 s63 = some (r, τ)) : g_R sh 7 mX12_held (some (.int r)) τ 56 [.ref 0, .int p1, .int p2, .int x62, .retAddr 0] [] (s63) := by
  unfold fX12_held_X56 at hE
  refine g_ldan aX12_held_56 rfl ?_
  obtain ⟨r67, s68, h69, hE⟩ := i_bd_some hE
  refine g_calV (As := []) (rest := []) aX12_held_57 (i_X_mono (by omega) (tX12_keepsAll hsh h69)) (sR_0 hsh) (by decide +kernel) rfl rfl (Nat.le_of_ble_eq_true rfl) rfl ?_
  refine g_iconst (x := 0) aX12_held_60 rfl ?_
  refine g_stin (loc2 := [.ref 0, .int p1, .int p2, .int 0, .retAddr 0]) aX12_held_61 (Nat.le_of_ble_eq_true rfl) rfl ?_
  exact tX12_held_L62 hsh (fun x122 s123 hE => tX12_held_X103 hsh hE) i_F _ _ hE
set_option maxRecDepth 20000 in
set_option maxHeartbeats 2000000 in
theorem tX12_held_L37_307 {sh : List kd} {τ : St} {r : Int32} (hsh : rmSh sh) {p1 : Int32} {p2 : Int32} {k56 : Int32 → St → Option (Int32 × St)} (hk56 : ∀ (x358 : Int32) (s359 : St), k56 x358 s359 = some (r, τ) → g_R sh 7 mX12_held (some (.int r)) τ 56 [.ref 0, .int p1, .int p2, .int x358, .retAddr 0] [] (s359)) : ∀ (n0 : Nat) (x306 : Int32) (s307 : St), fX12_held_L37_307 sh p1 p2 k56 n0 x306 s307 = some (r, τ) → g_R sh 7 mX12_held (some (.int r)) τ 37 [.ref 0, .int p1, .int p2, .int x306, .retAddr 0] [] (s307) := by
  intro n0
  induction n0 with
  | zero => intro _ _ hE; cases hE
  | succ n360 ih =>
    intro x306 s307 hE
    unfold fX12_held_L37_307 at hE
    refine g_ldin aX12_held_37 rfl ?_
    refine g_bipush (x := 6) aX12_held_38 rfl ?_
    by_cases hc361 : 6 ≤ x306
    · rw [if_pos hc361] at hE
      refine g_ic_ge_t aX12_held_40 hc361 ?_
      exact hk56 _ _ hE
    · rw [if_neg hc361] at hE
      refine g_ic_ge_f aX12_held_40 hc361 ?_
      refine g_ldan aX12_held_43 rfl ?_
      refine g_getR aX12_held_44 (sR_0 hsh) rfl ?_
      refine g_ldin aX12_held_47 rfl ?_
      refine g_iconst (x := 0) aX12_held_48 rfl ?_
      obtain ⟨h362, hE⟩ := i_ifn hE
      refine g_ist aX12_held_49 (sR_31 hsh) h362 ?_
      refine g_iinc (y := 1) (loc2 := [.ref 0, .int p1, .int p2, .int (x306 + 1), .retAddr 0]) aX12_held_50 rfl rfl rfl ?_
      refine g_goto aX12_held_53 ?_
      exact ih _ _ hE
set_option maxRecDepth 20000 in
set_option maxHeartbeats 2000000 in
theorem tX12_held_J97_476 {sh : List kd} {τ : St} {r : Int32} (hsh : rmSh sh) {p1 : Int32} {p2 : Int32} {x366 : Int32} {s476 : St} {k62 : Int32 → St → Option (Int32 × St)} (hk62 : ∀ (x366 : Int32) (s367 : St), k62 x366 s367 = some (r, τ) → g_R sh 7 mX12_held (some (.int r)) τ 62 [.ref 0, .int p1, .int p2, .int x366, .retAddr 0] [] (s367)) (hE : fX12_held_J97_476 sh p1 p2 x366 k62 s476 = some (r, τ)) : g_R sh 7 mX12_held (some (.int r)) τ 97 [.ref 0, .int p1, .int p2, .int x366, .retAddr 0] [] (s476) := by
  unfold fX12_held_J97_476 at hE
  refine g_iinc (y := 1) (loc2 := [.ref 0, .int p1, .int p2, .int (x366 + 1), .retAddr 0]) aX12_held_97 rfl rfl rfl ?_
  refine g_goto aX12_held_100 ?_
  exact hk62 _ _ hE
set_option maxRecDepth 20000 in
set_option maxHeartbeats 2000000 in
theorem tX12_held_L62_367 {sh : List kd} {τ : St} {r : Int32} (hsh : rmSh sh) {p1 : Int32} {p2 : Int32} {k103 : Int32 → St → Option (Int32 × St)} (hk103 : ∀ (x418 : Int32) (s419 : St), k103 x418 s419 = some (r, τ) → g_R sh 7 mX12_held (some (.int r)) τ 103 [.ref 0, .int p1, .int p2, .int x418, .retAddr 0] [] (s419)) : ∀ (n0 : Nat) (x366 : Int32) (s367 : St), fX12_held_L62_367 sh p1 p2 k103 n0 x366 s367 = some (r, τ) → g_R sh 7 mX12_held (some (.int r)) τ 62 [.ref 0, .int p1, .int p2, .int x366, .retAddr 0] [] (s367) := by
  intro n0
  induction n0 with
  | zero => intro _ _ hE; cases hE
  | succ n420 ih =>
    intro x366 s367 hE
    unfold fX12_held_L62_367 at hE
    refine g_ldin aX12_held_62 rfl ?_
    refine g_ldin aX12_held_63 rfl ?_
    by_cases hc421 : p1 ≤ x366
    · rw [if_pos hc421] at hE
      refine g_ic_ge_t aX12_held_64 hc421 ?_
      exact hk103 _ _ hE
    · rw [if_neg hc421] at hE
      refine g_ic_ge_f aX12_held_64 hc421 ?_
      refine g_ldan aX12_held_67 rfl ?_
      obtain ⟨r422, s423, h424, hE⟩ := i_bd_some hE
      refine g_calV (As := []) (rest := []) aX12_held_68 (i_X_mono (by omega) (tX12_goes hsh h424)) (sR_0 hsh) (by decide +kernel) rfl rfl (Nat.le_of_ble_eq_true rfl) rfl ?_
      refine g_popi aX12_held_71 ?_
      refine g_ldan aX12_held_72 rfl ?_
      refine g_getR aX12_held_73 (sR_0 hsh) rfl ?_
      refine g_iconst (x := 5) aX12_held_76 rfl ?_
      obtain ⟨h425, hE⟩ := i_ifn hE
      refine g_ild aX12_held_77 (sR_1 hsh) h425 ?_
      refine g_iconst (x := (-1)) aX12_held_78 rfl ?_
      by_cases hc477 : (s423.2.1 1 (5 : Int32).toNatClampNeg) = (-1)
      · rw [if_pos hc477] at hE
        refine g_ic_eq_t aX12_held_79 hc477 ?_
        exact tX12_held_J97_476 hsh ih hE
      · rw [if_neg hc477] at hE
        refine g_ic_eq_f aX12_held_79 hc477 ?_
        refine g_ldan aX12_held_82 rfl ?_
        refine g_getR aX12_held_83 (sR_0 hsh) rfl ?_
        refine g_ldan aX12_held_86 rfl ?_
        refine g_getR aX12_held_87 (sR_0 hsh) rfl ?_
        refine g_iconst (x := 5) aX12_held_90 rfl ?_
        obtain ⟨h478, hE⟩ := i_ifn hE
        refine g_ild aX12_held_91 (sR_1 hsh) h478 ?_
        refine g_dup2 aX12_held_92 ?_
        obtain ⟨h479, hE⟩ := i_ifn hE
        refine g_ild aX12_held_93 (sR_31 hsh) h479 ?_
        refine g_iconst (x := 1) aX12_held_94 rfl ?_
        refine g_iadd aX12_held_95 ?_
        obtain ⟨h480, hE⟩ := i_ifn hE
        refine g_ist aX12_held_96 (sR_31 hsh) h480 ?_
        obtain ⟨s481, h482, hE⟩ := i_jp_some hE
        rw [← h482]
        exact tX12_held_J97_476 hsh ih hE
set_option maxRecDepth 20000 in
set_option maxHeartbeats 2000000 in
theorem tX12_held_L112_487 {sh : List kd} {τ : St} {r : Int32} (hsh : rmSh sh) {p1 : Int32} {p2 : Int32} {s484 : St} {k150 : Int32 → Int32 → Option (Int32 × St)} (hk150 : ∀ (x538 : Int32) (x539 : Int32), k150 x538 x539 = some (r, τ) → g_R sh 7 mX12_held (some (.int r)) τ 150 [.ref 0, .int p1, .int p2, .int x538, .int x539] [] (s484)) : ∀ (n0 : Nat) (x486 : Int32) (x487 : Int32), fX12_held_L112_487 sh p1 p2 s484 k150 n0 x486 x487 = some (r, τ) → g_R sh 7 mX12_held (some (.int r)) τ 112 [.ref 0, .int p1, .int p2, .int x486, .int x487] [] (s484) := by
  intro n0
  induction n0 with
  | zero => intro _ _ hE; cases hE
  | succ n540 ih =>
    intro x486 x487 hE
    unfold fX12_held_L112_487 at hE
    refine g_ldi aX12_held_112 rfl ?_
    refine g_ldan aX12_held_114 rfl ?_
    refine g_getR aX12_held_115 (sR_0 hsh) rfl ?_
    refine g_iconst (x := 2) aX12_held_118 rfl ?_
    obtain ⟨h541, hE⟩ := i_ifn hE
    refine g_ild aX12_held_119 (sR_1 hsh) h541 ?_
    by_cases hc542 : (s484.2.1 1 (2 : Int32).toNatClampNeg) ≤ x487
    · rw [if_pos hc542] at hE
      refine g_ic_ge_t aX12_held_120 hc542 ?_
      exact hk150 _ _ hE
    · rw [if_neg hc542] at hE
      refine g_ic_ge_f aX12_held_120 hc542 ?_
      refine g_ldin aX12_held_123 rfl ?_
      refine g_ldan aX12_held_124 rfl ?_
      refine g_getR aX12_held_125 (sR_0 hsh) rfl ?_
      refine g_ldi aX12_held_128 rfl ?_
      obtain ⟨h543, hE⟩ := i_ifn hE
      refine g_ild aX12_held_130 (sR_31 hsh) h543 ?_
      have hJ : g_R sh 7 mX12_held (some (.int r)) τ 142 [.ref 0, .int p1, .int p2, .int x486, .int x487] [.int ((if ¬ (s484.2.1 31 x487.toNatClampNeg) = 0 then 0 else (1 <<< (x487 &&& 31))) : Int32), .int x486] (s484) := by
        refine g_ior aX12_held_142 ?_
        refine g_stin (loc2 := [.ref 0, .int p1, .int p2, .int (x486 ||| ((if ¬ (s484.2.1 31 x487.toNatClampNeg) = 0 then 0 else (1 <<< (x487 &&& 31))) : Int32)), .int x487]) aX12_held_143 (Nat.le_of_ble_eq_true rfl) rfl ?_
        refine g_iinc (y := 1) (loc2 := [.ref 0, .int p1, .int p2, .int (x486 ||| ((if ¬ (s484.2.1 31 x487.toNatClampNeg) = 0 then 0 else (1 <<< (x487 &&& 31))) : Int32)), .int (x487 + 1)]) aX12_held_144 rfl rfl rfl ?_
        refine g_goto aX12_held_147 ?_
        exact ih _ _ hE
      clear hE
      by_cases hc543 : ¬ (s484.2.1 31 x487.toNatClampNeg) = 0
      · (try rw [if_pos hc543] at hJ)
        refine g_if_ne_t aX12_held_131 hc543 ?_
        refine g_iconst (x := 0) aX12_held_141 rfl ?_
        exact hJ
      · (try rw [if_neg hc543] at hJ)
        refine g_if_ne_f aX12_held_131 hc543 ?_
        refine g_iconst (x := 1) aX12_held_134 rfl ?_
        refine g_ldi aX12_held_135 rfl ?_
        refine g_ishl aX12_held_137 ?_
        refine g_goto aX12_held_138 ?_
        exact hJ
set_option maxRecDepth 20000 in
set_option maxHeartbeats 2000000 in
theorem tX12_held_J166_595 {sh : List kd} {τ : St} {r : Int32} (hsh : rmSh sh) {p1 : Int32} {p2 : Int32} {s484 : St} {x538 : Int32} {x539 : Int32} {x595 : Int32} (hE : fX12_held_J166_595 sh p1 p2 s484 x538 x539 x595 = some (r, τ)) : g_R sh 7 mX12_held (some (.int r)) τ 166 [.ref 0, .int p1, .int p2, .int x538, .int x539] [.int x595] (s484) := by
  unfold fX12_held_J166_595 at hE
  obtain ⟨rfl, rfl⟩ := i_some_inj hE
  exact g_iret aX12_held_166 rfl rfl
set_option maxRecDepth 20000 in
set_option maxHeartbeats 2000000 in
theorem tX12_held_X150_544 {sh : List kd} {τ : St} {r : Int32} (hsh : rmSh sh) {p1 : Int32} {p2 : Int32} {s484 : St} {x538 : Int32} {x539 : Int32} (hE : fX12_held_X150_544 sh p1 p2 s484 x538 x539 = some (r, τ)) : g_R sh 7 mX12_held (some (.int r)) τ 150 [.ref 0, .int p1, .int p2, .int x538, .int x539] [] (s484) := by
  unfold fX12_held_X150_544 at hE
  refine g_ldin aX12_held_150 rfl ?_
  refine g_bipush (x := 6) aX12_held_151 rfl ?_
  by_cases hc596 : ¬ p2 = 6
  · rw [if_pos hc596] at hE
    refine g_ic_ne_t aX12_held_153 hc596 ?_
    refine g_ldan aX12_held_160 rfl ?_
    refine g_getR aX12_held_161 (sR_0 hsh) rfl ?_
    refine g_ldin aX12_held_164 rfl ?_
    obtain ⟨h597, hE⟩ := i_ifn hE
    refine g_ild aX12_held_165 (sR_31 hsh) h597 ?_
    exact tX12_held_J166_595 hsh hE
  · rw [if_neg hc596] at hE
    refine g_ic_ne_f aX12_held_153 hc596 ?_
    refine g_ldin aX12_held_156 rfl ?_
    refine g_goto aX12_held_157 ?_
    exact tX12_held_J166_595 hsh hE
set_option maxRecDepth 20000 in
set_option maxHeartbeats 2000000 in
theorem tX12_held_X103_482 {sh : List kd} {τ : St} {r : Int32} (hsh : rmSh sh) {p1 : Int32} {p2 : Int32} {x418 : Int32} {s419 : St} (hE : fX12_held_X103_482 sh p1 p2 x418 s419 = some (r, τ)) : g_R sh 7 mX12_held (some (.int r)) τ 103 [.ref 0, .int p1, .int p2, .int x418, .retAddr 0] [] (s419) := by
  unfold fX12_held_X103_482 at hE
  refine g_ldan aX12_held_103 rfl ?_
  obtain ⟨r483, s484, h485, hE⟩ := i_bd_some hE
  refine g_calV (As := []) (rest := []) aX12_held_104 (i_X_mono (by omega) (tX12_laysBack hsh h485)) (sR_0 hsh) (by decide +kernel) rfl rfl (Nat.le_of_ble_eq_true rfl) rfl ?_
  refine g_iconst (x := 0) aX12_held_107 rfl ?_
  refine g_stin (loc2 := [.ref 0, .int p1, .int p2, .int 0, .retAddr 0]) aX12_held_108 (Nat.le_of_ble_eq_true rfl) rfl ?_
  refine g_iconst (x := 0) aX12_held_109 rfl ?_
  refine g_sti (loc2 := [.ref 0, .int p1, .int p2, .int 0, .int 0]) aX12_held_110 (Nat.le_of_ble_eq_true rfl) rfl ?_
  exact tX12_held_L112_487 hsh (fun x538 x539 hE => tX12_held_X150_544 hsh hE) i_F _ _ hE
set_option maxRecDepth 20000 in
set_option maxHeartbeats 2000000 in
theorem tX12_held_X56_362 {sh : List kd} {τ : St} {r : Int32} (hsh : rmSh sh) {p1 : Int32} {p2 : Int32} {x358 : Int32} {s359 : St} (hE : fX12_held_X56_362 sh p1 p2 x358 s359 = some (r, τ)) : g_R sh 7 mX12_held (some (.int r)) τ 56 [.ref 0, .int p1, .int p2, .int x358, .retAddr 0] [] (s359) := by
  unfold fX12_held_X56_362 at hE
  refine g_ldan aX12_held_56 rfl ?_
  obtain ⟨r363, s364, h365, hE⟩ := i_bd_some hE
  refine g_calV (As := []) (rest := []) aX12_held_57 (i_X_mono (by omega) (tX12_keepsAll hsh h365)) (sR_0 hsh) (by decide +kernel) rfl rfl (Nat.le_of_ble_eq_true rfl) rfl ?_
  refine g_iconst (x := 0) aX12_held_60 rfl ?_
  refine g_stin (loc2 := [.ref 0, .int p1, .int p2, .int 0, .retAddr 0]) aX12_held_61 (Nat.le_of_ble_eq_true rfl) rfl ?_
  exact tX12_held_L62_367 hsh (fun x418 s419 hE => tX12_held_X103_482 hsh hE) i_F _ _ hE
set_option maxRecDepth 20000 in
set_option maxHeartbeats 2000000 in
theorem tX12_held {sh : List kd} {σ τ : St} {r : Int32} (hsh : rmSh sh) {p1 : Int32} {p2 : Int32} (hE : fX12_held sh σ p1 p2 = some (r, τ)) : i_X 8 204 [.ref 0, .int p1, .int p2] (s_h sh σ) 0 0 (some (.int r)) (s_h sh τ) := by
  refine g_X (M := mX12_held) (loc := [.ref 0, .int p1, .int p2, .retAddr 0, .retAddr 0]) rfl (Nat.le_of_ble_eq_true rfl) rfl ?_
  unfold fX12_held at hE
  refine g_ldan aX12_held_0 rfl ?_
  obtain ⟨r1, s2, h3, hE⟩ := i_bd_some hE
  refine g_calV (As := []) (rest := []) aX12_held_1 (i_X_mono (by omega) (tX12_isCourt hsh h3)) (sR_0 hsh) (by decide +kernel) rfl rfl (Nat.le_of_ble_eq_true rfl) rfl ?_
  by_cases hc4 : r1 = 0
  · rw [if_pos hc4] at hE
    refine g_if_eq_t aX12_held_4 hc4 ?_
    refine g_iconst (x := (-1)) aX12_held_33 rfl ?_
    obtain ⟨rfl, rfl⟩ := i_some_inj hE
    exact g_iret aX12_held_34 rfl rfl
  · rw [if_neg hc4] at hE
    refine g_if_eq_f aX12_held_4 hc4 ?_
    refine g_ldin aX12_held_7 rfl ?_
    refine g_i2l aX12_held_8 ?_
    refine g_lconst (x := 1) aX12_held_9 rfl ?_
    refine g_ldc2 (x := 100) aX12_held_10 rfl ?_
    obtain ⟨r5, s6, h7, hE⟩ := i_bd_some hE
    refine g_calS (As := [.long p1.toInt64, .long 1, .long 100]) (rest := []) aX12_held_13 (i_X_mono (by omega) (tX12_in hsh h7)) rfl rfl (Nat.le_of_ble_eq_true rfl) rfl ?_
    by_cases hc8 : r5 = 0
    · rw [if_pos hc8] at hE
      refine g_if_eq_t aX12_held_16 hc8 ?_
      refine g_iconst (x := (-1)) aX12_held_33 rfl ?_
      obtain ⟨rfl, rfl⟩ := i_some_inj hE
      exact g_iret aX12_held_34 rfl rfl
    · rw [if_neg hc8] at hE
      refine g_if_eq_f aX12_held_16 hc8 ?_
      refine g_ldin aX12_held_19 rfl ?_
      refine g_bipush (x := 6) aX12_held_20 rfl ?_
      by_cases hc9 : p2 = 6
      · rw [if_pos hc9] at hE
        refine g_ic_eq_t aX12_held_22 hc9 ?_
        refine g_iconst (x := 0) aX12_held_35 rfl ?_
        refine g_stin (loc2 := [.ref 0, .int p1, .int p2, .int 0, .retAddr 0]) aX12_held_36 (Nat.le_of_ble_eq_true rfl) rfl ?_
        exact tX12_held_L37 hsh (fun x62 s63 hE => tX12_held_X56 hsh hE) i_F _ _ hE
      · rw [if_neg hc9] at hE
        refine g_ic_eq_f aX12_held_22 hc9 ?_
        refine g_ldan aX12_held_25 rfl ?_
        refine g_ldin aX12_held_26 rfl ?_
        obtain ⟨r302, s303, h304, hE⟩ := i_bd_some hE
        refine g_calV (As := [.int p2]) (rest := []) aX12_held_27 (i_X_mono (by omega) (tX12_isThing hsh h304)) (sR_0 hsh) (by decide +kernel) rfl rfl (Nat.le_of_ble_eq_true rfl) rfl ?_
        by_cases hc305 : ¬ r302 = 0
        · rw [if_pos hc305] at hE
          refine g_if_ne_t aX12_held_30 hc305 ?_
          refine g_iconst (x := 0) aX12_held_35 rfl ?_
          refine g_stin (loc2 := [.ref 0, .int p1, .int p2, .int 0, .retAddr 0]) aX12_held_36 (Nat.le_of_ble_eq_true rfl) rfl ?_
          exact tX12_held_L37_307 hsh (fun x358 s359 hE => tX12_held_X56_362 hsh hE) i_F _ _ hE
        · rw [if_neg hc305] at hE
          refine g_if_ne_f aX12_held_30 hc305 ?_
          refine g_iconst (x := (-1)) aX12_held_33 rfl ?_
          obtain ⟨rfl, rfl⟩ := i_some_inj hE
          exact g_iret aX12_held_34 rfl rfl
theorem aX12_laysDeeds_0 : i_at mX12_laysDeeds.2.2.2.2.2 0 = some (.aload_n 0, 1, 0, 0, 0, 0) := by decide +kernel
theorem aX12_laysDeeds_1 : i_at mX12_laysDeeds.2.2.2.2.2 1 = some (.invokevirtual 410, 3, 196, 0, 1545, 0) := by decide +kernel
theorem aX12_laysDeeds_4 : i_at mX12_laysDeeds.2.2.2.2.2 4 = some (.iconst 0, 1, 0, 0, 0, 0) := by decide +kernel
theorem aX12_laysDeeds_5 : i_at mX12_laysDeeds.2.2.2.2.2 5 = some (.istore 4, 2, 0, 0, 0, 0) := by decide +kernel
theorem aX12_laysDeeds_7 : i_at mX12_laysDeeds.2.2.2.2.2 7 = some (.iload 4, 2, 0, 0, 0, 0) := by decide +kernel
theorem aX12_laysDeeds_9 : i_at mX12_laysDeeds.2.2.2.2.2 9 = some (.bipush 25, 2, 0, 0, 0, 0) := by decide +kernel
theorem aX12_laysDeeds_11 : i_at mX12_laysDeeds.2.2.2.2.2 11 = some (.if_icmp .ge 104, 3, 115, 0, 0, 0) := by decide +kernel
theorem aX12_laysDeeds_14 : i_at mX12_laysDeeds.2.2.2.2.2 14 = some (.aload_n 0, 1, 0, 0, 0, 0) := by decide +kernel
theorem aX12_laysDeeds_15 : i_at mX12_laysDeeds.2.2.2.2.2 15 = some (.getfield 25, 3, 11, 6, 1093, 0) := by decide +kernel
theorem aX12_laysDeeds_18 : i_at mX12_laysDeeds.2.2.2.2.2 18 = some (.iload_n 1, 1, 0, 0, 0, 0) := by decide +kernel
theorem aX12_laysDeeds_19 : i_at mX12_laysDeeds.2.2.2.2.2 19 = some (.aload_n 0, 1, 0, 0, 0, 0) := by decide +kernel
theorem aX12_laysDeeds_20 : i_at mX12_laysDeeds.2.2.2.2.2 20 = some (.getfield 25, 3, 11, 6, 1093, 0) := by decide +kernel
theorem aX12_laysDeeds_23 : i_at mX12_laysDeeds.2.2.2.2.2 23 = some (.iload_n 1, 1, 0, 0, 0, 0) := by decide +kernel
theorem aX12_laysDeeds_24 : i_at mX12_laysDeeds.2.2.2.2.2 24 = some (.iaload, 1, 0, 0, 0, 0) := by decide +kernel
theorem aX12_laysDeeds_25 : i_at mX12_laysDeeds.2.2.2.2.2 25 = some (.bipush 10, 2, 0, 0, 0, 0) := by decide +kernel
theorem aX12_laysDeeds_27 : i_at mX12_laysDeeds.2.2.2.2.2 27 = some (.iload 4, 2, 0, 0, 0, 0) := by decide +kernel
theorem aX12_laysDeeds_29 : i_at mX12_laysDeeds.2.2.2.2.2 29 = some (.iconst 5, 1, 0, 0, 0, 0) := by decide +kernel
theorem aX12_laysDeeds_30 : i_at mX12_laysDeeds.2.2.2.2.2 30 = some (.idiv, 1, 0, 0, 0, 0) := by decide +kernel
theorem aX12_laysDeeds_31 : i_at mX12_laysDeeds.2.2.2.2.2 31 = some (.imul, 1, 0, 0, 0, 0) := by decide +kernel
theorem aX12_laysDeeds_32 : i_at mX12_laysDeeds.2.2.2.2.2 32 = some (.iadd, 1, 0, 0, 0, 0) := by decide +kernel
theorem aX12_laysDeeds_33 : i_at mX12_laysDeeds.2.2.2.2.2 33 = some (.sipush 999, 3, 0, 0, 0, 0) := by decide +kernel
theorem aX12_laysDeeds_36 : i_at mX12_laysDeeds.2.2.2.2.2 36 = some (.invokestatic 372, 3, 182, 2, 1514, 0) := by decide +kernel
theorem aX12_laysDeeds_39 : i_at mX12_laysDeeds.2.2.2.2.2 39 = some (.iastore, 1, 0, 0, 0, 0) := by decide +kernel
theorem aX12_laysDeeds_40 : i_at mX12_laysDeeds.2.2.2.2.2 40 = some (.aload_n 0, 1, 0, 0, 0, 0) := by decide +kernel
theorem aX12_laysDeeds_41 : i_at mX12_laysDeeds.2.2.2.2.2 41 = some (.getfield 25, 3, 11, 6, 1093, 0) := by decide +kernel
theorem aX12_laysDeeds_44 : i_at mX12_laysDeeds.2.2.2.2.2 44 = some (.iload_n 2, 1, 0, 0, 0, 0) := by decide +kernel
theorem aX12_laysDeeds_45 : i_at mX12_laysDeeds.2.2.2.2.2 45 = some (.aload_n 0, 1, 0, 0, 0, 0) := by decide +kernel
theorem aX12_laysDeeds_46 : i_at mX12_laysDeeds.2.2.2.2.2 46 = some (.getfield 25, 3, 11, 6, 1093, 0) := by decide +kernel
theorem aX12_laysDeeds_49 : i_at mX12_laysDeeds.2.2.2.2.2 49 = some (.iload_n 2, 1, 0, 0, 0, 0) := by decide +kernel
theorem aX12_laysDeeds_50 : i_at mX12_laysDeeds.2.2.2.2.2 50 = some (.iaload, 1, 0, 0, 0, 0) := by decide +kernel
theorem aX12_laysDeeds_51 : i_at mX12_laysDeeds.2.2.2.2.2 51 = some (.bipush 10, 2, 0, 0, 0, 0) := by decide +kernel
theorem aX12_laysDeeds_53 : i_at mX12_laysDeeds.2.2.2.2.2 53 = some (.iload 4, 2, 0, 0, 0, 0) := by decide +kernel
theorem aX12_laysDeeds_55 : i_at mX12_laysDeeds.2.2.2.2.2 55 = some (.iconst 5, 1, 0, 0, 0, 0) := by decide +kernel
theorem aX12_laysDeeds_56 : i_at mX12_laysDeeds.2.2.2.2.2 56 = some (.irem, 1, 0, 0, 0, 0) := by decide +kernel
theorem aX12_laysDeeds_57 : i_at mX12_laysDeeds.2.2.2.2.2 57 = some (.imul, 1, 0, 0, 0, 0) := by decide +kernel
theorem aX12_laysDeeds_58 : i_at mX12_laysDeeds.2.2.2.2.2 58 = some (.iadd, 1, 0, 0, 0, 0) := by decide +kernel
theorem aX12_laysDeeds_59 : i_at mX12_laysDeeds.2.2.2.2.2 59 = some (.sipush 999, 3, 0, 0, 0, 0) := by decide +kernel
theorem aX12_laysDeeds_62 : i_at mX12_laysDeeds.2.2.2.2.2 62 = some (.invokestatic 372, 3, 182, 2, 1514, 0) := by decide +kernel
theorem aX12_laysDeeds_65 : i_at mX12_laysDeeds.2.2.2.2.2 65 = some (.iastore, 1, 0, 0, 0, 0) := by decide +kernel
theorem aX12_laysDeeds_66 : i_at mX12_laysDeeds.2.2.2.2.2 66 = some (.aload_n 0, 1, 0, 0, 0, 0) := by decide +kernel
theorem aX12_laysDeeds_67 : i_at mX12_laysDeeds.2.2.2.2.2 67 = some (.iload_n 3, 1, 0, 0, 0, 0) := by decide +kernel
theorem aX12_laysDeeds_68 : i_at mX12_laysDeeds.2.2.2.2.2 68 = some (.invokevirtual 413, 3, 184, 1, 1557, 0) := by decide +kernel
theorem aX12_laysDeeds_71 : i_at mX12_laysDeeds.2.2.2.2.2 71 = some (.aload_n 0, 1, 0, 0, 0, 0) := by decide +kernel
theorem aX12_laysDeeds_72 : i_at mX12_laysDeeds.2.2.2.2.2 72 = some (.getfield 109, 3, 11, 45, 1132, 0) := by decide +kernel
theorem aX12_laysDeeds_75 : i_at mX12_laysDeeds.2.2.2.2.2 75 = some (.iload 4, 2, 0, 0, 0, 0) := by decide +kernel
theorem aX12_laysDeeds_77 : i_at mX12_laysDeeds.2.2.2.2.2 77 = some (.aload_n 0, 1, 0, 0, 0, 0) := by decide +kernel
theorem aX12_laysDeeds_78 : i_at mX12_laysDeeds.2.2.2.2.2 78 = some (.iload_n 1, 1, 0, 0, 0, 0) := by decide +kernel
theorem aX12_laysDeeds_79 : i_at mX12_laysDeeds.2.2.2.2.2 79 = some (.invokevirtual 354, 3, 177, 1, 1450, 0) := by decide +kernel
theorem aX12_laysDeeds_82 : i_at mX12_laysDeeds.2.2.2.2.2 82 = some (.iload 4, 2, 0, 0, 0, 0) := by decide +kernel
theorem aX12_laysDeeds_84 : i_at mX12_laysDeeds.2.2.2.2.2 84 = some (.iconst 5, 1, 0, 0, 0, 0) := by decide +kernel
theorem aX12_laysDeeds_85 : i_at mX12_laysDeeds.2.2.2.2.2 85 = some (.idiv, 1, 0, 0, 0, 0) := by decide +kernel
theorem aX12_laysDeeds_86 : i_at mX12_laysDeeds.2.2.2.2.2 86 = some (.isub, 1, 0, 0, 0, 0) := by decide +kernel
theorem aX12_laysDeeds_87 : i_at mX12_laysDeeds.2.2.2.2.2 87 = some (.iastore, 1, 0, 0, 0, 0) := by decide +kernel
theorem aX12_laysDeeds_88 : i_at mX12_laysDeeds.2.2.2.2.2 88 = some (.aload_n 0, 1, 0, 0, 0, 0) := by decide +kernel
theorem aX12_laysDeeds_89 : i_at mX12_laysDeeds.2.2.2.2.2 89 = some (.getfield 112, 3, 11, 46, 1133, 0) := by decide +kernel
theorem aX12_laysDeeds_92 : i_at mX12_laysDeeds.2.2.2.2.2 92 = some (.iload 4, 2, 0, 0, 0, 0) := by decide +kernel
theorem aX12_laysDeeds_94 : i_at mX12_laysDeeds.2.2.2.2.2 94 = some (.aload_n 0, 1, 0, 0, 0, 0) := by decide +kernel
theorem aX12_laysDeeds_95 : i_at mX12_laysDeeds.2.2.2.2.2 95 = some (.iload_n 2, 1, 0, 0, 0, 0) := by decide +kernel
theorem aX12_laysDeeds_96 : i_at mX12_laysDeeds.2.2.2.2.2 96 = some (.invokevirtual 354, 3, 177, 1, 1450, 0) := by decide +kernel
theorem aX12_laysDeeds_99 : i_at mX12_laysDeeds.2.2.2.2.2 99 = some (.iload 4, 2, 0, 0, 0, 0) := by decide +kernel
theorem aX12_laysDeeds_101 : i_at mX12_laysDeeds.2.2.2.2.2 101 = some (.iconst 5, 1, 0, 0, 0, 0) := by decide +kernel
theorem aX12_laysDeeds_102 : i_at mX12_laysDeeds.2.2.2.2.2 102 = some (.irem, 1, 0, 0, 0, 0) := by decide +kernel
theorem aX12_laysDeeds_103 : i_at mX12_laysDeeds.2.2.2.2.2 103 = some (.isub, 1, 0, 0, 0, 0) := by decide +kernel
theorem aX12_laysDeeds_104 : i_at mX12_laysDeeds.2.2.2.2.2 104 = some (.iastore, 1, 0, 0, 0, 0) := by decide +kernel
theorem aX12_laysDeeds_105 : i_at mX12_laysDeeds.2.2.2.2.2 105 = some (.aload_n 0, 1, 0, 0, 0, 0) := by decide +kernel
theorem aX12_laysDeeds_106 : i_at mX12_laysDeeds.2.2.2.2.2 106 = some (.invokevirtual 416, 3, 197, 0, 1561, 0) := by decide +kernel
theorem aX12_laysDeeds_109 : i_at mX12_laysDeeds.2.2.2.2.2 109 = some (.iinc 4 1, 3, 0, 0, 0, 0) := by decide +kernel
theorem aX12_laysDeeds_112 : i_at mX12_laysDeeds.2.2.2.2.2 112 = some (.goto (-105), 3, 7, 0, 0, 0) := by decide +kernel
theorem aX12_laysDeeds_115 : i_at mX12_laysDeeds.2.2.2.2.2 115 = some (.return_, 1, 0, 0, 0, 0) := by decide +kernel
noncomputable def fX12_laysDeeds_L7 (sh : List kd) (p1 : Int32) (p2 : Int32) (p3 : Int32) : Nat → Int32 → St → Option (Unit × St)
  | 0, _, _ => none
  | n6 + 1, x4, s5 => if 25 ≤ x4 then some ((), s5) else if i_ok p1 6 then i_bd (fX12_upTo sh s5 ((s5.2.1 6 p1.toNatClampNeg) + (10 * (x4 / 5))) 999) (fun r59 s60 => if i_ok p1 6 then if i_ok p2 6 then i_bd (fX12_upTo sh (s_A s60 6 p1.toNatClampNeg r59) (((s_A s60 6 p1.toNatClampNeg r59).2.1 6 p2.toNatClampNeg) + (10 * (x4 - x4 / 5 * 5))) 999) (fun r64 s65 => if i_ok p2 6 then i_bd (fX12_goFor sh (s_A s65 6 p2.toNatClampNeg r64) p3) (fun r68 s69 => i_bd (fX12_rankOf sh s69 p1) (fun r71 s72 => if i_ok x4 25 then i_bd (fX12_rankOf sh (s_A s72 32 x4.toNatClampNeg (r71 - (x4 / 5))) p2) (fun r75 s76 => if i_ok x4 25 then i_bd (fX12_laysBack sh (s_A s76 33 x4.toNatClampNeg (r75 - (x4 - x4 / 5 * 5)))) (fun r79 s80 => (fX12_laysDeeds_L7 sh p1 p2 p3 n6 (x4 + 1) s80)) else none) else none)) else none) else none else none) else none
noncomputable def fX12_laysDeeds (sh : List kd) (σ : St) (p1 : Int32) (p2 : Int32) (p3 : Int32) : Option (Unit × St) := i_bd (fX12_keepsAll sh σ) (fun r1 s2 => fX12_laysDeeds_L7 sh p1 p2 p3 i_F 0 s2)
set_option maxRecDepth 20000 in
set_option maxHeartbeats 2000000 in
theorem tX12_laysDeeds_L7 {sh : List kd} {τ : St} {r : Unit} (hsh : rmSh sh) {p1 : Int32} {p2 : Int32} {p3 : Int32} : ∀ (n0 : Nat) (x4 : Int32) (s5 : St), fX12_laysDeeds_L7 sh p1 p2 p3 n0 x4 s5 = some (r, τ) → g_R sh 8 mX12_laysDeeds none τ 7 [.ref 0, .int p1, .int p2, .int p3, .int x4] [] (s5) := by
  intro n0
  induction n0 with
  | zero => intro _ _ hE; cases hE
  | succ n6 ih =>
    intro x4 s5 hE
    unfold fX12_laysDeeds_L7 at hE
    refine g_ldi aX12_laysDeeds_7 rfl ?_
    refine g_bipush (x := 25) aX12_laysDeeds_9 rfl ?_
    by_cases hc57 : 25 ≤ x4
    · rw [if_pos hc57] at hE
      refine g_ic_ge_t aX12_laysDeeds_11 hc57 ?_
      obtain ⟨rfl, rfl⟩ := i_some_inj hE
      exact g_vret aX12_laysDeeds_115 rfl
    · rw [if_neg hc57] at hE
      refine g_ic_ge_f aX12_laysDeeds_11 hc57 ?_
      refine g_ldan aX12_laysDeeds_14 rfl ?_
      refine g_getR aX12_laysDeeds_15 (sR_0 hsh) rfl ?_
      refine g_ldin aX12_laysDeeds_18 rfl ?_
      refine g_ldan aX12_laysDeeds_19 rfl ?_
      refine g_getR aX12_laysDeeds_20 (sR_0 hsh) rfl ?_
      refine g_ldin aX12_laysDeeds_23 rfl ?_
      obtain ⟨h58, hE⟩ := i_ifn hE
      refine g_ild aX12_laysDeeds_24 (sR_6 hsh) h58 ?_
      refine g_bipush (x := 10) aX12_laysDeeds_25 rfl ?_
      refine g_ldi aX12_laysDeeds_27 rfl ?_
      refine g_iconst (x := 5) aX12_laysDeeds_29 rfl ?_
      refine g_idiv aX12_laysDeeds_30 (by decide) ?_
      refine g_imul aX12_laysDeeds_31 ?_
      refine g_iadd aX12_laysDeeds_32 ?_
      refine g_sipush (x := 999) aX12_laysDeeds_33 rfl ?_
      obtain ⟨r59, s60, h61, hE⟩ := i_bd_some hE
      refine g_calS (As := [.int ((s5.2.1 6 p1.toNatClampNeg) + (10 * (x4 / 5))), .int 999]) (rest := [.int p1, .ref 6]) aX12_laysDeeds_36 (i_X_mono (by omega) (tX12_upTo hsh h61)) rfl rfl (Nat.le_of_ble_eq_true rfl) rfl ?_
      obtain ⟨h62, hE⟩ := i_ifn hE
      refine g_ist aX12_laysDeeds_39 (sR_6 hsh) h62 ?_
      refine g_ldan aX12_laysDeeds_40 rfl ?_
      refine g_getR aX12_laysDeeds_41 (sR_0 hsh) rfl ?_
      refine g_ldin aX12_laysDeeds_44 rfl ?_
      refine g_ldan aX12_laysDeeds_45 rfl ?_
      refine g_getR aX12_laysDeeds_46 (sR_0 hsh) rfl ?_
      refine g_ldin aX12_laysDeeds_49 rfl ?_
      obtain ⟨h63, hE⟩ := i_ifn hE
      refine g_ild aX12_laysDeeds_50 (sR_6 hsh) h63 ?_
      refine g_bipush (x := 10) aX12_laysDeeds_51 rfl ?_
      refine g_ldi aX12_laysDeeds_53 rfl ?_
      refine g_iconst (x := 5) aX12_laysDeeds_55 rfl ?_
      refine g_irem aX12_laysDeeds_56 (by decide) ?_
      refine g_imul aX12_laysDeeds_57 ?_
      refine g_iadd aX12_laysDeeds_58 ?_
      refine g_sipush (x := 999) aX12_laysDeeds_59 rfl ?_
      obtain ⟨r64, s65, h66, hE⟩ := i_bd_some hE
      refine g_calS (As := [.int (((s_A s60 6 p1.toNatClampNeg r59).2.1 6 p2.toNatClampNeg) + (10 * (x4 - x4 / 5 * 5))), .int 999]) (rest := [.int p2, .ref 6]) aX12_laysDeeds_62 (i_X_mono (by omega) (tX12_upTo hsh h66)) rfl rfl (Nat.le_of_ble_eq_true rfl) rfl ?_
      obtain ⟨h67, hE⟩ := i_ifn hE
      refine g_ist aX12_laysDeeds_65 (sR_6 hsh) h67 ?_
      refine g_ldan aX12_laysDeeds_66 rfl ?_
      refine g_ldin aX12_laysDeeds_67 rfl ?_
      obtain ⟨r68, s69, h70, hE⟩ := i_bd_some hE
      refine g_calV (As := [.int p3]) (rest := []) aX12_laysDeeds_68 (i_X_mono (by omega) (tX12_goFor hsh h70)) (sR_0 hsh) (by decide +kernel) rfl rfl (Nat.le_of_ble_eq_true rfl) rfl ?_
      refine g_ldan aX12_laysDeeds_71 rfl ?_
      refine g_getR aX12_laysDeeds_72 (sR_0 hsh) rfl ?_
      refine g_ldi aX12_laysDeeds_75 rfl ?_
      refine g_ldan aX12_laysDeeds_77 rfl ?_
      refine g_ldin aX12_laysDeeds_78 rfl ?_
      obtain ⟨r71, s72, h73, hE⟩ := i_bd_some hE
      refine g_calV (As := [.int p1]) (rest := [.int x4, .ref 32]) aX12_laysDeeds_79 (i_X_mono (by omega) (tX12_rankOf hsh h73)) (sR_0 hsh) (by decide +kernel) rfl rfl (Nat.le_of_ble_eq_true rfl) rfl ?_
      refine g_ldi aX12_laysDeeds_82 rfl ?_
      refine g_iconst (x := 5) aX12_laysDeeds_84 rfl ?_
      refine g_idiv aX12_laysDeeds_85 (by decide) ?_
      refine g_isub aX12_laysDeeds_86 ?_
      obtain ⟨h74, hE⟩ := i_ifn hE
      refine g_ist aX12_laysDeeds_87 (sR_32 hsh) h74 ?_
      refine g_ldan aX12_laysDeeds_88 rfl ?_
      refine g_getR aX12_laysDeeds_89 (sR_0 hsh) rfl ?_
      refine g_ldi aX12_laysDeeds_92 rfl ?_
      refine g_ldan aX12_laysDeeds_94 rfl ?_
      refine g_ldin aX12_laysDeeds_95 rfl ?_
      obtain ⟨r75, s76, h77, hE⟩ := i_bd_some hE
      refine g_calV (As := [.int p2]) (rest := [.int x4, .ref 33]) aX12_laysDeeds_96 (i_X_mono (by omega) (tX12_rankOf hsh h77)) (sR_0 hsh) (by decide +kernel) rfl rfl (Nat.le_of_ble_eq_true rfl) rfl ?_
      refine g_ldi aX12_laysDeeds_99 rfl ?_
      refine g_iconst (x := 5) aX12_laysDeeds_101 rfl ?_
      refine g_irem aX12_laysDeeds_102 (by decide) ?_
      refine g_isub aX12_laysDeeds_103 ?_
      obtain ⟨h78, hE⟩ := i_ifn hE
      refine g_ist aX12_laysDeeds_104 (sR_33 hsh) h78 ?_
      refine g_ldan aX12_laysDeeds_105 rfl ?_
      obtain ⟨r79, s80, h81, hE⟩ := i_bd_some hE
      refine g_calV (As := []) (rest := []) aX12_laysDeeds_106 (i_X_mono (by omega) (tX12_laysBack hsh h81)) (sR_0 hsh) (by decide +kernel) rfl rfl (Nat.le_of_ble_eq_true rfl) rfl ?_
      refine g_iinc (y := 1) (loc2 := [.ref 0, .int p1, .int p2, .int p3, .int (x4 + 1)]) aX12_laysDeeds_109 rfl rfl rfl ?_
      refine g_goto aX12_laysDeeds_112 ?_
      exact ih _ _ hE
set_option maxRecDepth 20000 in
set_option maxHeartbeats 2000000 in
theorem tX12_laysDeeds {sh : List kd} {σ τ : St} {r : Unit} (hsh : rmSh sh) {p1 : Int32} {p2 : Int32} {p3 : Int32} (hE : fX12_laysDeeds sh σ p1 p2 p3 = some (r, τ)) : i_X 9 210 [.ref 0, .int p1, .int p2, .int p3] (s_h sh σ) 0 0 none (s_h sh τ) := by
  refine g_X (M := mX12_laysDeeds) (loc := [.ref 0, .int p1, .int p2, .int p3, .retAddr 0]) rfl (Nat.le_of_ble_eq_true rfl) rfl ?_
  unfold fX12_laysDeeds at hE
  refine g_ldan aX12_laysDeeds_0 rfl ?_
  obtain ⟨r1, s2, h3, hE⟩ := i_bd_some hE
  refine g_calV (As := []) (rest := []) aX12_laysDeeds_1 (i_X_mono (by omega) (tX12_keepsAll hsh h3)) (sR_0 hsh) (by decide +kernel) rfl rfl (Nat.le_of_ble_eq_true rfl) rfl ?_
  refine g_iconst (x := 0) aX12_laysDeeds_4 rfl ?_
  refine g_sti (loc2 := [.ref 0, .int p1, .int p2, .int p3, .int 0]) aX12_laysDeeds_5 (Nat.le_of_ble_eq_true rfl) rfl ?_
  exact tX12_laysDeeds_L7 hsh i_F _ _ hE
theorem aX12_rests_0 : i_at mX12_rests.2.2.2.2.2 0 = some (.aload_n 0, 1, 0, 0, 0, 0) := by decide +kernel
theorem aX12_rests_1 : i_at mX12_rests.2.2.2.2.2 1 = some (.iload_n 1, 1, 0, 0, 0, 0) := by decide +kernel
theorem aX12_rests_2 : i_at mX12_rests.2.2.2.2.2 2 = some (.invokevirtual 351, 3, 132, 1, 1446, 0) := by decide +kernel
theorem aX12_rests_5 : i_at mX12_rests.2.2.2.2.2 5 = some (.ifCond .eq 41, 3, 46, 0, 0, 0) := by decide +kernel
theorem aX12_rests_8 : i_at mX12_rests.2.2.2.2.2 8 = some (.aload_n 0, 1, 0, 0, 0, 0) := by decide +kernel
theorem aX12_rests_9 : i_at mX12_rests.2.2.2.2.2 9 = some (.iload_n 2, 1, 0, 0, 0, 0) := by decide +kernel
theorem aX12_rests_10 : i_at mX12_rests.2.2.2.2.2 10 = some (.invokevirtual 351, 3, 132, 1, 1446, 0) := by decide +kernel
theorem aX12_rests_13 : i_at mX12_rests.2.2.2.2.2 13 = some (.ifCond .eq 33, 3, 46, 0, 0, 0) := by decide +kernel
theorem aX12_rests_16 : i_at mX12_rests.2.2.2.2.2 16 = some (.iload_n 1, 1, 0, 0, 0, 0) := by decide +kernel
theorem aX12_rests_17 : i_at mX12_rests.2.2.2.2.2 17 = some (.iload_n 2, 1, 0, 0, 0, 0) := by decide +kernel
theorem aX12_rests_18 : i_at mX12_rests.2.2.2.2.2 18 = some (.if_icmp .eq 28, 3, 46, 0, 0, 0) := by decide +kernel
theorem aX12_rests_21 : i_at mX12_rests.2.2.2.2.2 21 = some (.iload_n 3, 1, 0, 0, 0, 0) := by decide +kernel
theorem aX12_rests_22 : i_at mX12_rests.2.2.2.2.2 22 = some (.i2l, 1, 0, 0, 0, 0) := by decide +kernel
theorem aX12_rests_23 : i_at mX12_rests.2.2.2.2.2 23 = some (.lconst 1, 1, 0, 0, 0, 0) := by decide +kernel
theorem aX12_rests_24 : i_at mX12_rests.2.2.2.2.2 24 = some (.ldc2_w 434, 3, 0, 0, 1616, 20) := by decide +kernel
theorem aX12_rests_27 : i_at mX12_rests.2.2.2.2.2 27 = some (.invokestatic 131, 3, 127, 3, 1324, 0) := by decide +kernel
theorem aX12_rests_30 : i_at mX12_rests.2.2.2.2.2 30 = some (.ifCond .eq 16, 3, 46, 0, 0, 0) := by decide +kernel
theorem aX12_rests_33 : i_at mX12_rests.2.2.2.2.2 33 = some (.iload 4, 2, 0, 0, 0, 0) := by decide +kernel
theorem aX12_rests_35 : i_at mX12_rests.2.2.2.2.2 35 = some (.i2l, 1, 0, 0, 0, 0) := by decide +kernel
theorem aX12_rests_36 : i_at mX12_rests.2.2.2.2.2 36 = some (.lconst 0, 1, 0, 0, 0, 0) := by decide +kernel
theorem aX12_rests_37 : i_at mX12_rests.2.2.2.2.2 37 = some (.ldc2_w 406, 3, 0, 0, 1543, 2) := by decide +kernel
theorem aX12_rests_40 : i_at mX12_rests.2.2.2.2.2 40 = some (.invokestatic 131, 3, 127, 3, 1324, 0) := by decide +kernel
theorem aX12_rests_43 : i_at mX12_rests.2.2.2.2.2 43 = some (.ifCond .ne 5, 3, 48, 0, 0, 0) := by decide +kernel
theorem aX12_rests_46 : i_at mX12_rests.2.2.2.2.2 46 = some (.iconst (-1), 1, 0, 0, 0, 0) := by decide +kernel
theorem aX12_rests_47 : i_at mX12_rests.2.2.2.2.2 47 = some (.ireturn, 1, 0, 0, 0, 0) := by decide +kernel
theorem aX12_rests_48 : i_at mX12_rests.2.2.2.2.2 48 = some (.aload_n 0, 1, 0, 0, 0, 0) := by decide +kernel
theorem aX12_rests_49 : i_at mX12_rests.2.2.2.2.2 49 = some (.iload_n 1, 1, 0, 0, 0, 0) := by decide +kernel
theorem aX12_rests_50 : i_at mX12_rests.2.2.2.2.2 50 = some (.iload_n 2, 1, 0, 0, 0, 0) := by decide +kernel
theorem aX12_rests_51 : i_at mX12_rests.2.2.2.2.2 51 = some (.iload_n 3, 1, 0, 0, 0, 0) := by decide +kernel
theorem aX12_rests_52 : i_at mX12_rests.2.2.2.2.2 52 = some (.invokevirtual 436, 3, 210, 3, 1617, 0) := by decide +kernel
theorem aX12_rests_55 : i_at mX12_rests.2.2.2.2.2 55 = some (.iconst 0, 1, 0, 0, 0, 0) := by decide +kernel
theorem aX12_rests_56 : i_at mX12_rests.2.2.2.2.2 56 = some (.istore 5, 2, 0, 0, 0, 0) := by decide +kernel
theorem aX12_rests_58 : i_at mX12_rests.2.2.2.2.2 58 = some (.iconst (-1), 1, 0, 0, 0, 0) := by decide +kernel
theorem aX12_rests_59 : i_at mX12_rests.2.2.2.2.2 59 = some (.istore 6, 2, 0, 0, 0, 0) := by decide +kernel
theorem aX12_rests_61 : i_at mX12_rests.2.2.2.2.2 61 = some (.iconst 0, 1, 0, 0, 0, 0) := by decide +kernel
theorem aX12_rests_62 : i_at mX12_rests.2.2.2.2.2 62 = some (.istore 7, 2, 0, 0, 0, 0) := by decide +kernel
theorem aX12_rests_64 : i_at mX12_rests.2.2.2.2.2 64 = some (.iload 7, 2, 0, 0, 0, 0) := by decide +kernel
theorem aX12_rests_66 : i_at mX12_rests.2.2.2.2.2 66 = some (.bipush 25, 2, 0, 0, 0, 0) := by decide +kernel
theorem aX12_rests_68 : i_at mX12_rests.2.2.2.2.2 68 = some (.if_icmp .ge 35, 3, 103, 0, 0, 0) := by decide +kernel
theorem aX12_rests_71 : i_at mX12_rests.2.2.2.2.2 71 = some (.aload_n 0, 1, 0, 0, 0, 0) := by decide +kernel
theorem aX12_rests_72 : i_at mX12_rests.2.2.2.2.2 72 = some (.iload 7, 2, 0, 0, 0, 0) := by decide +kernel
theorem aX12_rests_74 : i_at mX12_rests.2.2.2.2.2 74 = some (.invokevirtual 440, 3, 211, 1, 1621, 0) := by decide +kernel
theorem aX12_rests_77 : i_at mX12_rests.2.2.2.2.2 77 = some (.ifCond .eq 20, 3, 97, 0, 0, 0) := by decide +kernel
theorem aX12_rests_80 : i_at mX12_rests.2.2.2.2.2 80 = some (.iload 5, 2, 0, 0, 0, 0) := by decide +kernel
theorem aX12_rests_82 : i_at mX12_rests.2.2.2.2.2 82 = some (.ifCond .ne 8, 3, 90, 0, 0, 0) := by decide +kernel
theorem aX12_rests_85 : i_at mX12_rests.2.2.2.2.2 85 = some (.iload 7, 2, 0, 0, 0, 0) := by decide +kernel
theorem aX12_rests_87 : i_at mX12_rests.2.2.2.2.2 87 = some (.goto 5, 3, 92, 0, 0, 0) := by decide +kernel
theorem aX12_rests_90 : i_at mX12_rests.2.2.2.2.2 90 = some (.iload 6, 2, 0, 0, 0, 0) := by decide +kernel
theorem aX12_rests_92 : i_at mX12_rests.2.2.2.2.2 92 = some (.istore 6, 2, 0, 0, 0, 0) := by decide +kernel
theorem aX12_rests_94 : i_at mX12_rests.2.2.2.2.2 94 = some (.iinc 5 1, 3, 0, 0, 0, 0) := by decide +kernel
theorem aX12_rests_97 : i_at mX12_rests.2.2.2.2.2 97 = some (.iinc 7 1, 3, 0, 0, 0, 0) := by decide +kernel
theorem aX12_rests_100 : i_at mX12_rests.2.2.2.2.2 100 = some (.goto (-36), 3, 64, 0, 0, 0) := by decide +kernel
theorem aX12_rests_103 : i_at mX12_rests.2.2.2.2.2 103 = some (.iload 4, 2, 0, 0, 0, 0) := by decide +kernel
theorem aX12_rests_105 : i_at mX12_rests.2.2.2.2.2 105 = some (.ifCond .ne 6, 3, 111, 0, 0, 0) := by decide +kernel
theorem aX12_rests_108 : i_at mX12_rests.2.2.2.2.2 108 = some (.iload 5, 2, 0, 0, 0, 0) := by decide +kernel
theorem aX12_rests_110 : i_at mX12_rests.2.2.2.2.2 110 = some (.ireturn, 1, 0, 0, 0, 0) := by decide +kernel
theorem aX12_rests_111 : i_at mX12_rests.2.2.2.2.2 111 = some (.iload 6, 2, 0, 0, 0, 0) := by decide +kernel
theorem aX12_rests_113 : i_at mX12_rests.2.2.2.2.2 113 = some (.iconst (-1), 1, 0, 0, 0, 0) := by decide +kernel
theorem aX12_rests_114 : i_at mX12_rests.2.2.2.2.2 114 = some (.if_icmp .ne 8, 3, 122, 0, 0, 0) := by decide +kernel
theorem aX12_rests_117 : i_at mX12_rests.2.2.2.2.2 117 = some (.bipush (-2), 2, 0, 0, 0, 0) := by decide +kernel
theorem aX12_rests_119 : i_at mX12_rests.2.2.2.2.2 119 = some (.goto 23, 3, 142, 0, 0, 0) := by decide +kernel
theorem aX12_rests_122 : i_at mX12_rests.2.2.2.2.2 122 = some (.bipush 10, 2, 0, 0, 0, 0) := by decide +kernel
theorem aX12_rests_124 : i_at mX12_rests.2.2.2.2.2 124 = some (.iload 4, 2, 0, 0, 0, 0) := by decide +kernel
theorem aX12_rests_126 : i_at mX12_rests.2.2.2.2.2 126 = some (.iconst 1, 1, 0, 0, 0, 0) := by decide +kernel
theorem aX12_rests_127 : i_at mX12_rests.2.2.2.2.2 127 = some (.if_icmp .ne 10, 3, 137, 0, 0, 0) := by decide +kernel
theorem aX12_rests_130 : i_at mX12_rests.2.2.2.2.2 130 = some (.iload 6, 2, 0, 0, 0, 0) := by decide +kernel
theorem aX12_rests_132 : i_at mX12_rests.2.2.2.2.2 132 = some (.iconst 5, 1, 0, 0, 0, 0) := by decide +kernel
theorem aX12_rests_133 : i_at mX12_rests.2.2.2.2.2 133 = some (.idiv, 1, 0, 0, 0, 0) := by decide +kernel
theorem aX12_rests_134 : i_at mX12_rests.2.2.2.2.2 134 = some (.goto 7, 3, 141, 0, 0, 0) := by decide +kernel
theorem aX12_rests_137 : i_at mX12_rests.2.2.2.2.2 137 = some (.iload 6, 2, 0, 0, 0, 0) := by decide +kernel
theorem aX12_rests_139 : i_at mX12_rests.2.2.2.2.2 139 = some (.iconst 5, 1, 0, 0, 0, 0) := by decide +kernel
theorem aX12_rests_140 : i_at mX12_rests.2.2.2.2.2 140 = some (.irem, 1, 0, 0, 0, 0) := by decide +kernel
theorem aX12_rests_141 : i_at mX12_rests.2.2.2.2.2 141 = some (.imul, 1, 0, 0, 0, 0) := by decide +kernel
theorem aX12_rests_142 : i_at mX12_rests.2.2.2.2.2 142 = some (.ireturn, 1, 0, 0, 0, 0) := by decide +kernel
noncomputable def fX12_rests_J97 (sh : List kd) (p1 : Int32) (p2 : Int32) (p3 : Int32) (p4 : Int32) (x23 : Int32) (s82 : St) (k64 : Int32 → Int32 → Int32 → St → Option (Int32 × St)) (x134 : Int32) (x135 : Int32) : Option (Int32 × St) := k64 x134 x135 (x23 + 1) s82
noncomputable def fX12_rests_L64 (sh : List kd) (p1 : Int32) (p2 : Int32) (p3 : Int32) (p4 : Int32) (k103 : Int32 → Int32 → Int32 → St → Option (Int32 × St)) : Nat → Int32 → Int32 → Int32 → St → Option (Int32 × St)
  | 0, _, _, _, _ => none
  | n79 + 1, x21, x22, x23, s24 => if 25 ≤ x23 then k103 x21 x22 x23 s24 else i_bd (fX12_isRest sh s24 x23) (fun r81 s82 => if r81 = 0 then fX12_rests_J97 sh p1 p2 p3 p4 x23 s82 (fX12_rests_L64 sh p1 p2 p3 p4 k103 n79) x21 x22 else fX12_rests_J97 sh p1 p2 p3 p4 x23 s82 (fX12_rests_L64 sh p1 p2 p3 p4 k103 n79) (x21 + 1) ((if ¬ x21 = 0 then x22 else x23) : Int32))
noncomputable def fX12_rests_J141 (sh : List kd) (p1 : Int32) (p2 : Int32) (p3 : Int32) (p4 : Int32) (x75 : Int32) (x76 : Int32) (x77 : Int32) (s78 : St) (x240 : Int32) : Option (Int32 × St) := some ((10 * x240), s78)
noncomputable def fX12_rests_X103 (sh : List kd) (p1 : Int32) (p2 : Int32) (p3 : Int32) (p4 : Int32) (x75 : Int32) (x76 : Int32) (x77 : Int32) (s78 : St) : Option (Int32 × St) := if ¬ p4 = 0 then if ¬ x76 = (-1) then if ¬ p4 = 1 then fX12_rests_J141 sh p1 p2 p3 p4 x75 x76 x77 s78 (x76 - x76 / 5 * 5) else fX12_rests_J141 sh p1 p2 p3 p4 x75 x76 x77 s78 (x76 / 5) else some ((-2), s78) else some (x75, s78)
noncomputable def fX12_rests (sh : List kd) (σ : St) (p1 : Int32) (p2 : Int32) (p3 : Int32) (p4 : Int32) : Option (Int32 × St) := i_bd (fX12_isPerson sh σ p1) (fun r1 s2 => if r1 = 0 then some ((-1), s2) else i_bd (fX12_isPerson sh s2 p2) (fun r5 s6 => if r5 = 0 then some ((-1), s6) else if p1 = p2 then some ((-1), s6) else i_bd (fX12_in sh s6 p3.toInt64 1 20) (fun r10 s11 => if r10 = 0 then some ((-1), s11) else i_bd (fX12_in sh s11 p4.toInt64 0 2) (fun r14 s15 => if ¬ r14 = 0 then i_bd (fX12_laysDeeds sh s15 p1 p2 p3) (fun r18 s19 => fX12_rests_L64 sh p1 p2 p3 p4 (fun (x75 : Int32) (x76 : Int32) (x77 : Int32) (s78 : St) => fX12_rests_X103 sh p1 p2 p3 p4 x75 x76 x77 s78) i_F 0 (-1) 0 s19) else some ((-1), s15)))))
set_option maxRecDepth 20000 in
set_option maxHeartbeats 2000000 in
theorem tX12_rests_J97 {sh : List kd} {τ : St} {r : Int32} (hsh : rmSh sh) {p1 : Int32} {p2 : Int32} {p3 : Int32} {p4 : Int32} {x23 : Int32} {s82 : St} {x134 : Int32} {x135 : Int32} {k64 : Int32 → Int32 → Int32 → St → Option (Int32 × St)} (hk64 : ∀ (x21 : Int32) (x22 : Int32) (x23 : Int32) (s24 : St), k64 x21 x22 x23 s24 = some (r, τ) → g_R sh 9 mX12_rests (some (.int r)) τ 64 [.ref 0, .int p1, .int p2, .int p3, .int p4, .int x21, .int x22, .int x23] [] (s24)) (hE : fX12_rests_J97 sh p1 p2 p3 p4 x23 s82 k64 x134 x135 = some (r, τ)) : g_R sh 9 mX12_rests (some (.int r)) τ 97 [.ref 0, .int p1, .int p2, .int p3, .int p4, .int x134, .int x135, .int x23] [] (s82) := by
  unfold fX12_rests_J97 at hE
  refine g_iinc (y := 1) (loc2 := [.ref 0, .int p1, .int p2, .int p3, .int p4, .int x134, .int x135, .int (x23 + 1)]) aX12_rests_97 rfl rfl rfl ?_
  refine g_goto aX12_rests_100 ?_
  exact hk64 _ _ _ _ hE
set_option maxRecDepth 20000 in
set_option maxHeartbeats 2000000 in
theorem tX12_rests_L64 {sh : List kd} {τ : St} {r : Int32} (hsh : rmSh sh) {p1 : Int32} {p2 : Int32} {p3 : Int32} {p4 : Int32} {k103 : Int32 → Int32 → Int32 → St → Option (Int32 × St)} (hk103 : ∀ (x75 : Int32) (x76 : Int32) (x77 : Int32) (s78 : St), k103 x75 x76 x77 s78 = some (r, τ) → g_R sh 9 mX12_rests (some (.int r)) τ 103 [.ref 0, .int p1, .int p2, .int p3, .int p4, .int x75, .int x76, .int x77] [] (s78)) : ∀ (n0 : Nat) (x21 : Int32) (x22 : Int32) (x23 : Int32) (s24 : St), fX12_rests_L64 sh p1 p2 p3 p4 k103 n0 x21 x22 x23 s24 = some (r, τ) → g_R sh 9 mX12_rests (some (.int r)) τ 64 [.ref 0, .int p1, .int p2, .int p3, .int p4, .int x21, .int x22, .int x23] [] (s24) := by
  intro n0
  induction n0 with
  | zero => intro _ _ _ _ hE; cases hE
  | succ n79 ih =>
    intro x21 x22 x23 s24 hE
    unfold fX12_rests_L64 at hE
    refine g_ldi aX12_rests_64 rfl ?_
    refine g_bipush (x := 25) aX12_rests_66 rfl ?_
    by_cases hc80 : 25 ≤ x23
    · rw [if_pos hc80] at hE
      refine g_ic_ge_t aX12_rests_68 hc80 ?_
      exact hk103 _ _ _ _ hE
    · rw [if_neg hc80] at hE
      refine g_ic_ge_f aX12_rests_68 hc80 ?_
      refine g_ldan aX12_rests_71 rfl ?_
      refine g_ldi aX12_rests_72 rfl ?_
      obtain ⟨r81, s82, h83, hE⟩ := i_bd_some hE
      refine g_calV (As := [.int x23]) (rest := []) aX12_rests_74 (i_X_mono (by omega) (tX12_isRest hsh h83)) (sR_0 hsh) (by decide +kernel) rfl rfl (Nat.le_of_ble_eq_true rfl) rfl ?_
      by_cases hc136 : r81 = 0
      · rw [if_pos hc136] at hE
        refine g_if_eq_t aX12_rests_77 hc136 ?_
        exact tX12_rests_J97 hsh ih hE
      · rw [if_neg hc136] at hE
        refine g_if_eq_f aX12_rests_77 hc136 ?_
        refine g_ldi aX12_rests_80 rfl ?_
        have hJ : g_R sh 9 mX12_rests (some (.int r)) τ 92 [.ref 0, .int p1, .int p2, .int p3, .int p4, .int x21, .int x22, .int x23] [.int ((if ¬ x21 = 0 then x22 else x23) : Int32)] (s82) := by
          refine g_sti (loc2 := [.ref 0, .int p1, .int p2, .int p3, .int p4, .int x21, .int ((if ¬ x21 = 0 then x22 else x23) : Int32), .int x23]) aX12_rests_92 (Nat.le_of_ble_eq_true rfl) rfl ?_
          refine g_iinc (y := 1) (loc2 := [.ref 0, .int p1, .int p2, .int p3, .int p4, .int (x21 + 1), .int ((if ¬ x21 = 0 then x22 else x23) : Int32), .int x23]) aX12_rests_94 rfl rfl rfl ?_
          exact tX12_rests_J97 hsh ih hE
        clear hE
        by_cases hc136 : ¬ x21 = 0
        · (try rw [if_pos hc136] at hJ)
          refine g_if_ne_t aX12_rests_82 hc136 ?_
          refine g_ldi aX12_rests_90 rfl ?_
          exact hJ
        · (try rw [if_neg hc136] at hJ)
          refine g_if_ne_f aX12_rests_82 hc136 ?_
          refine g_ldi aX12_rests_85 rfl ?_
          refine g_goto aX12_rests_87 ?_
          exact hJ
set_option maxRecDepth 20000 in
set_option maxHeartbeats 2000000 in
theorem tX12_rests_J141 {sh : List kd} {τ : St} {r : Int32} (hsh : rmSh sh) {p1 : Int32} {p2 : Int32} {p3 : Int32} {p4 : Int32} {x75 : Int32} {x76 : Int32} {x77 : Int32} {s78 : St} {x240 : Int32} (hE : fX12_rests_J141 sh p1 p2 p3 p4 x75 x76 x77 s78 x240 = some (r, τ)) : g_R sh 9 mX12_rests (some (.int r)) τ 141 [.ref 0, .int p1, .int p2, .int p3, .int p4, .int x75, .int x76, .int x77] [.int x240, .int 10] (s78) := by
  unfold fX12_rests_J141 at hE
  refine g_imul aX12_rests_141 ?_
  obtain ⟨rfl, rfl⟩ := i_some_inj hE
  exact g_iret aX12_rests_142 rfl rfl
set_option maxRecDepth 20000 in
set_option maxHeartbeats 2000000 in
theorem tX12_rests_X103 {sh : List kd} {τ : St} {r : Int32} (hsh : rmSh sh) {p1 : Int32} {p2 : Int32} {p3 : Int32} {p4 : Int32} {x75 : Int32} {x76 : Int32} {x77 : Int32} {s78 : St} (hE : fX12_rests_X103 sh p1 p2 p3 p4 x75 x76 x77 s78 = some (r, τ)) : g_R sh 9 mX12_rests (some (.int r)) τ 103 [.ref 0, .int p1, .int p2, .int p3, .int p4, .int x75, .int x76, .int x77] [] (s78) := by
  unfold fX12_rests_X103 at hE
  refine g_ldi aX12_rests_103 rfl ?_
  by_cases hc138 : ¬ p4 = 0
  · rw [if_pos hc138] at hE
    refine g_if_ne_t aX12_rests_105 hc138 ?_
    refine g_ldi aX12_rests_111 rfl ?_
    refine g_iconst (x := (-1)) aX12_rests_113 rfl ?_
    by_cases hc189 : ¬ x76 = (-1)
    · rw [if_pos hc189] at hE
      refine g_ic_ne_t aX12_rests_114 hc189 ?_
      refine g_bipush (x := 10) aX12_rests_122 rfl ?_
      refine g_ldi aX12_rests_124 rfl ?_
      refine g_iconst (x := 1) aX12_rests_126 rfl ?_
      by_cases hc241 : ¬ p4 = 1
      · rw [if_pos hc241] at hE
        refine g_ic_ne_t aX12_rests_127 hc241 ?_
        refine g_ldi aX12_rests_137 rfl ?_
        refine g_iconst (x := 5) aX12_rests_139 rfl ?_
        refine g_irem aX12_rests_140 (by decide) ?_
        exact tX12_rests_J141 hsh hE
      · rw [if_neg hc241] at hE
        refine g_ic_ne_f aX12_rests_127 hc241 ?_
        refine g_ldi aX12_rests_130 rfl ?_
        refine g_iconst (x := 5) aX12_rests_132 rfl ?_
        refine g_idiv aX12_rests_133 (by decide) ?_
        refine g_goto aX12_rests_134 ?_
        exact tX12_rests_J141 hsh hE
    · rw [if_neg hc189] at hE
      refine g_ic_ne_f aX12_rests_114 hc189 ?_
      refine g_bipush (x := (-2)) aX12_rests_117 rfl ?_
      refine g_goto aX12_rests_119 ?_
      obtain ⟨rfl, rfl⟩ := i_some_inj hE
      exact g_iret aX12_rests_142 rfl rfl
  · rw [if_neg hc138] at hE
    refine g_if_ne_f aX12_rests_105 hc138 ?_
    refine g_ldi aX12_rests_108 rfl ?_
    obtain ⟨rfl, rfl⟩ := i_some_inj hE
    exact g_iret aX12_rests_110 rfl rfl
set_option maxRecDepth 20000 in
set_option maxHeartbeats 2000000 in
theorem tX12_rests {sh : List kd} {σ τ : St} {r : Int32} (hsh : rmSh sh) {p1 : Int32} {p2 : Int32} {p3 : Int32} {p4 : Int32} (hE : fX12_rests sh σ p1 p2 p3 p4 = some (r, τ)) : i_X 10 212 [.ref 0, .int p1, .int p2, .int p3, .int p4] (s_h sh σ) 0 0 (some (.int r)) (s_h sh τ) := by
  refine g_X (M := mX12_rests) (loc := [.ref 0, .int p1, .int p2, .int p3, .int p4, .retAddr 0, .retAddr 0, .retAddr 0]) rfl (Nat.le_of_ble_eq_true rfl) rfl ?_
  unfold fX12_rests at hE
  refine g_ldan aX12_rests_0 rfl ?_
  refine g_ldin aX12_rests_1 rfl ?_
  obtain ⟨r1, s2, h3, hE⟩ := i_bd_some hE
  refine g_calV (As := [.int p1]) (rest := []) aX12_rests_2 (i_X_mono (by omega) (tX12_isPerson hsh h3)) (sR_0 hsh) (by decide +kernel) rfl rfl (Nat.le_of_ble_eq_true rfl) rfl ?_
  by_cases hc4 : r1 = 0
  · rw [if_pos hc4] at hE
    refine g_if_eq_t aX12_rests_5 hc4 ?_
    refine g_iconst (x := (-1)) aX12_rests_46 rfl ?_
    obtain ⟨rfl, rfl⟩ := i_some_inj hE
    exact g_iret aX12_rests_47 rfl rfl
  · rw [if_neg hc4] at hE
    refine g_if_eq_f aX12_rests_5 hc4 ?_
    refine g_ldan aX12_rests_8 rfl ?_
    refine g_ldin aX12_rests_9 rfl ?_
    obtain ⟨r5, s6, h7, hE⟩ := i_bd_some hE
    refine g_calV (As := [.int p2]) (rest := []) aX12_rests_10 (i_X_mono (by omega) (tX12_isPerson hsh h7)) (sR_0 hsh) (by decide +kernel) rfl rfl (Nat.le_of_ble_eq_true rfl) rfl ?_
    by_cases hc8 : r5 = 0
    · rw [if_pos hc8] at hE
      refine g_if_eq_t aX12_rests_13 hc8 ?_
      refine g_iconst (x := (-1)) aX12_rests_46 rfl ?_
      obtain ⟨rfl, rfl⟩ := i_some_inj hE
      exact g_iret aX12_rests_47 rfl rfl
    · rw [if_neg hc8] at hE
      refine g_if_eq_f aX12_rests_13 hc8 ?_
      refine g_ldin aX12_rests_16 rfl ?_
      refine g_ldin aX12_rests_17 rfl ?_
      by_cases hc9 : p1 = p2
      · rw [if_pos hc9] at hE
        refine g_ic_eq_t aX12_rests_18 hc9 ?_
        refine g_iconst (x := (-1)) aX12_rests_46 rfl ?_
        obtain ⟨rfl, rfl⟩ := i_some_inj hE
        exact g_iret aX12_rests_47 rfl rfl
      · rw [if_neg hc9] at hE
        refine g_ic_eq_f aX12_rests_18 hc9 ?_
        refine g_ldin aX12_rests_21 rfl ?_
        refine g_i2l aX12_rests_22 ?_
        refine g_lconst (x := 1) aX12_rests_23 rfl ?_
        refine g_ldc2 (x := 20) aX12_rests_24 rfl ?_
        obtain ⟨r10, s11, h12, hE⟩ := i_bd_some hE
        refine g_calS (As := [.long p3.toInt64, .long 1, .long 20]) (rest := []) aX12_rests_27 (i_X_mono (by omega) (tX12_in hsh h12)) rfl rfl (Nat.le_of_ble_eq_true rfl) rfl ?_
        by_cases hc13 : r10 = 0
        · rw [if_pos hc13] at hE
          refine g_if_eq_t aX12_rests_30 hc13 ?_
          refine g_iconst (x := (-1)) aX12_rests_46 rfl ?_
          obtain ⟨rfl, rfl⟩ := i_some_inj hE
          exact g_iret aX12_rests_47 rfl rfl
        · rw [if_neg hc13] at hE
          refine g_if_eq_f aX12_rests_30 hc13 ?_
          refine g_ldi aX12_rests_33 rfl ?_
          refine g_i2l aX12_rests_35 ?_
          refine g_lconst (x := 0) aX12_rests_36 rfl ?_
          refine g_ldc2 (x := 2) aX12_rests_37 rfl ?_
          obtain ⟨r14, s15, h16, hE⟩ := i_bd_some hE
          refine g_calS (As := [.long p4.toInt64, .long 0, .long 2]) (rest := []) aX12_rests_40 (i_X_mono (by omega) (tX12_in hsh h16)) rfl rfl (Nat.le_of_ble_eq_true rfl) rfl ?_
          by_cases hc17 : ¬ r14 = 0
          · rw [if_pos hc17] at hE
            refine g_if_ne_t aX12_rests_43 hc17 ?_
            refine g_ldan aX12_rests_48 rfl ?_
            refine g_ldin aX12_rests_49 rfl ?_
            refine g_ldin aX12_rests_50 rfl ?_
            refine g_ldin aX12_rests_51 rfl ?_
            obtain ⟨r18, s19, h20, hE⟩ := i_bd_some hE
            refine g_calV (As := [.int p1, .int p2, .int p3]) (rest := []) aX12_rests_52 (i_X_mono (by omega) (tX12_laysDeeds hsh h20)) (sR_0 hsh) (by decide +kernel) rfl rfl (Nat.le_of_ble_eq_true rfl) rfl ?_
            refine g_iconst (x := 0) aX12_rests_55 rfl ?_
            refine g_sti (loc2 := [.ref 0, .int p1, .int p2, .int p3, .int p4, .int 0, .retAddr 0, .retAddr 0]) aX12_rests_56 (Nat.le_of_ble_eq_true rfl) rfl ?_
            refine g_iconst (x := (-1)) aX12_rests_58 rfl ?_
            refine g_sti (loc2 := [.ref 0, .int p1, .int p2, .int p3, .int p4, .int 0, .int (-1), .retAddr 0]) aX12_rests_59 (Nat.le_of_ble_eq_true rfl) rfl ?_
            refine g_iconst (x := 0) aX12_rests_61 rfl ?_
            refine g_sti (loc2 := [.ref 0, .int p1, .int p2, .int p3, .int p4, .int 0, .int (-1), .int 0]) aX12_rests_62 (Nat.le_of_ble_eq_true rfl) rfl ?_
            exact tX12_rests_L64 hsh (fun x75 x76 x77 s78 hE => tX12_rests_X103 hsh hE) i_F _ _ _ _ hE
          · rw [if_neg hc17] at hE
            refine g_if_ne_f aX12_rests_43 hc17 ?_
            refine g_iconst (x := (-1)) aX12_rests_46 rfl ?_
            obtain ⟨rfl, rfl⟩ := i_some_inj hE
            exact g_iret aX12_rests_47 rfl rfl
theorem aX12_laysCourse_0 : i_at mX12_laysCourse.2.2.2.2.2 0 = some (.iconst 0, 1, 0, 0, 0, 0) := by decide +kernel
theorem aX12_laysCourse_1 : i_at mX12_laysCourse.2.2.2.2.2 1 = some (.istore_n 1, 1, 0, 0, 0, 0) := by decide +kernel
theorem aX12_laysCourse_2 : i_at mX12_laysCourse.2.2.2.2.2 2 = some (.iload_n 1, 1, 0, 0, 0, 0) := by decide +kernel
theorem aX12_laysCourse_3 : i_at mX12_laysCourse.2.2.2.2.2 3 = some (.bipush 66, 2, 0, 0, 0, 0) := by decide +kernel
theorem aX12_laysCourse_5 : i_at mX12_laysCourse.2.2.2.2.2 5 = some (.if_icmp .ge 26, 3, 31, 0, 0, 0) := by decide +kernel
theorem aX12_laysCourse_8 : i_at mX12_laysCourse.2.2.2.2.2 8 = some (.aload_n 0, 1, 0, 0, 0, 0) := by decide +kernel
theorem aX12_laysCourse_9 : i_at mX12_laysCourse.2.2.2.2.2 9 = some (.invokevirtual 375, 3, 183, 0, 1481, 0) := by decide +kernel
theorem aX12_laysCourse_12 : i_at mX12_laysCourse.2.2.2.2.2 12 = some (.pop, 1, 0, 0, 0, 0) := by decide +kernel
theorem aX12_laysCourse_13 : i_at mX12_laysCourse.2.2.2.2.2 13 = some (.aload_n 0, 1, 0, 0, 0, 0) := by decide +kernel
theorem aX12_laysCourse_14 : i_at mX12_laysCourse.2.2.2.2.2 14 = some (.getfield 115, 3, 11, 47, 1134, 0) := by decide +kernel
theorem aX12_laysCourse_17 : i_at mX12_laysCourse.2.2.2.2.2 17 = some (.iload_n 1, 1, 0, 0, 0, 0) := by decide +kernel
theorem aX12_laysCourse_18 : i_at mX12_laysCourse.2.2.2.2.2 18 = some (.aload_n 0, 1, 0, 0, 0, 0) := by decide +kernel
theorem aX12_laysCourse_19 : i_at mX12_laysCourse.2.2.2.2.2 19 = some (.getfield 9, 3, 11, 1, 1088, 0) := by decide +kernel
theorem aX12_laysCourse_22 : i_at mX12_laysCourse.2.2.2.2.2 22 = some (.iconst 5, 1, 0, 0, 0, 0) := by decide +kernel
theorem aX12_laysCourse_23 : i_at mX12_laysCourse.2.2.2.2.2 23 = some (.iaload, 1, 0, 0, 0, 0) := by decide +kernel
theorem aX12_laysCourse_24 : i_at mX12_laysCourse.2.2.2.2.2 24 = some (.iastore, 1, 0, 0, 0, 0) := by decide +kernel
theorem aX12_laysCourse_25 : i_at mX12_laysCourse.2.2.2.2.2 25 = some (.iinc 1 1, 3, 0, 0, 0, 0) := by decide +kernel
theorem aX12_laysCourse_28 : i_at mX12_laysCourse.2.2.2.2.2 28 = some (.goto (-26), 3, 2, 0, 0, 0) := by decide +kernel
theorem aX12_laysCourse_31 : i_at mX12_laysCourse.2.2.2.2.2 31 = some (.aload_n 0, 1, 0, 0, 0, 0) := by decide +kernel
theorem aX12_laysCourse_32 : i_at mX12_laysCourse.2.2.2.2.2 32 = some (.invokevirtual 416, 3, 197, 0, 1561, 0) := by decide +kernel
theorem aX12_laysCourse_35 : i_at mX12_laysCourse.2.2.2.2.2 35 = some (.return_, 1, 0, 0, 0, 0) := by decide +kernel
noncomputable def fX12_laysCourse_L2 (sh : List kd) (k31 : Int32 → St → Option (Unit × St)) : Nat → Int32 → St → Option (Unit × St)
  | 0, _, _ => none
  | n55 + 1, x1, s2 => if 66 ≤ x1 then k31 x1 s2 else i_bd (fX12_goes sh s2) (fun r57 s58 => if i_ok 5 11 then if i_ok x1 66 then (fX12_laysCourse_L2 sh k31 n55 (x1 + 1) (s_A s58 34 x1.toNatClampNeg (s58.2.1 1 (5 : Int32).toNatClampNeg))) else none else none)
noncomputable def fX12_laysCourse_X31 (sh : List kd) (x53 : Int32) (s54 : St) : Option (Unit × St) := i_bd (fX12_laysBack sh s54) (fun r62 s63 => some ((), s63))
noncomputable def fX12_laysCourse (sh : List kd) (σ : St) : Option (Unit × St) := fX12_laysCourse_L2 sh (fun (x53 : Int32) (s54 : St) => fX12_laysCourse_X31 sh x53 s54) i_F 0 σ
set_option maxRecDepth 20000 in
set_option maxHeartbeats 2000000 in
theorem tX12_laysCourse_L2 {sh : List kd} {τ : St} {r : Unit} (hsh : rmSh sh) {k31 : Int32 → St → Option (Unit × St)} (hk31 : ∀ (x53 : Int32) (s54 : St), k31 x53 s54 = some (r, τ) → g_R sh 7 mX12_laysCourse none τ 31 [.ref 0, .int x53] [] (s54)) : ∀ (n0 : Nat) (x1 : Int32) (s2 : St), fX12_laysCourse_L2 sh k31 n0 x1 s2 = some (r, τ) → g_R sh 7 mX12_laysCourse none τ 2 [.ref 0, .int x1] [] (s2) := by
  intro n0
  induction n0 with
  | zero => intro _ _ hE; cases hE
  | succ n55 ih =>
    intro x1 s2 hE
    unfold fX12_laysCourse_L2 at hE
    refine g_ldin aX12_laysCourse_2 rfl ?_
    refine g_bipush (x := 66) aX12_laysCourse_3 rfl ?_
    by_cases hc56 : 66 ≤ x1
    · rw [if_pos hc56] at hE
      refine g_ic_ge_t aX12_laysCourse_5 hc56 ?_
      exact hk31 _ _ hE
    · rw [if_neg hc56] at hE
      refine g_ic_ge_f aX12_laysCourse_5 hc56 ?_
      refine g_ldan aX12_laysCourse_8 rfl ?_
      obtain ⟨r57, s58, h59, hE⟩ := i_bd_some hE
      refine g_calV (As := []) (rest := []) aX12_laysCourse_9 (i_X_mono (by omega) (tX12_goes hsh h59)) (sR_0 hsh) (by decide +kernel) rfl rfl (Nat.le_of_ble_eq_true rfl) rfl ?_
      refine g_popi aX12_laysCourse_12 ?_
      refine g_ldan aX12_laysCourse_13 rfl ?_
      refine g_getR aX12_laysCourse_14 (sR_0 hsh) rfl ?_
      refine g_ldin aX12_laysCourse_17 rfl ?_
      refine g_ldan aX12_laysCourse_18 rfl ?_
      refine g_getR aX12_laysCourse_19 (sR_0 hsh) rfl ?_
      refine g_iconst (x := 5) aX12_laysCourse_22 rfl ?_
      obtain ⟨h60, hE⟩ := i_ifn hE
      refine g_ild aX12_laysCourse_23 (sR_1 hsh) h60 ?_
      obtain ⟨h61, hE⟩ := i_ifn hE
      refine g_ist aX12_laysCourse_24 (sR_34 hsh) h61 ?_
      refine g_iinc (y := 1) (loc2 := [.ref 0, .int (x1 + 1)]) aX12_laysCourse_25 rfl rfl rfl ?_
      refine g_goto aX12_laysCourse_28 ?_
      exact ih _ _ hE
set_option maxRecDepth 20000 in
set_option maxHeartbeats 2000000 in
theorem tX12_laysCourse_X31 {sh : List kd} {τ : St} {r : Unit} (hsh : rmSh sh) {x53 : Int32} {s54 : St} (hE : fX12_laysCourse_X31 sh x53 s54 = some (r, τ)) : g_R sh 7 mX12_laysCourse none τ 31 [.ref 0, .int x53] [] (s54) := by
  unfold fX12_laysCourse_X31 at hE
  refine g_ldan aX12_laysCourse_31 rfl ?_
  obtain ⟨r62, s63, h64, hE⟩ := i_bd_some hE
  refine g_calV (As := []) (rest := []) aX12_laysCourse_32 (i_X_mono (by omega) (tX12_laysBack hsh h64)) (sR_0 hsh) (by decide +kernel) rfl rfl (Nat.le_of_ble_eq_true rfl) rfl ?_
  obtain ⟨rfl, rfl⟩ := i_some_inj hE
  exact g_vret aX12_laysCourse_35 rfl
set_option maxRecDepth 20000 in
set_option maxHeartbeats 2000000 in
theorem tX12_laysCourse {sh : List kd} {σ τ : St} {r : Unit} (hsh : rmSh sh) (hE : fX12_laysCourse sh σ = some (r, τ)) : i_X 8 213 [.ref 0] (s_h sh σ) 0 0 none (s_h sh τ) := by
  refine g_X (M := mX12_laysCourse) (loc := [.ref 0, .retAddr 0]) rfl (Nat.le_of_ble_eq_true rfl) rfl ?_
  unfold fX12_laysCourse at hE
  refine g_iconst (x := 0) aX12_laysCourse_0 rfl ?_
  refine g_stin (loc2 := [.ref 0, .int 0]) aX12_laysCourse_1 (Nat.le_of_ble_eq_true rfl) rfl ?_
  exact tX12_laysCourse_L2 hsh (fun x53 s54 hE => tX12_laysCourse_X31 hsh hE) i_F _ _ hE
theorem aX12_couldRule_0 : i_at mX12_couldRule.2.2.2.2.2 0 = some (.aload_n 0, 1, 0, 0, 0, 0) := by decide +kernel
theorem aX12_couldRule_1 : i_at mX12_couldRule.2.2.2.2.2 1 = some (.getfield 9, 3, 11, 1, 1088, 0) := by decide +kernel
theorem aX12_couldRule_4 : i_at mX12_couldRule.2.2.2.2.2 4 = some (.bipush 10, 2, 0, 0, 0, 0) := by decide +kernel
theorem aX12_couldRule_6 : i_at mX12_couldRule.2.2.2.2.2 6 = some (.iload_n 1, 1, 0, 0, 0, 0) := by decide +kernel
theorem aX12_couldRule_7 : i_at mX12_couldRule.2.2.2.2.2 7 = some (.iastore, 1, 0, 0, 0, 0) := by decide +kernel
theorem aX12_couldRule_8 : i_at mX12_couldRule.2.2.2.2.2 8 = some (.aload_n 0, 1, 0, 0, 0, 0) := by decide +kernel
theorem aX12_couldRule_9 : i_at mX12_couldRule.2.2.2.2.2 9 = some (.invokevirtual 302, 3, 165, 0, 1338, 0) := by decide +kernel
theorem aX12_couldRule_12 : i_at mX12_couldRule.2.2.2.2.2 12 = some (.aload_n 0, 1, 0, 0, 0, 0) := by decide +kernel
theorem aX12_couldRule_13 : i_at mX12_couldRule.2.2.2.2.2 13 = some (.invokevirtual 443, 3, 213, 0, 1629, 0) := by decide +kernel
theorem aX12_couldRule_16 : i_at mX12_couldRule.2.2.2.2.2 16 = some (.iconst 0, 1, 0, 0, 0, 0) := by decide +kernel
theorem aX12_couldRule_17 : i_at mX12_couldRule.2.2.2.2.2 17 = some (.istore_n 2, 1, 0, 0, 0, 0) := by decide +kernel
theorem aX12_couldRule_18 : i_at mX12_couldRule.2.2.2.2.2 18 = some (.iload_n 2, 1, 0, 0, 0, 0) := by decide +kernel
theorem aX12_couldRule_19 : i_at mX12_couldRule.2.2.2.2.2 19 = some (.aload_n 0, 1, 0, 0, 0, 0) := by decide +kernel
theorem aX12_couldRule_20 : i_at mX12_couldRule.2.2.2.2.2 20 = some (.getfield 9, 3, 11, 1, 1088, 0) := by decide +kernel
theorem aX12_couldRule_23 : i_at mX12_couldRule.2.2.2.2.2 23 = some (.bipush 8, 2, 0, 0, 0, 0) := by decide +kernel
theorem aX12_couldRule_25 : i_at mX12_couldRule.2.2.2.2.2 25 = some (.iaload, 1, 0, 0, 0, 0) := by decide +kernel
theorem aX12_couldRule_26 : i_at mX12_couldRule.2.2.2.2.2 26 = some (.if_icmp .ge 31, 3, 57, 0, 0, 0) := by decide +kernel
theorem aX12_couldRule_29 : i_at mX12_couldRule.2.2.2.2.2 29 = some (.aload_n 0, 1, 0, 0, 0, 0) := by decide +kernel
theorem aX12_couldRule_30 : i_at mX12_couldRule.2.2.2.2.2 30 = some (.getfield 115, 3, 11, 47, 1134, 0) := by decide +kernel
theorem aX12_couldRule_33 : i_at mX12_couldRule.2.2.2.2.2 33 = some (.aload_n 0, 1, 0, 0, 0, 0) := by decide +kernel
theorem aX12_couldRule_34 : i_at mX12_couldRule.2.2.2.2.2 34 = some (.getfield 37, 3, 11, 10, 1097, 0) := by decide +kernel
theorem aX12_couldRule_37 : i_at mX12_couldRule.2.2.2.2.2 37 = some (.iload_n 2, 1, 0, 0, 0, 0) := by decide +kernel
theorem aX12_couldRule_38 : i_at mX12_couldRule.2.2.2.2.2 38 = some (.iaload, 1, 0, 0, 0, 0) := by decide +kernel
theorem aX12_couldRule_39 : i_at mX12_couldRule.2.2.2.2.2 39 = some (.iaload, 1, 0, 0, 0, 0) := by decide +kernel
theorem aX12_couldRule_40 : i_at mX12_couldRule.2.2.2.2.2 40 = some (.aload_n 0, 1, 0, 0, 0, 0) := by decide +kernel
theorem aX12_couldRule_41 : i_at mX12_couldRule.2.2.2.2.2 41 = some (.getfield 40, 3, 11, 11, 1098, 0) := by decide +kernel
theorem aX12_couldRule_44 : i_at mX12_couldRule.2.2.2.2.2 44 = some (.iload_n 2, 1, 0, 0, 0, 0) := by decide +kernel
theorem aX12_couldRule_45 : i_at mX12_couldRule.2.2.2.2.2 45 = some (.iaload, 1, 0, 0, 0, 0) := by decide +kernel
theorem aX12_couldRule_46 : i_at mX12_couldRule.2.2.2.2.2 46 = some (.if_icmp .eq 5, 3, 51, 0, 0, 0) := by decide +kernel
theorem aX12_couldRule_49 : i_at mX12_couldRule.2.2.2.2.2 49 = some (.iconst 0, 1, 0, 0, 0, 0) := by decide +kernel
theorem aX12_couldRule_50 : i_at mX12_couldRule.2.2.2.2.2 50 = some (.ireturn, 1, 0, 0, 0, 0) := by decide +kernel
theorem aX12_couldRule_51 : i_at mX12_couldRule.2.2.2.2.2 51 = some (.iinc 2 1, 3, 0, 0, 0, 0) := by decide +kernel
theorem aX12_couldRule_54 : i_at mX12_couldRule.2.2.2.2.2 54 = some (.goto (-36), 3, 18, 0, 0, 0) := by decide +kernel
theorem aX12_couldRule_57 : i_at mX12_couldRule.2.2.2.2.2 57 = some (.iconst 1, 1, 0, 0, 0, 0) := by decide +kernel
theorem aX12_couldRule_58 : i_at mX12_couldRule.2.2.2.2.2 58 = some (.ireturn, 1, 0, 0, 0, 0) := by decide +kernel
noncomputable def fX12_couldRule_L18 (sh : List kd) (p1 : Int32) (s6 : St) : Nat → Int32 → Option (Int32 × St)
  | 0, _ => none
  | n9 + 1, x8 => if i_ok 8 11 then if (s6.2.1 1 (8 : Int32).toNatClampNeg) ≤ x8 then some (1, s6) else if i_ok x8 10 then if i_ok (s6.2.1 10 x8.toNatClampNeg) 66 then if i_ok x8 10 then if (s6.2.1 34 (s6.2.1 10 x8.toNatClampNeg).toNatClampNeg) = (s6.2.1 11 x8.toNatClampNeg) then (fX12_couldRule_L18 sh p1 s6 n9 (x8 + 1)) else some (0, s6) else none else none else none else none
noncomputable def fX12_couldRule (sh : List kd) (σ : St) (p1 : Int32) : Option (Int32 × St) := if i_ok 10 11 then i_bd (fX12_begins sh (s_A σ 1 (10 : Int32).toNatClampNeg p1)) (fun r2 s3 => i_bd (fX12_laysCourse sh s3) (fun r5 s6 => fX12_couldRule_L18 sh p1 s6 i_F 0)) else none
set_option maxRecDepth 20000 in
set_option maxHeartbeats 2000000 in
theorem tX12_couldRule_L18 {sh : List kd} {τ : St} {r : Int32} (hsh : rmSh sh) {p1 : Int32} {s6 : St} : ∀ (n0 : Nat) (x8 : Int32), fX12_couldRule_L18 sh p1 s6 n0 x8 = some (r, τ) → g_R sh 8 mX12_couldRule (some (.int r)) τ 18 [.ref 0, .int p1, .int x8] [] (s6) := by
  intro n0
  induction n0 with
  | zero => intro _ hE; cases hE
  | succ n9 ih =>
    intro x8 hE
    unfold fX12_couldRule_L18 at hE
    refine g_ldin aX12_couldRule_18 rfl ?_
    refine g_ldan aX12_couldRule_19 rfl ?_
    refine g_getR aX12_couldRule_20 (sR_0 hsh) rfl ?_
    refine g_bipush (x := 8) aX12_couldRule_23 rfl ?_
    obtain ⟨h10, hE⟩ := i_ifn hE
    refine g_ild aX12_couldRule_25 (sR_1 hsh) h10 ?_
    by_cases hc11 : (s6.2.1 1 (8 : Int32).toNatClampNeg) ≤ x8
    · rw [if_pos hc11] at hE
      refine g_ic_ge_t aX12_couldRule_26 hc11 ?_
      refine g_iconst (x := 1) aX12_couldRule_57 rfl ?_
      obtain ⟨rfl, rfl⟩ := i_some_inj hE
      exact g_iret aX12_couldRule_58 rfl rfl
    · rw [if_neg hc11] at hE
      refine g_ic_ge_f aX12_couldRule_26 hc11 ?_
      refine g_ldan aX12_couldRule_29 rfl ?_
      refine g_getR aX12_couldRule_30 (sR_0 hsh) rfl ?_
      refine g_ldan aX12_couldRule_33 rfl ?_
      refine g_getR aX12_couldRule_34 (sR_0 hsh) rfl ?_
      refine g_ldin aX12_couldRule_37 rfl ?_
      obtain ⟨h12, hE⟩ := i_ifn hE
      refine g_ild aX12_couldRule_38 (sR_10 hsh) h12 ?_
      obtain ⟨h13, hE⟩ := i_ifn hE
      refine g_ild aX12_couldRule_39 (sR_34 hsh) h13 ?_
      refine g_ldan aX12_couldRule_40 rfl ?_
      refine g_getR aX12_couldRule_41 (sR_0 hsh) rfl ?_
      refine g_ldin aX12_couldRule_44 rfl ?_
      obtain ⟨h14, hE⟩ := i_ifn hE
      refine g_ild aX12_couldRule_45 (sR_11 hsh) h14 ?_
      by_cases hc15 : (s6.2.1 34 (s6.2.1 10 x8.toNatClampNeg).toNatClampNeg) = (s6.2.1 11 x8.toNatClampNeg)
      · rw [if_pos hc15] at hE
        refine g_ic_eq_t aX12_couldRule_46 hc15 ?_
        refine g_iinc (y := 1) (loc2 := [.ref 0, .int p1, .int (x8 + 1)]) aX12_couldRule_51 rfl rfl rfl ?_
        refine g_goto aX12_couldRule_54 ?_
        exact ih _ hE
      · rw [if_neg hc15] at hE
        refine g_ic_eq_f aX12_couldRule_46 hc15 ?_
        refine g_iconst (x := 0) aX12_couldRule_49 rfl ?_
        obtain ⟨rfl, rfl⟩ := i_some_inj hE
        exact g_iret aX12_couldRule_50 rfl rfl
set_option maxRecDepth 20000 in
set_option maxHeartbeats 2000000 in
theorem tX12_couldRule {sh : List kd} {σ τ : St} {r : Int32} (hsh : rmSh sh) {p1 : Int32} (hE : fX12_couldRule sh σ p1 = some (r, τ)) : i_X 9 217 [.ref 0, .int p1] (s_h sh σ) 0 0 (some (.int r)) (s_h sh τ) := by
  refine g_X (M := mX12_couldRule) (loc := [.ref 0, .int p1, .retAddr 0]) rfl (Nat.le_of_ble_eq_true rfl) rfl ?_
  unfold fX12_couldRule at hE
  refine g_ldan aX12_couldRule_0 rfl ?_
  refine g_getR aX12_couldRule_1 (sR_0 hsh) rfl ?_
  refine g_bipush (x := 10) aX12_couldRule_4 rfl ?_
  refine g_ldin aX12_couldRule_6 rfl ?_
  obtain ⟨h1, hE⟩ := i_ifn hE
  refine g_ist aX12_couldRule_7 (sR_1 hsh) h1 ?_
  refine g_ldan aX12_couldRule_8 rfl ?_
  obtain ⟨r2, s3, h4, hE⟩ := i_bd_some hE
  refine g_calV (As := []) (rest := []) aX12_couldRule_9 (i_X_mono (by omega) (tX12_begins hsh h4)) (sR_0 hsh) (by decide +kernel) rfl rfl (Nat.le_of_ble_eq_true rfl) rfl ?_
  refine g_ldan aX12_couldRule_12 rfl ?_
  obtain ⟨r5, s6, h7, hE⟩ := i_bd_some hE
  refine g_calV (As := []) (rest := []) aX12_couldRule_13 (i_X_mono (by omega) (tX12_laysCourse hsh h7)) (sR_0 hsh) (by decide +kernel) rfl rfl (Nat.le_of_ble_eq_true rfl) rfl ?_
  refine g_iconst (x := 0) aX12_couldRule_16 rfl ?_
  refine g_stin (loc2 := [.ref 0, .int p1, .int 0]) aX12_couldRule_17 (Nat.le_of_ble_eq_true rfl) rfl ?_
  exact tX12_couldRule_L18 hsh i_F _ hE
theorem aX12_ruled_0 : i_at mX12_ruled.2.2.2.2.2 0 = some (.aload_n 0, 1, 0, 0, 0, 0) := by decide +kernel
theorem aX12_ruled_1 : i_at mX12_ruled.2.2.2.2.2 1 = some (.invokevirtual 345, 3, 130, 0, 1438, 0) := by decide +kernel
theorem aX12_ruled_4 : i_at mX12_ruled.2.2.2.2.2 4 = some (.ifCond .eq 13, 3, 17, 0, 0, 0) := by decide +kernel
theorem aX12_ruled_7 : i_at mX12_ruled.2.2.2.2.2 7 = some (.iload_n 1, 1, 0, 0, 0, 0) := by decide +kernel
theorem aX12_ruled_8 : i_at mX12_ruled.2.2.2.2.2 8 = some (.i2l, 1, 0, 0, 0, 0) := by decide +kernel
theorem aX12_ruled_9 : i_at mX12_ruled.2.2.2.2.2 9 = some (.lconst 0, 1, 0, 0, 0, 0) := by decide +kernel
theorem aX12_ruled_10 : i_at mX12_ruled.2.2.2.2.2 10 = some (.lconst 1, 1, 0, 0, 0, 0) := by decide +kernel
theorem aX12_ruled_11 : i_at mX12_ruled.2.2.2.2.2 11 = some (.invokestatic 131, 3, 127, 3, 1324, 0) := by decide +kernel
theorem aX12_ruled_14 : i_at mX12_ruled.2.2.2.2.2 14 = some (.ifCond .ne 6, 3, 20, 0, 0, 0) := by decide +kernel
theorem aX12_ruled_17 : i_at mX12_ruled.2.2.2.2.2 17 = some (.bipush (-3), 2, 0, 0, 0, 0) := by decide +kernel
theorem aX12_ruled_19 : i_at mX12_ruled.2.2.2.2.2 19 = some (.ireturn, 1, 0, 0, 0, 0) := by decide +kernel
theorem aX12_ruled_20 : i_at mX12_ruled.2.2.2.2.2 20 = some (.aload_n 0, 1, 0, 0, 0, 0) := by decide +kernel
theorem aX12_ruled_21 : i_at mX12_ruled.2.2.2.2.2 21 = some (.invokevirtual 410, 3, 196, 0, 1545, 0) := by decide +kernel
theorem aX12_ruled_24 : i_at mX12_ruled.2.2.2.2.2 24 = some (.iconst 0, 1, 0, 0, 0, 0) := by decide +kernel
theorem aX12_ruled_25 : i_at mX12_ruled.2.2.2.2.2 25 = some (.istore_n 2, 1, 0, 0, 0, 0) := by decide +kernel
theorem aX12_ruled_26 : i_at mX12_ruled.2.2.2.2.2 26 = some (.bipush (-2), 2, 0, 0, 0, 0) := by decide +kernel
theorem aX12_ruled_28 : i_at mX12_ruled.2.2.2.2.2 28 = some (.istore_n 3, 1, 0, 0, 0, 0) := by decide +kernel
theorem aX12_ruled_29 : i_at mX12_ruled.2.2.2.2.2 29 = some (.iconst (-1), 1, 0, 0, 0, 0) := by decide +kernel
theorem aX12_ruled_30 : i_at mX12_ruled.2.2.2.2.2 30 = some (.istore 4, 2, 0, 0, 0, 0) := by decide +kernel
theorem aX12_ruled_32 : i_at mX12_ruled.2.2.2.2.2 32 = some (.iload 4, 2, 0, 0, 0, 0) := by decide +kernel
theorem aX12_ruled_34 : i_at mX12_ruled.2.2.2.2.2 34 = some (.aload_n 0, 1, 0, 0, 0, 0) := by decide +kernel
theorem aX12_ruled_35 : i_at mX12_ruled.2.2.2.2.2 35 = some (.getfield 318, 3, 11, 23, 1110, 0) := by decide +kernel
theorem aX12_ruled_38 : i_at mX12_ruled.2.2.2.2.2 38 = some (.if_icmp .ge 32, 3, 70, 0, 0, 0) := by decide +kernel
theorem aX12_ruled_41 : i_at mX12_ruled.2.2.2.2.2 41 = some (.aload_n 0, 1, 0, 0, 0, 0) := by decide +kernel
theorem aX12_ruled_42 : i_at mX12_ruled.2.2.2.2.2 42 = some (.iload 4, 2, 0, 0, 0, 0) := by decide +kernel
theorem aX12_ruled_44 : i_at mX12_ruled.2.2.2.2.2 44 = some (.invokevirtual 449, 3, 217, 1, 1645, 0) := by decide +kernel
theorem aX12_ruled_47 : i_at mX12_ruled.2.2.2.2.2 47 = some (.ifCond .eq 17, 3, 64, 0, 0, 0) := by decide +kernel
theorem aX12_ruled_50 : i_at mX12_ruled.2.2.2.2.2 50 = some (.iload_n 2, 1, 0, 0, 0, 0) := by decide +kernel
theorem aX12_ruled_51 : i_at mX12_ruled.2.2.2.2.2 51 = some (.ifCond .ne 8, 3, 59, 0, 0, 0) := by decide +kernel
theorem aX12_ruled_54 : i_at mX12_ruled.2.2.2.2.2 54 = some (.iload 4, 2, 0, 0, 0, 0) := by decide +kernel
theorem aX12_ruled_56 : i_at mX12_ruled.2.2.2.2.2 56 = some (.goto 4, 3, 60, 0, 0, 0) := by decide +kernel
theorem aX12_ruled_59 : i_at mX12_ruled.2.2.2.2.2 59 = some (.iload_n 3, 1, 0, 0, 0, 0) := by decide +kernel
theorem aX12_ruled_60 : i_at mX12_ruled.2.2.2.2.2 60 = some (.istore_n 3, 1, 0, 0, 0, 0) := by decide +kernel
theorem aX12_ruled_61 : i_at mX12_ruled.2.2.2.2.2 61 = some (.iinc 2 1, 3, 0, 0, 0, 0) := by decide +kernel
theorem aX12_ruled_64 : i_at mX12_ruled.2.2.2.2.2 64 = some (.iinc 4 1, 3, 0, 0, 0, 0) := by decide +kernel
theorem aX12_ruled_67 : i_at mX12_ruled.2.2.2.2.2 67 = some (.goto (-35), 3, 32, 0, 0, 0) := by decide +kernel
theorem aX12_ruled_70 : i_at mX12_ruled.2.2.2.2.2 70 = some (.iload_n 1, 1, 0, 0, 0, 0) := by decide +kernel
theorem aX12_ruled_71 : i_at mX12_ruled.2.2.2.2.2 71 = some (.ifCond .ne 7, 3, 78, 0, 0, 0) := by decide +kernel
theorem aX12_ruled_74 : i_at mX12_ruled.2.2.2.2.2 74 = some (.iload_n 2, 1, 0, 0, 0, 0) := by decide +kernel
theorem aX12_ruled_75 : i_at mX12_ruled.2.2.2.2.2 75 = some (.goto 4, 3, 79, 0, 0, 0) := by decide +kernel
theorem aX12_ruled_78 : i_at mX12_ruled.2.2.2.2.2 78 = some (.iload_n 3, 1, 0, 0, 0, 0) := by decide +kernel
theorem aX12_ruled_79 : i_at mX12_ruled.2.2.2.2.2 79 = some (.ireturn, 1, 0, 0, 0, 0) := by decide +kernel
noncomputable def fX12_ruled_J64 (sh : List kd) (p1 : Int32) (x14 : Int32) (s73 : St) (k32 : Int32 → Int32 → Int32 → St → Option (Int32 × St)) (x125 : Int32) (x126 : Int32) : Option (Int32 × St) := k32 x125 x126 (x14 + 1) s73
noncomputable def fX12_ruled_L32 (sh : List kd) (p1 : Int32) (k70 : Int32 → Int32 → Int32 → St → Option (Int32 × St)) : Nat → Int32 → Int32 → Int32 → St → Option (Int32 × St)
  | 0, _, _, _, _ => none
  | n70 + 1, x12, x13, x14, s15 => if (s15.1 0 23) ≤ x14 then k70 x12 x13 x14 s15 else i_bd (fX12_couldRule sh s15 x14) (fun r72 s73 => if r72 = 0 then fX12_ruled_J64 sh p1 x14 s73 (fX12_ruled_L32 sh p1 k70 n70) x12 x13 else fX12_ruled_J64 sh p1 x14 s73 (fX12_ruled_L32 sh p1 k70 n70) (x12 + 1) ((if ¬ x12 = 0 then x13 else x14) : Int32))
noncomputable def fX12_ruled_X70 (sh : List kd) (p1 : Int32) (x66 : Int32) (x67 : Int32) (x68 : Int32) (s69 : St) : Option (Int32 × St) := some (((if ¬ p1 = 0 then x67 else x66) : Int32), s69)
noncomputable def fX12_ruled (sh : List kd) (σ : St) (p1 : Int32) : Option (Int32 × St) := i_bd (fX12_isCourt sh σ) (fun r1 s2 => if r1 = 0 then some ((-3), s2) else i_bd (fX12_in sh s2 p1.toInt64 0 1) (fun r5 s6 => if ¬ r5 = 0 then i_bd (fX12_keepsAll sh s6) (fun r9 s10 => fX12_ruled_L32 sh p1 (fun (x66 : Int32) (x67 : Int32) (x68 : Int32) (s69 : St) => fX12_ruled_X70 sh p1 x66 x67 x68 s69) i_F 0 (-2) (-1) s10) else some ((-3), s6)))
set_option maxRecDepth 20000 in
set_option maxHeartbeats 2000000 in
theorem tX12_ruled_J64 {sh : List kd} {τ : St} {r : Int32} (hsh : rmSh sh) {p1 : Int32} {x14 : Int32} {s73 : St} {x125 : Int32} {x126 : Int32} {k32 : Int32 → Int32 → Int32 → St → Option (Int32 × St)} (hk32 : ∀ (x12 : Int32) (x13 : Int32) (x14 : Int32) (s15 : St), k32 x12 x13 x14 s15 = some (r, τ) → g_R sh 9 mX12_ruled (some (.int r)) τ 32 [.ref 0, .int p1, .int x12, .int x13, .int x14] [] (s15)) (hE : fX12_ruled_J64 sh p1 x14 s73 k32 x125 x126 = some (r, τ)) : g_R sh 9 mX12_ruled (some (.int r)) τ 64 [.ref 0, .int p1, .int x125, .int x126, .int x14] [] (s73) := by
  unfold fX12_ruled_J64 at hE
  refine g_iinc (y := 1) (loc2 := [.ref 0, .int p1, .int x125, .int x126, .int (x14 + 1)]) aX12_ruled_64 rfl rfl rfl ?_
  refine g_goto aX12_ruled_67 ?_
  exact hk32 _ _ _ _ hE
set_option maxRecDepth 20000 in
set_option maxHeartbeats 2000000 in
theorem tX12_ruled_L32 {sh : List kd} {τ : St} {r : Int32} (hsh : rmSh sh) {p1 : Int32} {k70 : Int32 → Int32 → Int32 → St → Option (Int32 × St)} (hk70 : ∀ (x66 : Int32) (x67 : Int32) (x68 : Int32) (s69 : St), k70 x66 x67 x68 s69 = some (r, τ) → g_R sh 9 mX12_ruled (some (.int r)) τ 70 [.ref 0, .int p1, .int x66, .int x67, .int x68] [] (s69)) : ∀ (n0 : Nat) (x12 : Int32) (x13 : Int32) (x14 : Int32) (s15 : St), fX12_ruled_L32 sh p1 k70 n0 x12 x13 x14 s15 = some (r, τ) → g_R sh 9 mX12_ruled (some (.int r)) τ 32 [.ref 0, .int p1, .int x12, .int x13, .int x14] [] (s15) := by
  intro n0
  induction n0 with
  | zero => intro _ _ _ _ hE; cases hE
  | succ n70 ih =>
    intro x12 x13 x14 s15 hE
    unfold fX12_ruled_L32 at hE
    refine g_ldi aX12_ruled_32 rfl ?_
    refine g_ldan aX12_ruled_34 rfl ?_
    refine g_getI aX12_ruled_35 (sR_0 hsh) rfl ?_
    by_cases hc71 : (s15.1 0 23) ≤ x14
    · rw [if_pos hc71] at hE
      refine g_ic_ge_t aX12_ruled_38 hc71 ?_
      exact hk70 _ _ _ _ hE
    · rw [if_neg hc71] at hE
      refine g_ic_ge_f aX12_ruled_38 hc71 ?_
      refine g_ldan aX12_ruled_41 rfl ?_
      refine g_ldi aX12_ruled_42 rfl ?_
      obtain ⟨r72, s73, h74, hE⟩ := i_bd_some hE
      refine g_calV (As := [.int x14]) (rest := []) aX12_ruled_44 (i_X_mono (by omega) (tX12_couldRule hsh h74)) (sR_0 hsh) (by decide +kernel) rfl rfl (Nat.le_of_ble_eq_true rfl) rfl ?_
      by_cases hc127 : r72 = 0
      · rw [if_pos hc127] at hE
        refine g_if_eq_t aX12_ruled_47 hc127 ?_
        exact tX12_ruled_J64 hsh ih hE
      · rw [if_neg hc127] at hE
        refine g_if_eq_f aX12_ruled_47 hc127 ?_
        refine g_ldin aX12_ruled_50 rfl ?_
        have hJ : g_R sh 9 mX12_ruled (some (.int r)) τ 60 [.ref 0, .int p1, .int x12, .int x13, .int x14] [.int ((if ¬ x12 = 0 then x13 else x14) : Int32)] (s73) := by
          refine g_stin (loc2 := [.ref 0, .int p1, .int x12, .int ((if ¬ x12 = 0 then x13 else x14) : Int32), .int x14]) aX12_ruled_60 (Nat.le_of_ble_eq_true rfl) rfl ?_
          refine g_iinc (y := 1) (loc2 := [.ref 0, .int p1, .int (x12 + 1), .int ((if ¬ x12 = 0 then x13 else x14) : Int32), .int x14]) aX12_ruled_61 rfl rfl rfl ?_
          exact tX12_ruled_J64 hsh ih hE
        clear hE
        by_cases hc127 : ¬ x12 = 0
        · (try rw [if_pos hc127] at hJ)
          refine g_if_ne_t aX12_ruled_51 hc127 ?_
          refine g_ldin aX12_ruled_59 rfl ?_
          exact hJ
        · (try rw [if_neg hc127] at hJ)
          refine g_if_ne_f aX12_ruled_51 hc127 ?_
          refine g_ldi aX12_ruled_54 rfl ?_
          refine g_goto aX12_ruled_56 ?_
          exact hJ
set_option maxRecDepth 20000 in
set_option maxHeartbeats 2000000 in
theorem tX12_ruled_X70 {sh : List kd} {τ : St} {r : Int32} (hsh : rmSh sh) {p1 : Int32} {x66 : Int32} {x67 : Int32} {x68 : Int32} {s69 : St} (hE : fX12_ruled_X70 sh p1 x66 x67 x68 s69 = some (r, τ)) : g_R sh 9 mX12_ruled (some (.int r)) τ 70 [.ref 0, .int p1, .int x66, .int x67, .int x68] [] (s69) := by
  unfold fX12_ruled_X70 at hE
  refine g_ldin aX12_ruled_70 rfl ?_
  have hJ : g_R sh 9 mX12_ruled (some (.int r)) τ 79 [.ref 0, .int p1, .int x66, .int x67, .int x68] [.int ((if ¬ p1 = 0 then x67 else x66) : Int32)] (s69) := by
    obtain ⟨rfl, rfl⟩ := i_some_inj hE
    exact g_iret aX12_ruled_79 rfl rfl
  clear hE
  by_cases hc128 : ¬ p1 = 0
  · (try rw [if_pos hc128] at hJ)
    refine g_if_ne_t aX12_ruled_71 hc128 ?_
    refine g_ldin aX12_ruled_78 rfl ?_
    exact hJ
  · (try rw [if_neg hc128] at hJ)
    refine g_if_ne_f aX12_ruled_71 hc128 ?_
    refine g_ldin aX12_ruled_74 rfl ?_
    refine g_goto aX12_ruled_75 ?_
    exact hJ
set_option maxRecDepth 20000 in
set_option maxHeartbeats 2000000 in
theorem tX12_ruled {sh : List kd} {σ τ : St} {r : Int32} (hsh : rmSh sh) {p1 : Int32} (hE : fX12_ruled sh σ p1 = some (r, τ)) : i_X 10 218 [.ref 0, .int p1] (s_h sh σ) 0 0 (some (.int r)) (s_h sh τ) := by
  refine g_X (M := mX12_ruled) (loc := [.ref 0, .int p1, .retAddr 0, .retAddr 0, .retAddr 0]) rfl (Nat.le_of_ble_eq_true rfl) rfl ?_
  unfold fX12_ruled at hE
  refine g_ldan aX12_ruled_0 rfl ?_
  obtain ⟨r1, s2, h3, hE⟩ := i_bd_some hE
  refine g_calV (As := []) (rest := []) aX12_ruled_1 (i_X_mono (by omega) (tX12_isCourt hsh h3)) (sR_0 hsh) (by decide +kernel) rfl rfl (Nat.le_of_ble_eq_true rfl) rfl ?_
  by_cases hc4 : r1 = 0
  · rw [if_pos hc4] at hE
    refine g_if_eq_t aX12_ruled_4 hc4 ?_
    refine g_bipush (x := (-3)) aX12_ruled_17 rfl ?_
    obtain ⟨rfl, rfl⟩ := i_some_inj hE
    exact g_iret aX12_ruled_19 rfl rfl
  · rw [if_neg hc4] at hE
    refine g_if_eq_f aX12_ruled_4 hc4 ?_
    refine g_ldin aX12_ruled_7 rfl ?_
    refine g_i2l aX12_ruled_8 ?_
    refine g_lconst (x := 0) aX12_ruled_9 rfl ?_
    refine g_lconst (x := 1) aX12_ruled_10 rfl ?_
    obtain ⟨r5, s6, h7, hE⟩ := i_bd_some hE
    refine g_calS (As := [.long p1.toInt64, .long 0, .long 1]) (rest := []) aX12_ruled_11 (i_X_mono (by omega) (tX12_in hsh h7)) rfl rfl (Nat.le_of_ble_eq_true rfl) rfl ?_
    by_cases hc8 : ¬ r5 = 0
    · rw [if_pos hc8] at hE
      refine g_if_ne_t aX12_ruled_14 hc8 ?_
      refine g_ldan aX12_ruled_20 rfl ?_
      obtain ⟨r9, s10, h11, hE⟩ := i_bd_some hE
      refine g_calV (As := []) (rest := []) aX12_ruled_21 (i_X_mono (by omega) (tX12_keepsAll hsh h11)) (sR_0 hsh) (by decide +kernel) rfl rfl (Nat.le_of_ble_eq_true rfl) rfl ?_
      refine g_iconst (x := 0) aX12_ruled_24 rfl ?_
      refine g_stin (loc2 := [.ref 0, .int p1, .int 0, .retAddr 0, .retAddr 0]) aX12_ruled_25 (Nat.le_of_ble_eq_true rfl) rfl ?_
      refine g_bipush (x := (-2)) aX12_ruled_26 rfl ?_
      refine g_stin (loc2 := [.ref 0, .int p1, .int 0, .int (-2), .retAddr 0]) aX12_ruled_28 (Nat.le_of_ble_eq_true rfl) rfl ?_
      refine g_iconst (x := (-1)) aX12_ruled_29 rfl ?_
      refine g_sti (loc2 := [.ref 0, .int p1, .int 0, .int (-2), .int (-1)]) aX12_ruled_30 (Nat.le_of_ble_eq_true rfl) rfl ?_
      exact tX12_ruled_L32 hsh (fun x66 x67 x68 s69 hE => tX12_ruled_X70 hsh hE) i_F _ _ _ _ hE
    · rw [if_neg hc8] at hE
      refine g_if_ne_f aX12_ruled_14 hc8 ?_
      refine g_bipush (x := (-3)) aX12_ruled_17 rfl ?_
      obtain ⟨rfl, rfl⟩ := i_some_inj hE
      exact g_iret aX12_ruled_19 rfl rfl
theorem aX12_look_0 : i_at mX12_look.2.2.2.2.2 0 = some (.aload_n 0, 1, 0, 0, 0, 0) := by decide +kernel
theorem aX12_look_1 : i_at mX12_look.2.2.2.2.2 1 = some (.invokevirtual 345, 3, 130, 0, 1438, 0) := by decide +kernel
theorem aX12_look_4 : i_at mX12_look.2.2.2.2.2 4 = some (.ifCond .eq 13, 3, 17, 0, 0, 0) := by decide +kernel
theorem aX12_look_7 : i_at mX12_look.2.2.2.2.2 7 = some (.iload_n 1, 1, 0, 0, 0, 0) := by decide +kernel
theorem aX12_look_8 : i_at mX12_look.2.2.2.2.2 8 = some (.i2l, 1, 0, 0, 0, 0) := by decide +kernel
theorem aX12_look_9 : i_at mX12_look.2.2.2.2.2 9 = some (.lconst 0, 1, 0, 0, 0, 0) := by decide +kernel
theorem aX12_look_10 : i_at mX12_look.2.2.2.2.2 10 = some (.lconst 1, 1, 0, 0, 0, 0) := by decide +kernel
theorem aX12_look_11 : i_at mX12_look.2.2.2.2.2 11 = some (.invokestatic 131, 3, 127, 3, 1324, 0) := by decide +kernel
theorem aX12_look_14 : i_at mX12_look.2.2.2.2.2 14 = some (.ifCond .ne 5, 3, 19, 0, 0, 0) := by decide +kernel
theorem aX12_look_17 : i_at mX12_look.2.2.2.2.2 17 = some (.iconst (-1), 1, 0, 0, 0, 0) := by decide +kernel
theorem aX12_look_18 : i_at mX12_look.2.2.2.2.2 18 = some (.ireturn, 1, 0, 0, 0, 0) := by decide +kernel
theorem aX12_look_19 : i_at mX12_look.2.2.2.2.2 19 = some (.aload_n 0, 1, 0, 0, 0, 0) := by decide +kernel
theorem aX12_look_20 : i_at mX12_look.2.2.2.2.2 20 = some (.invokevirtual 410, 3, 196, 0, 1545, 0) := by decide +kernel
theorem aX12_look_23 : i_at mX12_look.2.2.2.2.2 23 = some (.iconst 0, 1, 0, 0, 0, 0) := by decide +kernel
theorem aX12_look_24 : i_at mX12_look.2.2.2.2.2 24 = some (.istore_n 2, 1, 0, 0, 0, 0) := by decide +kernel
theorem aX12_look_25 : i_at mX12_look.2.2.2.2.2 25 = some (.iconst (-1), 1, 0, 0, 0, 0) := by decide +kernel
theorem aX12_look_26 : i_at mX12_look.2.2.2.2.2 26 = some (.istore_n 3, 1, 0, 0, 0, 0) := by decide +kernel
theorem aX12_look_27 : i_at mX12_look.2.2.2.2.2 27 = some (.iload_n 3, 1, 0, 0, 0, 0) := by decide +kernel
theorem aX12_look_28 : i_at mX12_look.2.2.2.2.2 28 = some (.aload_n 0, 1, 0, 0, 0, 0) := by decide +kernel
theorem aX12_look_29 : i_at mX12_look.2.2.2.2.2 29 = some (.getfield 318, 3, 11, 23, 1110, 0) := by decide +kernel
theorem aX12_look_32 : i_at mX12_look.2.2.2.2.2 32 = some (.if_icmp .ge 55, 3, 87, 0, 0, 0) := by decide +kernel
theorem aX12_look_35 : i_at mX12_look.2.2.2.2.2 35 = some (.aload_n 0, 1, 0, 0, 0, 0) := by decide +kernel
theorem aX12_look_36 : i_at mX12_look.2.2.2.2.2 36 = some (.iload_n 3, 1, 0, 0, 0, 0) := by decide +kernel
theorem aX12_look_37 : i_at mX12_look.2.2.2.2.2 37 = some (.invokevirtual 449, 3, 217, 1, 1645, 0) := by decide +kernel
theorem aX12_look_40 : i_at mX12_look.2.2.2.2.2 40 = some (.ifCond .eq 41, 3, 81, 0, 0, 0) := by decide +kernel
theorem aX12_look_43 : i_at mX12_look.2.2.2.2.2 43 = some (.iconst 0, 1, 0, 0, 0, 0) := by decide +kernel
theorem aX12_look_44 : i_at mX12_look.2.2.2.2.2 44 = some (.istore 4, 2, 0, 0, 0, 0) := by decide +kernel
theorem aX12_look_46 : i_at mX12_look.2.2.2.2.2 46 = some (.iload 4, 2, 0, 0, 0, 0) := by decide +kernel
theorem aX12_look_48 : i_at mX12_look.2.2.2.2.2 48 = some (.bipush 60, 2, 0, 0, 0, 0) := by decide +kernel
theorem aX12_look_50 : i_at mX12_look.2.2.2.2.2 50 = some (.if_icmp .gt 28, 3, 78, 0, 0, 0) := by decide +kernel
theorem aX12_look_53 : i_at mX12_look.2.2.2.2.2 53 = some (.aload_n 0, 1, 0, 0, 0, 0) := by decide +kernel
theorem aX12_look_54 : i_at mX12_look.2.2.2.2.2 54 = some (.getfield 118, 3, 11, 48, 1135, 0) := by decide +kernel
theorem aX12_look_57 : i_at mX12_look.2.2.2.2.2 57 = some (.bipush 61, 2, 0, 0, 0, 0) := by decide +kernel
theorem aX12_look_59 : i_at mX12_look.2.2.2.2.2 59 = some (.iload_n 2, 1, 0, 0, 0, 0) := by decide +kernel
theorem aX12_look_60 : i_at mX12_look.2.2.2.2.2 60 = some (.imul, 1, 0, 0, 0, 0) := by decide +kernel
theorem aX12_look_61 : i_at mX12_look.2.2.2.2.2 61 = some (.iload 4, 2, 0, 0, 0, 0) := by decide +kernel
theorem aX12_look_63 : i_at mX12_look.2.2.2.2.2 63 = some (.iadd, 1, 0, 0, 0, 0) := by decide +kernel
theorem aX12_look_64 : i_at mX12_look.2.2.2.2.2 64 = some (.aload_n 0, 1, 0, 0, 0, 0) := by decide +kernel
theorem aX12_look_65 : i_at mX12_look.2.2.2.2.2 65 = some (.getfield 115, 3, 11, 47, 1134, 0) := by decide +kernel
theorem aX12_look_68 : i_at mX12_look.2.2.2.2.2 68 = some (.iload 4, 2, 0, 0, 0, 0) := by decide +kernel
theorem aX12_look_70 : i_at mX12_look.2.2.2.2.2 70 = some (.iaload, 1, 0, 0, 0, 0) := by decide +kernel
theorem aX12_look_71 : i_at mX12_look.2.2.2.2.2 71 = some (.iastore, 1, 0, 0, 0, 0) := by decide +kernel
theorem aX12_look_72 : i_at mX12_look.2.2.2.2.2 72 = some (.iinc 4 1, 3, 0, 0, 0, 0) := by decide +kernel
theorem aX12_look_75 : i_at mX12_look.2.2.2.2.2 75 = some (.goto (-29), 3, 46, 0, 0, 0) := by decide +kernel
theorem aX12_look_78 : i_at mX12_look.2.2.2.2.2 78 = some (.iinc 2 1, 3, 0, 0, 0, 0) := by decide +kernel
theorem aX12_look_81 : i_at mX12_look.2.2.2.2.2 81 = some (.iinc 3 1, 3, 0, 0, 0, 0) := by decide +kernel
theorem aX12_look_84 : i_at mX12_look.2.2.2.2.2 84 = some (.goto (-57), 3, 27, 0, 0, 0) := by decide +kernel
theorem aX12_look_87 : i_at mX12_look.2.2.2.2.2 87 = some (.iload_n 2, 1, 0, 0, 0, 0) := by decide +kernel
theorem aX12_look_88 : i_at mX12_look.2.2.2.2.2 88 = some (.ifCond .ne 6, 3, 94, 0, 0, 0) := by decide +kernel
theorem aX12_look_91 : i_at mX12_look.2.2.2.2.2 91 = some (.bipush (-2), 2, 0, 0, 0, 0) := by decide +kernel
theorem aX12_look_93 : i_at mX12_look.2.2.2.2.2 93 = some (.ireturn, 1, 0, 0, 0, 0) := by decide +kernel
theorem aX12_look_94 : i_at mX12_look.2.2.2.2.2 94 = some (.iconst 0, 1, 0, 0, 0, 0) := by decide +kernel
theorem aX12_look_95 : i_at mX12_look.2.2.2.2.2 95 = some (.istore_n 3, 1, 0, 0, 0, 0) := by decide +kernel
theorem aX12_look_96 : i_at mX12_look.2.2.2.2.2 96 = some (.iconst 1, 1, 0, 0, 0, 0) := by decide +kernel
theorem aX12_look_97 : i_at mX12_look.2.2.2.2.2 97 = some (.istore 4, 2, 0, 0, 0, 0) := by decide +kernel
theorem aX12_look_99 : i_at mX12_look.2.2.2.2.2 99 = some (.iload 4, 2, 0, 0, 0, 0) := by decide +kernel
theorem aX12_look_101 : i_at mX12_look.2.2.2.2.2 101 = some (.bipush 60, 2, 0, 0, 0, 0) := by decide +kernel
theorem aX12_look_103 : i_at mX12_look.2.2.2.2.2 103 = some (.if_icmp .gt 32, 3, 135, 0, 0, 0) := by decide +kernel
theorem aX12_look_106 : i_at mX12_look.2.2.2.2.2 106 = some (.aload_n 0, 1, 0, 0, 0, 0) := by decide +kernel
theorem aX12_look_107 : i_at mX12_look.2.2.2.2.2 107 = some (.iload 4, 2, 0, 0, 0, 0) := by decide +kernel
theorem aX12_look_109 : i_at mX12_look.2.2.2.2.2 109 = some (.iload_n 2, 1, 0, 0, 0, 0) := by decide +kernel
theorem aX12_look_110 : i_at mX12_look.2.2.2.2.2 110 = some (.invokevirtual 452, 3, 219, 2, 1653, 0) := by decide +kernel
theorem aX12_look_113 : i_at mX12_look.2.2.2.2.2 113 = some (.aload_n 0, 1, 0, 0, 0, 0) := by decide +kernel
theorem aX12_look_114 : i_at mX12_look.2.2.2.2.2 114 = some (.iload_n 3, 1, 0, 0, 0, 0) := by decide +kernel
theorem aX12_look_115 : i_at mX12_look.2.2.2.2.2 115 = some (.iload_n 2, 1, 0, 0, 0, 0) := by decide +kernel
theorem aX12_look_116 : i_at mX12_look.2.2.2.2.2 116 = some (.invokevirtual 452, 3, 219, 2, 1653, 0) := by decide +kernel
theorem aX12_look_119 : i_at mX12_look.2.2.2.2.2 119 = some (.if_icmp .ge 8, 3, 127, 0, 0, 0) := by decide +kernel
theorem aX12_look_122 : i_at mX12_look.2.2.2.2.2 122 = some (.iload 4, 2, 0, 0, 0, 0) := by decide +kernel
theorem aX12_look_124 : i_at mX12_look.2.2.2.2.2 124 = some (.goto 4, 3, 128, 0, 0, 0) := by decide +kernel
theorem aX12_look_127 : i_at mX12_look.2.2.2.2.2 127 = some (.iload_n 3, 1, 0, 0, 0, 0) := by decide +kernel
theorem aX12_look_128 : i_at mX12_look.2.2.2.2.2 128 = some (.istore_n 3, 1, 0, 0, 0, 0) := by decide +kernel
theorem aX12_look_129 : i_at mX12_look.2.2.2.2.2 129 = some (.iinc 4 1, 3, 0, 0, 0, 0) := by decide +kernel
theorem aX12_look_132 : i_at mX12_look.2.2.2.2.2 132 = some (.goto (-33), 3, 99, 0, 0, 0) := by decide +kernel
theorem aX12_look_135 : i_at mX12_look.2.2.2.2.2 135 = some (.iload_n 1, 1, 0, 0, 0, 0) := by decide +kernel
theorem aX12_look_136 : i_at mX12_look.2.2.2.2.2 136 = some (.ifCond .ne 7, 3, 143, 0, 0, 0) := by decide +kernel
theorem aX12_look_139 : i_at mX12_look.2.2.2.2.2 139 = some (.iload_n 3, 1, 0, 0, 0, 0) := by decide +kernel
theorem aX12_look_140 : i_at mX12_look.2.2.2.2.2 140 = some (.goto 9, 3, 149, 0, 0, 0) := by decide +kernel
theorem aX12_look_143 : i_at mX12_look.2.2.2.2.2 143 = some (.aload_n 0, 1, 0, 0, 0, 0) := by decide +kernel
theorem aX12_look_144 : i_at mX12_look.2.2.2.2.2 144 = some (.iload_n 3, 1, 0, 0, 0, 0) := by decide +kernel
theorem aX12_look_145 : i_at mX12_look.2.2.2.2.2 145 = some (.iload_n 2, 1, 0, 0, 0, 0) := by decide +kernel
theorem aX12_look_146 : i_at mX12_look.2.2.2.2.2 146 = some (.invokevirtual 452, 3, 219, 2, 1653, 0) := by decide +kernel
theorem aX12_look_149 : i_at mX12_look.2.2.2.2.2 149 = some (.ireturn, 1, 0, 0, 0, 0) := by decide +kernel
noncomputable def fX12_look_L46 (sh : List kd) (p1 : Int32) (x12 : Int32) (x13 : Int32) (k78 : Int32 → St → Option (Int32 × St)) : Nat → Int32 → St → Option (Int32 × St)
  | 0, _, _ => none
  | n180 + 1, x126, s127 => if 60 < x126 then k78 x126 s127 else if i_ok x126 66 then if i_ok ((61 * x12) + x126) 427 then (fX12_look_L46 sh p1 x12 x13 k78 n180 (x126 + 1) (s_A s127 35 ((61 * x12) + x126).toNatClampNeg (s127.2.1 34 x126.toNatClampNeg))) else none else none
noncomputable def fX12_look_X78 (sh : List kd) (p1 : Int32) (x12 : Int32) (x13 : Int32) (k27 : Int32 → Int32 → Value → St → Option (Int32 × St)) (x178 : Int32) (s179 : St) : Option (Int32 × St) := k27 (x12 + 1) (x13 + 1) (.int x178) s179
noncomputable def fX12_look_L27 (sh : List kd) (p1 : Int32) (k87 : Int32 → Int32 → Value → St → Option (Int32 × St)) : Nat → Int32 → Int32 → Value → St → Option (Int32 × St)
  | 0, _, _, _, _ => none
  | n70 + 1, x12, x13, x14, s15 => if (s15.1 0 23) ≤ x13 then k87 x12 x13 x14 s15 else i_bd (fX12_couldRule sh s15 x13) (fun r72 s73 => if r72 = 0 then (fX12_look_L27 sh p1 k87 n70 x12 (x13 + 1) x14 s73) else fX12_look_L46 sh p1 x12 x13 (fun (x178 : Int32) (s179 : St) => fX12_look_X78 sh p1 x12 x13 (fX12_look_L27 sh p1 k87 n70) x178 s179) i_F 0 s73)
noncomputable def fX12_look_L99 (sh : List kd) (p1 : Int32) (x66 : Int32) (k135 : Int32 → Int32 → St → Option (Int32 × St)) : Nat → Int32 → Int32 → St → Option (Int32 × St)
  | 0, _, _, _ => none
  | n241 + 1, x185, x186, s187 => if 60 < x186 then k135 x185 x186 s187 else i_bd (fX12_mostAlike sh s187 x186 x66) (fun r243 s244 => i_bd (fX12_mostAlike sh s244 x185 x66) (fun r246 s247 => (fX12_look_L99 sh p1 x66 k135 n241 ((if r246 ≤ r243 then x185 else x186) : Int32) (x186 + 1) s247)))
noncomputable def fX12_look_J149 (sh : List kd) (p1 : Int32) (x66 : Int32) (x238 : Int32) (x239 : Int32) (x300 : Int32) (s301 : St) : Option (Int32 × St) := some (x300, s301)
noncomputable def fX12_look_X135 (sh : List kd) (p1 : Int32) (x66 : Int32) (x238 : Int32) (x239 : Int32) (s240 : St) : Option (Int32 × St) := if ¬ p1 = 0 then i_bd (fX12_mostAlike sh s240 x238 x66) (fun r303 s304 => fX12_look_J149 sh p1 x66 x238 x239 r303 s304) else fX12_look_J149 sh p1 x66 x238 x239 x238 s240
noncomputable def fX12_look_X87 (sh : List kd) (p1 : Int32) (x66 : Int32) (x67 : Int32) (x68 : Value) (s69 : St) : Option (Int32 × St) := if ¬ x66 = 0 then fX12_look_L99 sh p1 x66 (fun (x238 : Int32) (x239 : Int32) (s240 : St) => fX12_look_X135 sh p1 x66 x238 x239 s240) i_F 0 1 s69 else some ((-2), s69)
noncomputable def fX12_look (sh : List kd) (σ : St) (p1 : Int32) : Option (Int32 × St) := i_bd (fX12_isCourt sh σ) (fun r1 s2 => if r1 = 0 then some ((-1), s2) else i_bd (fX12_in sh s2 p1.toInt64 0 1) (fun r5 s6 => if ¬ r5 = 0 then i_bd (fX12_keepsAll sh s6) (fun r9 s10 => fX12_look_L27 sh p1 (fun (x66 : Int32) (x67 : Int32) (x68 : Value) (s69 : St) => fX12_look_X87 sh p1 x66 x67 x68 s69) i_F 0 (-1) (.retAddr 0) s10) else some ((-1), s6)))
set_option maxRecDepth 20000 in
set_option maxHeartbeats 2000000 in
theorem tX12_look_L46 {sh : List kd} {τ : St} {r : Int32} (hsh : rmSh sh) {p1 : Int32} {x12 : Int32} {x13 : Int32} {k78 : Int32 → St → Option (Int32 × St)} (hk78 : ∀ (x178 : Int32) (s179 : St), k78 x178 s179 = some (r, τ) → g_R sh 9 mX12_look (some (.int r)) τ 78 [.ref 0, .int p1, .int x12, .int x13, .int x178] [] (s179)) : ∀ (n0 : Nat) (x126 : Int32) (s127 : St), fX12_look_L46 sh p1 x12 x13 k78 n0 x126 s127 = some (r, τ) → g_R sh 9 mX12_look (some (.int r)) τ 46 [.ref 0, .int p1, .int x12, .int x13, .int x126] [] (s127) := by
  intro n0
  induction n0 with
  | zero => intro _ _ hE; cases hE
  | succ n180 ih =>
    intro x126 s127 hE
    unfold fX12_look_L46 at hE
    refine g_ldi aX12_look_46 rfl ?_
    refine g_bipush (x := 60) aX12_look_48 rfl ?_
    by_cases hc181 : 60 < x126
    · rw [if_pos hc181] at hE
      refine g_ic_gt_t aX12_look_50 hc181 ?_
      exact hk78 _ _ hE
    · rw [if_neg hc181] at hE
      refine g_ic_gt_f aX12_look_50 hc181 ?_
      refine g_ldan aX12_look_53 rfl ?_
      refine g_getR aX12_look_54 (sR_0 hsh) rfl ?_
      refine g_bipush (x := 61) aX12_look_57 rfl ?_
      refine g_ldin aX12_look_59 rfl ?_
      refine g_imul aX12_look_60 ?_
      refine g_ldi aX12_look_61 rfl ?_
      refine g_iadd aX12_look_63 ?_
      refine g_ldan aX12_look_64 rfl ?_
      refine g_getR aX12_look_65 (sR_0 hsh) rfl ?_
      refine g_ldi aX12_look_68 rfl ?_
      obtain ⟨h182, hE⟩ := i_ifn hE
      refine g_ild aX12_look_70 (sR_34 hsh) h182 ?_
      obtain ⟨h183, hE⟩ := i_ifn hE
      refine g_ist aX12_look_71 (sR_35 hsh) h183 ?_
      refine g_iinc (y := 1) (loc2 := [.ref 0, .int p1, .int x12, .int x13, .int (x126 + 1)]) aX12_look_72 rfl rfl rfl ?_
      refine g_goto aX12_look_75 ?_
      exact ih _ _ hE
set_option maxRecDepth 20000 in
set_option maxHeartbeats 2000000 in
theorem tX12_look_X78 {sh : List kd} {τ : St} {r : Int32} (hsh : rmSh sh) {p1 : Int32} {x12 : Int32} {x13 : Int32} {x178 : Int32} {s179 : St} {k27 : Int32 → Int32 → Value → St → Option (Int32 × St)} (hk27 : ∀ (x12 : Int32) (x13 : Int32) (x14 : Value) (s15 : St), k27 x12 x13 x14 s15 = some (r, τ) → g_R sh 9 mX12_look (some (.int r)) τ 27 [.ref 0, .int p1, .int x12, .int x13, x14] [] (s15)) (hE : fX12_look_X78 sh p1 x12 x13 k27 x178 s179 = some (r, τ)) : g_R sh 9 mX12_look (some (.int r)) τ 78 [.ref 0, .int p1, .int x12, .int x13, .int x178] [] (s179) := by
  unfold fX12_look_X78 at hE
  refine g_iinc (y := 1) (loc2 := [.ref 0, .int p1, .int (x12 + 1), .int x13, .int x178]) aX12_look_78 rfl rfl rfl ?_
  refine g_iinc (y := 1) (loc2 := [.ref 0, .int p1, .int (x12 + 1), .int (x13 + 1), .int x178]) aX12_look_81 rfl rfl rfl ?_
  refine g_goto aX12_look_84 ?_
  exact hk27 _ _ _ _ hE
set_option maxRecDepth 20000 in
set_option maxHeartbeats 2000000 in
theorem tX12_look_L27 {sh : List kd} {τ : St} {r : Int32} (hsh : rmSh sh) {p1 : Int32} {k87 : Int32 → Int32 → Value → St → Option (Int32 × St)} (hk87 : ∀ (x66 : Int32) (x67 : Int32) (x68 : Value) (s69 : St), k87 x66 x67 x68 s69 = some (r, τ) → g_R sh 9 mX12_look (some (.int r)) τ 87 [.ref 0, .int p1, .int x66, .int x67, x68] [] (s69)) : ∀ (n0 : Nat) (x12 : Int32) (x13 : Int32) (x14 : Value) (s15 : St), fX12_look_L27 sh p1 k87 n0 x12 x13 x14 s15 = some (r, τ) → g_R sh 9 mX12_look (some (.int r)) τ 27 [.ref 0, .int p1, .int x12, .int x13, x14] [] (s15) := by
  intro n0
  induction n0 with
  | zero => intro _ _ _ _ hE; cases hE
  | succ n70 ih =>
    intro x12 x13 x14 s15 hE
    unfold fX12_look_L27 at hE
    refine g_ldin aX12_look_27 rfl ?_
    refine g_ldan aX12_look_28 rfl ?_
    refine g_getI aX12_look_29 (sR_0 hsh) rfl ?_
    by_cases hc71 : (s15.1 0 23) ≤ x13
    · rw [if_pos hc71] at hE
      refine g_ic_ge_t aX12_look_32 hc71 ?_
      exact hk87 _ _ _ _ hE
    · rw [if_neg hc71] at hE
      refine g_ic_ge_f aX12_look_32 hc71 ?_
      refine g_ldan aX12_look_35 rfl ?_
      refine g_ldin aX12_look_36 rfl ?_
      obtain ⟨r72, s73, h74, hE⟩ := i_bd_some hE
      refine g_calV (As := [.int x13]) (rest := []) aX12_look_37 (i_X_mono (by omega) (tX12_couldRule hsh h74)) (sR_0 hsh) (by decide +kernel) rfl rfl (Nat.le_of_ble_eq_true rfl) rfl ?_
      by_cases hc125 : r72 = 0
      · rw [if_pos hc125] at hE
        refine g_if_eq_t aX12_look_40 hc125 ?_
        refine g_iinc (y := 1) (loc2 := [.ref 0, .int p1, .int x12, .int (x13 + 1), x14]) aX12_look_81 rfl rfl rfl ?_
        refine g_goto aX12_look_84 ?_
        exact ih _ _ _ _ hE
      · rw [if_neg hc125] at hE
        refine g_if_eq_f aX12_look_40 hc125 ?_
        refine g_iconst (x := 0) aX12_look_43 rfl ?_
        refine g_sti (loc2 := [.ref 0, .int p1, .int x12, .int x13, .int 0]) aX12_look_44 (Nat.le_of_ble_eq_true rfl) rfl ?_
        exact tX12_look_L46 hsh (fun x178 s179 hE => tX12_look_X78 hsh ih hE) i_F _ _ hE
set_option maxRecDepth 20000 in
set_option maxHeartbeats 2000000 in
theorem tX12_look_L99 {sh : List kd} {τ : St} {r : Int32} (hsh : rmSh sh) {p1 : Int32} {x66 : Int32} {k135 : Int32 → Int32 → St → Option (Int32 × St)} (hk135 : ∀ (x238 : Int32) (x239 : Int32) (s240 : St), k135 x238 x239 s240 = some (r, τ) → g_R sh 9 mX12_look (some (.int r)) τ 135 [.ref 0, .int p1, .int x66, .int x238, .int x239] [] (s240)) : ∀ (n0 : Nat) (x185 : Int32) (x186 : Int32) (s187 : St), fX12_look_L99 sh p1 x66 k135 n0 x185 x186 s187 = some (r, τ) → g_R sh 9 mX12_look (some (.int r)) τ 99 [.ref 0, .int p1, .int x66, .int x185, .int x186] [] (s187) := by
  intro n0
  induction n0 with
  | zero => intro _ _ _ hE; cases hE
  | succ n241 ih =>
    intro x185 x186 s187 hE
    unfold fX12_look_L99 at hE
    refine g_ldi aX12_look_99 rfl ?_
    refine g_bipush (x := 60) aX12_look_101 rfl ?_
    by_cases hc242 : 60 < x186
    · rw [if_pos hc242] at hE
      refine g_ic_gt_t aX12_look_103 hc242 ?_
      exact hk135 _ _ _ hE
    · rw [if_neg hc242] at hE
      refine g_ic_gt_f aX12_look_103 hc242 ?_
      refine g_ldan aX12_look_106 rfl ?_
      refine g_ldi aX12_look_107 rfl ?_
      refine g_ldin aX12_look_109 rfl ?_
      obtain ⟨r243, s244, h245, hE⟩ := i_bd_some hE
      refine g_calV (As := [.int x186, .int x66]) (rest := []) aX12_look_110 (i_X_mono (by omega) (tX12_mostAlike hsh h245)) (sR_0 hsh) (by decide +kernel) rfl rfl (Nat.le_of_ble_eq_true rfl) rfl ?_
      refine g_ldan aX12_look_113 rfl ?_
      refine g_ldin aX12_look_114 rfl ?_
      refine g_ldin aX12_look_115 rfl ?_
      obtain ⟨r246, s247, h248, hE⟩ := i_bd_some hE
      refine g_calV (As := [.int x185, .int x66]) (rest := [.int r243]) aX12_look_116 (i_X_mono (by omega) (tX12_mostAlike hsh h248)) (sR_0 hsh) (by decide +kernel) rfl rfl (Nat.le_of_ble_eq_true rfl) rfl ?_
      have hJ : g_R sh 9 mX12_look (some (.int r)) τ 128 [.ref 0, .int p1, .int x66, .int x185, .int x186] [.int ((if r246 ≤ r243 then x185 else x186) : Int32)] (s247) := by
        refine g_stin (loc2 := [.ref 0, .int p1, .int x66, .int ((if r246 ≤ r243 then x185 else x186) : Int32), .int x186]) aX12_look_128 (Nat.le_of_ble_eq_true rfl) rfl ?_
        refine g_iinc (y := 1) (loc2 := [.ref 0, .int p1, .int x66, .int ((if r246 ≤ r243 then x185 else x186) : Int32), .int (x186 + 1)]) aX12_look_129 rfl rfl rfl ?_
        refine g_goto aX12_look_132 ?_
        exact ih _ _ _ hE
      clear hE
      by_cases hc248 : r246 ≤ r243
      · (try rw [if_pos hc248] at hJ)
        refine g_ic_ge_t aX12_look_119 hc248 ?_
        refine g_ldin aX12_look_127 rfl ?_
        exact hJ
      · (try rw [if_neg hc248] at hJ)
        refine g_ic_ge_f aX12_look_119 hc248 ?_
        refine g_ldi aX12_look_122 rfl ?_
        refine g_goto aX12_look_124 ?_
        exact hJ
set_option maxRecDepth 20000 in
set_option maxHeartbeats 2000000 in
theorem tX12_look_J149 {sh : List kd} {τ : St} {r : Int32} (hsh : rmSh sh) {p1 : Int32} {x66 : Int32} {x238 : Int32} {x239 : Int32} {x300 : Int32} {s301 : St} (hE : fX12_look_J149 sh p1 x66 x238 x239 x300 s301 = some (r, τ)) : g_R sh 9 mX12_look (some (.int r)) τ 149 [.ref 0, .int p1, .int x66, .int x238, .int x239] [.int x300] (s301) := by
  unfold fX12_look_J149 at hE
  obtain ⟨rfl, rfl⟩ := i_some_inj hE
  exact g_iret aX12_look_149 rfl rfl
set_option maxRecDepth 20000 in
set_option maxHeartbeats 2000000 in
theorem tX12_look_X135 {sh : List kd} {τ : St} {r : Int32} (hsh : rmSh sh) {p1 : Int32} {x66 : Int32} {x238 : Int32} {x239 : Int32} {s240 : St} (hE : fX12_look_X135 sh p1 x66 x238 x239 s240 = some (r, τ)) : g_R sh 9 mX12_look (some (.int r)) τ 135 [.ref 0, .int p1, .int x66, .int x238, .int x239] [] (s240) := by
  unfold fX12_look_X135 at hE
  refine g_ldin aX12_look_135 rfl ?_
  by_cases hc302 : ¬ p1 = 0
  · rw [if_pos hc302] at hE
    refine g_if_ne_t aX12_look_136 hc302 ?_
    refine g_ldan aX12_look_143 rfl ?_
    refine g_ldin aX12_look_144 rfl ?_
    refine g_ldin aX12_look_145 rfl ?_
    obtain ⟨r303, s304, h305, hE⟩ := i_bd_some hE
    refine g_calV (As := [.int x238, .int x66]) (rest := []) aX12_look_146 (i_X_mono (by omega) (tX12_mostAlike hsh h305)) (sR_0 hsh) (by decide +kernel) rfl rfl (Nat.le_of_ble_eq_true rfl) rfl ?_
    exact tX12_look_J149 hsh hE
  · rw [if_neg hc302] at hE
    refine g_if_ne_f aX12_look_136 hc302 ?_
    refine g_ldin aX12_look_139 rfl ?_
    refine g_goto aX12_look_140 ?_
    exact tX12_look_J149 hsh hE
set_option maxRecDepth 20000 in
set_option maxHeartbeats 2000000 in
theorem tX12_look_X87 {sh : List kd} {τ : St} {r : Int32} (hsh : rmSh sh) {p1 : Int32} {x66 : Int32} {x67 : Int32} {x68 : Value} {s69 : St} (hE : fX12_look_X87 sh p1 x66 x67 x68 s69 = some (r, τ)) : g_R sh 9 mX12_look (some (.int r)) τ 87 [.ref 0, .int p1, .int x66, .int x67, x68] [] (s69) := by
  unfold fX12_look_X87 at hE
  refine g_ldin aX12_look_87 rfl ?_
  by_cases hc184 : ¬ x66 = 0
  · rw [if_pos hc184] at hE
    refine g_if_ne_t aX12_look_88 hc184 ?_
    refine g_iconst (x := 0) aX12_look_94 rfl ?_
    refine g_stin (loc2 := [.ref 0, .int p1, .int x66, .int 0, x68]) aX12_look_95 (Nat.le_of_ble_eq_true rfl) rfl ?_
    refine g_iconst (x := 1) aX12_look_96 rfl ?_
    refine g_sti (loc2 := [.ref 0, .int p1, .int x66, .int 0, .int 1]) aX12_look_97 (Nat.le_of_ble_eq_true rfl) rfl ?_
    exact tX12_look_L99 hsh (fun x238 x239 s240 hE => tX12_look_X135 hsh hE) i_F _ _ _ hE
  · rw [if_neg hc184] at hE
    refine g_if_ne_f aX12_look_88 hc184 ?_
    refine g_bipush (x := (-2)) aX12_look_91 rfl ?_
    obtain ⟨rfl, rfl⟩ := i_some_inj hE
    exact g_iret aX12_look_93 rfl rfl
set_option maxRecDepth 20000 in
set_option maxHeartbeats 2000000 in
theorem tX12_look {sh : List kd} {σ τ : St} {r : Int32} (hsh : rmSh sh) {p1 : Int32} (hE : fX12_look sh σ p1 = some (r, τ)) : i_X 10 220 [.ref 0, .int p1] (s_h sh σ) 0 0 (some (.int r)) (s_h sh τ) := by
  refine g_X (M := mX12_look) (loc := [.ref 0, .int p1, .retAddr 0, .retAddr 0, .retAddr 0]) rfl (Nat.le_of_ble_eq_true rfl) rfl ?_
  unfold fX12_look at hE
  refine g_ldan aX12_look_0 rfl ?_
  obtain ⟨r1, s2, h3, hE⟩ := i_bd_some hE
  refine g_calV (As := []) (rest := []) aX12_look_1 (i_X_mono (by omega) (tX12_isCourt hsh h3)) (sR_0 hsh) (by decide +kernel) rfl rfl (Nat.le_of_ble_eq_true rfl) rfl ?_
  by_cases hc4 : r1 = 0
  · rw [if_pos hc4] at hE
    refine g_if_eq_t aX12_look_4 hc4 ?_
    refine g_iconst (x := (-1)) aX12_look_17 rfl ?_
    obtain ⟨rfl, rfl⟩ := i_some_inj hE
    exact g_iret aX12_look_18 rfl rfl
  · rw [if_neg hc4] at hE
    refine g_if_eq_f aX12_look_4 hc4 ?_
    refine g_ldin aX12_look_7 rfl ?_
    refine g_i2l aX12_look_8 ?_
    refine g_lconst (x := 0) aX12_look_9 rfl ?_
    refine g_lconst (x := 1) aX12_look_10 rfl ?_
    obtain ⟨r5, s6, h7, hE⟩ := i_bd_some hE
    refine g_calS (As := [.long p1.toInt64, .long 0, .long 1]) (rest := []) aX12_look_11 (i_X_mono (by omega) (tX12_in hsh h7)) rfl rfl (Nat.le_of_ble_eq_true rfl) rfl ?_
    by_cases hc8 : ¬ r5 = 0
    · rw [if_pos hc8] at hE
      refine g_if_ne_t aX12_look_14 hc8 ?_
      refine g_ldan aX12_look_19 rfl ?_
      obtain ⟨r9, s10, h11, hE⟩ := i_bd_some hE
      refine g_calV (As := []) (rest := []) aX12_look_20 (i_X_mono (by omega) (tX12_keepsAll hsh h11)) (sR_0 hsh) (by decide +kernel) rfl rfl (Nat.le_of_ble_eq_true rfl) rfl ?_
      refine g_iconst (x := 0) aX12_look_23 rfl ?_
      refine g_stin (loc2 := [.ref 0, .int p1, .int 0, .retAddr 0, .retAddr 0]) aX12_look_24 (Nat.le_of_ble_eq_true rfl) rfl ?_
      refine g_iconst (x := (-1)) aX12_look_25 rfl ?_
      refine g_stin (loc2 := [.ref 0, .int p1, .int 0, .int (-1), .retAddr 0]) aX12_look_26 (Nat.le_of_ble_eq_true rfl) rfl ?_
      exact tX12_look_L27 hsh (fun x66 x67 x68 s69 hE => tX12_look_X87 hsh hE) i_F _ _ _ _ hE
    · rw [if_neg hc8] at hE
      refine g_if_ne_f aX12_look_14 hc8 ?_
      refine g_iconst (x := (-1)) aX12_look_17 rfl ?_
      obtain ⟨rfl, rfl⟩ := i_some_inj hE
      exact g_iret aX12_look_18 rfl rfl
