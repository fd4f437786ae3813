/-! X12_goes X12_goFor X12_hour X12_keepsAll X12_laysBack X12_ahead X12_dubbed X12_least X12_isSpared X12_spare X12_lay -/
theorem aX12_goes_0 : i_at mX12_goes.2.2.2.2.2 0 = some (.aload_n 0, 1, 0, 0, 0, 0) := by decide +kernel
theorem aX12_goes_1 : i_at mX12_goes.2.2.2.2.2 1 = some (.invokevirtual 370, 3, 181, 0, 1485, 0) := by decide +kernel
theorem aX12_goes_4 : i_at mX12_goes.2.2.2.2.2 4 = some (.istore_n 1, 1, 0, 0, 0, 0) := by decide +kernel
theorem aX12_goes_5 : i_at mX12_goes.2.2.2.2.2 5 = some (.iconst 0, 1, 0, 0, 0, 0) := by decide +kernel
theorem aX12_goes_6 : i_at mX12_goes.2.2.2.2.2 6 = some (.istore_n 2, 1, 0, 0, 0, 0) := by decide +kernel
theorem aX12_goes_7 : i_at mX12_goes.2.2.2.2.2 7 = some (.iconst 0, 1, 0, 0, 0, 0) := by decide +kernel
theorem aX12_goes_8 : i_at mX12_goes.2.2.2.2.2 8 = some (.istore_n 3, 1, 0, 0, 0, 0) := by decide +kernel
theorem aX12_goes_9 : i_at mX12_goes.2.2.2.2.2 9 = some (.iload_n 3, 1, 0, 0, 0, 0) := by decide +kernel
theorem aX12_goes_10 : i_at mX12_goes.2.2.2.2.2 10 = some (.aload_n 0, 1, 0, 0, 0, 0) := by decide +kernel
theorem aX12_goes_11 : i_at mX12_goes.2.2.2.2.2 11 = some (.getfield 9, 3, 11, 1, 1088, 0) := by decide +kernel
theorem aX12_goes_14 : i_at mX12_goes.2.2.2.2.2 14 = some (.iconst 3, 1, 0, 0, 0, 0) := by decide +kernel
theorem aX12_goes_15 : i_at mX12_goes.2.2.2.2.2 15 = some (.iaload, 1, 0, 0, 0, 0) := by decide +kernel
theorem aX12_goes_16 : i_at mX12_goes.2.2.2.2.2 16 = some (.if_icmp .ge 102, 3, 118, 0, 0, 0) := by decide +kernel
theorem aX12_goes_19 : i_at mX12_goes.2.2.2.2.2 19 = some (.aload_n 0, 1, 0, 0, 0, 0) := by decide +kernel
theorem aX12_goes_20 : i_at mX12_goes.2.2.2.2.2 20 = some (.getfield 25, 3, 11, 6, 1093, 0) := by decide +kernel
theorem aX12_goes_23 : i_at mX12_goes.2.2.2.2.2 23 = some (.iload_n 3, 1, 0, 0, 0, 0) := by decide +kernel
theorem aX12_goes_24 : i_at mX12_goes.2.2.2.2.2 24 = some (.aload_n 0, 1, 0, 0, 0, 0) := by decide +kernel
theorem aX12_goes_25 : i_at mX12_goes.2.2.2.2.2 25 = some (.getfield 25, 3, 11, 6, 1093, 0) := by decide +kernel
theorem aX12_goes_28 : i_at mX12_goes.2.2.2.2.2 28 = some (.iload_n 3, 1, 0, 0, 0, 0) := by decide +kernel
theorem aX12_goes_29 : i_at mX12_goes.2.2.2.2.2 29 = some (.iaload, 1, 0, 0, 0, 0) := by decide +kernel
theorem aX12_goes_30 : i_at mX12_goes.2.2.2.2.2 30 = some (.aload_n 0, 1, 0, 0, 0, 0) := by decide +kernel
theorem aX12_goes_31 : i_at mX12_goes.2.2.2.2.2 31 = some (.getfield 28, 3, 11, 7, 1094, 0) := by decide +kernel
theorem aX12_goes_34 : i_at mX12_goes.2.2.2.2.2 34 = some (.iload_n 3, 1, 0, 0, 0, 0) := by decide +kernel
theorem aX12_goes_35 : i_at mX12_goes.2.2.2.2.2 35 = some (.iaload, 1, 0, 0, 0, 0) := by decide +kernel
theorem aX12_goes_36 : i_at mX12_goes.2.2.2.2.2 36 = some (.iadd, 1, 0, 0, 0, 0) := by decide +kernel
theorem aX12_goes_37 : i_at mX12_goes.2.2.2.2.2 37 = some (.sipush 999, 3, 0, 0, 0, 0) := by decide +kernel
theorem aX12_goes_40 : i_at mX12_goes.2.2.2.2.2 40 = some (.invokestatic 372, 3, 182, 2, 1514, 0) := by decide +kernel
theorem aX12_goes_43 : i_at mX12_goes.2.2.2.2.2 43 = some (.iastore, 1, 0, 0, 0, 0) := by decide +kernel
theorem aX12_goes_44 : i_at mX12_goes.2.2.2.2.2 44 = some (.aload_n 0, 1, 0, 0, 0, 0) := by decide +kernel
theorem aX12_goes_45 : i_at mX12_goes.2.2.2.2.2 45 = some (.getfield 25, 3, 11, 6, 1093, 0) := by decide +kernel
theorem aX12_goes_48 : i_at mX12_goes.2.2.2.2.2 48 = some (.iload_n 3, 1, 0, 0, 0, 0) := by decide +kernel
theorem aX12_goes_49 : i_at mX12_goes.2.2.2.2.2 49 = some (.iaload, 1, 0, 0, 0, 0) := by decide +kernel
theorem aX12_goes_50 : i_at mX12_goes.2.2.2.2.2 50 = some (.aload_n 0, 1, 0, 0, 0, 0) := by decide +kernel
theorem aX12_goes_51 : i_at mX12_goes.2.2.2.2.2 51 = some (.getfield 9, 3, 11, 1, 1088, 0) := by decide +kernel
theorem aX12_goes_54 : i_at mX12_goes.2.2.2.2.2 54 = some (.iconst 1, 1, 0, 0, 0, 0) := by decide +kernel
theorem aX12_goes_55 : i_at mX12_goes.2.2.2.2.2 55 = some (.iaload, 1, 0, 0, 0, 0) := by decide +kernel
theorem aX12_goes_56 : i_at mX12_goes.2.2.2.2.2 56 = some (.if_icmp .lt 56, 3, 112, 0, 0, 0) := by decide +kernel
theorem aX12_goes_59 : i_at mX12_goes.2.2.2.2.2 59 = some (.iload_n 2, 1, 0, 0, 0, 0) := by decide +kernel
theorem aX12_goes_60 : i_at mX12_goes.2.2.2.2.2 60 = some (.iconst 1, 1, 0, 0, 0, 0) := by decide +kernel
theorem aX12_goes_61 : i_at mX12_goes.2.2.2.2.2 61 = some (.iload_n 3, 1, 0, 0, 0, 0) := by decide +kernel
theorem aX12_goes_62 : i_at mX12_goes.2.2.2.2.2 62 = some (.ishl, 1, 0, 0, 0, 0) := by decide +kernel
theorem aX12_goes_63 : i_at mX12_goes.2.2.2.2.2 63 = some (.ior, 1, 0, 0, 0, 0) := by decide +kernel
theorem aX12_goes_64 : i_at mX12_goes.2.2.2.2.2 64 = some (.istore_n 2, 1, 0, 0, 0, 0) := by decide +kernel
theorem aX12_goes_65 : i_at mX12_goes.2.2.2.2.2 65 = some (.aload_n 0, 1, 0, 0, 0, 0) := by decide +kernel
theorem aX12_goes_66 : i_at mX12_goes.2.2.2.2.2 66 = some (.getfield 25, 3, 11, 6, 1093, 0) := by decide +kernel
theorem aX12_goes_69 : i_at mX12_goes.2.2.2.2.2 69 = some (.iload_n 3, 1, 0, 0, 0, 0) := by decide +kernel
theorem aX12_goes_70 : i_at mX12_goes.2.2.2.2.2 70 = some (.iconst 0, 1, 0, 0, 0, 0) := by decide +kernel
theorem aX12_goes_71 : i_at mX12_goes.2.2.2.2.2 71 = some (.iastore, 1, 0, 0, 0, 0) := by decide +kernel
theorem aX12_goes_72 : i_at mX12_goes.2.2.2.2.2 72 = some (.aload_n 0, 1, 0, 0, 0, 0) := by decide +kernel
theorem aX12_goes_73 : i_at mX12_goes.2.2.2.2.2 73 = some (.getfield 31, 3, 11, 8, 1095, 0) := by decide +kernel
theorem aX12_goes_76 : i_at mX12_goes.2.2.2.2.2 76 = some (.iload_n 3, 1, 0, 0, 0, 0) := by decide +kernel
theorem aX12_goes_77 : i_at mX12_goes.2.2.2.2.2 77 = some (.dup2, 1, 0, 0, 0, 0) := by decide +kernel
theorem aX12_goes_78 : i_at mX12_goes.2.2.2.2.2 78 = some (.iaload, 1, 0, 0, 0, 0) := by decide +kernel
theorem aX12_goes_79 : i_at mX12_goes.2.2.2.2.2 79 = some (.iload_n 1, 1, 0, 0, 0, 0) := by decide +kernel
theorem aX12_goes_80 : i_at mX12_goes.2.2.2.2.2 80 = some (.iconst (-1), 1, 0, 0, 0, 0) := by decide +kernel
theorem aX12_goes_81 : i_at mX12_goes.2.2.2.2.2 81 = some (.if_icmp .ne 7, 3, 88, 0, 0, 0) := by decide +kernel
theorem aX12_goes_84 : i_at mX12_goes.2.2.2.2.2 84 = some (.iconst 0, 1, 0, 0, 0, 0) := by decide +kernel
theorem aX12_goes_85 : i_at mX12_goes.2.2.2.2.2 85 = some (.goto 6, 3, 91, 0, 0, 0) := by decide +kernel
theorem aX12_goes_88 : i_at mX12_goes.2.2.2.2.2 88 = some (.iconst 1, 1, 0, 0, 0, 0) := by decide +kernel
theorem aX12_goes_89 : i_at mX12_goes.2.2.2.2.2 89 = some (.iload_n 1, 1, 0, 0, 0, 0) := by decide +kernel
theorem aX12_goes_90 : i_at mX12_goes.2.2.2.2.2 90 = some (.ishl, 1, 0, 0, 0, 0) := by decide +kernel
theorem aX12_goes_91 : i_at mX12_goes.2.2.2.2.2 91 = some (.ior, 1, 0, 0, 0, 0) := by decide +kernel
theorem aX12_goes_92 : i_at mX12_goes.2.2.2.2.2 92 = some (.iastore, 1, 0, 0, 0, 0) := by decide +kernel
theorem aX12_goes_93 : i_at mX12_goes.2.2.2.2.2 93 = some (.aload_n 0, 1, 0, 0, 0, 0) := by decide +kernel
theorem aX12_goes_94 : i_at mX12_goes.2.2.2.2.2 94 = some (.getfield 34, 3, 11, 9, 1096, 0) := by decide +kernel
theorem aX12_goes_97 : i_at mX12_goes.2.2.2.2.2 97 = some (.iload_n 3, 1, 0, 0, 0, 0) := by decide +kernel
theorem aX12_goes_98 : i_at mX12_goes.2.2.2.2.2 98 = some (.dup2, 1, 0, 0, 0, 0) := by decide +kernel
theorem aX12_goes_99 : i_at mX12_goes.2.2.2.2.2 99 = some (.iaload, 1, 0, 0, 0, 0) := by decide +kernel
theorem aX12_goes_100 : i_at mX12_goes.2.2.2.2.2 100 = some (.iload_n 1, 1, 0, 0, 0, 0) := by decide +kernel
theorem aX12_goes_101 : i_at mX12_goes.2.2.2.2.2 101 = some (.iconst (-1), 1, 0, 0, 0, 0) := by decide +kernel
theorem aX12_goes_102 : i_at mX12_goes.2.2.2.2.2 102 = some (.if_icmp .ne 7, 3, 109, 0, 0, 0) := by decide +kernel
theorem aX12_goes_105 : i_at mX12_goes.2.2.2.2.2 105 = some (.iconst 1, 1, 0, 0, 0, 0) := by decide +kernel
theorem aX12_goes_106 : i_at mX12_goes.2.2.2.2.2 106 = some (.goto 4, 3, 110, 0, 0, 0) := by decide +kernel
theorem aX12_goes_109 : i_at mX12_goes.2.2.2.2.2 109 = some (.iconst 0, 1, 0, 0, 0, 0) := by decide +kernel
theorem aX12_goes_110 : i_at mX12_goes.2.2.2.2.2 110 = some (.iadd, 1, 0, 0, 0, 0) := by decide +kernel
theorem aX12_goes_111 : i_at mX12_goes.2.2.2.2.2 111 = some (.iastore, 1, 0, 0, 0, 0) := by decide +kernel
theorem aX12_goes_112 : i_at mX12_goes.2.2.2.2.2 112 = some (.iinc 3 1, 3, 0, 0, 0, 0) := by decide +kernel
theorem aX12_goes_115 : i_at mX12_goes.2.2.2.2.2 115 = some (.goto (-106), 3, 9, 0, 0, 0) := by decide +kernel
theorem aX12_goes_118 : i_at mX12_goes.2.2.2.2.2 118 = some (.iload_n 1, 1, 0, 0, 0, 0) := by decide +kernel
theorem aX12_goes_119 : i_at mX12_goes.2.2.2.2.2 119 = some (.iconst (-1), 1, 0, 0, 0, 0) := by decide +kernel
theorem aX12_goes_120 : i_at mX12_goes.2.2.2.2.2 120 = some (.if_icmp .eq 13, 3, 133, 0, 0, 0) := by decide +kernel
theorem aX12_goes_123 : i_at mX12_goes.2.2.2.2.2 123 = some (.aload_n 0, 1, 0, 0, 0, 0) := by decide +kernel
theorem aX12_goes_124 : i_at mX12_goes.2.2.2.2.2 124 = some (.getfield 19, 3, 11, 4, 1091, 0) := by decide +kernel
theorem aX12_goes_127 : i_at mX12_goes.2.2.2.2.2 127 = some (.iload_n 1, 1, 0, 0, 0, 0) := by decide +kernel
theorem aX12_goes_128 : i_at mX12_goes.2.2.2.2.2 128 = some (.dup2, 1, 0, 0, 0, 0) := by decide +kernel
theorem aX12_goes_129 : i_at mX12_goes.2.2.2.2.2 129 = some (.iaload, 1, 0, 0, 0, 0) := by decide +kernel
theorem aX12_goes_130 : i_at mX12_goes.2.2.2.2.2 130 = some (.iconst 1, 1, 0, 0, 0, 0) := by decide +kernel
theorem aX12_goes_131 : i_at mX12_goes.2.2.2.2.2 131 = some (.iadd, 1, 0, 0, 0, 0) := by decide +kernel
theorem aX12_goes_132 : i_at mX12_goes.2.2.2.2.2 132 = some (.iastore, 1, 0, 0, 0, 0) := by decide +kernel
theorem aX12_goes_133 : i_at mX12_goes.2.2.2.2.2 133 = some (.aload_n 0, 1, 0, 0, 0, 0) := by decide +kernel
theorem aX12_goes_134 : i_at mX12_goes.2.2.2.2.2 134 = some (.getfield 9, 3, 11, 1, 1088, 0) := by decide +kernel
theorem aX12_goes_137 : i_at mX12_goes.2.2.2.2.2 137 = some (.iconst 5, 1, 0, 0, 0, 0) := by decide +kernel
theorem aX12_goes_138 : i_at mX12_goes.2.2.2.2.2 138 = some (.iload_n 1, 1, 0, 0, 0, 0) := by decide +kernel
theorem aX12_goes_139 : i_at mX12_goes.2.2.2.2.2 139 = some (.iastore, 1, 0, 0, 0, 0) := by decide +kernel
theorem aX12_goes_140 : i_at mX12_goes.2.2.2.2.2 140 = some (.aload_n 0, 1, 0, 0, 0, 0) := by decide +kernel
theorem aX12_goes_141 : i_at mX12_goes.2.2.2.2.2 141 = some (.getfield 9, 3, 11, 1, 1088, 0) := by decide +kernel
theorem aX12_goes_144 : i_at mX12_goes.2.2.2.2.2 144 = some (.bipush 6, 2, 0, 0, 0, 0) := by decide +kernel
theorem aX12_goes_146 : i_at mX12_goes.2.2.2.2.2 146 = some (.iconst (-1), 1, 0, 0, 0, 0) := by decide +kernel
theorem aX12_goes_147 : i_at mX12_goes.2.2.2.2.2 147 = some (.iastore, 1, 0, 0, 0, 0) := by decide +kernel
theorem aX12_goes_148 : i_at mX12_goes.2.2.2.2.2 148 = some (.aload_n 0, 1, 0, 0, 0, 0) := by decide +kernel
theorem aX12_goes_149 : i_at mX12_goes.2.2.2.2.2 149 = some (.getfield 9, 3, 11, 1, 1088, 0) := by decide +kernel
theorem aX12_goes_152 : i_at mX12_goes.2.2.2.2.2 152 = some (.bipush 7, 2, 0, 0, 0, 0) := by decide +kernel
theorem aX12_goes_154 : i_at mX12_goes.2.2.2.2.2 154 = some (.dup2, 1, 0, 0, 0, 0) := by decide +kernel
theorem aX12_goes_155 : i_at mX12_goes.2.2.2.2.2 155 = some (.iaload, 1, 0, 0, 0, 0) := by decide +kernel
theorem aX12_goes_156 : i_at mX12_goes.2.2.2.2.2 156 = some (.aload_n 0, 1, 0, 0, 0, 0) := by decide +kernel
theorem aX12_goes_157 : i_at mX12_goes.2.2.2.2.2 157 = some (.getfield 9, 3, 11, 1, 1088, 0) := by decide +kernel
theorem aX12_goes_160 : i_at mX12_goes.2.2.2.2.2 160 = some (.bipush 7, 2, 0, 0, 0, 0) := by decide +kernel
theorem aX12_goes_162 : i_at mX12_goes.2.2.2.2.2 162 = some (.iaload, 1, 0, 0, 0, 0) := by decide +kernel
theorem aX12_goes_163 : i_at mX12_goes.2.2.2.2.2 163 = some (.ifCond .le 7, 3, 170, 0, 0, 0) := by decide +kernel
theorem aX12_goes_166 : i_at mX12_goes.2.2.2.2.2 166 = some (.iconst 1, 1, 0, 0, 0, 0) := by decide +kernel
theorem aX12_goes_167 : i_at mX12_goes.2.2.2.2.2 167 = some (.goto 4, 3, 171, 0, 0, 0) := by decide +kernel
theorem aX12_goes_170 : i_at mX12_goes.2.2.2.2.2 170 = some (.iconst 0, 1, 0, 0, 0, 0) := by decide +kernel
theorem aX12_goes_171 : i_at mX12_goes.2.2.2.2.2 171 = some (.isub, 1, 0, 0, 0, 0) := by decide +kernel
theorem aX12_goes_172 : i_at mX12_goes.2.2.2.2.2 172 = some (.iastore, 1, 0, 0, 0, 0) := by decide +kernel
theorem aX12_goes_173 : i_at mX12_goes.2.2.2.2.2 173 = some (.aload_n 0, 1, 0, 0, 0, 0) := by decide +kernel
theorem aX12_goes_174 : i_at mX12_goes.2.2.2.2.2 174 = some (.getfield 9, 3, 11, 1, 1088, 0) := by decide +kernel
theorem aX12_goes_177 : i_at mX12_goes.2.2.2.2.2 177 = some (.iconst 4, 1, 0, 0, 0, 0) := by decide +kernel
theorem aX12_goes_178 : i_at mX12_goes.2.2.2.2.2 178 = some (.dup2, 1, 0, 0, 0, 0) := by decide +kernel
theorem aX12_goes_179 : i_at mX12_goes.2.2.2.2.2 179 = some (.iaload, 1, 0, 0, 0, 0) := by decide +kernel
theorem aX12_goes_180 : i_at mX12_goes.2.2.2.2.2 180 = some (.iconst 1, 1, 0, 0, 0, 0) := by decide +kernel
theorem aX12_goes_181 : i_at mX12_goes.2.2.2.2.2 181 = some (.iadd, 1, 0, 0, 0, 0) := by decide +kernel
theorem aX12_goes_182 : i_at mX12_goes.2.2.2.2.2 182 = some (.iastore, 1, 0, 0, 0, 0) := by decide +kernel
theorem aX12_goes_183 : i_at mX12_goes.2.2.2.2.2 183 = some (.iload_n 2, 1, 0, 0, 0, 0) := by decide +kernel
theorem aX12_goes_184 : i_at mX12_goes.2.2.2.2.2 184 = some (.ireturn, 1, 0, 0, 0, 0) := by decide +kernel
noncomputable def fX12_goes_J112 (sh : List kd) (r1 : Int32) (x5 : Int32) (k9 : Int32 → Int32 → St → Option (Int32 × St)) (x121 : Int32) (s122 : St) : Option (Int32 × St) := k9 x121 (x5 + 1) s122
noncomputable def fX12_goes_L9 (sh : List kd) (r1 : Int32) (k118 : Int32 → Int32 → St → Option (Int32 × St)) : Nat → Int32 → Int32 → St → Option (Int32 × St)
  | 0, _, _, _ => none
  | n60 + 1, x4, x5, s6 => if i_ok 3 11 then if (s6.2.1 1 (3 : Int32).toNatClampNeg) ≤ x5 then k118 x4 x5 s6 else if i_ok x5 6 then if i_ok x5 6 then i_bd (fX12_upTo sh s6 ((s6.2.1 6 x5.toNatClampNeg) + (s6.2.1 7 x5.toNatClampNeg)) 999) (fun r65 s66 => if i_ok x5 6 then if i_ok x5 6 then if i_ok 1 11 then if ((s_A s66 6 x5.toNatClampNeg r65).2.1 6 x5.toNatClampNeg) < ((s_A s66 6 x5.toNatClampNeg r65).2.1 1 (1 : Int32).toNatClampNeg) then fX12_goes_J112 sh r1 x5 (fX12_goes_L9 sh r1 k118 n60) x4 (s_A s66 6 x5.toNatClampNeg r65) else if i_ok x5 6 then if i_ok x5 6 then if i_ok x5 6 then i_jp (s_A (s_A (s_A s66 6 x5.toNatClampNeg r65) 6 x5.toNatClampNeg 0) 8 x5.toNatClampNeg (((s_A (s_A s66 6 x5.toNatClampNeg r65) 6 x5.toNatClampNeg 0).2.1 8 x5.toNatClampNeg) ||| ((if ¬ r1 = (-1) then (1 <<< (r1 &&& 31)) else 0) : Int32))) (fun (s127 : St) => if i_ok x5 6 then if i_ok x5 6 then fX12_goes_J112 sh r1 x5 (fX12_goes_L9 sh r1 k118 n60) (x4 ||| (1 <<< (x5 &&& 31))) (s_A s127 9 x5.toNatClampNeg ((s127.2.1 9 x5.toNatClampNeg) + ((if ¬ r1 = (-1) then 0 else 1) : Int32))) else none else none) else none else none else none else none else none else none) else none else none else none
noncomputable def fX12_goes_J133 (sh : List kd) (r1 : Int32) (x57 : Int32) (x58 : Int32) (s183 : St) : Option (Int32 × St) := if i_ok 5 11 then if i_ok 6 11 then if i_ok 7 11 then if i_ok 7 11 then if i_ok 7 11 then i_jp (s_A (s_A (s_A s183 1 (5 : Int32).toNatClampNeg r1) 1 (6 : Int32).toNatClampNeg (-1)) 1 (7 : Int32).toNatClampNeg (((s_A (s_A s183 1 (5 : Int32).toNatClampNeg r1) 1 (6 : Int32).toNatClampNeg (-1)).2.1 1 (7 : Int32).toNatClampNeg) - ((if ((s_A (s_A s183 1 (5 : Int32).toNatClampNeg r1) 1 (6 : Int32).toNatClampNeg (-1)).2.1 1 (7 : Int32).toNatClampNeg) ≤ 0 then 0 else 1) : Int32))) (fun (s189 : St) => if i_ok 4 11 then if i_ok 4 11 then some (x57, s_A s189 1 (4 : Int32).toNatClampNeg ((s189.2.1 1 (4 : Int32).toNatClampNeg) + 1)) else none else none) else none else none else none else none else none
noncomputable def fX12_goes_X118 (sh : List kd) (r1 : Int32) (x57 : Int32) (x58 : Int32) (s59 : St) : Option (Int32 × St) := if r1 = (-1) then fX12_goes_J133 sh r1 x57 x58 s59 else if i_ok r1 6 then if i_ok r1 6 then fX12_goes_J133 sh r1 x57 x58 (s_A s59 4 r1.toNatClampNeg ((s59.2.1 4 r1.toNatClampNeg) + 1)) else none else none
noncomputable def fX12_goes (sh : List kd) (σ : St) : Option (Int32 × St) := i_bd (fX12_holds sh σ) (fun r1 s2 => fX12_goes_L9 sh r1 (fun (x57 : Int32) (x58 : Int32) (s59 : St) => fX12_goes_X118 sh r1 x57 x58 s59) i_F 0 0 s2)
set_option maxRecDepth 20000 in
set_option maxHeartbeats 2000000 in
theorem tX12_goes_J112 {sh : List kd} {τ : St} {r : Int32} (hsh : rmSh sh) {r1 : Int32} {x5 : Int32} {x121 : Int32} {s122 : St} {k9 : Int32 → Int32 → St → Option (Int32 × St)} (hk9 : ∀ (x4 : Int32) (x5 : Int32) (s6 : St), k9 x4 x5 s6 = some (r, τ) → g_R sh 6 mX12_goes (some (.int r)) τ 9 [.ref 0, .int r1, .int x4, .int x5] [] (s6)) (hE : fX12_goes_J112 sh r1 x5 k9 x121 s122 = some (r, τ)) : g_R sh 6 mX12_goes (some (.int r)) τ 112 [.ref 0, .int r1, .int x121, .int x5] [] (s122) := by
  unfold fX12_goes_J112 at hE
  refine g_iinc (y := 1) (loc2 := [.ref 0, .int r1, .int x121, .int (x5 + 1)]) aX12_goes_112 rfl rfl rfl ?_
  refine g_goto aX12_goes_115 ?_
  exact hk9 _ _ _ hE
set_option maxRecDepth 20000 in
set_option maxHeartbeats 2000000 in
theorem tX12_goes_L9 {sh : List kd} {τ : St} {r : Int32} (hsh : rmSh sh) {r1 : Int32} {k118 : Int32 → Int32 → St → Option (Int32 × St)} (hk118 : ∀ (x57 : Int32) (x58 : Int32) (s59 : St), k118 x57 x58 s59 = some (r, τ) → g_R sh 6 mX12_goes (some (.int r)) τ 118 [.ref 0, .int r1, .int x57, .int x58] [] (s59)) : ∀ (n0 : Nat) (x4 : Int32) (x5 : Int32) (s6 : St), fX12_goes_L9 sh r1 k118 n0 x4 x5 s6 = some (r, τ) → g_R sh 6 mX12_goes (some (.int r)) τ 9 [.ref 0, .int r1, .int x4, .int x5] [] (s6) := by
  intro n0
  induction n0 with
  | zero => intro _ _ _ hE; cases hE
  | succ n60 ih =>
    intro x4 x5 s6 hE
    unfold fX12_goes_L9 at hE
    refine g_ldin aX12_goes_9 rfl ?_
    refine g_ldan aX12_goes_10 rfl ?_
    refine g_getR aX12_goes_11 (sR_0 hsh) rfl ?_
    refine g_iconst (x := 3) aX12_goes_14 rfl ?_
    obtain ⟨h61, hE⟩ := i_ifn hE
    refine g_ild aX12_goes_15 (sR_1 hsh) h61 ?_
    by_cases hc62 : (s6.2.1 1 (3 : Int32).toNatClampNeg) ≤ x5
    · rw [if_pos hc62] at hE
      refine g_ic_ge_t aX12_goes_16 hc62 ?_
      exact hk118 _ _ _ hE
    · rw [if_neg hc62] at hE
      refine g_ic_ge_f aX12_goes_16 hc62 ?_
      refine g_ldan aX12_goes_19 rfl ?_
      refine g_getR aX12_goes_20 (sR_0 hsh) rfl ?_
      refine g_ldin aX12_goes_23 rfl ?_
      refine g_ldan aX12_goes_24 rfl ?_
      refine g_getR aX12_goes_25 (sR_0 hsh) rfl ?_
      refine g_ldin aX12_goes_28 rfl ?_
      obtain ⟨h63, hE⟩ := i_ifn hE
      refine g_ild aX12_goes_29 (sR_6 hsh) h63 ?_
      refine g_ldan aX12_goes_30 rfl ?_
      refine g_getR aX12_goes_31 (sR_0 hsh) rfl ?_
      refine g_ldin aX12_goes_34 rfl ?_
      obtain ⟨h64, hE⟩ := i_ifn hE
      refine g_ild aX12_goes_35 (sR_7 hsh) h64 ?_
      refine g_iadd aX12_goes_36 ?_
      refine g_sipush (x := 999) aX12_goes_37 rfl ?_
      obtain ⟨r65, s66, h67, hE⟩ := i_bd_some hE
      refine g_calS (As := [.int ((s6.2.1 6 x5.toNatClampNeg) + (s6.2.1 7 x5.toNatClampNeg)), .int 999]) (rest := [.int x5, .ref 6]) aX12_goes_40 (i_X_mono (by omega) (tX12_upTo hsh h67)) rfl rfl (Nat.le_of_ble_eq_true rfl) rfl ?_
      obtain ⟨h68, hE⟩ := i_ifn hE
      refine g_ist aX12_goes_43 (sR_6 hsh) h68 ?_
      refine g_ldan aX12_goes_44 rfl ?_
      refine g_getR aX12_goes_45 (sR_0 hsh) rfl ?_
      refine g_ldin aX12_goes_48 rfl ?_
      obtain ⟨h69, hE⟩ := i_ifn hE
      refine g_ild aX12_goes_49 (sR_6 hsh) h69 ?_
      refine g_ldan aX12_goes_50 rfl ?_
      refine g_getR aX12_goes_51 (sR_0 hsh) rfl ?_
      refine g_iconst (x := 1) aX12_goes_54 rfl ?_
      obtain ⟨h70, hE⟩ := i_ifn hE
      refine g_ild aX12_goes_55 (sR_1 hsh) h70 ?_
      by_cases hc123 : ((s_A s66 6 x5.toNatClampNeg r65).2.1 6 x5.toNatClampNeg) < ((s_A s66 6 x5.toNatClampNeg r65).2.1 1 (1 : Int32).toNatClampNeg)
      · rw [if_pos hc123] at hE
        refine g_ic_lt_t aX12_goes_56 hc123 ?_
        exact tX12_goes_J112 hsh ih hE
      · rw [if_neg hc123] at hE
        refine g_ic_lt_f aX12_goes_56 hc123 ?_
        refine g_ldin aX12_goes_59 rfl ?_
        refine g_iconst (x := 1) aX12_goes_60 rfl ?_
        refine g_ldin aX12_goes_61 rfl ?_
        refine g_ishl aX12_goes_62 ?_
        refine g_ior aX12_goes_63 ?_
        refine g_stin (loc2 := [.ref 0, .int r1, .int (x4 ||| (1 <<< (x5 &&& 31))), .int x5]) aX12_goes_64 (Nat.le_of_ble_eq_true rfl) rfl ?_
        refine g_ldan aX12_goes_65 rfl ?_
        refine g_getR aX12_goes_66 (sR_0 hsh) rfl ?_
        refine g_ldin aX12_goes_69 rfl ?_
        refine g_iconst (x := 0) aX12_goes_70 rfl ?_
        obtain ⟨h124, hE⟩ := i_ifn hE
        refine g_ist aX12_goes_71 (sR_6 hsh) h124 ?_
        refine g_ldan aX12_goes_72 rfl ?_
        refine g_getR aX12_goes_73 (sR_0 hsh) rfl ?_
        refine g_ldin aX12_goes_76 rfl ?_
        refine g_dup2 aX12_goes_77 ?_
        obtain ⟨h125, hE⟩ := i_ifn hE
        refine g_ild aX12_goes_78 (sR_8 hsh) h125 ?_
        refine g_ldin aX12_goes_79 rfl ?_
        refine g_iconst (x := (-1)) aX12_goes_80 rfl ?_
        have hJ : g_R sh 6 mX12_goes (some (.int r)) τ 91 [.ref 0, .int r1, .int (x4 ||| (1 <<< (x5 &&& 31))), .int x5] [.int ((if ¬ r1 = (-1) then (1 <<< (r1 &&& 31)) else 0) : Int32), .int ((s_A (s_A s66 6 x5.toNatClampNeg r65) 6 x5.toNatClampNeg 0).2.1 8 x5.toNatClampNeg), .int x5, .ref 8] (s_A (s_A s66 6 x5.toNatClampNeg r65) 6 x5.toNatClampNeg 0) := by
          refine g_ior aX12_goes_91 ?_
          obtain ⟨h126, hE⟩ := i_ifn hE
          refine g_ist aX12_goes_92 (sR_8 hsh) h126 ?_
          obtain ⟨s127, h128, hE⟩ := i_jp_some hE
          rw [← h128]
          refine g_ldan aX12_goes_93 rfl ?_
          refine g_getR aX12_goes_94 (sR_0 hsh) rfl ?_
          refine g_ldin aX12_goes_97 rfl ?_
          refine g_dup2 aX12_goes_98 ?_
          obtain ⟨h129, hE⟩ := i_ifn hE
          refine g_ild aX12_goes_99 (sR_9 hsh) h129 ?_
          refine g_ldin aX12_goes_100 rfl ?_
          refine g_iconst (x := (-1)) aX12_goes_101 rfl ?_
          have hJ : g_R sh 6 mX12_goes (some (.int r)) τ 110 [.ref 0, .int r1, .int (x4 ||| (1 <<< (x5 &&& 31))), .int x5] [.int ((if ¬ r1 = (-1) then 0 else 1) : Int32), .int (s127.2.1 9 x5.toNatClampNeg), .int x5, .ref 9] (s127) := by
            refine g_iadd aX12_goes_110 ?_
            obtain ⟨h130, hE⟩ := i_ifn hE
            refine g_ist aX12_goes_111 (sR_9 hsh) h130 ?_
            exact tX12_goes_J112 hsh ih hE
          clear hE
          by_cases hc130 : ¬ r1 = (-1)
          · (try rw [if_pos hc130] at hJ)
            refine g_ic_ne_t aX12_goes_102 hc130 ?_
            refine g_iconst (x := 0) aX12_goes_109 rfl ?_
            exact hJ
          · (try rw [if_neg hc130] at hJ)
            refine g_ic_ne_f aX12_goes_102 hc130 ?_
            refine g_iconst (x := 1) aX12_goes_105 rfl ?_
            refine g_goto aX12_goes_106 ?_
            exact hJ
        clear hE
        by_cases hc131 : ¬ r1 = (-1)
        · (try rw [if_pos hc131] at hJ)
          refine g_ic_ne_t aX12_goes_81 hc131 ?_
          refine g_iconst (x := 1) aX12_goes_88 rfl ?_
          refine g_ldin aX12_goes_89 rfl ?_
          refine g_ishl aX12_goes_90 ?_
          exact hJ
        · (try rw [if_neg hc131] at hJ)
          refine g_ic_ne_f aX12_goes_81 hc131 ?_
          refine g_iconst (x := 0) aX12_goes_84 rfl ?_
          refine g_goto aX12_goes_85 ?_
          exact hJ
set_option maxRecDepth 20000 in
set_option maxHeartbeats 2000000 in
theorem tX12_goes_J133 {sh : List kd} {τ : St} {r : Int32} (hsh : rmSh sh) {r1 : Int32} {x57 : Int32} {x58 : Int32} {s183 : St} (hE : fX12_goes_J133 sh r1 x57 x58 s183 = some (r, τ)) : g_R sh 6 mX12_goes (some (.int r)) τ 133 [.ref 0, .int r1, .int x57, .int x58] [] (s183) := by
  unfold fX12_goes_J133 at hE
  refine g_ldan aX12_goes_133 rfl ?_
  refine g_getR aX12_goes_134 (sR_0 hsh) rfl ?_
  refine g_iconst (x := 5) aX12_goes_137 rfl ?_
  refine g_ldin aX12_goes_138 rfl ?_
  obtain ⟨h184, hE⟩ := i_ifn hE
  refine g_ist aX12_goes_139 (sR_1 hsh) h184 ?_
  refine g_ldan aX12_goes_140 rfl ?_
  refine g_getR aX12_goes_141 (sR_0 hsh) rfl ?_
  refine g_bipush (x := 6) aX12_goes_144 rfl ?_
  refine g_iconst (x := (-1)) aX12_goes_146 rfl ?_
  obtain ⟨h185, hE⟩ := i_ifn hE
  refine g_ist aX12_goes_147 (sR_1 hsh) h185 ?_
  refine g_ldan aX12_goes_148 rfl ?_
  refine g_getR aX12_goes_149 (sR_0 hsh) rfl ?_
  refine g_bipush (x := 7) aX12_goes_152 rfl ?_
  refine g_dup2 aX12_goes_154 ?_
  obtain ⟨h186, hE⟩ := i_ifn hE
  refine g_ild aX12_goes_155 (sR_1 hsh) h186 ?_
  refine g_ldan aX12_goes_156 rfl ?_
  refine g_getR aX12_goes_157 (sR_0 hsh) rfl ?_
  refine g_bipush (x := 7) aX12_goes_160 rfl ?_
  obtain ⟨h187, hE⟩ := i_ifn hE
  refine g_ild aX12_goes_162 (sR_1 hsh) h187 ?_
  have hJ : g_R sh 6 mX12_goes (some (.int r)) τ 171 [.ref 0, .int r1, .int x57, .int x58] [.int ((if ((s_A (s_A s183 1 (5 : Int32).toNatClampNeg r1) 1 (6 : Int32).toNatClampNeg (-1)).2.1 1 (7 : Int32).toNatClampNeg) ≤ 0 then 0 else 1) : Int32), .int ((s_A (s_A s183 1 (5 : Int32).toNatClampNeg r1) 1 (6 : Int32).toNatClampNeg (-1)).2.1 1 (7 : Int32).toNatClampNeg), .int 7, .ref 1] (s_A (s_A s183 1 (5 : Int32).toNatClampNeg r1) 1 (6 : Int32).toNatClampNeg (-1)) := by
    refine g_isub aX12_goes_171 ?_
    obtain ⟨h188, hE⟩ := i_ifn hE
    refine g_ist aX12_goes_172 (sR_1 hsh) h188 ?_
    obtain ⟨s189, h190, hE⟩ := i_jp_some hE
    rw [← h190]
    refine g_ldan aX12_goes_173 rfl ?_
    refine g_getR aX12_goes_174 (sR_0 hsh) rfl ?_
    refine g_iconst (x := 4) aX12_goes_177 rfl ?_
    refine g_dup2 aX12_goes_178 ?_
    obtain ⟨h191, hE⟩ := i_ifn hE
    refine g_ild aX12_goes_179 (sR_1 hsh) h191 ?_
    refine g_iconst (x := 1) aX12_goes_180 rfl ?_
    refine g_iadd aX12_goes_181 ?_
    obtain ⟨h192, hE⟩ := i_ifn hE
    refine g_ist aX12_goes_182 (sR_1 hsh) h192 ?_
    refine g_ldin aX12_goes_183 rfl ?_
    obtain ⟨rfl, rfl⟩ := i_some_inj hE
    exact g_iret aX12_goes_184 rfl rfl
  clear hE
  by_cases hc192 : ((s_A (s_A s183 1 (5 : Int32).toNatClampNeg r1) 1 (6 : Int32).toNatClampNeg (-1)).2.1 1 (7 : Int32).toNatClampNeg) ≤ 0
  · (try rw [if_pos hc192] at hJ)
    refine g_if_le_t aX12_goes_163 hc192 ?_
    refine g_iconst (x := 0) aX12_goes_170 rfl ?_
    exact hJ
  · (try rw [if_neg hc192] at hJ)
    refine g_if_le_f aX12_goes_163 hc192 ?_
    refine g_iconst (x := 1) aX12_goes_166 rfl ?_
    refine g_goto aX12_goes_167 ?_
    exact hJ
set_option maxRecDepth 20000 in
set_option maxHeartbeats 2000000 in
theorem tX12_goes_X118 {sh : List kd} {τ : St} {r : Int32} (hsh : rmSh sh) {r1 : Int32} {x57 : Int32} {x58 : Int32} {s59 : St} (hE : fX12_goes_X118 sh r1 x57 x58 s59 = some (r, τ)) : g_R sh 6 mX12_goes (some (.int r)) τ 118 [.ref 0, .int r1, .int x57, .int x58] [] (s59) := by
  unfold fX12_goes_X118 at hE
  refine g_ldin aX12_goes_118 rfl ?_
  refine g_iconst (x := (-1)) aX12_goes_119 rfl ?_
  by_cases hc194 : r1 = (-1)
  · rw [if_pos hc194] at hE
    refine g_ic_eq_t aX12_goes_120 hc194 ?_
    exact tX12_goes_J133 hsh hE
  · rw [if_neg hc194] at hE
    refine g_ic_eq_f aX12_goes_120 hc194 ?_
    refine g_ldan aX12_goes_123 rfl ?_
    refine g_getR aX12_goes_124 (sR_0 hsh) rfl ?_
    refine g_ldin aX12_goes_127 rfl ?_
    refine g_dup2 aX12_goes_128 ?_
    obtain ⟨h195, hE⟩ := i_ifn hE
    refine g_ild aX12_goes_129 (sR_4 hsh) h195 ?_
    refine g_iconst (x := 1) aX12_goes_130 rfl ?_
    refine g_iadd aX12_goes_131 ?_
    obtain ⟨h196, hE⟩ := i_ifn hE
    refine g_ist aX12_goes_132 (sR_4 hsh) h196 ?_
    exact tX12_goes_J133 hsh hE
set_option maxRecDepth 20000 in
set_option maxHeartbeats 2000000 in
theorem tX12_goes {sh : List kd} {σ τ : St} {r : Int32} (hsh : rmSh sh) (hE : fX12_goes sh σ = some (r, τ)) : i_X 7 183 [.ref 0] (s_h sh σ) 0 0 (some (.int r)) (s_h sh τ) := by
  refine g_X (M := mX12_goes) (loc := [.ref 0, .retAddr 0, .retAddr 0, .retAddr 0]) rfl (Nat.le_of_ble_eq_true rfl) rfl ?_
  unfold fX12_goes at hE
  refine g_ldan aX12_goes_0 rfl ?_
  obtain ⟨r1, s2, h3, hE⟩ := i_bd_some hE
  refine g_calV (As := []) (rest := []) aX12_goes_1 (i_X_mono (by omega) (tX12_holds hsh h3)) (sR_0 hsh) (by decide +kernel) rfl rfl (Nat.le_of_ble_eq_true rfl) rfl ?_
  refine g_stin (loc2 := [.ref 0, .int r1, .retAddr 0, .retAddr 0]) aX12_goes_4 (Nat.le_of_ble_eq_true rfl) rfl ?_
  refine g_iconst (x := 0) aX12_goes_5 rfl ?_
  refine g_stin (loc2 := [.ref 0, .int r1, .int 0, .retAddr 0]) aX12_goes_6 (Nat.le_of_ble_eq_true rfl) rfl ?_
  refine g_iconst (x := 0) aX12_goes_7 rfl ?_
  refine g_stin (loc2 := [.ref 0, .int r1, .int 0, .int 0]) aX12_goes_8 (Nat.le_of_ble_eq_true rfl) rfl ?_
  exact tX12_goes_L9 hsh (fun x57 x58 s59 hE => tX12_goes_X118 hsh hE) i_F _ _ _ hE
theorem aX12_goFor_0 : i_at mX12_goFor.2.2.2.2.2 0 = some (.iconst 0, 1, 0, 0, 0, 0) := by decide +kernel
theorem aX12_goFor_1 : i_at mX12_goFor.2.2.2.2.2 1 = some (.istore_n 2, 1, 0, 0, 0, 0) := by decide +kernel
theorem aX12_goFor_2 : i_at mX12_goFor.2.2.2.2.2 2 = some (.iload_n 2, 1, 0, 0, 0, 0) := by decide +kernel
theorem aX12_goFor_3 : i_at mX12_goFor.2.2.2.2.2 3 = some (.iload_n 1, 1, 0, 0, 0, 0) := by decide +kernel
theorem aX12_goFor_4 : i_at mX12_goFor.2.2.2.2.2 4 = some (.if_icmp .ge 14, 3, 18, 0, 0, 0) := by decide +kernel
theorem aX12_goFor_7 : i_at mX12_goFor.2.2.2.2.2 7 = some (.aload_n 0, 1, 0, 0, 0, 0) := by decide +kernel
theorem aX12_goFor_8 : i_at mX12_goFor.2.2.2.2.2 8 = some (.invokevirtual 375, 3, 183, 0, 1481, 0) := by decide +kernel
theorem aX12_goFor_11 : i_at mX12_goFor.2.2.2.2.2 11 = some (.pop, 1, 0, 0, 0, 0) := by decide +kernel
theorem aX12_goFor_12 : i_at mX12_goFor.2.2.2.2.2 12 = some (.iinc 2 1, 3, 0, 0, 0, 0) := by decide +kernel
theorem aX12_goFor_15 : i_at mX12_goFor.2.2.2.2.2 15 = some (.goto (-13), 3, 2, 0, 0, 0) := by decide +kernel
theorem aX12_goFor_18 : i_at mX12_goFor.2.2.2.2.2 18 = some (.return_, 1, 0, 0, 0, 0) := by decide +kernel
noncomputable def fX12_goFor_L2 (sh : List kd) (p1 : Int32) : Nat → Int32 → St → Option (Unit × St)
  | 0, _, _ => none
  | n3 + 1, x1, s2 => if p1 ≤ x1 then some ((), s2) else i_bd (fX12_goes sh s2) (fun r55 s56 => (fX12_goFor_L2 sh p1 n3 (x1 + 1) s56))
noncomputable def fX12_goFor (sh : List kd) (σ : St) (p1 : Int32) : Option (Unit × St) := fX12_goFor_L2 sh p1 i_F 0 σ
set_option maxRecDepth 20000 in
set_option maxHeartbeats 2000000 in
theorem tX12_goFor_L2 {sh : List kd} {τ : St} {r : Unit} (hsh : rmSh sh) {p1 : Int32} : ∀ (n0 : Nat) (x1 : Int32) (s2 : St), fX12_goFor_L2 sh p1 n0 x1 s2 = some (r, τ) → g_R sh 7 mX12_goFor none τ 2 [.ref 0, .int p1, .int x1] [] (s2) := by
  intro n0
  induction n0 with
  | zero => intro _ _ hE; cases hE
  | succ n3 ih =>
    intro x1 s2 hE
    unfold fX12_goFor_L2 at hE
    refine g_ldin aX12_goFor_2 rfl ?_
    refine g_ldin aX12_goFor_3 rfl ?_
    by_cases hc54 : p1 ≤ x1
    · rw [if_pos hc54] at hE
      refine g_ic_ge_t aX12_goFor_4 hc54 ?_
      obtain ⟨rfl, rfl⟩ := i_some_inj hE
      exact g_vret aX12_goFor_18 rfl
    · rw [if_neg hc54] at hE
      refine g_ic_ge_f aX12_goFor_4 hc54 ?_
      refine g_ldan aX12_goFor_7 rfl ?_
      obtain ⟨r55, s56, h57, hE⟩ := i_bd_some hE
      refine g_calV (As := []) (rest := []) aX12_goFor_8 (i_X_mono (by omega) (tX12_goes hsh h57)) (sR_0 hsh) (by decide +kernel) rfl rfl (Nat.le_of_ble_eq_true rfl) rfl ?_
      refine g_popi aX12_goFor_11 ?_
      refine g_iinc (y := 1) (loc2 := [.ref 0, .int p1, .int (x1 + 1)]) aX12_goFor_12 rfl rfl rfl ?_
      refine g_goto aX12_goFor_15 ?_
      exact ih _ _ hE
set_option maxRecDepth 20000 in
set_option maxHeartbeats 2000000 in
theorem tX12_goFor {sh : List kd} {σ τ : St} {r : Unit} (hsh : rmSh sh) {p1 : Int32} (hE : fX12_goFor sh σ p1 = some (r, τ)) : i_X 8 184 [.ref 0, .int p1] (s_h sh σ) 0 0 none (s_h sh τ) := by
  refine g_X (M := mX12_goFor) (loc := [.ref 0, .int p1, .retAddr 0]) rfl (Nat.le_of_ble_eq_true rfl) rfl ?_
  unfold fX12_goFor at hE
  refine g_iconst (x := 0) aX12_goFor_0 rfl ?_
  refine g_stin (loc2 := [.ref 0, .int p1, .int 0]) aX12_goFor_1 (Nat.le_of_ble_eq_true rfl) rfl ?_
  exact tX12_goFor_L2 hsh i_F _ _ hE
theorem aX12_hour_0 : i_at mX12_hour.2.2.2.2.2 0 = some (.aload_n 0, 1, 0, 0, 0, 0) := by decide +kernel
theorem aX12_hour_1 : i_at mX12_hour.2.2.2.2.2 1 = some (.invokevirtual 345, 3, 130, 0, 1438, 0) := by decide +kernel
theorem aX12_hour_4 : i_at mX12_hour.2.2.2.2.2 4 = some (.ifCond .eq 15, 3, 19, 0, 0, 0) := by decide +kernel
theorem aX12_hour_7 : i_at mX12_hour.2.2.2.2.2 7 = some (.aload_n 0, 1, 0, 0, 0, 0) := by decide +kernel
theorem aX12_hour_8 : i_at mX12_hour.2.2.2.2.2 8 = some (.getfield 9, 3, 11, 1, 1088, 0) := by decide +kernel
theorem aX12_hour_11 : i_at mX12_hour.2.2.2.2.2 11 = some (.iconst 4, 1, 0, 0, 0, 0) := by decide +kernel
theorem aX12_hour_12 : i_at mX12_hour.2.2.2.2.2 12 = some (.iaload, 1, 0, 0, 0, 0) := by decide +kernel
theorem aX12_hour_13 : i_at mX12_hour.2.2.2.2.2 13 = some (.sipush 999, 3, 0, 0, 0, 0) := by decide +kernel
theorem aX12_hour_16 : i_at mX12_hour.2.2.2.2.2 16 = some (.if_icmp .ne 5, 3, 21, 0, 0, 0) := by decide +kernel
theorem aX12_hour_19 : i_at mX12_hour.2.2.2.2.2 19 = some (.iconst (-1), 1, 0, 0, 0, 0) := by decide +kernel
theorem aX12_hour_20 : i_at mX12_hour.2.2.2.2.2 20 = some (.ireturn, 1, 0, 0, 0, 0) := by decide +kernel
theorem aX12_hour_21 : i_at mX12_hour.2.2.2.2.2 21 = some (.aload_n 0, 1, 0, 0, 0, 0) := by decide +kernel
theorem aX12_hour_22 : i_at mX12_hour.2.2.2.2.2 22 = some (.invokevirtual 396, 3, 188, 0, 1477, 0) := by decide +kernel
theorem aX12_hour_25 : i_at mX12_hour.2.2.2.2.2 25 = some (.aload_n 0, 1, 0, 0, 0, 0) := by decide +kernel
theorem aX12_hour_26 : i_at mX12_hour.2.2.2.2.2 26 = some (.invokevirtual 375, 3, 183, 0, 1481, 0) := by decide +kernel
theorem aX12_hour_29 : i_at mX12_hour.2.2.2.2.2 29 = some (.ireturn, 1, 0, 0, 0, 0) := by decide +kernel
noncomputable def fX12_hour (sh : List kd) (σ : St) : Option (Int32 × St) := i_bd (fX12_isCourt sh σ) (fun r1 s2 => if r1 = 0 then some ((-1), s2) else if i_ok 4 11 then if ¬ (s2.2.1 1 (4 : Int32).toNatClampNeg) = 999 then i_bd (fX12_keepsAct sh s2) (fun r7 s8 => i_bd (fX12_goes sh s8) (fun r10 s11 => some (r10, s11))) else some ((-1), s2) else none)
set_option maxRecDepth 20000 in
set_option maxHeartbeats 2000000 in
theorem tX12_hour {sh : List kd} {σ τ : St} {r : Int32} (hsh : rmSh sh) (hE : fX12_hour sh σ = some (r, τ)) : i_X 8 190 [.ref 0] (s_h sh σ) 0 0 (some (.int r)) (s_h sh τ) := by
  refine g_X (M := mX12_hour) (loc := [.ref 0]) rfl (Nat.le_of_ble_eq_true rfl) rfl ?_
  unfold fX12_hour at hE
  refine g_ldan aX12_hour_0 rfl ?_
  obtain ⟨r1, s2, h3, hE⟩ := i_bd_some hE
  refine g_calV (As := []) (rest := []) aX12_hour_1 (i_X_mono (by omega) (tX12_isCourt hsh h3)) (sR_0 hsh) (by decide +kernel) rfl rfl (Nat.le_of_ble_eq_true rfl) rfl ?_
  by_cases hc4 : r1 = 0
  · rw [if_pos hc4] at hE
    refine g_if_eq_t aX12_hour_4 hc4 ?_
    refine g_iconst (x := (-1)) aX12_hour_19 rfl ?_
    obtain ⟨rfl, rfl⟩ := i_some_inj hE
    exact g_iret aX12_hour_20 rfl rfl
  · rw [if_neg hc4] at hE
    refine g_if_eq_f aX12_hour_4 hc4 ?_
    refine g_ldan aX12_hour_7 rfl ?_
    refine g_getR aX12_hour_8 (sR_0 hsh) rfl ?_
    refine g_iconst (x := 4) aX12_hour_11 rfl ?_
    obtain ⟨h5, hE⟩ := i_ifn hE
    refine g_ild aX12_hour_12 (sR_1 hsh) h5 ?_
    refine g_sipush (x := 999) aX12_hour_13 rfl ?_
    by_cases hc6 : ¬ (s2.2.1 1 (4 : Int32).toNatClampNeg) = 999
    · rw [if_pos hc6] at hE
      refine g_ic_ne_t aX12_hour_16 hc6 ?_
      refine g_ldan aX12_hour_21 rfl ?_
      obtain ⟨r7, s8, h9, hE⟩ := i_bd_some hE
      refine g_calV (As := []) (rest := []) aX12_hour_22 (i_X_mono (by omega) (tX12_keepsAct hsh h9)) (sR_0 hsh) (by decide +kernel) rfl rfl (Nat.le_of_ble_eq_true rfl) rfl ?_
      refine g_ldan aX12_hour_25 rfl ?_
      obtain ⟨r10, s11, h12, hE⟩ := i_bd_some hE
      refine g_calV (As := []) (rest := []) aX12_hour_26 (i_X_mono (by omega) (tX12_goes hsh h12)) (sR_0 hsh) (by decide +kernel) rfl rfl (Nat.le_of_ble_eq_true rfl) rfl ?_
      obtain ⟨rfl, rfl⟩ := i_some_inj hE
      exact g_iret aX12_hour_29 rfl rfl
    · rw [if_neg hc6] at hE
      refine g_ic_ne_f aX12_hour_16 hc6 ?_
      refine g_iconst (x := (-1)) aX12_hour_19 rfl ?_
      obtain ⟨rfl, rfl⟩ := i_some_inj hE
      exact g_iret aX12_hour_20 rfl rfl
theorem aX12_keepsAll_0 : i_at mX12_keepsAll.2.2.2.2.2 0 = some (.aload_n 0, 1, 0, 0, 0, 0) := by decide +kernel
theorem aX12_keepsAll_1 : i_at mX12_keepsAll.2.2.2.2.2 1 = some (.iconst 4, 1, 0, 0, 0, 0) := by decide +kernel
theorem aX12_keepsAll_2 : i_at mX12_keepsAll.2.2.2.2.2 2 = some (.iconst 0, 1, 0, 0, 0, 0) := by decide +kernel
theorem aX12_keepsAll_3 : i_at mX12_keepsAll.2.2.2.2.2 3 = some (.invokevirtual 403, 3, 227, 2, 1549, 0) := by decide +kernel
theorem aX12_keepsAll_6 : i_at mX12_keepsAll.2.2.2.2.2 6 = some (.return_, 1, 0, 0, 0, 0) := by decide +kernel
noncomputable def fX12_keepsAll (sh : List kd) (σ : St) : Option (Unit × St) := i_bd (fX12_carriesAll sh σ 4 0) (fun r1 s2 => some ((), s2))
set_option maxRecDepth 20000 in
set_option maxHeartbeats 2000000 in
theorem tX12_keepsAll {sh : List kd} {σ τ : St} {r : Unit} (hsh : rmSh sh) (hE : fX12_keepsAll sh σ = some (r, τ)) : i_X 3 196 [.ref 0] (s_h sh σ) 0 0 none (s_h sh τ) := by
  refine g_X (M := mX12_keepsAll) (loc := [.ref 0]) rfl (Nat.le_of_ble_eq_true rfl) rfl ?_
  unfold fX12_keepsAll at hE
  refine g_ldan aX12_keepsAll_0 rfl ?_
  refine g_iconst (x := 4) aX12_keepsAll_1 rfl ?_
  refine g_iconst (x := 0) aX12_keepsAll_2 rfl ?_
  obtain ⟨r1, s2, h3, hE⟩ := i_bd_some hE
  refine g_calV (As := [.int 4, .int 0]) (rest := []) aX12_keepsAll_3 (i_X_mono (by omega) (tX12_carriesAll hsh h3)) (sR_0 hsh) (by decide +kernel) rfl rfl (Nat.le_of_ble_eq_true rfl) rfl ?_
  obtain ⟨rfl, rfl⟩ := i_some_inj hE
  exact g_vret aX12_keepsAll_6 rfl
theorem aX12_laysBack_0 : i_at mX12_laysBack.2.2.2.2.2 0 = some (.aload_n 0, 1, 0, 0, 0, 0) := by decide +kernel
theorem aX12_laysBack_1 : i_at mX12_laysBack.2.2.2.2.2 1 = some (.iconst 4, 1, 0, 0, 0, 0) := by decide +kernel
theorem aX12_laysBack_2 : i_at mX12_laysBack.2.2.2.2.2 2 = some (.iconst 1, 1, 0, 0, 0, 0) := by decide +kernel
theorem aX12_laysBack_3 : i_at mX12_laysBack.2.2.2.2.2 3 = some (.invokevirtual 403, 3, 227, 2, 1549, 0) := by decide +kernel
theorem aX12_laysBack_6 : i_at mX12_laysBack.2.2.2.2.2 6 = some (.return_, 1, 0, 0, 0, 0) := by decide +kernel
noncomputable def fX12_laysBack (sh : List kd) (σ : St) : Option (Unit × St) := i_bd (fX12_carriesAll sh σ 4 1) (fun r1 s2 => some ((), s2))
set_option maxRecDepth 20000 in
set_option maxHeartbeats 2000000 in
theorem tX12_laysBack {sh : List kd} {σ τ : St} {r : Unit} (hsh : rmSh sh) (hE : fX12_laysBack sh σ = some (r, τ)) : i_X 3 197 [.ref 0] (s_h sh σ) 0 0 none (s_h sh τ) := by
  refine g_X (M := mX12_laysBack) (loc := [.ref 0]) rfl (Nat.le_of_ble_eq_true rfl) rfl ?_
  unfold fX12_laysBack at hE
  refine g_ldan aX12_laysBack_0 rfl ?_
  refine g_iconst (x := 4) aX12_laysBack_1 rfl ?_
  refine g_iconst (x := 1) aX12_laysBack_2 rfl ?_
  obtain ⟨r1, s2, h3, hE⟩ := i_bd_some hE
  refine g_calV (As := [.int 4, .int 1]) (rest := []) aX12_laysBack_3 (i_X_mono (by omega) (tX12_carriesAll hsh h3)) (sR_0 hsh) (by decide +kernel) rfl rfl (Nat.le_of_ble_eq_true rfl) rfl ?_
  obtain ⟨rfl, rfl⟩ := i_some_inj hE
  exact g_vret aX12_laysBack_6 rfl
theorem aX12_ahead_0 : i_at mX12_ahead.2.2.2.2.2 0 = some (.iload_n 3, 1, 0, 0, 0, 0) := by decide +kernel
theorem aX12_ahead_1 : i_at mX12_ahead.2.2.2.2.2 1 = some (.ifCond .eq 23, 3, 24, 0, 0, 0) := by decide +kernel
theorem aX12_ahead_4 : i_at mX12_ahead.2.2.2.2.2 4 = some (.iload_n 3, 1, 0, 0, 0, 0) := by decide +kernel
theorem aX12_ahead_5 : i_at mX12_ahead.2.2.2.2.2 5 = some (.i2l, 1, 0, 0, 0, 0) := by decide +kernel
theorem aX12_ahead_6 : i_at mX12_ahead.2.2.2.2.2 6 = some (.lconst 1, 1, 0, 0, 0, 0) := by decide +kernel
theorem aX12_ahead_7 : i_at mX12_ahead.2.2.2.2.2 7 = some (.ldc2_w 406, 3, 0, 0, 1543, 2) := by decide +kernel
theorem aX12_ahead_10 : i_at mX12_ahead.2.2.2.2.2 10 = some (.invokestatic 131, 3, 127, 3, 1324, 0) := by decide +kernel
theorem aX12_ahead_13 : i_at mX12_ahead.2.2.2.2.2 13 = some (.ifCond .eq 15, 3, 28, 0, 0, 0) := by decide +kernel
theorem aX12_ahead_16 : i_at mX12_ahead.2.2.2.2.2 16 = some (.aload_n 0, 1, 0, 0, 0, 0) := by decide +kernel
theorem aX12_ahead_17 : i_at mX12_ahead.2.2.2.2.2 17 = some (.iload_n 1, 1, 0, 0, 0, 0) := by decide +kernel
theorem aX12_ahead_18 : i_at mX12_ahead.2.2.2.2.2 18 = some (.invokevirtual 351, 3, 132, 1, 1446, 0) := by decide +kernel
theorem aX12_ahead_21 : i_at mX12_ahead.2.2.2.2.2 21 = some (.ifCond .eq 7, 3, 28, 0, 0, 0) := by decide +kernel
theorem aX12_ahead_24 : i_at mX12_ahead.2.2.2.2.2 24 = some (.iconst 1, 1, 0, 0, 0, 0) := by decide +kernel
theorem aX12_ahead_25 : i_at mX12_ahead.2.2.2.2.2 25 = some (.goto 4, 3, 29, 0, 0, 0) := by decide +kernel
theorem aX12_ahead_28 : i_at mX12_ahead.2.2.2.2.2 28 = some (.iconst 0, 1, 0, 0, 0, 0) := by decide +kernel
theorem aX12_ahead_29 : i_at mX12_ahead.2.2.2.2.2 29 = some (.istore 4, 2, 0, 0, 0, 0) := by decide +kernel
theorem aX12_ahead_31 : i_at mX12_ahead.2.2.2.2.2 31 = some (.aload_n 0, 1, 0, 0, 0, 0) := by decide +kernel
theorem aX12_ahead_32 : i_at mX12_ahead.2.2.2.2.2 32 = some (.invokevirtual 345, 3, 130, 0, 1438, 0) := by decide +kernel
theorem aX12_ahead_35 : i_at mX12_ahead.2.2.2.2.2 35 = some (.ifCond .eq 20, 3, 55, 0, 0, 0) := by decide +kernel
theorem aX12_ahead_38 : i_at mX12_ahead.2.2.2.2.2 38 = some (.iload 4, 2, 0, 0, 0, 0) := by decide +kernel
theorem aX12_ahead_40 : i_at mX12_ahead.2.2.2.2.2 40 = some (.ifCond .eq 15, 3, 55, 0, 0, 0) := by decide +kernel
theorem aX12_ahead_43 : i_at mX12_ahead.2.2.2.2.2 43 = some (.iload_n 2, 1, 0, 0, 0, 0) := by decide +kernel
theorem aX12_ahead_44 : i_at mX12_ahead.2.2.2.2.2 44 = some (.i2l, 1, 0, 0, 0, 0) := by decide +kernel
theorem aX12_ahead_45 : i_at mX12_ahead.2.2.2.2.2 45 = some (.lconst 0, 1, 0, 0, 0, 0) := by decide +kernel
theorem aX12_ahead_46 : i_at mX12_ahead.2.2.2.2.2 46 = some (.ldc2_w 408, 3, 0, 0, 1544, 100) := by decide +kernel
theorem aX12_ahead_49 : i_at mX12_ahead.2.2.2.2.2 49 = some (.invokestatic 131, 3, 127, 3, 1324, 0) := by decide +kernel
theorem aX12_ahead_52 : i_at mX12_ahead.2.2.2.2.2 52 = some (.ifCond .ne 6, 3, 58, 0, 0, 0) := by decide +kernel
theorem aX12_ahead_55 : i_at mX12_ahead.2.2.2.2.2 55 = some (.bipush (-2), 2, 0, 0, 0, 0) := by decide +kernel
theorem aX12_ahead_57 : i_at mX12_ahead.2.2.2.2.2 57 = some (.ireturn, 1, 0, 0, 0, 0) := by decide +kernel
theorem aX12_ahead_58 : i_at mX12_ahead.2.2.2.2.2 58 = some (.aload_n 0, 1, 0, 0, 0, 0) := by decide +kernel
theorem aX12_ahead_59 : i_at mX12_ahead.2.2.2.2.2 59 = some (.invokevirtual 410, 3, 196, 0, 1545, 0) := by decide +kernel
theorem aX12_ahead_62 : i_at mX12_ahead.2.2.2.2.2 62 = some (.aload_n 0, 1, 0, 0, 0, 0) := by decide +kernel
theorem aX12_ahead_63 : i_at mX12_ahead.2.2.2.2.2 63 = some (.iload_n 2, 1, 0, 0, 0, 0) := by decide +kernel
theorem aX12_ahead_64 : i_at mX12_ahead.2.2.2.2.2 64 = some (.invokevirtual 413, 3, 184, 1, 1557, 0) := by decide +kernel
theorem aX12_ahead_67 : i_at mX12_ahead.2.2.2.2.2 67 = some (.iload_n 3, 1, 0, 0, 0, 0) := by decide +kernel
theorem aX12_ahead_68 : i_at mX12_ahead.2.2.2.2.2 68 = some (.ifCond .ne 10, 3, 78, 0, 0, 0) := by decide +kernel
theorem aX12_ahead_71 : i_at mX12_ahead.2.2.2.2.2 71 = some (.aload_n 0, 1, 0, 0, 0, 0) := by decide +kernel
theorem aX12_ahead_72 : i_at mX12_ahead.2.2.2.2.2 72 = some (.invokevirtual 370, 3, 181, 0, 1485, 0) := by decide +kernel
theorem aX12_ahead_75 : i_at mX12_ahead.2.2.2.2.2 75 = some (.goto 23, 3, 98, 0, 0, 0) := by decide +kernel
theorem aX12_ahead_78 : i_at mX12_ahead.2.2.2.2.2 78 = some (.iload_n 3, 1, 0, 0, 0, 0) := by decide +kernel
theorem aX12_ahead_79 : i_at mX12_ahead.2.2.2.2.2 79 = some (.iconst 1, 1, 0, 0, 0, 0) := by decide +kernel
theorem aX12_ahead_80 : i_at mX12_ahead.2.2.2.2.2 80 = some (.if_icmp .ne 12, 3, 92, 0, 0, 0) := by decide +kernel
theorem aX12_ahead_83 : i_at mX12_ahead.2.2.2.2.2 83 = some (.aload_n 0, 1, 0, 0, 0, 0) := by decide +kernel
theorem aX12_ahead_84 : i_at mX12_ahead.2.2.2.2.2 84 = some (.getfield 31, 3, 11, 8, 1095, 0) := by decide +kernel
theorem aX12_ahead_87 : i_at mX12_ahead.2.2.2.2.2 87 = some (.iload_n 1, 1, 0, 0, 0, 0) := by decide +kernel
theorem aX12_ahead_88 : i_at mX12_ahead.2.2.2.2.2 88 = some (.iaload, 1, 0, 0, 0, 0) := by decide +kernel
theorem aX12_ahead_89 : i_at mX12_ahead.2.2.2.2.2 89 = some (.goto 9, 3, 98, 0, 0, 0) := by decide +kernel
theorem aX12_ahead_92 : i_at mX12_ahead.2.2.2.2.2 92 = some (.aload_n 0, 1, 0, 0, 0, 0) := by decide +kernel
theorem aX12_ahead_93 : i_at mX12_ahead.2.2.2.2.2 93 = some (.getfield 25, 3, 11, 6, 1093, 0) := by decide +kernel
theorem aX12_ahead_96 : i_at mX12_ahead.2.2.2.2.2 96 = some (.iload_n 1, 1, 0, 0, 0, 0) := by decide +kernel
theorem aX12_ahead_97 : i_at mX12_ahead.2.2.2.2.2 97 = some (.iaload, 1, 0, 0, 0, 0) := by decide +kernel
theorem aX12_ahead_98 : i_at mX12_ahead.2.2.2.2.2 98 = some (.istore 5, 2, 0, 0, 0, 0) := by decide +kernel
theorem aX12_ahead_100 : i_at mX12_ahead.2.2.2.2.2 100 = some (.aload_n 0, 1, 0, 0, 0, 0) := by decide +kernel
theorem aX12_ahead_101 : i_at mX12_ahead.2.2.2.2.2 101 = some (.invokevirtual 416, 3, 197, 0, 1561, 0) := by decide +kernel
theorem aX12_ahead_104 : i_at mX12_ahead.2.2.2.2.2 104 = some (.iload 5, 2, 0, 0, 0, 0) := by decide +kernel
theorem aX12_ahead_106 : i_at mX12_ahead.2.2.2.2.2 106 = some (.ireturn, 1, 0, 0, 0, 0) := by decide +kernel
noncomputable def fX12_ahead_J98 (sh : List kd) (p1 : Int32) (p2 : Int32) (p3 : Int32) (x51 : Int32) (x118 : Int32) (s119 : St) : Option (Int32 × St) := i_bd (fX12_laysBack sh s119) (fun r120 s121 => some (x118, s121))
noncomputable def fX12_ahead_J29 (sh : List kd) (p1 : Int32) (p2 : Int32) (p3 : Int32) (x51 : Int32) (s52 : St) : Option (Int32 × St) := i_bd (fX12_isCourt sh s52) (fun r53 s54 => if r53 = 0 then some ((-2), s54) else if x51 = 0 then some ((-2), s54) else i_bd (fX12_in sh s54 p2.toInt64 0 100) (fun r58 s59 => if ¬ r58 = 0 then i_bd (fX12_keepsAll sh s59) (fun r62 s63 => i_bd (fX12_goFor sh s63 p2) (fun r65 s66 => if ¬ p3 = 0 then if ¬ p3 = 1 then if i_ok p1 6 then fX12_ahead_J98 sh p1 p2 p3 x51 (s66.2.1 6 p1.toNatClampNeg) s66 else none else if i_ok p1 6 then fX12_ahead_J98 sh p1 p2 p3 x51 (s66.2.1 8 p1.toNatClampNeg) s66 else none else i_bd (fX12_holds sh s66) (fun r127 s128 => fX12_ahead_J98 sh p1 p2 p3 x51 r127 s128))) else some ((-2), s59)))
noncomputable def fX12_ahead (sh : List kd) (σ : St) (p1 : Int32) (p2 : Int32) (p3 : Int32) : Option (Int32 × St) := if p3 = 0 then fX12_ahead_J29 sh p1 p2 p3 1 σ else i_bd (fX12_in sh σ p3.toInt64 1 2) (fun r131 s132 => if r131 = 0 then fX12_ahead_J29 sh p1 p2 p3 0 s132 else i_bd (fX12_isPerson sh s132 p1) (fun r135 s136 => fX12_ahead_J29 sh p1 p2 p3 ((if r135 = 0 then 0 else 1) : Int32) s136))
set_option maxRecDepth 20000 in
set_option maxHeartbeats 2000000 in
theorem tX12_ahead_J98 {sh : List kd} {τ : St} {r : Int32} (hsh : rmSh sh) {p1 : Int32} {p2 : Int32} {p3 : Int32} {x51 : Int32} {x118 : Int32} {s119 : St} (hE : fX12_ahead_J98 sh p1 p2 p3 x51 x118 s119 = some (r, τ)) : g_R sh 8 mX12_ahead (some (.int r)) τ 98 [.ref 0, .int p1, .int p2, .int p3, .int x51, .retAddr 0] [.int x118] (s119) := by
  unfold fX12_ahead_J98 at hE
  refine g_sti (loc2 := [.ref 0, .int p1, .int p2, .int p3, .int x51, .int x118]) aX12_ahead_98 (Nat.le_of_ble_eq_true rfl) rfl ?_
  refine g_ldan aX12_ahead_100 rfl ?_
  obtain ⟨r120, s121, h122, hE⟩ := i_bd_some hE
  refine g_calV (As := []) (rest := []) aX12_ahead_101 (i_X_mono (by omega) (tX12_laysBack hsh h122)) (sR_0 hsh) (by decide +kernel) rfl rfl (Nat.le_of_ble_eq_true rfl) rfl ?_
  refine g_ldi aX12_ahead_104 rfl ?_
  obtain ⟨rfl, rfl⟩ := i_some_inj hE
  exact g_iret aX12_ahead_106 rfl rfl
set_option maxRecDepth 20000 in
set_option maxHeartbeats 2000000 in
theorem tX12_ahead_J29 {sh : List kd} {τ : St} {r : Int32} (hsh : rmSh sh) {p1 : Int32} {p2 : Int32} {p3 : Int32} {x51 : Int32} {s52 : St} (hE : fX12_ahead_J29 sh p1 p2 p3 x51 s52 = some (r, τ)) : g_R sh 8 mX12_ahead (some (.int r)) τ 29 [.ref 0, .int p1, .int p2, .int p3, .retAddr 0, .retAddr 0] [.int x51] (s52) := by
  unfold fX12_ahead_J29 at hE
  refine g_sti (loc2 := [.ref 0, .int p1, .int p2, .int p3, .int x51, .retAddr 0]) aX12_ahead_29 (Nat.le_of_ble_eq_true rfl) rfl ?_
  refine g_ldan aX12_ahead_31 rfl ?_
  obtain ⟨r53, s54, h55, hE⟩ := i_bd_some hE
  refine g_calV (As := []) (rest := []) aX12_ahead_32 (i_X_mono (by omega) (tX12_isCourt hsh h55)) (sR_0 hsh) (by decide +kernel) rfl rfl (Nat.le_of_ble_eq_true rfl) rfl ?_
  by_cases hc56 : r53 = 0
  · rw [if_pos hc56] at hE
    refine g_if_eq_t aX12_ahead_35 hc56 ?_
    refine g_bipush (x := (-2)) aX12_ahead_55 rfl ?_
    obtain ⟨rfl, rfl⟩ := i_some_inj hE
    exact g_iret aX12_ahead_57 rfl rfl
  · rw [if_neg hc56] at hE
    refine g_if_eq_f aX12_ahead_35 hc56 ?_
    refine g_ldi aX12_ahead_38 rfl ?_
    by_cases hc57 : x51 = 0
    · rw [if_pos hc57] at hE
      refine g_if_eq_t aX12_ahead_40 hc57 ?_
      refine g_bipush (x := (-2)) aX12_ahead_55 rfl ?_
      obtain ⟨rfl, rfl⟩ := i_some_inj hE
      exact g_iret aX12_ahead_57 rfl rfl
    · rw [if_neg hc57] at hE
      refine g_if_eq_f aX12_ahead_40 hc57 ?_
      refine g_ldin aX12_ahead_43 rfl ?_
      refine g_i2l aX12_ahead_44 ?_
      refine g_lconst (x := 0) aX12_ahead_45 rfl ?_
      refine g_ldc2 (x := 100) aX12_ahead_46 rfl ?_
      obtain ⟨r58, s59, h60, hE⟩ := i_bd_some hE
      refine g_calS (As := [.long p2.toInt64, .long 0, .long 100]) (rest := []) aX12_ahead_49 (i_X_mono (by omega) (tX12_in hsh h60)) rfl rfl (Nat.le_of_ble_eq_true rfl) rfl ?_
      by_cases hc61 : ¬ r58 = 0
      · rw [if_pos hc61] at hE
        refine g_if_ne_t aX12_ahead_52 hc61 ?_
        refine g_ldan aX12_ahead_58 rfl ?_
        obtain ⟨r62, s63, h64, hE⟩ := i_bd_some hE
        refine g_calV (As := []) (rest := []) aX12_ahead_59 (i_X_mono (by omega) (tX12_keepsAll hsh h64)) (sR_0 hsh) (by decide +kernel) rfl rfl (Nat.le_of_ble_eq_true rfl) rfl ?_
        refine g_ldan aX12_ahead_62 rfl ?_
        refine g_ldin aX12_ahead_63 rfl ?_
        obtain ⟨r65, s66, h67, hE⟩ := i_bd_some hE
        refine g_calV (As := [.int p2]) (rest := []) aX12_ahead_64 (i_X_mono (by omega) (tX12_goFor hsh h67)) (sR_0 hsh) (by decide +kernel) rfl rfl (Nat.le_of_ble_eq_true rfl) rfl ?_
        refine g_ldin aX12_ahead_67 rfl ?_
        by_cases hc123 : ¬ p3 = 0
        · rw [if_pos hc123] at hE
          refine g_if_ne_t aX12_ahead_68 hc123 ?_
          refine g_ldin aX12_ahead_78 rfl ?_
          refine g_iconst (x := 1) aX12_ahead_79 rfl ?_
          by_cases hc124 : ¬ p3 = 1
          · rw [if_pos hc124] at hE
            refine g_ic_ne_t aX12_ahead_80 hc124 ?_
            refine g_ldan aX12_ahead_92 rfl ?_
            refine g_getR aX12_ahead_93 (sR_0 hsh) rfl ?_
            refine g_ldin aX12_ahead_96 rfl ?_
            obtain ⟨h125, hE⟩ := i_ifn hE
            refine g_ild aX12_ahead_97 (sR_6 hsh) h125 ?_
            exact tX12_ahead_J98 hsh hE
          · rw [if_neg hc124] at hE
            refine g_ic_ne_f aX12_ahead_80 hc124 ?_
            refine g_ldan aX12_ahead_83 rfl ?_
            refine g_getR aX12_ahead_84 (sR_0 hsh) rfl ?_
            refine g_ldin aX12_ahead_87 rfl ?_
            obtain ⟨h126, hE⟩ := i_ifn hE
            refine g_ild aX12_ahead_88 (sR_8 hsh) h126 ?_
            refine g_goto aX12_ahead_89 ?_
            exact tX12_ahead_J98 hsh hE
        · rw [if_neg hc123] at hE
          refine g_if_ne_f aX12_ahead_68 hc123 ?_
          refine g_ldan aX12_ahead_71 rfl ?_
          obtain ⟨r127, s128, h129, hE⟩ := i_bd_some hE
          refine g_calV (As := []) (rest := []) aX12_ahead_72 (i_X_mono (by omega) (tX12_holds hsh h129)) (sR_0 hsh) (by decide +kernel) rfl rfl (Nat.le_of_ble_eq_true rfl) rfl ?_
          refine g_goto aX12_ahead_75 ?_
          exact tX12_ahead_J98 hsh hE
      · rw [if_neg hc61] at hE
        refine g_if_ne_f aX12_ahead_52 hc61 ?_
        refine g_bipush (x := (-2)) aX12_ahead_55 rfl ?_
        obtain ⟨rfl, rfl⟩ := i_some_inj hE
        exact g_iret aX12_ahead_57 rfl rfl
set_option maxRecDepth 20000 in
set_option maxHeartbeats 2000000 in
theorem tX12_ahead {sh : List kd} {σ τ : St} {r : Int32} (hsh : rmSh sh) {p1 : Int32} {p2 : Int32} {p3 : Int32} (hE : fX12_ahead sh σ p1 p2 p3 = some (r, τ)) : i_X 9 198 [.ref 0, .int p1, .int p2, .int p3] (s_h sh σ) 0 0 (some (.int r)) (s_h sh τ) := by
  refine g_X (M := mX12_ahead) (loc := [.ref 0, .int p1, .int p2, .int p3, .retAddr 0, .retAddr 0]) rfl (Nat.le_of_ble_eq_true rfl) rfl ?_
  unfold fX12_ahead at hE
  refine g_ldin aX12_ahead_0 rfl ?_
  by_cases hc130 : p3 = 0
  · rw [if_pos hc130] at hE
    refine g_if_eq_t aX12_ahead_1 hc130 ?_
    refine g_iconst (x := 1) aX12_ahead_24 rfl ?_
    refine g_goto aX12_ahead_25 ?_
    exact tX12_ahead_J29 hsh hE
  · rw [if_neg hc130] at hE
    refine g_if_eq_f aX12_ahead_1 hc130 ?_
    refine g_ldin aX12_ahead_4 rfl ?_
    refine g_i2l aX12_ahead_5 ?_
    refine g_lconst (x := 1) aX12_ahead_6 rfl ?_
    refine g_ldc2 (x := 2) aX12_ahead_7 rfl ?_
    obtain ⟨r131, s132, h133, hE⟩ := i_bd_some hE
    refine g_calS (As := [.long p3.toInt64, .long 1, .long 2]) (rest := []) aX12_ahead_10 (i_X_mono (by omega) (tX12_in hsh h133)) rfl rfl (Nat.le_of_ble_eq_true rfl) rfl ?_
    by_cases hc134 : r131 = 0
    · rw [if_pos hc134] at hE
      refine g_if_eq_t aX12_ahead_13 hc134 ?_
      refine g_iconst (x := 0) aX12_ahead_28 rfl ?_
      exact tX12_ahead_J29 hsh hE
    · rw [if_neg hc134] at hE
      refine g_if_eq_f aX12_ahead_13 hc134 ?_
      refine g_ldan aX12_ahead_16 rfl ?_
      refine g_ldin aX12_ahead_17 rfl ?_
      obtain ⟨r135, s136, h137, hE⟩ := i_bd_some hE
      refine g_calV (As := [.int p1]) (rest := []) aX12_ahead_18 (i_X_mono (by omega) (tX12_isPerson hsh h137)) (sR_0 hsh) (by decide +kernel) rfl rfl (Nat.le_of_ble_eq_true rfl) rfl ?_
      have hJ : g_R sh 8 mX12_ahead (some (.int r)) τ 29 [.ref 0, .int p1, .int p2, .int p3, .retAddr 0, .retAddr 0] [.int ((if r135 = 0 then 0 else 1) : Int32)] (s136) := by
        exact tX12_ahead_J29 hsh hE
      clear hE
      by_cases hc137 : r135 = 0
      · (try rw [if_pos hc137] at hJ)
        refine g_if_eq_t aX12_ahead_21 hc137 ?_
        refine g_iconst (x := 0) aX12_ahead_28 rfl ?_
        exact hJ
      · (try rw [if_neg hc137] at hJ)
        refine g_if_eq_f aX12_ahead_21 hc137 ?_
        refine g_iconst (x := 1) aX12_ahead_24 rfl ?_
        refine g_goto aX12_ahead_25 ?_
        exact hJ
theorem aX12_dubbed_0 : i_at mX12_dubbed.2.2.2.2.2 0 = some (.aload_n 0, 1, 0, 0, 0, 0) := by decide +kernel
theorem aX12_dubbed_1 : i_at mX12_dubbed.2.2.2.2.2 1 = some (.iload_n 1, 1, 0, 0, 0, 0) := by decide +kernel
theorem aX12_dubbed_2 : i_at mX12_dubbed.2.2.2.2.2 2 = some (.invokevirtual 351, 3, 132, 1, 1446, 0) := by decide +kernel
theorem aX12_dubbed_5 : i_at mX12_dubbed.2.2.2.2.2 5 = some (.ifCond .eq 13, 3, 18, 0, 0, 0) := by decide +kernel
theorem aX12_dubbed_8 : i_at mX12_dubbed.2.2.2.2.2 8 = some (.iload_n 2, 1, 0, 0, 0, 0) := by decide +kernel
theorem aX12_dubbed_9 : i_at mX12_dubbed.2.2.2.2.2 9 = some (.i2l, 1, 0, 0, 0, 0) := by decide +kernel
theorem aX12_dubbed_10 : i_at mX12_dubbed.2.2.2.2.2 10 = some (.lconst 0, 1, 0, 0, 0, 0) := by decide +kernel
theorem aX12_dubbed_11 : i_at mX12_dubbed.2.2.2.2.2 11 = some (.lconst 1, 1, 0, 0, 0, 0) := by decide +kernel
theorem aX12_dubbed_12 : i_at mX12_dubbed.2.2.2.2.2 12 = some (.invokestatic 131, 3, 127, 3, 1324, 0) := by decide +kernel
theorem aX12_dubbed_15 : i_at mX12_dubbed.2.2.2.2.2 15 = some (.ifCond .ne 6, 3, 21, 0, 0, 0) := by decide +kernel
theorem aX12_dubbed_18 : i_at mX12_dubbed.2.2.2.2.2 18 = some (.bipush (-3), 2, 0, 0, 0, 0) := by decide +kernel
theorem aX12_dubbed_20 : i_at mX12_dubbed.2.2.2.2.2 20 = some (.ireturn, 1, 0, 0, 0, 0) := by decide +kernel
theorem aX12_dubbed_21 : i_at mX12_dubbed.2.2.2.2.2 21 = some (.aload_n 0, 1, 0, 0, 0, 0) := by decide +kernel
theorem aX12_dubbed_22 : i_at mX12_dubbed.2.2.2.2.2 22 = some (.invokevirtual 410, 3, 196, 0, 1545, 0) := by decide +kernel
theorem aX12_dubbed_25 : i_at mX12_dubbed.2.2.2.2.2 25 = some (.bipush (-2), 2, 0, 0, 0, 0) := by decide +kernel
theorem aX12_dubbed_27 : i_at mX12_dubbed.2.2.2.2.2 27 = some (.istore_n 3, 1, 0, 0, 0, 0) := by decide +kernel
theorem aX12_dubbed_28 : i_at mX12_dubbed.2.2.2.2.2 28 = some (.iconst 0, 1, 0, 0, 0, 0) := by decide +kernel
theorem aX12_dubbed_29 : i_at mX12_dubbed.2.2.2.2.2 29 = some (.istore 4, 2, 0, 0, 0, 0) := by decide +kernel
theorem aX12_dubbed_31 : i_at mX12_dubbed.2.2.2.2.2 31 = some (.iload 4, 2, 0, 0, 0, 0) := by decide +kernel
theorem aX12_dubbed_33 : i_at mX12_dubbed.2.2.2.2.2 33 = some (.bipush 100, 2, 0, 0, 0, 0) := by decide +kernel
theorem aX12_dubbed_35 : i_at mX12_dubbed.2.2.2.2.2 35 = some (.if_icmp .ge 35, 3, 70, 0, 0, 0) := by decide +kernel
theorem aX12_dubbed_38 : i_at mX12_dubbed.2.2.2.2.2 38 = some (.iload_n 3, 1, 0, 0, 0, 0) := by decide +kernel
theorem aX12_dubbed_39 : i_at mX12_dubbed.2.2.2.2.2 39 = some (.bipush (-2), 2, 0, 0, 0, 0) := by decide +kernel
theorem aX12_dubbed_41 : i_at mX12_dubbed.2.2.2.2.2 41 = some (.if_icmp .ne 29, 3, 70, 0, 0, 0) := by decide +kernel
theorem aX12_dubbed_44 : i_at mX12_dubbed.2.2.2.2.2 44 = some (.aload_n 0, 1, 0, 0, 0, 0) := by decide +kernel
theorem aX12_dubbed_45 : i_at mX12_dubbed.2.2.2.2.2 45 = some (.invokevirtual 375, 3, 183, 0, 1481, 0) := by decide +kernel
theorem aX12_dubbed_48 : i_at mX12_dubbed.2.2.2.2.2 48 = some (.iload_n 1, 1, 0, 0, 0, 0) := by decide +kernel
theorem aX12_dubbed_49 : i_at mX12_dubbed.2.2.2.2.2 49 = some (.invokestatic 348, 3, 129, 2, 1454, 0) := by decide +kernel
theorem aX12_dubbed_52 : i_at mX12_dubbed.2.2.2.2.2 52 = some (.ifCond .eq 12, 3, 64, 0, 0, 0) := by decide +kernel
theorem aX12_dubbed_55 : i_at mX12_dubbed.2.2.2.2.2 55 = some (.aload_n 0, 1, 0, 0, 0, 0) := by decide +kernel
theorem aX12_dubbed_56 : i_at mX12_dubbed.2.2.2.2.2 56 = some (.getfield 9, 3, 11, 1, 1088, 0) := by decide +kernel
theorem aX12_dubbed_59 : i_at mX12_dubbed.2.2.2.2.2 59 = some (.iconst 4, 1, 0, 0, 0, 0) := by decide +kernel
theorem aX12_dubbed_60 : i_at mX12_dubbed.2.2.2.2.2 60 = some (.iaload, 1, 0, 0, 0, 0) := by decide +kernel
theorem aX12_dubbed_61 : i_at mX12_dubbed.2.2.2.2.2 61 = some (.iconst 1, 1, 0, 0, 0, 0) := by decide +kernel
theorem aX12_dubbed_62 : i_at mX12_dubbed.2.2.2.2.2 62 = some (.isub, 1, 0, 0, 0, 0) := by decide +kernel
theorem aX12_dubbed_63 : i_at mX12_dubbed.2.2.2.2.2 63 = some (.istore_n 3, 1, 0, 0, 0, 0) := by decide +kernel
theorem aX12_dubbed_64 : i_at mX12_dubbed.2.2.2.2.2 64 = some (.iinc 4 1, 3, 0, 0, 0, 0) := by decide +kernel
theorem aX12_dubbed_67 : i_at mX12_dubbed.2.2.2.2.2 67 = some (.goto (-36), 3, 31, 0, 0, 0) := by decide +kernel
theorem aX12_dubbed_70 : i_at mX12_dubbed.2.2.2.2.2 70 = some (.iload_n 3, 1, 0, 0, 0, 0) := by decide +kernel
theorem aX12_dubbed_71 : i_at mX12_dubbed.2.2.2.2.2 71 = some (.bipush (-2), 2, 0, 0, 0, 0) := by decide +kernel
theorem aX12_dubbed_73 : i_at mX12_dubbed.2.2.2.2.2 73 = some (.if_icmp .ne 8, 3, 81, 0, 0, 0) := by decide +kernel
theorem aX12_dubbed_76 : i_at mX12_dubbed.2.2.2.2.2 76 = some (.bipush (-2), 2, 0, 0, 0, 0) := by decide +kernel
theorem aX12_dubbed_78 : i_at mX12_dubbed.2.2.2.2.2 78 = some (.goto 9, 3, 87, 0, 0, 0) := by decide +kernel
theorem aX12_dubbed_81 : i_at mX12_dubbed.2.2.2.2.2 81 = some (.aload_n 0, 1, 0, 0, 0, 0) := by decide +kernel
theorem aX12_dubbed_82 : i_at mX12_dubbed.2.2.2.2.2 82 = some (.getfield 9, 3, 11, 1, 1088, 0) := by decide +kernel
theorem aX12_dubbed_85 : i_at mX12_dubbed.2.2.2.2.2 85 = some (.iconst 5, 1, 0, 0, 0, 0) := by decide +kernel
theorem aX12_dubbed_86 : i_at mX12_dubbed.2.2.2.2.2 86 = some (.iaload, 1, 0, 0, 0, 0) := by decide +kernel
theorem aX12_dubbed_87 : i_at mX12_dubbed.2.2.2.2.2 87 = some (.istore 4, 2, 0, 0, 0, 0) := by decide +kernel
theorem aX12_dubbed_89 : i_at mX12_dubbed.2.2.2.2.2 89 = some (.aload_n 0, 1, 0, 0, 0, 0) := by decide +kernel
theorem aX12_dubbed_90 : i_at mX12_dubbed.2.2.2.2.2 90 = some (.invokevirtual 416, 3, 197, 0, 1561, 0) := by decide +kernel
theorem aX12_dubbed_93 : i_at mX12_dubbed.2.2.2.2.2 93 = some (.iload_n 2, 1, 0, 0, 0, 0) := by decide +kernel
theorem aX12_dubbed_94 : i_at mX12_dubbed.2.2.2.2.2 94 = some (.ifCond .ne 7, 3, 101, 0, 0, 0) := by decide +kernel
theorem aX12_dubbed_97 : i_at mX12_dubbed.2.2.2.2.2 97 = some (.iload_n 3, 1, 0, 0, 0, 0) := by decide +kernel
theorem aX12_dubbed_98 : i_at mX12_dubbed.2.2.2.2.2 98 = some (.goto 5, 3, 103, 0, 0, 0) := by decide +kernel
theorem aX12_dubbed_101 : i_at mX12_dubbed.2.2.2.2.2 101 = some (.iload 4, 2, 0, 0, 0, 0) := by decide +kernel
theorem aX12_dubbed_103 : i_at mX12_dubbed.2.2.2.2.2 103 = some (.ireturn, 1, 0, 0, 0, 0) := by decide +kernel
noncomputable def fX12_dubbed_J64 (sh : List kd) (p1 : Int32) (p2 : Int32) (x13 : Int32) (s75 : St) (k31 : Int32 → Int32 → St → Option (Int32 × St)) (x127 : Int32) : Option (Int32 × St) := k31 x127 (x13 + 1) s75
noncomputable def fX12_dubbed_L31 (sh : List kd) (p1 : Int32) (p2 : Int32) (k70 : Int32 → Int32 → St → Option (Int32 × St)) : Nat → Int32 → Int32 → St → Option (Int32 × St)
  | 0, _, _, _ => none
  | n68 + 1, x12, x13, s14 => if 100 ≤ x13 then k70 x12 x13 s14 else if ¬ x12 = (-2) then k70 x12 x13 s14 else i_bd (fX12_goes sh s14) (fun r71 s72 => i_bd (fX12_has sh s72 r71 p1) (fun r74 s75 => if r74 = 0 then fX12_dubbed_J64 sh p1 p2 x13 s75 (fX12_dubbed_L31 sh p1 p2 k70 n68) x12 else if i_ok 4 11 then fX12_dubbed_J64 sh p1 p2 x13 s75 (fX12_dubbed_L31 sh p1 p2 k70 n68) ((s75.2.1 1 (4 : Int32).toNatClampNeg) - 1) else none))
noncomputable def fX12_dubbed_J87 (sh : List kd) (p1 : Int32) (p2 : Int32) (x65 : Int32) (x66 : Int32) (s67 : St) (x180 : Int32) : Option (Int32 × St) := i_bd (fX12_laysBack sh s67) (fun r181 s182 => some (((if ¬ p2 = 0 then x180 else x65) : Int32), s182))
noncomputable def fX12_dubbed_X70 (sh : List kd) (p1 : Int32) (p2 : Int32) (x65 : Int32) (x66 : Int32) (s67 : St) : Option (Int32 × St) := if ¬ x65 = (-2) then if i_ok 5 11 then fX12_dubbed_J87 sh p1 p2 x65 x66 s67 (s67.2.1 1 (5 : Int32).toNatClampNeg) else none else fX12_dubbed_J87 sh p1 p2 x65 x66 s67 (-2)
noncomputable def fX12_dubbed (sh : List kd) (σ : St) (p1 : Int32) (p2 : Int32) : Option (Int32 × St) := i_bd (fX12_isPerson sh σ p1) (fun r1 s2 => if r1 = 0 then some ((-3), s2) else i_bd (fX12_in sh s2 p2.toInt64 0 1) (fun r5 s6 => if ¬ r5 = 0 then i_bd (fX12_keepsAll sh s6) (fun r9 s10 => fX12_dubbed_L31 sh p1 p2 (fun (x65 : Int32) (x66 : Int32) (s67 : St) => fX12_dubbed_X70 sh p1 p2 x65 x66 s67) i_F (-2) 0 s10) else some ((-3), s6)))
set_option maxRecDepth 20000 in
set_option maxHeartbeats 2000000 in
theorem tX12_dubbed_J64 {sh : List kd} {τ : St} {r : Int32} (hsh : rmSh sh) {p1 : Int32} {p2 : Int32} {x13 : Int32} {s75 : St} {x127 : Int32} {k31 : Int32 → Int32 → St → Option (Int32 × St)} (hk31 : ∀ (x12 : Int32) (x13 : Int32) (s14 : St), k31 x12 x13 s14 = some (r, τ) → g_R sh 7 mX12_dubbed (some (.int r)) τ 31 [.ref 0, .int p1, .int p2, .int x12, .int x13] [] (s14)) (hE : fX12_dubbed_J64 sh p1 p2 x13 s75 k31 x127 = some (r, τ)) : g_R sh 7 mX12_dubbed (some (.int r)) τ 64 [.ref 0, .int p1, .int p2, .int x127, .int x13] [] (s75) := by
  unfold fX12_dubbed_J64 at hE
  refine g_iinc (y := 1) (loc2 := [.ref 0, .int p1, .int p2, .int x127, .int (x13 + 1)]) aX12_dubbed_64 rfl rfl rfl ?_
  refine g_goto aX12_dubbed_67 ?_
  exact hk31 _ _ _ hE
set_option maxRecDepth 20000 in
set_option maxHeartbeats 2000000 in
theorem tX12_dubbed_L31 {sh : List kd} {τ : St} {r : Int32} (hsh : rmSh sh) {p1 : Int32} {p2 : Int32} {k70 : Int32 → Int32 → St → Option (Int32 × St)} (hk70 : ∀ (x65 : Int32) (x66 : Int32) (s67 : St), k70 x65 x66 s67 = some (r, τ) → g_R sh 7 mX12_dubbed (some (.int r)) τ 70 [.ref 0, .int p1, .int p2, .int x65, .int x66] [] (s67)) : ∀ (n0 : Nat) (x12 : Int32) (x13 : Int32) (s14 : St), fX12_dubbed_L31 sh p1 p2 k70 n0 x12 x13 s14 = some (r, τ) → g_R sh 7 mX12_dubbed (some (.int r)) τ 31 [.ref 0, .int p1, .int p2, .int x12, .int x13] [] (s14) := by
  intro n0
  induction n0 with
  | zero => intro _ _ _ hE; cases hE
  | succ n68 ih =>
    intro x12 x13 s14 hE
    unfold fX12_dubbed_L31 at hE
    refine g_ldi aX12_dubbed_31 rfl ?_
    refine g_bipush (x := 100) aX12_dubbed_33 rfl ?_
    by_cases hc69 : 100 ≤ x13
    · rw [if_pos hc69] at hE
      refine g_ic_ge_t aX12_dubbed_35 hc69 ?_
      exact hk70 _ _ _ hE
    · rw [if_neg hc69] at hE
      refine g_ic_ge_f aX12_dubbed_35 hc69 ?_
      refine g_ldin aX12_dubbed_38 rfl ?_
      refine g_bipush (x := (-2)) aX12_dubbed_39 rfl ?_
      by_cases hc70 : ¬ x12 = (-2)
      · rw [if_pos hc70] at hE
        refine g_ic_ne_t aX12_dubbed_41 hc70 ?_
        exact hk70 _ _ _ hE
      · rw [if_neg hc70] at hE
        refine g_ic_ne_f aX12_dubbed_41 hc70 ?_
        refine g_ldan aX12_dubbed_44 rfl ?_
        obtain ⟨r71, s72, h73, hE⟩ := i_bd_some hE
        refine g_calV (As := []) (rest := []) aX12_dubbed_45 (i_X_mono (by omega) (tX12_goes hsh h73)) (sR_0 hsh) (by decide +kernel) rfl rfl (Nat.le_of_ble_eq_true rfl) rfl ?_
        refine g_ldin aX12_dubbed_48 rfl ?_
        obtain ⟨r74, s75, h76, hE⟩ := i_bd_some hE
        refine g_calS (As := [.int r71, .int p1]) (rest := []) aX12_dubbed_49 (i_X_mono (by omega) (tX12_has hsh h76)) rfl rfl (Nat.le_of_ble_eq_true rfl) rfl ?_
        by_cases hc128 : r74 = 0
        · rw [if_pos hc128] at hE
          refine g_if_eq_t aX12_dubbed_52 hc128 ?_
          exact tX12_dubbed_J64 hsh ih hE
        · rw [if_neg hc128] at hE
          refine g_if_eq_f aX12_dubbed_52 hc128 ?_
          refine g_ldan aX12_dubbed_55 rfl ?_
          refine g_getR aX12_dubbed_56 (sR_0 hsh) rfl ?_
          refine g_iconst (x := 4) aX12_dubbed_59 rfl ?_
          obtain ⟨h129, hE⟩ := i_ifn hE
          refine g_ild aX12_dubbed_60 (sR_1 hsh) h129 ?_
          refine g_iconst (x := 1) aX12_dubbed_61 rfl ?_
          refine g_isub aX12_dubbed_62 ?_
          refine g_stin (loc2 := [.ref 0, .int p1, .int p2, .int ((s75.2.1 1 (4 : Int32).toNatClampNeg) - 1), .int x13]) aX12_dubbed_63 (Nat.le_of_ble_eq_true rfl) rfl ?_
          exact tX12_dubbed_J64 hsh ih hE
set_option maxRecDepth 20000 in
set_option maxHeartbeats 2000000 in
theorem tX12_dubbed_J87 {sh : List kd} {τ : St} {r : Int32} (hsh : rmSh sh) {p1 : Int32} {p2 : Int32} {x65 : Int32} {x66 : Int32} {s67 : St} {x180 : Int32} (hE : fX12_dubbed_J87 sh p1 p2 x65 x66 s67 x180 = some (r, τ)) : g_R sh 7 mX12_dubbed (some (.int r)) τ 87 [.ref 0, .int p1, .int p2, .int x65, .int x66] [.int x180] (s67) := by
  unfold fX12_dubbed_J87 at hE
  refine g_sti (loc2 := [.ref 0, .int p1, .int p2, .int x65, .int x180]) aX12_dubbed_87 (Nat.le_of_ble_eq_true rfl) rfl ?_
  refine g_ldan aX12_dubbed_89 rfl ?_
  obtain ⟨r181, s182, h183, hE⟩ := i_bd_some hE
  refine g_calV (As := []) (rest := []) aX12_dubbed_90 (i_X_mono (by omega) (tX12_laysBack hsh h183)) (sR_0 hsh) (by decide +kernel) rfl rfl (Nat.le_of_ble_eq_true rfl) rfl ?_
  refine g_ldin aX12_dubbed_93 rfl ?_
  have hJ : g_R sh 7 mX12_dubbed (some (.int r)) τ 103 [.ref 0, .int p1, .int p2, .int x65, .int x180] [.int ((if ¬ p2 = 0 then x180 else x65) : Int32)] (s182) := by
    obtain ⟨rfl, rfl⟩ := i_some_inj hE
    exact g_iret aX12_dubbed_103 rfl rfl
  clear hE
  by_cases hc183 : ¬ p2 = 0
  · (try rw [if_pos hc183] at hJ)
    refine g_if_ne_t aX12_dubbed_94 hc183 ?_
    refine g_ldi aX12_dubbed_101 rfl ?_
    exact hJ
  · (try rw [if_neg hc183] at hJ)
    refine g_if_ne_f aX12_dubbed_94 hc183 ?_
    refine g_ldin aX12_dubbed_97 rfl ?_
    refine g_goto aX12_dubbed_98 ?_
    exact hJ
set_option maxRecDepth 20000 in
set_option maxHeartbeats 2000000 in
theorem tX12_dubbed_X70 {sh : List kd} {τ : St} {r : Int32} (hsh : rmSh sh) {p1 : Int32} {p2 : Int32} {x65 : Int32} {x66 : Int32} {s67 : St} (hE : fX12_dubbed_X70 sh p1 p2 x65 x66 s67 = some (r, τ)) : g_R sh 7 mX12_dubbed (some (.int r)) τ 70 [.ref 0, .int p1, .int p2, .int x65, .int x66] [] (s67) := by
  unfold fX12_dubbed_X70 at hE
  refine g_ldin aX12_dubbed_70 rfl ?_
  refine g_bipush (x := (-2)) aX12_dubbed_71 rfl ?_
  by_cases hc185 : ¬ x65 = (-2)
  · rw [if_pos hc185] at hE
    refine g_ic_ne_t aX12_dubbed_73 hc185 ?_
    refine g_ldan aX12_dubbed_81 rfl ?_
    refine g_getR aX12_dubbed_82 (sR_0 hsh) rfl ?_
    refine g_iconst (x := 5) aX12_dubbed_85 rfl ?_
    obtain ⟨h186, hE⟩ := i_ifn hE
    refine g_ild aX12_dubbed_86 (sR_1 hsh) h186 ?_
    exact tX12_dubbed_J87 hsh hE
  · rw [if_neg hc185] at hE
    refine g_ic_ne_f aX12_dubbed_73 hc185 ?_
    refine g_bipush (x := (-2)) aX12_dubbed_76 rfl ?_
    refine g_goto aX12_dubbed_78 ?_
    exact tX12_dubbed_J87 hsh hE
set_option maxRecDepth 20000 in
set_option maxHeartbeats 2000000 in
theorem tX12_dubbed {sh : List kd} {σ τ : St} {r : Int32} (hsh : rmSh sh) {p1 : Int32} {p2 : Int32} (hE : fX12_dubbed sh σ p1 p2 = some (r, τ)) : i_X 8 199 [.ref 0, .int p1, .int p2] (s_h sh σ) 0 0 (some (.int r)) (s_h sh τ) := by
  refine g_X (M := mX12_dubbed) (loc := [.ref 0, .int p1, .int p2, .retAddr 0, .retAddr 0]) rfl (Nat.le_of_ble_eq_true rfl) rfl ?_
  unfold fX12_dubbed at hE
  refine g_ldan aX12_dubbed_0 rfl ?_
  refine g_ldin aX12_dubbed_1 rfl ?_
  obtain ⟨r1, s2, h3, hE⟩ := i_bd_some hE
  refine g_calV (As := [.int p1]) (rest := []) aX12_dubbed_2 (i_X_mono (by omega) (tX12_isPerson hsh h3)) (sR_0 hsh) (by decide +kernel) rfl rfl (Nat.le_of_ble_eq_true rfl) rfl ?_
  by_cases hc4 : r1 = 0
  · rw [if_pos hc4] at hE
    refine g_if_eq_t aX12_dubbed_5 hc4 ?_
    refine g_bipush (x := (-3)) aX12_dubbed_18 rfl ?_
    obtain ⟨rfl, rfl⟩ := i_some_inj hE
    exact g_iret aX12_dubbed_20 rfl rfl
  · rw [if_neg hc4] at hE
    refine g_if_eq_f aX12_dubbed_5 hc4 ?_
    refine g_ldin aX12_dubbed_8 rfl ?_
    refine g_i2l aX12_dubbed_9 ?_
    refine g_lconst (x := 0) aX12_dubbed_10 rfl ?_
    refine g_lconst (x := 1) aX12_dubbed_11 rfl ?_
    obtain ⟨r5, s6, h7, hE⟩ := i_bd_some hE
    refine g_calS (As := [.long p2.toInt64, .long 0, .long 1]) (rest := []) aX12_dubbed_12 (i_X_mono (by omega) (tX12_in hsh h7)) rfl rfl (Nat.le_of_ble_eq_true rfl) rfl ?_
    by_cases hc8 : ¬ r5 = 0
    · rw [if_pos hc8] at hE
      refine g_if_ne_t aX12_dubbed_15 hc8 ?_
      refine g_ldan aX12_dubbed_21 rfl ?_
      obtain ⟨r9, s10, h11, hE⟩ := i_bd_some hE
      refine g_calV (As := []) (rest := []) aX12_dubbed_22 (i_X_mono (by omega) (tX12_keepsAll hsh h11)) (sR_0 hsh) (by decide +kernel) rfl rfl (Nat.le_of_ble_eq_true rfl) rfl ?_
      refine g_bipush (x := (-2)) aX12_dubbed_25 rfl ?_
      refine g_stin (loc2 := [.ref 0, .int p1, .int p2, .int (-2), .retAddr 0]) aX12_dubbed_27 (Nat.le_of_ble_eq_true rfl) rfl ?_
      refine g_iconst (x := 0) aX12_dubbed_28 rfl ?_
      refine g_sti (loc2 := [.ref 0, .int p1, .int p2, .int (-2), .int 0]) aX12_dubbed_29 (Nat.le_of_ble_eq_true rfl) rfl ?_
      exact tX12_dubbed_L31 hsh (fun x65 x66 s67 hE => tX12_dubbed_X70 hsh hE) i_F _ _ _ hE
    · rw [if_neg hc8] at hE
      refine g_if_ne_f aX12_dubbed_15 hc8 ?_
      refine g_bipush (x := (-3)) aX12_dubbed_18 rfl ?_
      obtain ⟨rfl, rfl⟩ := i_some_inj hE
      exact g_iret aX12_dubbed_20 rfl rfl
theorem aX12_least_0 : i_at mX12_least.2.2.2.2.2 0 = some (.aload_n 0, 1, 0, 0, 0, 0) := by decide +kernel
theorem aX12_least_1 : i_at mX12_least.2.2.2.2.2 1 = some (.iload_n 1, 1, 0, 0, 0, 0) := by decide +kernel
theorem aX12_least_2 : i_at mX12_least.2.2.2.2.2 2 = some (.invokevirtual 351, 3, 132, 1, 1446, 0) := by decide +kernel
theorem aX12_least_5 : i_at mX12_least.2.2.2.2.2 5 = some (.ifCond .eq 23, 3, 28, 0, 0, 0) := by decide +kernel
theorem aX12_least_8 : i_at mX12_least.2.2.2.2.2 8 = some (.aload_n 0, 1, 0, 0, 0, 0) := by decide +kernel
theorem aX12_least_9 : i_at mX12_least.2.2.2.2.2 9 = some (.iload_n 2, 1, 0, 0, 0, 0) := by decide +kernel
theorem aX12_least_10 : i_at mX12_least.2.2.2.2.2 10 = some (.invokevirtual 338, 3, 131, 1, 1426, 0) := by decide +kernel
theorem aX12_least_13 : i_at mX12_least.2.2.2.2.2 13 = some (.ifCond .eq 15, 3, 28, 0, 0, 0) := by decide +kernel
theorem aX12_least_16 : i_at mX12_least.2.2.2.2.2 16 = some (.iload_n 3, 1, 0, 0, 0, 0) := by decide +kernel
theorem aX12_least_17 : i_at mX12_least.2.2.2.2.2 17 = some (.i2l, 1, 0, 0, 0, 0) := by decide +kernel
theorem aX12_least_18 : i_at mX12_least.2.2.2.2.2 18 = some (.lconst 1, 1, 0, 0, 0, 0) := by decide +kernel
theorem aX12_least_19 : i_at mX12_least.2.2.2.2.2 19 = some (.ldc2_w 419, 3, 0, 0, 1573, 60) := by decide +kernel
theorem aX12_least_22 : i_at mX12_least.2.2.2.2.2 22 = some (.invokestatic 131, 3, 127, 3, 1324, 0) := by decide +kernel
theorem aX12_least_25 : i_at mX12_least.2.2.2.2.2 25 = some (.ifCond .ne 5, 3, 30, 0, 0, 0) := by decide +kernel
theorem aX12_least_28 : i_at mX12_least.2.2.2.2.2 28 = some (.iconst (-1), 1, 0, 0, 0, 0) := by decide +kernel
theorem aX12_least_29 : i_at mX12_least.2.2.2.2.2 29 = some (.ireturn, 1, 0, 0, 0, 0) := by decide +kernel
theorem aX12_least_30 : i_at mX12_least.2.2.2.2.2 30 = some (.aload_n 0, 1, 0, 0, 0, 0) := by decide +kernel
theorem aX12_least_31 : i_at mX12_least.2.2.2.2.2 31 = some (.invokevirtual 410, 3, 196, 0, 1545, 0) := by decide +kernel
theorem aX12_least_34 : i_at mX12_least.2.2.2.2.2 34 = some (.bipush (-2), 2, 0, 0, 0, 0) := by decide +kernel
theorem aX12_least_36 : i_at mX12_least.2.2.2.2.2 36 = some (.istore 4, 2, 0, 0, 0, 0) := by decide +kernel
theorem aX12_least_38 : i_at mX12_least.2.2.2.2.2 38 = some (.iconst 0, 1, 0, 0, 0, 0) := by decide +kernel
theorem aX12_least_39 : i_at mX12_least.2.2.2.2.2 39 = some (.istore 5, 2, 0, 0, 0, 0) := by decide +kernel
theorem aX12_least_41 : i_at mX12_least.2.2.2.2.2 41 = some (.iload 5, 2, 0, 0, 0, 0) := by decide +kernel
theorem aX12_least_43 : i_at mX12_least.2.2.2.2.2 43 = some (.sipush 200, 3, 0, 0, 0, 0) := by decide +kernel
theorem aX12_least_46 : i_at mX12_least.2.2.2.2.2 46 = some (.if_icmp .gt 68, 3, 114, 0, 0, 0) := by decide +kernel
theorem aX12_least_49 : i_at mX12_least.2.2.2.2.2 49 = some (.iload 4, 2, 0, 0, 0, 0) := by decide +kernel
theorem aX12_least_51 : i_at mX12_least.2.2.2.2.2 51 = some (.bipush (-2), 2, 0, 0, 0, 0) := by decide +kernel
theorem aX12_least_53 : i_at mX12_least.2.2.2.2.2 53 = some (.if_icmp .ne 61, 3, 114, 0, 0, 0) := by decide +kernel
theorem aX12_least_56 : i_at mX12_least.2.2.2.2.2 56 = some (.aload_n 0, 1, 0, 0, 0, 0) := by decide +kernel
theorem aX12_least_57 : i_at mX12_least.2.2.2.2.2 57 = some (.getfield 25, 3, 11, 6, 1093, 0) := by decide +kernel
theorem aX12_least_60 : i_at mX12_least.2.2.2.2.2 60 = some (.iload_n 1, 1, 0, 0, 0, 0) := by decide +kernel
theorem aX12_least_61 : i_at mX12_least.2.2.2.2.2 61 = some (.aload_n 0, 1, 0, 0, 0, 0) := by decide +kernel
theorem aX12_least_62 : i_at mX12_least.2.2.2.2.2 62 = some (.getfield 25, 3, 11, 6, 1093, 0) := by decide +kernel
theorem aX12_least_65 : i_at mX12_least.2.2.2.2.2 65 = some (.iload_n 1, 1, 0, 0, 0, 0) := by decide +kernel
theorem aX12_least_66 : i_at mX12_least.2.2.2.2.2 66 = some (.iaload, 1, 0, 0, 0, 0) := by decide +kernel
theorem aX12_least_67 : i_at mX12_least.2.2.2.2.2 67 = some (.iload 5, 2, 0, 0, 0, 0) := by decide +kernel
theorem aX12_least_69 : i_at mX12_least.2.2.2.2.2 69 = some (.iadd, 1, 0, 0, 0, 0) := by decide +kernel
theorem aX12_least_70 : i_at mX12_least.2.2.2.2.2 70 = some (.sipush 999, 3, 0, 0, 0, 0) := by decide +kernel
theorem aX12_least_73 : i_at mX12_least.2.2.2.2.2 73 = some (.invokestatic 372, 3, 182, 2, 1514, 0) := by decide +kernel
theorem aX12_least_76 : i_at mX12_least.2.2.2.2.2 76 = some (.iastore, 1, 0, 0, 0, 0) := by decide +kernel
theorem aX12_least_77 : i_at mX12_least.2.2.2.2.2 77 = some (.aload_n 0, 1, 0, 0, 0, 0) := by decide +kernel
theorem aX12_least_78 : i_at mX12_least.2.2.2.2.2 78 = some (.iload_n 3, 1, 0, 0, 0, 0) := by decide +kernel
theorem aX12_least_79 : i_at mX12_least.2.2.2.2.2 79 = some (.invokevirtual 413, 3, 184, 1, 1557, 0) := by decide +kernel
theorem aX12_least_82 : i_at mX12_least.2.2.2.2.2 82 = some (.aload_n 0, 1, 0, 0, 0, 0) := by decide +kernel
theorem aX12_least_83 : i_at mX12_least.2.2.2.2.2 83 = some (.getfield 31, 3, 11, 8, 1095, 0) := by decide +kernel
theorem aX12_least_86 : i_at mX12_least.2.2.2.2.2 86 = some (.iload_n 1, 1, 0, 0, 0, 0) := by decide +kernel
theorem aX12_least_87 : i_at mX12_least.2.2.2.2.2 87 = some (.iaload, 1, 0, 0, 0, 0) := by decide +kernel
theorem aX12_least_88 : i_at mX12_least.2.2.2.2.2 88 = some (.iload_n 2, 1, 0, 0, 0, 0) := by decide +kernel
theorem aX12_least_89 : i_at mX12_least.2.2.2.2.2 89 = some (.invokestatic 348, 3, 129, 2, 1454, 0) := by decide +kernel
theorem aX12_least_92 : i_at mX12_least.2.2.2.2.2 92 = some (.ifCond .eq 8, 3, 100, 0, 0, 0) := by decide +kernel
theorem aX12_least_95 : i_at mX12_least.2.2.2.2.2 95 = some (.iload 5, 2, 0, 0, 0, 0) := by decide +kernel
theorem aX12_least_97 : i_at mX12_least.2.2.2.2.2 97 = some (.goto 5, 3, 102, 0, 0, 0) := by decide +kernel
theorem aX12_least_100 : i_at mX12_least.2.2.2.2.2 100 = some (.bipush (-2), 2, 0, 0, 0, 0) := by decide +kernel
theorem aX12_least_102 : i_at mX12_least.2.2.2.2.2 102 = some (.istore 4, 2, 0, 0, 0, 0) := by decide +kernel
theorem aX12_least_104 : i_at mX12_least.2.2.2.2.2 104 = some (.aload_n 0, 1, 0, 0, 0, 0) := by decide +kernel
theorem aX12_least_105 : i_at mX12_least.2.2.2.2.2 105 = some (.invokevirtual 416, 3, 197, 0, 1561, 0) := by decide +kernel
theorem aX12_least_108 : i_at mX12_least.2.2.2.2.2 108 = some (.iinc 5 1, 3, 0, 0, 0, 0) := by decide +kernel
theorem aX12_least_111 : i_at mX12_least.2.2.2.2.2 111 = some (.goto (-70), 3, 41, 0, 0, 0) := by decide +kernel
theorem aX12_least_114 : i_at mX12_least.2.2.2.2.2 114 = some (.iload 4, 2, 0, 0, 0, 0) := by decide +kernel
theorem aX12_least_116 : i_at mX12_least.2.2.2.2.2 116 = some (.ireturn, 1, 0, 0, 0, 0) := by decide +kernel
noncomputable def fX12_least_J114 (sh : List kd) (p1 : Int32) (p2 : Int32) (p3 : Int32) (x16 : Int32) (x17 : Int32) (s18 : St) : Option (Int32 × St) := some (x16, s18)
noncomputable def fX12_least_L41 (sh : List kd) (p1 : Int32) (p2 : Int32) (p3 : Int32) : Nat → Int32 → Int32 → St → Option (Int32 × St)
  | 0, _, _, _ => none
  | n19 + 1, x16, x17, s18 => if 200 < x17 then fX12_least_J114 sh p1 p2 p3 x16 x17 s18 else if ¬ x16 = (-2) then fX12_least_J114 sh p1 p2 p3 x16 x17 s18 else if i_ok p1 6 then i_bd (fX12_upTo sh s18 ((s18.2.1 6 p1.toNatClampNeg) + x17) 999) (fun r73 s74 => if i_ok p1 6 then i_bd (fX12_goFor sh (s_A s74 6 p1.toNatClampNeg r73) p3) (fun r77 s78 => if i_ok p1 6 then i_bd (fX12_has sh s78 (s78.2.1 8 p1.toNatClampNeg) p2) (fun r81 s82 => i_bd (fX12_laysBack sh s82) (fun r84 s85 => (fX12_least_L41 sh p1 p2 p3 n19 ((if r81 = 0 then (-2) else x17) : Int32) (x17 + 1) s85))) else none) else none) else none
noncomputable def fX12_least (sh : List kd) (σ : St) (p1 : Int32) (p2 : Int32) (p3 : Int32) : Option (Int32 × St) := i_bd (fX12_isPerson sh σ p1) (fun r1 s2 => if r1 = 0 then some ((-1), s2) else i_bd (fX12_isThing sh s2 p2) (fun r5 s6 => if r5 = 0 then some ((-1), s6) else i_bd (fX12_in sh s6 p3.toInt64 1 60) (fun r9 s10 => if ¬ r9 = 0 then i_bd (fX12_keepsAll sh s10) (fun r13 s14 => fX12_least_L41 sh p1 p2 p3 i_F (-2) 0 s14) else some ((-1), s10))))
set_option maxRecDepth 20000 in
set_option maxHeartbeats 2000000 in
theorem tX12_least_J114 {sh : List kd} {τ : St} {r : Int32} (hsh : rmSh sh) {p1 : Int32} {p2 : Int32} {p3 : Int32} {x16 : Int32} {x17 : Int32} {s18 : St} (hE : fX12_least_J114 sh p1 p2 p3 x16 x17 s18 = some (r, τ)) : g_R sh 8 mX12_least (some (.int r)) τ 114 [.ref 0, .int p1, .int p2, .int p3, .int x16, .int x17] [] (s18) := by
  unfold fX12_least_J114 at hE
  refine g_ldi aX12_least_114 rfl ?_
  obtain ⟨rfl, rfl⟩ := i_some_inj hE
  exact g_iret aX12_least_116 rfl rfl
set_option maxRecDepth 20000 in
set_option maxHeartbeats 2000000 in
theorem tX12_least_L41 {sh : List kd} {τ : St} {r : Int32} (hsh : rmSh sh) {p1 : Int32} {p2 : Int32} {p3 : Int32} : ∀ (n0 : Nat) (x16 : Int32) (x17 : Int32) (s18 : St), fX12_least_L41 sh p1 p2 p3 n0 x16 x17 s18 = some (r, τ) → g_R sh 8 mX12_least (some (.int r)) τ 41 [.ref 0, .int p1, .int p2, .int p3, .int x16, .int x17] [] (s18) := by
  intro n0
  induction n0 with
  | zero => intro _ _ _ hE; cases hE
  | succ n19 ih =>
    intro x16 x17 s18 hE
    unfold fX12_least_L41 at hE
    refine g_ldi aX12_least_41 rfl ?_
    refine g_sipush (x := 200) aX12_least_43 rfl ?_
    by_cases hc70 : 200 < x17
    · rw [if_pos hc70] at hE
      refine g_ic_gt_t aX12_least_46 hc70 ?_
      exact tX12_least_J114 hsh hE
    · rw [if_neg hc70] at hE
      refine g_ic_gt_f aX12_least_46 hc70 ?_
      refine g_ldi aX12_least_49 rfl ?_
      refine g_bipush (x := (-2)) aX12_least_51 rfl ?_
      by_cases hc71 : ¬ x16 = (-2)
      · rw [if_pos hc71] at hE
        refine g_ic_ne_t aX12_least_53 hc71 ?_
        exact tX12_least_J114 hsh hE
      · rw [if_neg hc71] at hE
        refine g_ic_ne_f aX12_least_53 hc71 ?_
        refine g_ldan aX12_least_56 rfl ?_
        refine g_getR aX12_least_57 (sR_0 hsh) rfl ?_
        refine g_ldin aX12_least_60 rfl ?_
        refine g_ldan aX12_least_61 rfl ?_
        refine g_getR aX12_least_62 (sR_0 hsh) rfl ?_
        refine g_ldin aX12_least_65 rfl ?_
        obtain ⟨h72, hE⟩ := i_ifn hE
        refine g_ild aX12_least_66 (sR_6 hsh) h72 ?_
        refine g_ldi aX12_least_67 rfl ?_
        refine g_iadd aX12_least_69 ?_
        refine g_sipush (x := 999) aX12_least_70 rfl ?_
        obtain ⟨r73, s74, h75, hE⟩ := i_bd_some hE
        refine g_calS (As := [.int ((s18.2.1 6 p1.toNatClampNeg) + x17), .int 999]) (rest := [.int p1, .ref 6]) aX12_least_73 (i_X_mono (by omega) (tX12_upTo hsh h75)) rfl rfl (Nat.le_of_ble_eq_true rfl) rfl ?_
        obtain ⟨h76, hE⟩ := i_ifn hE
        refine g_ist aX12_least_76 (sR_6 hsh) h76 ?_
        refine g_ldan aX12_least_77 rfl ?_
        refine g_ldin aX12_least_78 rfl ?_
        obtain ⟨r77, s78, h79, hE⟩ := i_bd_some hE
        refine g_calV (As := [.int p3]) (rest := []) aX12_least_79 (i_X_mono (by omega) (tX12_goFor hsh h79)) (sR_0 hsh) (by decide +kernel) rfl rfl (Nat.le_of_ble_eq_true rfl) rfl ?_
        refine g_ldan aX12_least_82 rfl ?_
        refine g_getR aX12_least_83 (sR_0 hsh) rfl ?_
        refine g_ldin aX12_least_86 rfl ?_
        obtain ⟨h80, hE⟩ := i_ifn hE
        refine g_ild aX12_least_87 (sR_8 hsh) h80 ?_
        refine g_ldin aX12_least_88 rfl ?_
        obtain ⟨r81, s82, h83, hE⟩ := i_bd_some hE
        refine g_calS (As := [.int (s78.2.1 8 p1.toNatClampNeg), .int p2]) (rest := []) aX12_least_89 (i_X_mono (by omega) (tX12_has hsh h83)) rfl rfl (Nat.le_of_ble_eq_true rfl) rfl ?_
        have hJ : g_R sh 8 mX12_least (some (.int r)) τ 102 [.ref 0, .int p1, .int p2, .int p3, .int x16, .int x17] [.int ((if r81 = 0 then (-2) else x17) : Int32)] (s82) := by
          refine g_sti (loc2 := [.ref 0, .int p1, .int p2, .int p3, .int ((if r81 = 0 then (-2) else x17) : Int32), .int x17]) aX12_least_102 (Nat.le_of_ble_eq_true rfl) rfl ?_
          refine g_ldan aX12_least_104 rfl ?_
          obtain ⟨r84, s85, h86, hE⟩ := i_bd_some hE
          refine g_calV (As := []) (rest := []) aX12_least_105 (i_X_mono (by omega) (tX12_laysBack hsh h86)) (sR_0 hsh) (by decide +kernel) rfl rfl (Nat.le_of_ble_eq_true rfl) rfl ?_
          refine g_iinc (y := 1) (loc2 := [.ref 0, .int p1, .int p2, .int p3, .int ((if r81 = 0 then (-2) else x17) : Int32), .int (x17 + 1)]) aX12_least_108 rfl rfl rfl ?_
          refine g_goto aX12_least_111 ?_
          exact ih _ _ _ hE
        clear hE
        by_cases hc86 : r81 = 0
        · (try rw [if_pos hc86] at hJ)
          refine g_if_eq_t aX12_least_92 hc86 ?_
          refine g_bipush (x := (-2)) aX12_least_100 rfl ?_
          exact hJ
        · (try rw [if_neg hc86] at hJ)
          refine g_if_eq_f aX12_least_92 hc86 ?_
          refine g_ldi aX12_least_95 rfl ?_
          refine g_goto aX12_least_97 ?_
          exact hJ
set_option maxRecDepth 20000 in
set_option maxHeartbeats 2000000 in
theorem tX12_least {sh : List kd} {σ τ : St} {r : Int32} (hsh : rmSh sh) {p1 : Int32} {p2 : Int32} {p3 : Int32} (hE : fX12_least sh σ p1 p2 p3 = some (r, τ)) : i_X 9 200 [.ref 0, .int p1, .int p2, .int p3] (s_h sh σ) 0 0 (some (.int r)) (s_h sh τ) := by
  refine g_X (M := mX12_least) (loc := [.ref 0, .int p1, .int p2, .int p3, .retAddr 0, .retAddr 0]) rfl (Nat.le_of_ble_eq_true rfl) rfl ?_
  unfold fX12_least at hE
  refine g_ldan aX12_least_0 rfl ?_
  refine g_ldin aX12_least_1 rfl ?_
  obtain ⟨r1, s2, h3, hE⟩ := i_bd_some hE
  refine g_calV (As := [.int p1]) (rest := []) aX12_least_2 (i_X_mono (by omega) (tX12_isPerson hsh h3)) (sR_0 hsh) (by decide +kernel) rfl rfl (Nat.le_of_ble_eq_true rfl) rfl ?_
  by_cases hc4 : r1 = 0
  · rw [if_pos hc4] at hE
    refine g_if_eq_t aX12_least_5 hc4 ?_
    refine g_iconst (x := (-1)) aX12_least_28 rfl ?_
    obtain ⟨rfl, rfl⟩ := i_some_inj hE
    exact g_iret aX12_least_29 rfl rfl
  · rw [if_neg hc4] at hE
    refine g_if_eq_f aX12_least_5 hc4 ?_
    refine g_ldan aX12_least_8 rfl ?_
    refine g_ldin aX12_least_9 rfl ?_
    obtain ⟨r5, s6, h7, hE⟩ := i_bd_some hE
    refine g_calV (As := [.int p2]) (rest := []) aX12_least_10 (i_X_mono (by omega) (tX12_isThing hsh h7)) (sR_0 hsh) (by decide +kernel) rfl rfl (Nat.le_of_ble_eq_true rfl) rfl ?_
    by_cases hc8 : r5 = 0
    · rw [if_pos hc8] at hE
      refine g_if_eq_t aX12_least_13 hc8 ?_
      refine g_iconst (x := (-1)) aX12_least_28 rfl ?_
      obtain ⟨rfl, rfl⟩ := i_some_inj hE
      exact g_iret aX12_least_29 rfl rfl
    · rw [if_neg hc8] at hE
      refine g_if_eq_f aX12_least_13 hc8 ?_
      refine g_ldin aX12_least_16 rfl ?_
      refine g_i2l aX12_least_17 ?_
      refine g_lconst (x := 1) aX12_least_18 rfl ?_
      refine g_ldc2 (x := 60) aX12_least_19 rfl ?_
      obtain ⟨r9, s10, h11, hE⟩ := i_bd_some hE
      refine g_calS (As := [.long p3.toInt64, .long 1, .long 60]) (rest := []) aX12_least_22 (i_X_mono (by omega) (tX12_in hsh h11)) rfl rfl (Nat.le_of_ble_eq_true rfl) rfl ?_
      by_cases hc12 : ¬ r9 = 0
      · rw [if_pos hc12] at hE
        refine g_if_ne_t aX12_least_25 hc12 ?_
        refine g_ldan aX12_least_30 rfl ?_
        obtain ⟨r13, s14, h15, hE⟩ := i_bd_some hE
        refine g_calV (As := []) (rest := []) aX12_least_31 (i_X_mono (by omega) (tX12_keepsAll hsh h15)) (sR_0 hsh) (by decide +kernel) rfl rfl (Nat.le_of_ble_eq_true rfl) rfl ?_
        refine g_bipush (x := (-2)) aX12_least_34 rfl ?_
        refine g_sti (loc2 := [.ref 0, .int p1, .int p2, .int p3, .int (-2), .retAddr 0]) aX12_least_36 (Nat.le_of_ble_eq_true rfl) rfl ?_
        refine g_iconst (x := 0) aX12_least_38 rfl ?_
        refine g_sti (loc2 := [.ref 0, .int p1, .int p2, .int p3, .int (-2), .int 0]) aX12_least_39 (Nat.le_of_ble_eq_true rfl) rfl ?_
        exact tX12_least_L41 hsh i_F _ _ _ hE
      · rw [if_neg hc12] at hE
        refine g_if_ne_f aX12_least_25 hc12 ?_
        refine g_iconst (x := (-1)) aX12_least_28 rfl ?_
        obtain ⟨rfl, rfl⟩ := i_some_inj hE
        exact g_iret aX12_least_29 rfl rfl
theorem aX12_isSpared_0 : i_at mX12_isSpared.2.2.2.2.2 0 = some (.iconst 1, 1, 0, 0, 0, 0) := by decide +kernel
theorem aX12_isSpared_1 : i_at mX12_isSpared.2.2.2.2.2 1 = some (.istore 4, 2, 0, 0, 0, 0) := by decide +kernel
theorem aX12_isSpared_3 : i_at mX12_isSpared.2.2.2.2.2 3 = some (.iconst 0, 1, 0, 0, 0, 0) := by decide +kernel
theorem aX12_isSpared_4 : i_at mX12_isSpared.2.2.2.2.2 4 = some (.istore 5, 2, 0, 0, 0, 0) := by decide +kernel
theorem aX12_isSpared_6 : i_at mX12_isSpared.2.2.2.2.2 6 = some (.iload 5, 2, 0, 0, 0, 0) := by decide +kernel
theorem aX12_isSpared_8 : i_at mX12_isSpared.2.2.2.2.2 8 = some (.iload_n 2, 1, 0, 0, 0, 0) := by decide +kernel
theorem aX12_isSpared_9 : i_at mX12_isSpared.2.2.2.2.2 9 = some (.if_icmp .ge 71, 3, 80, 0, 0, 0) := by decide +kernel
theorem aX12_isSpared_12 : i_at mX12_isSpared.2.2.2.2.2 12 = some (.aload_n 0, 1, 0, 0, 0, 0) := by decide +kernel
theorem aX12_isSpared_13 : i_at mX12_isSpared.2.2.2.2.2 13 = some (.getfield 9, 3, 11, 1, 1088, 0) := by decide +kernel
theorem aX12_isSpared_16 : i_at mX12_isSpared.2.2.2.2.2 16 = some (.bipush 7, 2, 0, 0, 0, 0) := by decide +kernel
theorem aX12_isSpared_18 : i_at mX12_isSpared.2.2.2.2.2 18 = some (.iload_n 3, 1, 0, 0, 0, 0) := by decide +kernel
theorem aX12_isSpared_19 : i_at mX12_isSpared.2.2.2.2.2 19 = some (.iload 5, 2, 0, 0, 0, 0) := by decide +kernel
theorem aX12_isSpared_21 : i_at mX12_isSpared.2.2.2.2.2 21 = some (.invokestatic 348, 3, 129, 2, 1454, 0) := by decide +kernel
theorem aX12_isSpared_24 : i_at mX12_isSpared.2.2.2.2.2 24 = some (.ifCond .eq 7, 3, 31, 0, 0, 0) := by decide +kernel
theorem aX12_isSpared_27 : i_at mX12_isSpared.2.2.2.2.2 27 = some (.iconst 1, 1, 0, 0, 0, 0) := by decide +kernel
theorem aX12_isSpared_28 : i_at mX12_isSpared.2.2.2.2.2 28 = some (.goto 4, 3, 32, 0, 0, 0) := by decide +kernel
theorem aX12_isSpared_31 : i_at mX12_isSpared.2.2.2.2.2 31 = some (.iconst 0, 1, 0, 0, 0, 0) := by decide +kernel
theorem aX12_isSpared_32 : i_at mX12_isSpared.2.2.2.2.2 32 = some (.iastore, 1, 0, 0, 0, 0) := by decide +kernel
theorem aX12_isSpared_33 : i_at mX12_isSpared.2.2.2.2.2 33 = some (.aload_n 0, 1, 0, 0, 0, 0) := by decide +kernel
theorem aX12_isSpared_34 : i_at mX12_isSpared.2.2.2.2.2 34 = some (.invokevirtual 375, 3, 183, 0, 1481, 0) := by decide +kernel
theorem aX12_isSpared_37 : i_at mX12_isSpared.2.2.2.2.2 37 = some (.ifCond .eq 7, 3, 44, 0, 0, 0) := by decide +kernel
theorem aX12_isSpared_40 : i_at mX12_isSpared.2.2.2.2.2 40 = some (.iconst 1, 1, 0, 0, 0, 0) := by decide +kernel
theorem aX12_isSpared_41 : i_at mX12_isSpared.2.2.2.2.2 41 = some (.goto 4, 3, 45, 0, 0, 0) := by decide +kernel
theorem aX12_isSpared_44 : i_at mX12_isSpared.2.2.2.2.2 44 = some (.iconst 0, 1, 0, 0, 0, 0) := by decide +kernel
theorem aX12_isSpared_45 : i_at mX12_isSpared.2.2.2.2.2 45 = some (.istore 6, 2, 0, 0, 0, 0) := by decide +kernel
theorem aX12_isSpared_47 : i_at mX12_isSpared.2.2.2.2.2 47 = some (.iload 4, 2, 0, 0, 0, 0) := by decide +kernel
theorem aX12_isSpared_49 : i_at mX12_isSpared.2.2.2.2.2 49 = some (.ifCond .eq 22, 3, 71, 0, 0, 0) := by decide +kernel
theorem aX12_isSpared_52 : i_at mX12_isSpared.2.2.2.2.2 52 = some (.iload 6, 2, 0, 0, 0, 0) := by decide +kernel
theorem aX12_isSpared_54 : i_at mX12_isSpared.2.2.2.2.2 54 = some (.ifCond .eq 13, 3, 67, 0, 0, 0) := by decide +kernel
theorem aX12_isSpared_57 : i_at mX12_isSpared.2.2.2.2.2 57 = some (.aload_n 0, 1, 0, 0, 0, 0) := by decide +kernel
theorem aX12_isSpared_58 : i_at mX12_isSpared.2.2.2.2.2 58 = some (.getfield 9, 3, 11, 1, 1088, 0) := by decide +kernel
theorem aX12_isSpared_61 : i_at mX12_isSpared.2.2.2.2.2 61 = some (.iconst 5, 1, 0, 0, 0, 0) := by decide +kernel
theorem aX12_isSpared_62 : i_at mX12_isSpared.2.2.2.2.2 62 = some (.iaload, 1, 0, 0, 0, 0) := by decide +kernel
theorem aX12_isSpared_63 : i_at mX12_isSpared.2.2.2.2.2 63 = some (.iload_n 1, 1, 0, 0, 0, 0) := by decide +kernel
theorem aX12_isSpared_64 : i_at mX12_isSpared.2.2.2.2.2 64 = some (.if_icmp .eq 7, 3, 71, 0, 0, 0) := by decide +kernel
theorem aX12_isSpared_67 : i_at mX12_isSpared.2.2.2.2.2 67 = some (.iconst 1, 1, 0, 0, 0, 0) := by decide +kernel
theorem aX12_isSpared_68 : i_at mX12_isSpared.2.2.2.2.2 68 = some (.goto 4, 3, 72, 0, 0, 0) := by decide +kernel
theorem aX12_isSpared_71 : i_at mX12_isSpared.2.2.2.2.2 71 = some (.iconst 0, 1, 0, 0, 0, 0) := by decide +kernel
theorem aX12_isSpared_72 : i_at mX12_isSpared.2.2.2.2.2 72 = some (.istore 4, 2, 0, 0, 0, 0) := by decide +kernel
theorem aX12_isSpared_74 : i_at mX12_isSpared.2.2.2.2.2 74 = some (.iinc 5 1, 3, 0, 0, 0, 0) := by decide +kernel
theorem aX12_isSpared_77 : i_at mX12_isSpared.2.2.2.2.2 77 = some (.goto (-71), 3, 6, 0, 0, 0) := by decide +kernel
theorem aX12_isSpared_80 : i_at mX12_isSpared.2.2.2.2.2 80 = some (.aload_n 0, 1, 0, 0, 0, 0) := by decide +kernel
theorem aX12_isSpared_81 : i_at mX12_isSpared.2.2.2.2.2 81 = some (.invokevirtual 416, 3, 197, 0, 1561, 0) := by decide +kernel
theorem aX12_isSpared_84 : i_at mX12_isSpared.2.2.2.2.2 84 = some (.iload 4, 2, 0, 0, 0, 0) := by decide +kernel
theorem aX12_isSpared_86 : i_at mX12_isSpared.2.2.2.2.2 86 = some (.ireturn, 1, 0, 0, 0, 0) := by decide +kernel
noncomputable def fX12_isSpared_J72 (sh : List kd) (p1 : Int32) (p2 : Int32) (p3 : Int32) (x1 : Int32) (x2 : Int32) (r65 : Int32) (s66 : St) (k6 : Int32 → Int32 → Value → St → Option (Int32 × St)) (x118 : Int32) : Option (Int32 × St) := k6 x118 (x2 + 1) (.int ((if r65 = 0 then 0 else 1) : Int32)) s66
noncomputable def fX12_isSpared_L6 (sh : List kd) (p1 : Int32) (p2 : Int32) (p3 : Int32) (k80 : Int32 → Int32 → Value → St → Option (Int32 × St)) : Nat → Int32 → Int32 → Value → St → Option (Int32 × St)
  | 0, _, _, _, _ => none
  | n59 + 1, x1, x2, x3, s4 => if p2 ≤ x2 then k80 x1 x2 x3 s4 else i_bd (fX12_has sh s4 p3 x2) (fun r61 s62 => if i_ok 7 11 then i_bd (fX12_goes sh (s_A s62 1 (7 : Int32).toNatClampNeg ((if r61 = 0 then 0 else 1) : Int32))) (fun r65 s66 => if x1 = 0 then fX12_isSpared_J72 sh p1 p2 p3 x1 x2 r65 s66 (fX12_isSpared_L6 sh p1 p2 p3 k80 n59) 0 else if ((if r65 = 0 then 0 else 1) : Int32) = 0 then fX12_isSpared_J72 sh p1 p2 p3 x1 x2 r65 s66 (fX12_isSpared_L6 sh p1 p2 p3 k80 n59) 1 else if i_ok 5 11 then fX12_isSpared_J72 sh p1 p2 p3 x1 x2 r65 s66 (fX12_isSpared_L6 sh p1 p2 p3 k80 n59) ((if (s66.2.1 1 (5 : Int32).toNatClampNeg) = p1 then 0 else 1) : Int32) else none) else none)
noncomputable def fX12_isSpared_X80 (sh : List kd) (p1 : Int32) (p2 : Int32) (p3 : Int32) (x55 : Int32) (x56 : Int32) (x57 : Value) (s58 : St) : Option (Int32 × St) := i_bd (fX12_laysBack sh s58) (fun r125 s126 => if (x55 : Int32) &&& 1 = x55 then some (x55, s126) else none)
noncomputable def fX12_isSpared (sh : List kd) (σ : St) (p1 : Int32) (p2 : Int32) (p3 : Int32) : Option (Int32 × St) := fX12_isSpared_L6 sh p1 p2 p3 (fun (x55 : Int32) (x56 : Int32) (x57 : Value) (s58 : St) => fX12_isSpared_X80 sh p1 p2 p3 x55 x56 x57 s58) i_F 1 0 (.retAddr 0) σ
set_option maxRecDepth 20000 in
set_option maxHeartbeats 2000000 in
theorem tX12_isSpared_J72 {sh : List kd} {τ : St} {r : Int32} (hsh : rmSh sh) {p1 : Int32} {p2 : Int32} {p3 : Int32} {x1 : Int32} {x2 : Int32} {r65 : Int32} {s66 : St} {x118 : Int32} {k6 : Int32 → Int32 → Value → St → Option (Int32 × St)} (hk6 : ∀ (x1 : Int32) (x2 : Int32) (x3 : Value) (s4 : St), k6 x1 x2 x3 s4 = some (r, τ) → g_R sh 7 mX12_isSpared (some (.int r)) τ 6 [.ref 0, .int p1, .int p2, .int p3, .int x1, .int x2, x3] [] (s4)) (hE : fX12_isSpared_J72 sh p1 p2 p3 x1 x2 r65 s66 k6 x118 = some (r, τ)) : g_R sh 7 mX12_isSpared (some (.int r)) τ 72 [.ref 0, .int p1, .int p2, .int p3, .int x1, .int x2, .int ((if r65 = 0 then 0 else 1) : Int32)] [.int x118] (s66) := by
  unfold fX12_isSpared_J72 at hE
  refine g_sti (loc2 := [.ref 0, .int p1, .int p2, .int p3, .int x118, .int x2, .int ((if r65 = 0 then 0 else 1) : Int32)]) aX12_isSpared_72 (Nat.le_of_ble_eq_true rfl) rfl ?_
  refine g_iinc (y := 1) (loc2 := [.ref 0, .int p1, .int p2, .int p3, .int x118, .int (x2 + 1), .int ((if r65 = 0 then 0 else 1) : Int32)]) aX12_isSpared_74 rfl rfl rfl ?_
  refine g_goto aX12_isSpared_77 ?_
  exact hk6 _ _ _ _ hE
set_option maxRecDepth 20000 in
set_option maxHeartbeats 2000000 in
theorem tX12_isSpared_L6 {sh : List kd} {τ : St} {r : Int32} (hsh : rmSh sh) {p1 : Int32} {p2 : Int32} {p3 : Int32} {k80 : Int32 → Int32 → Value → St → Option (Int32 × St)} (hk80 : ∀ (x55 : Int32) (x56 : Int32) (x57 : Value) (s58 : St), k80 x55 x56 x57 s58 = some (r, τ) → g_R sh 7 mX12_isSpared (some (.int r)) τ 80 [.ref 0, .int p1, .int p2, .int p3, .int x55, .int x56, x57] [] (s58)) : ∀ (n0 : Nat) (x1 : Int32) (x2 : Int32) (x3 : Value) (s4 : St), fX12_isSpared_L6 sh p1 p2 p3 k80 n0 x1 x2 x3 s4 = some (r, τ) → g_R sh 7 mX12_isSpared (some (.int r)) τ 6 [.ref 0, .int p1, .int p2, .int p3, .int x1, .int x2, x3] [] (s4) := by
  intro n0
  induction n0 with
  | zero => intro _ _ _ _ hE; cases hE
  | succ n59 ih =>
    intro x1 x2 x3 s4 hE
    unfold fX12_isSpared_L6 at hE
    refine g_ldi aX12_isSpared_6 rfl ?_
    refine g_ldin aX12_isSpared_8 rfl ?_
    by_cases hc60 : p2 ≤ x2
    · rw [if_pos hc60] at hE
      refine g_ic_ge_t aX12_isSpared_9 hc60 ?_
      exact hk80 _ _ _ _ hE
    · rw [if_neg hc60] at hE
      refine g_ic_ge_f aX12_isSpared_9 hc60 ?_
      refine g_ldan aX12_isSpared_12 rfl ?_
      refine g_getR aX12_isSpared_13 (sR_0 hsh) rfl ?_
      refine g_bipush (x := 7) aX12_isSpared_16 rfl ?_
      refine g_ldin aX12_isSpared_18 rfl ?_
      refine g_ldi aX12_isSpared_19 rfl ?_
      obtain ⟨r61, s62, h63, hE⟩ := i_bd_some hE
      refine g_calS (As := [.int p3, .int x2]) (rest := [.int 7, .ref 1]) aX12_isSpared_21 (i_X_mono (by omega) (tX12_has hsh h63)) rfl rfl (Nat.le_of_ble_eq_true rfl) rfl ?_
      have hJ : g_R sh 7 mX12_isSpared (some (.int r)) τ 32 [.ref 0, .int p1, .int p2, .int p3, .int x1, .int x2, x3] [.int ((if r61 = 0 then 0 else 1) : Int32), .int 7, .ref 1] (s62) := by
        obtain ⟨h64, hE⟩ := i_ifn hE
        refine g_ist aX12_isSpared_32 (sR_1 hsh) h64 ?_
        refine g_ldan aX12_isSpared_33 rfl ?_
        obtain ⟨r65, s66, h67, hE⟩ := i_bd_some hE
        refine g_calV (As := []) (rest := []) aX12_isSpared_34 (i_X_mono (by omega) (tX12_goes hsh h67)) (sR_0 hsh) (by decide +kernel) rfl rfl (Nat.le_of_ble_eq_true rfl) rfl ?_
        have hJ : g_R sh 7 mX12_isSpared (some (.int r)) τ 45 [.ref 0, .int p1, .int p2, .int p3, .int x1, .int x2, x3] [.int ((if r65 = 0 then 0 else 1) : Int32)] (s66) := by
          refine g_sti (loc2 := [.ref 0, .int p1, .int p2, .int p3, .int x1, .int x2, .int ((if r65 = 0 then 0 else 1) : Int32)]) aX12_isSpared_45 (Nat.le_of_ble_eq_true rfl) rfl ?_
          refine g_ldi aX12_isSpared_47 rfl ?_
          by_cases hc119 : x1 = 0
          · rw [if_pos hc119] at hE
            refine g_if_eq_t aX12_isSpared_49 hc119 ?_
            refine g_iconst (x := 0) aX12_isSpared_71 rfl ?_
            exact tX12_isSpared_J72 hsh ih hE
          · rw [if_neg hc119] at hE
            refine g_if_eq_f aX12_isSpared_49 hc119 ?_
            refine g_ldi aX12_isSpared_52 rfl ?_
            by_cases hc120 : ((if r65 = 0 then 0 else 1) : Int32) = 0
            · rw [if_pos hc120] at hE
              refine g_if_eq_t aX12_isSpared_54 hc120 ?_
              refine g_iconst (x := 1) aX12_isSpared_67 rfl ?_
              refine g_goto aX12_isSpared_68 ?_
              exact tX12_isSpared_J72 hsh ih hE
            · rw [if_neg hc120] at hE
              refine g_if_eq_f aX12_isSpared_54 hc120 ?_
              refine g_ldan aX12_isSpared_57 rfl ?_
              refine g_getR aX12_isSpared_58 (sR_0 hsh) rfl ?_
              refine g_iconst (x := 5) aX12_isSpared_61 rfl ?_
              obtain ⟨h121, hE⟩ := i_ifn hE
              refine g_ild aX12_isSpared_62 (sR_1 hsh) h121 ?_
              refine g_ldin aX12_isSpared_63 rfl ?_
              have hJ : g_R sh 7 mX12_isSpared (some (.int r)) τ 72 [.ref 0, .int p1, .int p2, .int p3, .int x1, .int x2, .int ((if r65 = 0 then 0 else 1) : Int32)] [.int ((if (s66.2.1 1 (5 : Int32).toNatClampNeg) = p1 then 0 else 1) : Int32)] (s66) := by
                exact tX12_isSpared_J72 hsh ih hE
              clear hE
              by_cases hc121 : (s66.2.1 1 (5 : Int32).toNatClampNeg) = p1
              · (try rw [if_pos hc121] at hJ)
                refine g_ic_eq_t aX12_isSpared_64 hc121 ?_
                refine g_iconst (x := 0) aX12_isSpared_71 rfl ?_
                exact hJ
              · (try rw [if_neg hc121] at hJ)
                refine g_ic_eq_f aX12_isSpared_64 hc121 ?_
                refine g_iconst (x := 1) aX12_isSpared_67 rfl ?_
                refine g_goto aX12_isSpared_68 ?_
                exact hJ
        clear hE
        by_cases hc122 : r65 = 0
        · (try rw [if_pos hc122] at hJ)
          refine g_if_eq_t aX12_isSpared_37 hc122 ?_
          refine g_iconst (x := 0) aX12_isSpared_44 rfl ?_
          exact hJ
        · (try rw [if_neg hc122] at hJ)
          refine g_if_eq_f aX12_isSpared_37 hc122 ?_
          refine g_iconst (x := 1) aX12_isSpared_40 rfl ?_
          refine g_goto aX12_isSpared_41 ?_
          exact hJ
      clear hE
      by_cases hc123 : r61 = 0
      · (try rw [if_pos hc123] at hJ)
        refine g_if_eq_t aX12_isSpared_24 hc123 ?_
        refine g_iconst (x := 0) aX12_isSpared_31 rfl ?_
        exact hJ
      · (try rw [if_neg hc123] at hJ)
        refine g_if_eq_f aX12_isSpared_24 hc123 ?_
        refine g_iconst (x := 1) aX12_isSpared_27 rfl ?_
        refine g_goto aX12_isSpared_28 ?_
        exact hJ
set_option maxRecDepth 20000 in
set_option maxHeartbeats 2000000 in
theorem tX12_isSpared_X80 {sh : List kd} {τ : St} {r : Int32} (hsh : rmSh sh) {p1 : Int32} {p2 : Int32} {p3 : Int32} {x55 : Int32} {x56 : Int32} {x57 : Value} {s58 : St} (hE : fX12_isSpared_X80 sh p1 p2 p3 x55 x56 x57 s58 = some (r, τ)) : g_R sh 7 mX12_isSpared (some (.int r)) τ 80 [.ref 0, .int p1, .int p2, .int p3, .int x55, .int x56, x57] [] (s58) := by
  unfold fX12_isSpared_X80 at hE
  refine g_ldan aX12_isSpared_80 rfl ?_
  obtain ⟨r125, s126, h127, hE⟩ := i_bd_some hE
  refine g_calV (As := []) (rest := []) aX12_isSpared_81 (i_X_mono (by omega) (tX12_laysBack hsh h127)) (sR_0 hsh) (by decide +kernel) rfl rfl (Nat.le_of_ble_eq_true rfl) rfl ?_
  refine g_ldi aX12_isSpared_84 rfl ?_
  obtain ⟨h128, hE⟩ := i_ifn hE
  obtain ⟨rfl, rfl⟩ := i_some_inj hE
  exact g_iret aX12_isSpared_86 rfl (congrArg Value.int h128)
set_option maxRecDepth 20000 in
set_option maxHeartbeats 2000000 in
theorem tX12_isSpared {sh : List kd} {σ τ : St} {r : Int32} (hsh : rmSh sh) {p1 : Int32} {p2 : Int32} {p3 : Int32} (hE : fX12_isSpared sh σ p1 p2 p3 = some (r, τ)) : i_X 8 201 [.ref 0, .int p1, .int p2, .int p3] (s_h sh σ) 0 0 (some (.int r)) (s_h sh τ) := by
  refine g_X (M := mX12_isSpared) (loc := [.ref 0, .int p1, .int p2, .int p3, .retAddr 0, .retAddr 0, .retAddr 0]) rfl (Nat.le_of_ble_eq_true rfl) rfl ?_
  unfold fX12_isSpared at hE
  refine g_iconst (x := 1) aX12_isSpared_0 rfl ?_
  refine g_sti (loc2 := [.ref 0, .int p1, .int p2, .int p3, .int 1, .retAddr 0, .retAddr 0]) aX12_isSpared_1 (Nat.le_of_ble_eq_true rfl) rfl ?_
  refine g_iconst (x := 0) aX12_isSpared_3 rfl ?_
  refine g_sti (loc2 := [.ref 0, .int p1, .int p2, .int p3, .int 1, .int 0, .retAddr 0]) aX12_isSpared_4 (Nat.le_of_ble_eq_true rfl) rfl ?_
  exact tX12_isSpared_L6 hsh (fun x55 x56 x57 s58 hE => tX12_isSpared_X80 hsh hE) i_F _ _ _ _ hE
theorem aX12_spare_0 : i_at mX12_spare.2.2.2.2.2 0 = some (.aload_n 0, 1, 0, 0, 0, 0) := by decide +kernel
theorem aX12_spare_1 : i_at mX12_spare.2.2.2.2.2 1 = some (.iload_n 1, 1, 0, 0, 0, 0) := by decide +kernel
theorem aX12_spare_2 : i_at mX12_spare.2.2.2.2.2 2 = some (.invokevirtual 338, 3, 131, 1, 1426, 0) := by decide +kernel
theorem aX12_spare_5 : i_at mX12_spare.2.2.2.2.2 5 = some (.ifCond .eq 25, 3, 30, 0, 0, 0) := by decide +kernel
theorem aX12_spare_8 : i_at mX12_spare.2.2.2.2.2 8 = some (.iload_n 2, 1, 0, 0, 0, 0) := by decide +kernel
theorem aX12_spare_9 : i_at mX12_spare.2.2.2.2.2 9 = some (.i2l, 1, 0, 0, 0, 0) := by decide +kernel
theorem aX12_spare_10 : i_at mX12_spare.2.2.2.2.2 10 = some (.lconst 1, 1, 0, 0, 0, 0) := by decide +kernel
theorem aX12_spare_11 : i_at mX12_spare.2.2.2.2.2 11 = some (.ldc2_w 421, 3, 0, 0, 1578, 8) := by decide +kernel
theorem aX12_spare_14 : i_at mX12_spare.2.2.2.2.2 14 = some (.invokestatic 131, 3, 127, 3, 1324, 0) := by decide +kernel
theorem aX12_spare_17 : i_at mX12_spare.2.2.2.2.2 17 = some (.ifCond .eq 13, 3, 30, 0, 0, 0) := by decide +kernel
theorem aX12_spare_20 : i_at mX12_spare.2.2.2.2.2 20 = some (.iload_n 3, 1, 0, 0, 0, 0) := by decide +kernel
theorem aX12_spare_21 : i_at mX12_spare.2.2.2.2.2 21 = some (.i2l, 1, 0, 0, 0, 0) := by decide +kernel
theorem aX12_spare_22 : i_at mX12_spare.2.2.2.2.2 22 = some (.lconst 0, 1, 0, 0, 0, 0) := by decide +kernel
theorem aX12_spare_23 : i_at mX12_spare.2.2.2.2.2 23 = some (.lconst 1, 1, 0, 0, 0, 0) := by decide +kernel
theorem aX12_spare_24 : i_at mX12_spare.2.2.2.2.2 24 = some (.invokestatic 131, 3, 127, 3, 1324, 0) := by decide +kernel
theorem aX12_spare_27 : i_at mX12_spare.2.2.2.2.2 27 = some (.ifCond .ne 5, 3, 32, 0, 0, 0) := by decide +kernel
theorem aX12_spare_30 : i_at mX12_spare.2.2.2.2.2 30 = some (.iconst (-1), 1, 0, 0, 0, 0) := by decide +kernel
theorem aX12_spare_31 : i_at mX12_spare.2.2.2.2.2 31 = some (.ireturn, 1, 0, 0, 0, 0) := by decide +kernel
theorem aX12_spare_32 : i_at mX12_spare.2.2.2.2.2 32 = some (.iconst 1, 1, 0, 0, 0, 0) := by decide +kernel
theorem aX12_spare_33 : i_at mX12_spare.2.2.2.2.2 33 = some (.iload_n 2, 1, 0, 0, 0, 0) := by decide +kernel
theorem aX12_spare_34 : i_at mX12_spare.2.2.2.2.2 34 = some (.ishl, 1, 0, 0, 0, 0) := by decide +kernel
theorem aX12_spare_35 : i_at mX12_spare.2.2.2.2.2 35 = some (.iconst 1, 1, 0, 0, 0, 0) := by decide +kernel
theorem aX12_spare_36 : i_at mX12_spare.2.2.2.2.2 36 = some (.isub, 1, 0, 0, 0, 0) := by decide +kernel
theorem aX12_spare_37 : i_at mX12_spare.2.2.2.2.2 37 = some (.istore 4, 2, 0, 0, 0, 0) := by decide +kernel
theorem aX12_spare_39 : i_at mX12_spare.2.2.2.2.2 39 = some (.aload_n 0, 1, 0, 0, 0, 0) := by decide +kernel
theorem aX12_spare_40 : i_at mX12_spare.2.2.2.2.2 40 = some (.invokevirtual 410, 3, 196, 0, 1545, 0) := by decide +kernel
theorem aX12_spare_43 : i_at mX12_spare.2.2.2.2.2 43 = some (.iconst 0, 1, 0, 0, 0, 0) := by decide +kernel
theorem aX12_spare_44 : i_at mX12_spare.2.2.2.2.2 44 = some (.istore 5, 2, 0, 0, 0, 0) := by decide +kernel
theorem aX12_spare_46 : i_at mX12_spare.2.2.2.2.2 46 = some (.iload 5, 2, 0, 0, 0, 0) := by decide +kernel
theorem aX12_spare_48 : i_at mX12_spare.2.2.2.2.2 48 = some (.iconst 1, 1, 0, 0, 0, 0) := by decide +kernel
theorem aX12_spare_49 : i_at mX12_spare.2.2.2.2.2 49 = some (.iload_n 2, 1, 0, 0, 0, 0) := by decide +kernel
theorem aX12_spare_50 : i_at mX12_spare.2.2.2.2.2 50 = some (.ishl, 1, 0, 0, 0, 0) := by decide +kernel
theorem aX12_spare_51 : i_at mX12_spare.2.2.2.2.2 51 = some (.if_icmp .ge 42, 3, 93, 0, 0, 0) := by decide +kernel
theorem aX12_spare_54 : i_at mX12_spare.2.2.2.2.2 54 = some (.iload 5, 2, 0, 0, 0, 0) := by decide +kernel
theorem aX12_spare_56 : i_at mX12_spare.2.2.2.2.2 56 = some (.invokestatic 359, 3, 128, 1, 1497, 0) := by decide +kernel
theorem aX12_spare_59 : i_at mX12_spare.2.2.2.2.2 59 = some (.iload 4, 2, 0, 0, 0, 0) := by decide +kernel
theorem aX12_spare_61 : i_at mX12_spare.2.2.2.2.2 61 = some (.invokestatic 359, 3, 128, 1, 1497, 0) := by decide +kernel
theorem aX12_spare_64 : i_at mX12_spare.2.2.2.2.2 64 = some (.if_icmp .ge 23, 3, 87, 0, 0, 0) := by decide +kernel
theorem aX12_spare_67 : i_at mX12_spare.2.2.2.2.2 67 = some (.aload_n 0, 1, 0, 0, 0, 0) := by decide +kernel
theorem aX12_spare_68 : i_at mX12_spare.2.2.2.2.2 68 = some (.iload_n 1, 1, 0, 0, 0, 0) := by decide +kernel
theorem aX12_spare_69 : i_at mX12_spare.2.2.2.2.2 69 = some (.iload_n 2, 1, 0, 0, 0, 0) := by decide +kernel
theorem aX12_spare_70 : i_at mX12_spare.2.2.2.2.2 70 = some (.iload 5, 2, 0, 0, 0, 0) := by decide +kernel
theorem aX12_spare_72 : i_at mX12_spare.2.2.2.2.2 72 = some (.invokevirtual 423, 3, 201, 3, 1579, 0) := by decide +kernel
theorem aX12_spare_75 : i_at mX12_spare.2.2.2.2.2 75 = some (.ifCond .eq 8, 3, 83, 0, 0, 0) := by decide +kernel
theorem aX12_spare_78 : i_at mX12_spare.2.2.2.2.2 78 = some (.iload 5, 2, 0, 0, 0, 0) := by decide +kernel
theorem aX12_spare_80 : i_at mX12_spare.2.2.2.2.2 80 = some (.goto 5, 3, 85, 0, 0, 0) := by decide +kernel
theorem aX12_spare_83 : i_at mX12_spare.2.2.2.2.2 83 = some (.iload 4, 2, 0, 0, 0, 0) := by decide +kernel
theorem aX12_spare_85 : i_at mX12_spare.2.2.2.2.2 85 = some (.istore 4, 2, 0, 0, 0, 0) := by decide +kernel
theorem aX12_spare_87 : i_at mX12_spare.2.2.2.2.2 87 = some (.iinc 5 1, 3, 0, 0, 0, 0) := by decide +kernel
theorem aX12_spare_90 : i_at mX12_spare.2.2.2.2.2 90 = some (.goto (-44), 3, 46, 0, 0, 0) := by decide +kernel
theorem aX12_spare_93 : i_at mX12_spare.2.2.2.2.2 93 = some (.iload_n 3, 1, 0, 0, 0, 0) := by decide +kernel
theorem aX12_spare_94 : i_at mX12_spare.2.2.2.2.2 94 = some (.ifCond .ne 11, 3, 105, 0, 0, 0) := by decide +kernel
theorem aX12_spare_97 : i_at mX12_spare.2.2.2.2.2 97 = some (.iload 4, 2, 0, 0, 0, 0) := by decide +kernel
theorem aX12_spare_99 : i_at mX12_spare.2.2.2.2.2 99 = some (.invokestatic 359, 3, 128, 1, 1497, 0) := by decide +kernel
theorem aX12_spare_102 : i_at mX12_spare.2.2.2.2.2 102 = some (.goto 5, 3, 107, 0, 0, 0) := by decide +kernel
theorem aX12_spare_105 : i_at mX12_spare.2.2.2.2.2 105 = some (.iload 4, 2, 0, 0, 0, 0) := by decide +kernel
theorem aX12_spare_107 : i_at mX12_spare.2.2.2.2.2 107 = some (.ireturn, 1, 0, 0, 0, 0) := by decide +kernel
noncomputable def fX12_spare_J87 (sh : List kd) (p1 : Int32) (p2 : Int32) (p3 : Int32) (x17 : Int32) (k46 : Int32 → Int32 → St → Option (Int32 × St)) (x130 : Int32) (s131 : St) : Option (Int32 × St) := k46 x130 (x17 + 1) s131
noncomputable def fX12_spare_L46 (sh : List kd) (p1 : Int32) (p2 : Int32) (p3 : Int32) (k93 : Int32 → Int32 → St → Option (Int32 × St)) : Nat → Int32 → Int32 → St → Option (Int32 × St)
  | 0, _, _, _ => none
  | n72 + 1, x16, x17, s18 => if (1 <<< (p2 &&& 31)) ≤ x17 then k93 x16 x17 s18 else i_bd (fX12_bits sh s18 x17) (fun r74 s75 => i_bd (fX12_bits sh s75 x16) (fun r77 s78 => if r77 ≤ r74 then fX12_spare_J87 sh p1 p2 p3 x17 (fX12_spare_L46 sh p1 p2 p3 k93 n72) x16 s78 else i_bd (fX12_isSpared sh s78 p1 p2 x17) (fun r133 s134 => fX12_spare_J87 sh p1 p2 p3 x17 (fX12_spare_L46 sh p1 p2 p3 k93 n72) ((if r133 = 0 then x16 else x17) : Int32) s134)))
noncomputable def fX12_spare_J107 (sh : List kd) (p1 : Int32) (p2 : Int32) (p3 : Int32) (x69 : Int32) (x70 : Int32) (x187 : Int32) (s188 : St) : Option (Int32 × St) := some (x187, s188)
noncomputable def fX12_spare_X93 (sh : List kd) (p1 : Int32) (p2 : Int32) (p3 : Int32) (x69 : Int32) (x70 : Int32) (s71 : St) : Option (Int32 × St) := if ¬ p3 = 0 then fX12_spare_J107 sh p1 p2 p3 x69 x70 x69 s71 else i_bd (fX12_bits sh s71 x69) (fun r190 s191 => fX12_spare_J107 sh p1 p2 p3 x69 x70 r190 s191)
noncomputable def fX12_spare (sh : List kd) (σ : St) (p1 : Int32) (p2 : Int32) (p3 : Int32) : Option (Int32 × St) := i_bd (fX12_isThing sh σ p1) (fun r1 s2 => if r1 = 0 then some ((-1), s2) else i_bd (fX12_in sh s2 p2.toInt64 1 8) (fun r5 s6 => if r5 = 0 then some ((-1), s6) else i_bd (fX12_in sh s6 p3.toInt64 0 1) (fun r9 s10 => if ¬ r9 = 0 then i_bd (fX12_keepsAll sh s10) (fun r13 s14 => fX12_spare_L46 sh p1 p2 p3 (fun (x69 : Int32) (x70 : Int32) (s71 : St) => fX12_spare_X93 sh p1 p2 p3 x69 x70 s71) i_F ((1 <<< (p2 &&& 31)) - 1) 0 s14) else some ((-1), s10))))
set_option maxRecDepth 20000 in
set_option maxHeartbeats 2000000 in
theorem tX12_spare_J87 {sh : List kd} {τ : St} {r : Int32} (hsh : rmSh sh) {p1 : Int32} {p2 : Int32} {p3 : Int32} {x17 : Int32} {x130 : Int32} {s131 : St} {k46 : Int32 → Int32 → St → Option (Int32 × St)} (hk46 : ∀ (x16 : Int32) (x17 : Int32) (s18 : St), k46 x16 x17 s18 = some (r, τ) → g_R sh 8 mX12_spare (some (.int r)) τ 46 [.ref 0, .int p1, .int p2, .int p3, .int x16, .int x17] [] (s18)) (hE : fX12_spare_J87 sh p1 p2 p3 x17 k46 x130 s131 = some (r, τ)) : g_R sh 8 mX12_spare (some (.int r)) τ 87 [.ref 0, .int p1, .int p2, .int p3, .int x130, .int x17] [] (s131) := by
  unfold fX12_spare_J87 at hE
  refine g_iinc (y := 1) (loc2 := [.ref 0, .int p1, .int p2, .int p3, .int x130, .int (x17 + 1)]) aX12_spare_87 rfl rfl rfl ?_
  refine g_goto aX12_spare_90 ?_
  exact hk46 _ _ _ hE
set_option maxRecDepth 20000 in
set_option maxHeartbeats 2000000 in
theorem tX12_spare_L46 {sh : List kd} {τ : St} {r : Int32} (hsh : rmSh sh) {p1 : Int32} {p2 : Int32} {p3 : Int32} {k93 : Int32 → Int32 → St → Option (Int32 × St)} (hk93 : ∀ (x69 : Int32) (x70 : Int32) (s71 : St), k93 x69 x70 s71 = some (r, τ) → g_R sh 8 mX12_spare (some (.int r)) τ 93 [.ref 0, .int p1, .int p2, .int p3, .int x69, .int x70] [] (s71)) : ∀ (n0 : Nat) (x16 : Int32) (x17 : Int32) (s18 : St), fX12_spare_L46 sh p1 p2 p3 k93 n0 x16 x17 s18 = some (r, τ) → g_R sh 8 mX12_spare (some (.int r)) τ 46 [.ref 0, .int p1, .int p2, .int p3, .int x16, .int x17] [] (s18) := by
  intro n0
  induction n0 with
  | zero => intro _ _ _ hE; cases hE
  | succ n72 ih =>
    intro x16 x17 s18 hE
    unfold fX12_spare_L46 at hE
    refine g_ldi aX12_spare_46 rfl ?_
    refine g_iconst (x := 1) aX12_spare_48 rfl ?_
    refine g_ldin aX12_spare_49 rfl ?_
    refine g_ishl aX12_spare_50 ?_
    by_cases hc73 : (1 <<< (p2 &&& 31)) ≤ x17
    · rw [if_pos hc73] at hE
      refine g_ic_ge_t aX12_spare_51 hc73 ?_
      exact hk93 _ _ _ hE
    · rw [if_neg hc73] at hE
      refine g_ic_ge_f aX12_spare_51 hc73 ?_
      refine g_ldi aX12_spare_54 rfl ?_
      obtain ⟨r74, s75, h76, hE⟩ := i_bd_some hE
      refine g_calS (As := [.int x17]) (rest := []) aX12_spare_56 (i_X_mono (by omega) (tX12_bits hsh h76)) rfl rfl (Nat.le_of_ble_eq_true rfl) rfl ?_
      refine g_ldi aX12_spare_59 rfl ?_
      obtain ⟨r77, s78, h79, hE⟩ := i_bd_some hE
      refine g_calS (As := [.int x16]) (rest := [.int r74]) aX12_spare_61 (i_X_mono (by omega) (tX12_bits hsh h79)) rfl rfl (Nat.le_of_ble_eq_true rfl) rfl ?_
      by_cases hc132 : r77 ≤ r74
      · rw [if_pos hc132] at hE
        refine g_ic_ge_t aX12_spare_64 hc132 ?_
        exact tX12_spare_J87 hsh ih hE
      · rw [if_neg hc132] at hE
        refine g_ic_ge_f aX12_spare_64 hc132 ?_
        refine g_ldan aX12_spare_67 rfl ?_
        refine g_ldin aX12_spare_68 rfl ?_
        refine g_ldin aX12_spare_69 rfl ?_
        refine g_ldi aX12_spare_70 rfl ?_
        obtain ⟨r133, s134, h135, hE⟩ := i_bd_some hE
        refine g_calV (As := [.int p1, .int p2, .int x17]) (rest := []) aX12_spare_72 (i_X_mono (by omega) (tX12_isSpared hsh h135)) (sR_0 hsh) (by decide +kernel) rfl rfl (Nat.le_of_ble_eq_true rfl) rfl ?_
        have hJ : g_R sh 8 mX12_spare (some (.int r)) τ 85 [.ref 0, .int p1, .int p2, .int p3, .int x16, .int x17] [.int ((if r133 = 0 then x16 else x17) : Int32)] (s134) := by
          refine g_sti (loc2 := [.ref 0, .int p1, .int p2, .int p3, .int ((if r133 = 0 then x16 else x17) : Int32), .int x17]) aX12_spare_85 (Nat.le_of_ble_eq_true rfl) rfl ?_
          exact tX12_spare_J87 hsh ih hE
        clear hE
        by_cases hc135 : r133 = 0
        · (try rw [if_pos hc135] at hJ)
          refine g_if_eq_t aX12_spare_75 hc135 ?_
          refine g_ldi aX12_spare_83 rfl ?_
          exact hJ
        · (try rw [if_neg hc135] at hJ)
          refine g_if_eq_f aX12_spare_75 hc135 ?_
          refine g_ldi aX12_spare_78 rfl ?_
          refine g_goto aX12_spare_80 ?_
          exact hJ
set_option maxRecDepth 20000 in
set_option maxHeartbeats 2000000 in
theorem tX12_spare_J107 {sh : List kd} {τ : St} {r : Int32} (hsh : rmSh sh) {p1 : Int32} {p2 : Int32} {p3 : Int32} {x69 : Int32} {x70 : Int32} {x187 : Int32} {s188 : St} (hE : fX12_spare_J107 sh p1 p2 p3 x69 x70 x187 s188 = some (r, τ)) : g_R sh 8 mX12_spare (some (.int r)) τ 107 [.ref 0, .int p1, .int p2, .int p3, .int x69, .int x70] [.int x187] (s188) := by
  unfold fX12_spare_J107 at hE
  obtain ⟨rfl, rfl⟩ := i_some_inj hE
  exact g_iret aX12_spare_107 rfl rfl
set_option maxRecDepth 20000 in
set_option maxHeartbeats 2000000 in
theorem tX12_spare_X93 {sh : List kd} {τ : St} {r : Int32} (hsh : rmSh sh) {p1 : Int32} {p2 : Int32} {p3 : Int32} {x69 : Int32} {x70 : Int32} {s71 : St} (hE : fX12_spare_X93 sh p1 p2 p3 x69 x70 s71 = some (r, τ)) : g_R sh 8 mX12_spare (some (.int r)) τ 93 [.ref 0, .int p1, .int p2, .int p3, .int x69, .int x70] [] (s71) := by
  unfold fX12_spare_X93 at hE
  refine g_ldin aX12_spare_93 rfl ?_
  by_cases hc189 : ¬ p3 = 0
  · rw [if_pos hc189] at hE
    refine g_if_ne_t aX12_spare_94 hc189 ?_
    refine g_ldi aX12_spare_105 rfl ?_
    exact tX12_spare_J107 hsh hE
  · rw [if_neg hc189] at hE
    refine g_if_ne_f aX12_spare_94 hc189 ?_
    refine g_ldi aX12_spare_97 rfl ?_
    obtain ⟨r190, s191, h192, hE⟩ := i_bd_some hE
    refine g_calS (As := [.int x69]) (rest := []) aX12_spare_99 (i_X_mono (by omega) (tX12_bits hsh h192)) rfl rfl (Nat.le_of_ble_eq_true rfl) rfl ?_
    refine g_goto aX12_spare_102 ?_
    exact tX12_spare_J107 hsh hE
set_option maxRecDepth 20000 in
set_option maxHeartbeats 2000000 in
theorem tX12_spare {sh : List kd} {σ τ : St} {r : Int32} (hsh : rmSh sh) {p1 : Int32} {p2 : Int32} {p3 : Int32} (hE : fX12_spare sh σ p1 p2 p3 = some (r, τ)) : i_X 9 202 [.ref 0, .int p1, .int p2, .int p3] (s_h sh σ) 0 0 (some (.int r)) (s_h sh τ) := by
  refine g_X (M := mX12_spare) (loc := [.ref 0, .int p1, .int p2, .int p3, .retAddr 0, .retAddr 0]) rfl (Nat.le_of_ble_eq_true rfl) rfl ?_
  unfold fX12_spare at hE
  refine g_ldan aX12_spare_0 rfl ?_
  refine g_ldin aX12_spare_1 rfl ?_
  obtain ⟨r1, s2, h3, hE⟩ := i_bd_some hE
  refine g_calV (As := [.int p1]) (rest := []) aX12_spare_2 (i_X_mono (by omega) (tX12_isThing hsh h3)) (sR_0 hsh) (by decide +kernel) rfl rfl (Nat.le_of_ble_eq_true rfl) rfl ?_
  by_cases hc4 : r1 = 0
  · rw [if_pos hc4] at hE
    refine g_if_eq_t aX12_spare_5 hc4 ?_
    refine g_iconst (x := (-1)) aX12_spare_30 rfl ?_
    obtain ⟨rfl, rfl⟩ := i_some_inj hE
    exact g_iret aX12_spare_31 rfl rfl
  · rw [if_neg hc4] at hE
    refine g_if_eq_f aX12_spare_5 hc4 ?_
    refine g_ldin aX12_spare_8 rfl ?_
    refine g_i2l aX12_spare_9 ?_
    refine g_lconst (x := 1) aX12_spare_10 rfl ?_
    refine g_ldc2 (x := 8) aX12_spare_11 rfl ?_
    obtain ⟨r5, s6, h7, hE⟩ := i_bd_some hE
    refine g_calS (As := [.long p2.toInt64, .long 1, .long 8]) (rest := []) aX12_spare_14 (i_X_mono (by omega) (tX12_in hsh h7)) rfl rfl (Nat.le_of_ble_eq_true rfl) rfl ?_
    by_cases hc8 : r5 = 0
    · rw [if_pos hc8] at hE
      refine g_if_eq_t aX12_spare_17 hc8 ?_
      refine g_iconst (x := (-1)) aX12_spare_30 rfl ?_
      obtain ⟨rfl, rfl⟩ := i_some_inj hE
      exact g_iret aX12_spare_31 rfl rfl
    · rw [if_neg hc8] at hE
      refine g_if_eq_f aX12_spare_17 hc8 ?_
      refine g_ldin aX12_spare_20 rfl ?_
      refine g_i2l aX12_spare_21 ?_
      refine g_lconst (x := 0) aX12_spare_22 rfl ?_
      refine g_lconst (x := 1) aX12_spare_23 rfl ?_
      obtain ⟨r9, s10, h11, hE⟩ := i_bd_some hE
      refine g_calS (As := [.long p3.toInt64, .long 0, .long 1]) (rest := []) aX12_spare_24 (i_X_mono (by omega) (tX12_in hsh h11)) rfl rfl (Nat.le_of_ble_eq_true rfl) rfl ?_
      by_cases hc12 : ¬ r9 = 0
      · rw [if_pos hc12] at hE
        refine g_if_ne_t aX12_spare_27 hc12 ?_
        refine g_iconst (x := 1) aX12_spare_32 rfl ?_
        refine g_ldin aX12_spare_33 rfl ?_
        refine g_ishl aX12_spare_34 ?_
        refine g_iconst (x := 1) aX12_spare_35 rfl ?_
        refine g_isub aX12_spare_36 ?_
        refine g_sti (loc2 := [.ref 0, .int p1, .int p2, .int p3, .int ((1 <<< (p2 &&& 31)) - 1), .retAddr 0]) aX12_spare_37 (Nat.le_of_ble_eq_true rfl) rfl ?_
        refine g_ldan aX12_spare_39 rfl ?_
        obtain ⟨r13, s14, h15, hE⟩ := i_bd_some hE
        refine g_calV (As := []) (rest := []) aX12_spare_40 (i_X_mono (by omega) (tX12_keepsAll hsh h15)) (sR_0 hsh) (by decide +kernel) rfl rfl (Nat.le_of_ble_eq_true rfl) rfl ?_
        refine g_iconst (x := 0) aX12_spare_43 rfl ?_
        refine g_sti (loc2 := [.ref 0, .int p1, .int p2, .int p3, .int ((1 <<< (p2 &&& 31)) - 1), .int 0]) aX12_spare_44 (Nat.le_of_ble_eq_true rfl) rfl ?_
        exact tX12_spare_L46 hsh (fun x69 x70 s71 hE => tX12_spare_X93 hsh hE) i_F _ _ _ hE
      · rw [if_neg hc12] at hE
        refine g_if_ne_f aX12_spare_27 hc12 ?_
        refine g_iconst (x := (-1)) aX12_spare_30 rfl ?_
        obtain ⟨rfl, rfl⟩ := i_some_inj hE
        exact g_iret aX12_spare_31 rfl rfl
theorem aX12_lay_0 : i_at mX12_lay.2.2.2.2.2 0 = some (.aload_n 0, 1, 0, 0, 0, 0) := by decide +kernel
theorem aX12_lay_1 : i_at mX12_lay.2.2.2.2.2 1 = some (.iload_n 1, 1, 0, 0, 0, 0) := by decide +kernel
theorem aX12_lay_2 : i_at mX12_lay.2.2.2.2.2 2 = some (.invokevirtual 351, 3, 132, 1, 1446, 0) := by decide +kernel
theorem aX12_lay_5 : i_at mX12_lay.2.2.2.2.2 5 = some (.ifCond .eq 25, 3, 30, 0, 0, 0) := by decide +kernel
theorem aX12_lay_8 : i_at mX12_lay.2.2.2.2.2 8 = some (.iload_n 2, 1, 0, 0, 0, 0) := by decide +kernel
theorem aX12_lay_9 : i_at mX12_lay.2.2.2.2.2 9 = some (.i2l, 1, 0, 0, 0, 0) := by decide +kernel
theorem aX12_lay_10 : i_at mX12_lay.2.2.2.2.2 10 = some (.lconst 1, 1, 0, 0, 0, 0) := by decide +kernel
theorem aX12_lay_11 : i_at mX12_lay.2.2.2.2.2 11 = some (.ldc2_w 419, 3, 0, 0, 1573, 60) := by decide +kernel
theorem aX12_lay_14 : i_at mX12_lay.2.2.2.2.2 14 = some (.invokestatic 131, 3, 127, 3, 1324, 0) := by decide +kernel
theorem aX12_lay_17 : i_at mX12_lay.2.2.2.2.2 17 = some (.ifCond .eq 13, 3, 30, 0, 0, 0) := by decide +kernel
theorem aX12_lay_20 : i_at mX12_lay.2.2.2.2.2 20 = some (.iload_n 3, 1, 0, 0, 0, 0) := by decide +kernel
theorem aX12_lay_21 : i_at mX12_lay.2.2.2.2.2 21 = some (.i2l, 1, 0, 0, 0, 0) := by decide +kernel
theorem aX12_lay_22 : i_at mX12_lay.2.2.2.2.2 22 = some (.lconst 0, 1, 0, 0, 0, 0) := by decide +kernel
theorem aX12_lay_23 : i_at mX12_lay.2.2.2.2.2 23 = some (.lconst 1, 1, 0, 0, 0, 0) := by decide +kernel
theorem aX12_lay_24 : i_at mX12_lay.2.2.2.2.2 24 = some (.invokestatic 131, 3, 127, 3, 1324, 0) := by decide +kernel
theorem aX12_lay_27 : i_at mX12_lay.2.2.2.2.2 27 = some (.ifCond .ne 6, 3, 33, 0, 0, 0) := by decide +kernel
theorem aX12_lay_30 : i_at mX12_lay.2.2.2.2.2 30 = some (.bipush (-2), 2, 0, 0, 0, 0) := by decide +kernel
theorem aX12_lay_32 : i_at mX12_lay.2.2.2.2.2 32 = some (.ireturn, 1, 0, 0, 0, 0) := by decide +kernel
theorem aX12_lay_33 : i_at mX12_lay.2.2.2.2.2 33 = some (.iconst (-1), 1, 0, 0, 0, 0) := by decide +kernel
theorem aX12_lay_34 : i_at mX12_lay.2.2.2.2.2 34 = some (.istore 4, 2, 0, 0, 0, 0) := by decide +kernel
theorem aX12_lay_36 : i_at mX12_lay.2.2.2.2.2 36 = some (.iconst (-1), 1, 0, 0, 0, 0) := by decide +kernel
theorem aX12_lay_37 : i_at mX12_lay.2.2.2.2.2 37 = some (.istore 5, 2, 0, 0, 0, 0) := by decide +kernel
theorem aX12_lay_39 : i_at mX12_lay.2.2.2.2.2 39 = some (.aload_n 0, 1, 0, 0, 0, 0) := by decide +kernel
theorem aX12_lay_40 : i_at mX12_lay.2.2.2.2.2 40 = some (.invokevirtual 410, 3, 196, 0, 1545, 0) := by decide +kernel
theorem aX12_lay_43 : i_at mX12_lay.2.2.2.2.2 43 = some (.iconst (-1), 1, 0, 0, 0, 0) := by decide +kernel
theorem aX12_lay_44 : i_at mX12_lay.2.2.2.2.2 44 = some (.istore 6, 2, 0, 0, 0, 0) := by decide +kernel
theorem aX12_lay_46 : i_at mX12_lay.2.2.2.2.2 46 = some (.iload 6, 2, 0, 0, 0, 0) := by decide +kernel
theorem aX12_lay_48 : i_at mX12_lay.2.2.2.2.2 48 = some (.aload_n 0, 1, 0, 0, 0, 0) := by decide +kernel
theorem aX12_lay_49 : i_at mX12_lay.2.2.2.2.2 49 = some (.getfield 9, 3, 11, 1, 1088, 0) := by decide +kernel
theorem aX12_lay_52 : i_at mX12_lay.2.2.2.2.2 52 = some (.iconst 2, 1, 0, 0, 0, 0) := by decide +kernel
theorem aX12_lay_53 : i_at mX12_lay.2.2.2.2.2 53 = some (.iaload, 1, 0, 0, 0, 0) := by decide +kernel
theorem aX12_lay_54 : i_at mX12_lay.2.2.2.2.2 54 = some (.if_icmp .ge 48, 3, 102, 0, 0, 0) := by decide +kernel
theorem aX12_lay_57 : i_at mX12_lay.2.2.2.2.2 57 = some (.aload_n 0, 1, 0, 0, 0, 0) := by decide +kernel
theorem aX12_lay_58 : i_at mX12_lay.2.2.2.2.2 58 = some (.getfield 9, 3, 11, 1, 1088, 0) := by decide +kernel
theorem aX12_lay_61 : i_at mX12_lay.2.2.2.2.2 61 = some (.bipush 6, 2, 0, 0, 0, 0) := by decide +kernel
theorem aX12_lay_63 : i_at mX12_lay.2.2.2.2.2 63 = some (.iload 6, 2, 0, 0, 0, 0) := by decide +kernel
theorem aX12_lay_65 : i_at mX12_lay.2.2.2.2.2 65 = some (.iastore, 1, 0, 0, 0, 0) := by decide +kernel
theorem aX12_lay_66 : i_at mX12_lay.2.2.2.2.2 66 = some (.aload_n 0, 1, 0, 0, 0, 0) := by decide +kernel
theorem aX12_lay_67 : i_at mX12_lay.2.2.2.2.2 67 = some (.iload_n 2, 1, 0, 0, 0, 0) := by decide +kernel
theorem aX12_lay_68 : i_at mX12_lay.2.2.2.2.2 68 = some (.invokevirtual 413, 3, 184, 1, 1557, 0) := by decide +kernel
theorem aX12_lay_71 : i_at mX12_lay.2.2.2.2.2 71 = some (.aload_n 0, 1, 0, 0, 0, 0) := by decide +kernel
theorem aX12_lay_72 : i_at mX12_lay.2.2.2.2.2 72 = some (.iload_n 1, 1, 0, 0, 0, 0) := by decide +kernel
theorem aX12_lay_73 : i_at mX12_lay.2.2.2.2.2 73 = some (.invokevirtual 354, 3, 177, 1, 1450, 0) := by decide +kernel
theorem aX12_lay_76 : i_at mX12_lay.2.2.2.2.2 76 = some (.iload 5, 2, 0, 0, 0, 0) := by decide +kernel
theorem aX12_lay_78 : i_at mX12_lay.2.2.2.2.2 78 = some (.if_icmp .le 14, 3, 92, 0, 0, 0) := by decide +kernel
theorem aX12_lay_81 : i_at mX12_lay.2.2.2.2.2 81 = some (.iload 6, 2, 0, 0, 0, 0) := by decide +kernel
theorem aX12_lay_83 : i_at mX12_lay.2.2.2.2.2 83 = some (.istore 4, 2, 0, 0, 0, 0) := by decide +kernel
theorem aX12_lay_85 : i_at mX12_lay.2.2.2.2.2 85 = some (.aload_n 0, 1, 0, 0, 0, 0) := by decide +kernel
theorem aX12_lay_86 : i_at mX12_lay.2.2.2.2.2 86 = some (.iload_n 1, 1, 0, 0, 0, 0) := by decide +kernel
theorem aX12_lay_87 : i_at mX12_lay.2.2.2.2.2 87 = some (.invokevirtual 354, 3, 177, 1, 1450, 0) := by decide +kernel
theorem aX12_lay_90 : i_at mX12_lay.2.2.2.2.2 90 = some (.istore 5, 2, 0, 0, 0, 0) := by decide +kernel
theorem aX12_lay_92 : i_at mX12_lay.2.2.2.2.2 92 = some (.aload_n 0, 1, 0, 0, 0, 0) := by decide +kernel
theorem aX12_lay_93 : i_at mX12_lay.2.2.2.2.2 93 = some (.invokevirtual 416, 3, 197, 0, 1561, 0) := by decide +kernel
theorem aX12_lay_96 : i_at mX12_lay.2.2.2.2.2 96 = some (.iinc 6 1, 3, 0, 0, 0, 0) := by decide +kernel
theorem aX12_lay_99 : i_at mX12_lay.2.2.2.2.2 99 = some (.goto (-53), 3, 46, 0, 0, 0) := by decide +kernel
theorem aX12_lay_102 : i_at mX12_lay.2.2.2.2.2 102 = some (.iload_n 3, 1, 0, 0, 0, 0) := by decide +kernel
theorem aX12_lay_103 : i_at mX12_lay.2.2.2.2.2 103 = some (.ifCond .ne 8, 3, 111, 0, 0, 0) := by decide +kernel
theorem aX12_lay_106 : i_at mX12_lay.2.2.2.2.2 106 = some (.iload 4, 2, 0, 0, 0, 0) := by decide +kernel
theorem aX12_lay_108 : i_at mX12_lay.2.2.2.2.2 108 = some (.goto 5, 3, 113, 0, 0, 0) := by decide +kernel
theorem aX12_lay_111 : i_at mX12_lay.2.2.2.2.2 111 = some (.iload 5, 2, 0, 0, 0, 0) := by decide +kernel
theorem aX12_lay_113 : i_at mX12_lay.2.2.2.2.2 113 = some (.ireturn, 1, 0, 0, 0, 0) := by decide +kernel
noncomputable def fX12_lay_J92 (sh : List kd) (p1 : Int32) (p2 : Int32) (p3 : Int32) (x18 : Int32) (k46 : Int32 → Int32 → Int32 → St → Option (Int32 × St)) (x134 : Int32) (x135 : Int32) (s136 : St) : Option (Int32 × St) := i_bd (fX12_laysBack sh s136) (fun r137 s138 => k46 x134 x135 (x18 + 1) s138)
noncomputable def fX12_lay_L46 (sh : List kd) (p1 : Int32) (p2 : Int32) (p3 : Int32) (k102 : Int32 → Int32 → Int32 → St → Option (Int32 × St)) : Nat → Int32 → Int32 → Int32 → St → Option (Int32 × St)
  | 0, _, _, _, _ => none
  | n74 + 1, x16, x17, x18, s19 => if i_ok 2 11 then if (s19.2.1 1 (2 : Int32).toNatClampNeg) ≤ x18 then k102 x16 x17 x18 s19 else if i_ok 6 11 then i_bd (fX12_goFor sh (s_A s19 1 (6 : Int32).toNatClampNeg x18) p2) (fun r78 s79 => i_bd (fX12_rankOf sh s79 p1) (fun r81 s82 => if r81 ≤ x17 then fX12_lay_J92 sh p1 p2 p3 x18 (fX12_lay_L46 sh p1 p2 p3 k102 n74) x16 x17 s82 else i_bd (fX12_rankOf sh s82 p1) (fun r141 s142 => fX12_lay_J92 sh p1 p2 p3 x18 (fX12_lay_L46 sh p1 p2 p3 k102 n74) x18 r141 s142))) else none else none
noncomputable def fX12_lay_X102 (sh : List kd) (p1 : Int32) (p2 : Int32) (p3 : Int32) (x70 : Int32) (x71 : Int32) (x72 : Int32) (s73 : St) : Option (Int32 × St) := some (((if ¬ p3 = 0 then x71 else x70) : Int32), s73)
noncomputable def fX12_lay (sh : List kd) (σ : St) (p1 : Int32) (p2 : Int32) (p3 : Int32) : Option (Int32 × St) := i_bd (fX12_isPerson sh σ p1) (fun r1 s2 => if r1 = 0 then some ((-2), s2) else i_bd (fX12_in sh s2 p2.toInt64 1 60) (fun r5 s6 => if r5 = 0 then some ((-2), s6) else i_bd (fX12_in sh s6 p3.toInt64 0 1) (fun r9 s10 => if ¬ r9 = 0 then i_bd (fX12_keepsAll sh s10) (fun r13 s14 => fX12_lay_L46 sh p1 p2 p3 (fun (x70 : Int32) (x71 : Int32) (x72 : Int32) (s73 : St) => fX12_lay_X102 sh p1 p2 p3 x70 x71 x72 s73) i_F (-1) (-1) (-1) s14) else some ((-2), s10))))
set_option maxRecDepth 20000 in
set_option maxHeartbeats 2000000 in
theorem tX12_lay_J92 {sh : List kd} {τ : St} {r : Int32} (hsh : rmSh sh) {p1 : Int32} {p2 : Int32} {p3 : Int32} {x18 : Int32} {x134 : Int32} {x135 : Int32} {s136 : St} {k46 : Int32 → Int32 → Int32 → St → Option (Int32 × St)} (hk46 : ∀ (x16 : Int32) (x17 : Int32) (x18 : Int32) (s19 : St), k46 x16 x17 x18 s19 = some (r, τ) → g_R sh 8 mX12_lay (some (.int r)) τ 46 [.ref 0, .int p1, .int p2, .int p3, .int x16, .int x17, .int x18] [] (s19)) (hE : fX12_lay_J92 sh p1 p2 p3 x18 k46 x134 x135 s136 = some (r, τ)) : g_R sh 8 mX12_lay (some (.int r)) τ 92 [.ref 0, .int p1, .int p2, .int p3, .int x134, .int x135, .int x18] [] (s136) := by
  unfold fX12_lay_J92 at hE
  refine g_ldan aX12_lay_92 rfl ?_
  obtain ⟨r137, s138, h139, hE⟩ := i_bd_some hE
  refine g_calV (As := []) (rest := []) aX12_lay_93 (i_X_mono (by omega) (tX12_laysBack hsh h139)) (sR_0 hsh) (by decide +kernel) rfl rfl (Nat.le_of_ble_eq_true rfl) rfl ?_
  refine g_iinc (y := 1) (loc2 := [.ref 0, .int p1, .int p2, .int p3, .int x134, .int x135, .int (x18 + 1)]) aX12_lay_96 rfl rfl rfl ?_
  refine g_goto aX12_lay_99 ?_
  exact hk46 _ _ _ _ hE
set_option maxRecDepth 20000 in
set_option maxHeartbeats 2000000 in
theorem tX12_lay_L46 {sh : List kd} {τ : St} {r : Int32} (hsh : rmSh sh) {p1 : Int32} {p2 : Int32} {p3 : Int32} {k102 : Int32 → Int32 → Int32 → St → Option (Int32 × St)} (hk102 : ∀ (x70 : Int32) (x71 : Int32) (x72 : Int32) (s73 : St), k102 x70 x71 x72 s73 = some (r, τ) → g_R sh 8 mX12_lay (some (.int r)) τ 102 [.ref 0, .int p1, .int p2, .int p3, .int x70, .int x71, .int x72] [] (s73)) : ∀ (n0 : Nat) (x16 : Int32) (x17 : Int32) (x18 : Int32) (s19 : St), fX12_lay_L46 sh p1 p2 p3 k102 n0 x16 x17 x18 s19 = some (r, τ) → g_R sh 8 mX12_lay (some (.int r)) τ 46 [.ref 0, .int p1, .int p2, .int p3, .int x16, .int x17, .int x18] [] (s19) := by
  intro n0
  induction n0 with
  | zero => intro _ _ _ _ hE; cases hE
  | succ n74 ih =>
    intro x16 x17 x18 s19 hE
    unfold fX12_lay_L46 at hE
    refine g_ldi aX12_lay_46 rfl ?_
    refine g_ldan aX12_lay_48 rfl ?_
    refine g_getR aX12_lay_49 (sR_0 hsh) rfl ?_
    refine g_iconst (x := 2) aX12_lay_52 rfl ?_
    obtain ⟨h75, hE⟩ := i_ifn hE
    refine g_ild aX12_lay_53 (sR_1 hsh) h75 ?_
    by_cases hc76 : (s19.2.1 1 (2 : Int32).toNatClampNeg) ≤ x18
    · rw [if_pos hc76] at hE
      refine g_ic_ge_t aX12_lay_54 hc76 ?_
      exact hk102 _ _ _ _ hE
    · rw [if_neg hc76] at hE
      refine g_ic_ge_f aX12_lay_54 hc76 ?_
      refine g_ldan aX12_lay_57 rfl ?_
      refine g_getR aX12_lay_58 (sR_0 hsh) rfl ?_
      refine g_bipush (x := 6) aX12_lay_61 rfl ?_
      refine g_ldi aX12_lay_63 rfl ?_
      obtain ⟨h77, hE⟩ := i_ifn hE
      refine g_ist aX12_lay_65 (sR_1 hsh) h77 ?_
      refine g_ldan aX12_lay_66 rfl ?_
      refine g_ldin aX12_lay_67 rfl ?_
      obtain ⟨r78, s79, h80, hE⟩ := i_bd_some hE
      refine g_calV (As := [.int p2]) (rest := []) aX12_lay_68 (i_X_mono (by omega) (tX12_goFor hsh h80)) (sR_0 hsh) (by decide +kernel) rfl rfl (Nat.le_of_ble_eq_true rfl) rfl ?_
      refine g_ldan aX12_lay_71 rfl ?_
      refine g_ldin aX12_lay_72 rfl ?_
      obtain ⟨r81, s82, h83, hE⟩ := i_bd_some hE
      refine g_calV (As := [.int p1]) (rest := []) aX12_lay_73 (i_X_mono (by omega) (tX12_rankOf hsh h83)) (sR_0 hsh) (by decide +kernel) rfl rfl (Nat.le_of_ble_eq_true rfl) rfl ?_
      refine g_ldi aX12_lay_76 rfl ?_
      by_cases hc140 : r81 ≤ x17
      · rw [if_pos hc140] at hE
        refine g_ic_le_t aX12_lay_78 hc140 ?_
        exact tX12_lay_J92 hsh ih hE
      · rw [if_neg hc140] at hE
        refine g_ic_le_f aX12_lay_78 hc140 ?_
        refine g_ldi aX12_lay_81 rfl ?_
        refine g_sti (loc2 := [.ref 0, .int p1, .int p2, .int p3, .int x18, .int x17, .int x18]) aX12_lay_83 (Nat.le_of_ble_eq_true rfl) rfl ?_
        refine g_ldan aX12_lay_85 rfl ?_
        refine g_ldin aX12_lay_86 rfl ?_
        obtain ⟨r141, s142, h143, hE⟩ := i_bd_some hE
        refine g_calV (As := [.int p1]) (rest := []) aX12_lay_87 (i_X_mono (by omega) (tX12_rankOf hsh h143)) (sR_0 hsh) (by decide +kernel) rfl rfl (Nat.le_of_ble_eq_true rfl) rfl ?_
        refine g_sti (loc2 := [.ref 0, .int p1, .int p2, .int p3, .int x18, .int r141, .int x18]) aX12_lay_90 (Nat.le_of_ble_eq_true rfl) rfl ?_
        exact tX12_lay_J92 hsh ih hE
set_option maxRecDepth 20000 in
set_option maxHeartbeats 2000000 in
theorem tX12_lay_X102 {sh : List kd} {τ : St} {r : Int32} (hsh : rmSh sh) {p1 : Int32} {p2 : Int32} {p3 : Int32} {x70 : Int32} {x71 : Int32} {x72 : Int32} {s73 : St} (hE : fX12_lay_X102 sh p1 p2 p3 x70 x71 x72 s73 = some (r, τ)) : g_R sh 8 mX12_lay (some (.int r)) τ 102 [.ref 0, .int p1, .int p2, .int p3, .int x70, .int x71, .int x72] [] (s73) := by
  unfold fX12_lay_X102 at hE
  refine g_ldin aX12_lay_102 rfl ?_
  have hJ : g_R sh 8 mX12_lay (some (.int r)) τ 113 [.ref 0, .int p1, .int p2, .int p3, .int x70, .int x71, .int x72] [.int ((if ¬ p3 = 0 then x71 else x70) : Int32)] (s73) := by
    obtain ⟨rfl, rfl⟩ := i_some_inj hE
    exact g_iret aX12_lay_113 rfl rfl
  clear hE
  by_cases hc143 : ¬ p3 = 0
  · (try rw [if_pos hc143] at hJ)
    refine g_if_ne_t aX12_lay_103 hc143 ?_
    refine g_ldi aX12_lay_111 rfl ?_
    exact hJ
  · (try rw [if_neg hc143] at hJ)
    refine g_if_ne_f aX12_lay_103 hc143 ?_
    refine g_ldi aX12_lay_106 rfl ?_
    refine g_goto aX12_lay_108 ?_
    exact hJ
set_option maxRecDepth 20000 in
set_option maxHeartbeats 2000000 in
theorem tX12_lay {sh : List kd} {σ τ : St} {r : Int32} (hsh : rmSh sh) {p1 : Int32} {p2 : Int32} {p3 : Int32} (hE : fX12_lay sh σ p1 p2 p3 = some (r, τ)) : i_X 9 203 [.ref 0, .int p1, .int p2, .int p3] (s_h sh σ) 0 0 (some (.int r)) (s_h sh τ) := by
  refine g_X (M := mX12_lay) (loc := [.ref 0, .int p1, .int p2, .int p3, .retAddr 0, .retAddr 0, .retAddr 0]) rfl (Nat.le_of_ble_eq_true rfl) rfl ?_
  unfold fX12_lay at hE
  refine g_ldan aX12_lay_0 rfl ?_
  refine g_ldin aX12_lay_1 rfl ?_
  obtain ⟨r1, s2, h3, hE⟩ := i_bd_some hE
  refine g_calV (As := [.int p1]) (rest := []) aX12_lay_2 (i_X_mono (by omega) (tX12_isPerson hsh h3)) (sR_0 hsh) (by decide +kernel) rfl rfl (Nat.le_of_ble_eq_true rfl) rfl ?_
  by_cases hc4 : r1 = 0
  · rw [if_pos hc4] at hE
    refine g_if_eq_t aX12_lay_5 hc4 ?_
    refine g_bipush (x := (-2)) aX12_lay_30 rfl ?_
    obtain ⟨rfl, rfl⟩ := i_some_inj hE
    exact g_iret aX12_lay_32 rfl rfl
  · rw [if_neg hc4] at hE
    refine g_if_eq_f aX12_lay_5 hc4 ?_
    refine g_ldin aX12_lay_8 rfl ?_
    refine g_i2l aX12_lay_9 ?_
    refine g_lconst (x := 1) aX12_lay_10 rfl ?_
    refine g_ldc2 (x := 60) aX12_lay_11 rfl ?_
    obtain ⟨r5, s6, h7, hE⟩ := i_bd_some hE
    refine g_calS (As := [.long p2.toInt64, .long 1, .long 60]) (rest := []) aX12_lay_14 (i_X_mono (by omega) (tX12_in hsh h7)) rfl rfl (Nat.le_of_ble_eq_true rfl) rfl ?_
    by_cases hc8 : r5 = 0
    · rw [if_pos hc8] at hE
      refine g_if_eq_t aX12_lay_17 hc8 ?_
      refine g_bipush (x := (-2)) aX12_lay_30 rfl ?_
      obtain ⟨rfl, rfl⟩ := i_some_inj hE
      exact g_iret aX12_lay_32 rfl rfl
    · rw [if_neg hc8] at hE
      refine g_if_eq_f aX12_lay_17 hc8 ?_
      refine g_ldin aX12_lay_20 rfl ?_
      refine g_i2l aX12_lay_21 ?_
      refine g_lconst (x := 0) aX12_lay_22 rfl ?_
      refine g_lconst (x := 1) aX12_lay_23 rfl ?_
      obtain ⟨r9, s10, h11, hE⟩ := i_bd_some hE
      refine g_calS (As := [.long p3.toInt64, .long 0, .long 1]) (rest := []) aX12_lay_24 (i_X_mono (by omega) (tX12_in hsh h11)) rfl rfl (Nat.le_of_ble_eq_true rfl) rfl ?_
      by_cases hc12 : ¬ r9 = 0
      · rw [if_pos hc12] at hE
        refine g_if_ne_t aX12_lay_27 hc12 ?_
        refine g_iconst (x := (-1)) aX12_lay_33 rfl ?_
        refine g_sti (loc2 := [.ref 0, .int p1, .int p2, .int p3, .int (-1), .retAddr 0, .retAddr 0]) aX12_lay_34 (Nat.le_of_ble_eq_true rfl) rfl ?_
        refine g_iconst (x := (-1)) aX12_lay_36 rfl ?_
        refine g_sti (loc2 := [.ref 0, .int p1, .int p2, .int p3, .int (-1), .int (-1), .retAddr 0]) aX12_lay_37 (Nat.le_of_ble_eq_true rfl) rfl ?_
        refine g_ldan aX12_lay_39 rfl ?_
        obtain ⟨r13, s14, h15, hE⟩ := i_bd_some hE
        refine g_calV (As := []) (rest := []) aX12_lay_40 (i_X_mono (by omega) (tX12_keepsAll hsh h15)) (sR_0 hsh) (by decide +kernel) rfl rfl (Nat.le_of_ble_eq_true rfl) rfl ?_
        refine g_iconst (x := (-1)) aX12_lay_43 rfl ?_
        refine g_sti (loc2 := [.ref 0, .int p1, .int p2, .int p3, .int (-1), .int (-1), .int (-1)]) aX12_lay_44 (Nat.le_of_ble_eq_true rfl) rfl ?_
        exact tX12_lay_L46 hsh (fun x70 x71 x72 s73 hE => tX12_lay_X102 hsh hE) i_F _ _ _ _ hE
      · rw [if_neg hc12] at hE
        refine g_if_ne_f aX12_lay_27 hc12 ?_
        refine g_bipush (x := (-2)) aX12_lay_30 rfl ?_
        obtain ⟨rfl, rfl⟩ := i_some_inj hE
        exact g_iret aX12_lay_32 rfl rfl
