/-! X12_years X1_readClause X3_bestHour X7_worth X8_openClause X8_readComparing -/
theorem aX12_years_0 : i_at mX12_years.2.2.2.2.2 0 = some (.aload_n 0, 1, 0, 0, 0, 0) := by decide +kernel
theorem aX12_years_1 : i_at mX12_years.2.2.2.2.2 1 = some (.invokevirtual 345, 3, 130, 0, 1438, 0) := by decide +kernel
theorem aX12_years_4 : i_at mX12_years.2.2.2.2.2 4 = some (.ifCond .eq 50, 3, 54, 0, 0, 0) := by decide +kernel
theorem aX12_years_7 : i_at mX12_years.2.2.2.2.2 7 = some (.iload_n 1, 1, 0, 0, 0, 0) := by decide +kernel
theorem aX12_years_8 : i_at mX12_years.2.2.2.2.2 8 = some (.i2l, 1, 0, 0, 0, 0) := by decide +kernel
theorem aX12_years_9 : i_at mX12_years.2.2.2.2.2 9 = some (.lconst 1, 1, 0, 0, 0, 0) := by decide +kernel
theorem aX12_years_10 : i_at mX12_years.2.2.2.2.2 10 = some (.ldc2_w 462, 3, 0, 0, 1665, 10) := by decide +kernel
theorem aX12_years_13 : i_at mX12_years.2.2.2.2.2 13 = some (.invokestatic 131, 3, 127, 3, 1324, 0) := by decide +kernel
theorem aX12_years_16 : i_at mX12_years.2.2.2.2.2 16 = some (.ifCond .eq 38, 3, 54, 0, 0, 0) := by decide +kernel
theorem aX12_years_19 : i_at mX12_years.2.2.2.2.2 19 = some (.iload_n 2, 1, 0, 0, 0, 0) := by decide +kernel
theorem aX12_years_20 : i_at mX12_years.2.2.2.2.2 20 = some (.i2l, 1, 0, 0, 0, 0) := by decide +kernel
theorem aX12_years_21 : i_at mX12_years.2.2.2.2.2 21 = some (.lconst 1, 1, 0, 0, 0, 0) := by decide +kernel
theorem aX12_years_22 : i_at mX12_years.2.2.2.2.2 22 = some (.ldc2_w 419, 3, 0, 0, 1573, 60) := by decide +kernel
theorem aX12_years_25 : i_at mX12_years.2.2.2.2.2 25 = some (.invokestatic 131, 3, 127, 3, 1324, 0) := by decide +kernel
theorem aX12_years_28 : i_at mX12_years.2.2.2.2.2 28 = some (.ifCond .eq 26, 3, 54, 0, 0, 0) := by decide +kernel
theorem aX12_years_31 : i_at mX12_years.2.2.2.2.2 31 = some (.iload_n 3, 1, 0, 0, 0, 0) := by decide +kernel
theorem aX12_years_32 : i_at mX12_years.2.2.2.2.2 32 = some (.i2l, 1, 0, 0, 0, 0) := by decide +kernel
theorem aX12_years_33 : i_at mX12_years.2.2.2.2.2 33 = some (.lconst 0, 1, 0, 0, 0, 0) := by decide +kernel
theorem aX12_years_34 : i_at mX12_years.2.2.2.2.2 34 = some (.ldc2_w 408, 3, 0, 0, 1544, 100) := by decide +kernel
theorem aX12_years_37 : i_at mX12_years.2.2.2.2.2 37 = some (.invokestatic 131, 3, 127, 3, 1324, 0) := by decide +kernel
theorem aX12_years_40 : i_at mX12_years.2.2.2.2.2 40 = some (.ifCond .eq 14, 3, 54, 0, 0, 0) := by decide +kernel
theorem aX12_years_43 : i_at mX12_years.2.2.2.2.2 43 = some (.iload 4, 2, 0, 0, 0, 0) := by decide +kernel
theorem aX12_years_45 : i_at mX12_years.2.2.2.2.2 45 = some (.i2l, 1, 0, 0, 0, 0) := by decide +kernel
theorem aX12_years_46 : i_at mX12_years.2.2.2.2.2 46 = some (.lconst 0, 1, 0, 0, 0, 0) := by decide +kernel
theorem aX12_years_47 : i_at mX12_years.2.2.2.2.2 47 = some (.lconst 1, 1, 0, 0, 0, 0) := by decide +kernel
theorem aX12_years_48 : i_at mX12_years.2.2.2.2.2 48 = some (.invokestatic 131, 3, 127, 3, 1324, 0) := by decide +kernel
theorem aX12_years_51 : i_at mX12_years.2.2.2.2.2 51 = some (.ifCond .ne 5, 3, 56, 0, 0, 0) := by decide +kernel
theorem aX12_years_54 : i_at mX12_years.2.2.2.2.2 54 = some (.iconst (-1), 1, 0, 0, 0, 0) := by decide +kernel
theorem aX12_years_55 : i_at mX12_years.2.2.2.2.2 55 = some (.ireturn, 1, 0, 0, 0, 0) := by decide +kernel
theorem aX12_years_56 : i_at mX12_years.2.2.2.2.2 56 = some (.aload_n 0, 1, 0, 0, 0, 0) := by decide +kernel
theorem aX12_years_57 : i_at mX12_years.2.2.2.2.2 57 = some (.getfield 9, 3, 11, 1, 1088, 0) := by decide +kernel
theorem aX12_years_60 : i_at mX12_years.2.2.2.2.2 60 = some (.bipush 9, 2, 0, 0, 0, 0) := by decide +kernel
theorem aX12_years_62 : i_at mX12_years.2.2.2.2.2 62 = some (.iaload, 1, 0, 0, 0, 0) := by decide +kernel
theorem aX12_years_63 : i_at mX12_years.2.2.2.2.2 63 = some (.istore 5, 2, 0, 0, 0, 0) := by decide +kernel
theorem aX12_years_65 : i_at mX12_years.2.2.2.2.2 65 = some (.iload 5, 2, 0, 0, 0, 0) := by decide +kernel
theorem aX12_years_67 : i_at mX12_years.2.2.2.2.2 67 = some (.istore 6, 2, 0, 0, 0, 0) := by decide +kernel
theorem aX12_years_69 : i_at mX12_years.2.2.2.2.2 69 = some (.iconst 0, 1, 0, 0, 0, 0) := by decide +kernel
theorem aX12_years_70 : i_at mX12_years.2.2.2.2.2 70 = some (.istore 7, 2, 0, 0, 0, 0) := by decide +kernel
theorem aX12_years_72 : i_at mX12_years.2.2.2.2.2 72 = some (.iconst 0, 1, 0, 0, 0, 0) := by decide +kernel
theorem aX12_years_73 : i_at mX12_years.2.2.2.2.2 73 = some (.istore 8, 2, 0, 0, 0, 0) := by decide +kernel
theorem aX12_years_75 : i_at mX12_years.2.2.2.2.2 75 = some (.aload_n 0, 1, 0, 0, 0, 0) := by decide +kernel
theorem aX12_years_76 : i_at mX12_years.2.2.2.2.2 76 = some (.invokevirtual 410, 3, 196, 0, 1545, 0) := by decide +kernel
theorem aX12_years_79 : i_at mX12_years.2.2.2.2.2 79 = some (.iconst 0, 1, 0, 0, 0, 0) := by decide +kernel
theorem aX12_years_80 : i_at mX12_years.2.2.2.2.2 80 = some (.istore 9, 2, 0, 0, 0, 0) := by decide +kernel
theorem aX12_years_82 : i_at mX12_years.2.2.2.2.2 82 = some (.iload 9, 2, 0, 0, 0, 0) := by decide +kernel
theorem aX12_years_84 : i_at mX12_years.2.2.2.2.2 84 = some (.iload_n 1, 1, 0, 0, 0, 0) := by decide +kernel
theorem aX12_years_85 : i_at mX12_years.2.2.2.2.2 85 = some (.if_icmp .ge 121, 3, 206, 0, 0, 0) := by decide +kernel
theorem aX12_years_88 : i_at mX12_years.2.2.2.2.2 88 = some (.aload_n 0, 1, 0, 0, 0, 0) := by decide +kernel
theorem aX12_years_89 : i_at mX12_years.2.2.2.2.2 89 = some (.getfield 9, 3, 11, 1, 1088, 0) := by decide +kernel
theorem aX12_years_92 : i_at mX12_years.2.2.2.2.2 92 = some (.bipush 9, 2, 0, 0, 0, 0) := by decide +kernel
theorem aX12_years_94 : i_at mX12_years.2.2.2.2.2 94 = some (.iload 6, 2, 0, 0, 0, 0) := by decide +kernel
theorem aX12_years_96 : i_at mX12_years.2.2.2.2.2 96 = some (.iastore, 1, 0, 0, 0, 0) := by decide +kernel
theorem aX12_years_97 : i_at mX12_years.2.2.2.2.2 97 = some (.iconst 0, 1, 0, 0, 0, 0) := by decide +kernel
theorem aX12_years_98 : i_at mX12_years.2.2.2.2.2 98 = some (.istore 10, 2, 0, 0, 0, 0) := by decide +kernel
theorem aX12_years_100 : i_at mX12_years.2.2.2.2.2 100 = some (.iload 10, 2, 0, 0, 0, 0) := by decide +kernel
theorem aX12_years_102 : i_at mX12_years.2.2.2.2.2 102 = some (.iload_n 2, 1, 0, 0, 0, 0) := by decide +kernel
theorem aX12_years_103 : i_at mX12_years.2.2.2.2.2 103 = some (.if_icmp .ge 75, 3, 178, 0, 0, 0) := by decide +kernel
theorem aX12_years_106 : i_at mX12_years.2.2.2.2.2 106 = some (.aload_n 0, 1, 0, 0, 0, 0) := by decide +kernel
theorem aX12_years_107 : i_at mX12_years.2.2.2.2.2 107 = some (.bipush 100, 2, 0, 0, 0, 0) := by decide +kernel
theorem aX12_years_109 : i_at mX12_years.2.2.2.2.2 109 = some (.invokevirtual 464, 3, 222, 1, 1666, 0) := by decide +kernel
theorem aX12_years_112 : i_at mX12_years.2.2.2.2.2 112 = some (.iload_n 3, 1, 0, 0, 0, 0) := by decide +kernel
theorem aX12_years_113 : i_at mX12_years.2.2.2.2.2 113 = some (.if_icmp .ge 29, 3, 142, 0, 0, 0) := by decide +kernel
theorem aX12_years_116 : i_at mX12_years.2.2.2.2.2 116 = some (.aload_n 0, 1, 0, 0, 0, 0) := by decide +kernel
theorem aX12_years_117 : i_at mX12_years.2.2.2.2.2 117 = some (.getfield 9, 3, 11, 1, 1088, 0) := by decide +kernel
theorem aX12_years_120 : i_at mX12_years.2.2.2.2.2 120 = some (.iconst 2, 1, 0, 0, 0, 0) := by decide +kernel
theorem aX12_years_121 : i_at mX12_years.2.2.2.2.2 121 = some (.iaload, 1, 0, 0, 0, 0) := by decide +kernel
theorem aX12_years_122 : i_at mX12_years.2.2.2.2.2 122 = some (.ifCond .le 20, 3, 142, 0, 0, 0) := by decide +kernel
theorem aX12_years_125 : i_at mX12_years.2.2.2.2.2 125 = some (.aload_n 0, 1, 0, 0, 0, 0) := by decide +kernel
theorem aX12_years_126 : i_at mX12_years.2.2.2.2.2 126 = some (.getfield 9, 3, 11, 1, 1088, 0) := by decide +kernel
theorem aX12_years_129 : i_at mX12_years.2.2.2.2.2 129 = some (.bipush 6, 2, 0, 0, 0, 0) := by decide +kernel
theorem aX12_years_131 : i_at mX12_years.2.2.2.2.2 131 = some (.aload_n 0, 1, 0, 0, 0, 0) := by decide +kernel
theorem aX12_years_132 : i_at mX12_years.2.2.2.2.2 132 = some (.aload_n 0, 1, 0, 0, 0, 0) := by decide +kernel
theorem aX12_years_133 : i_at mX12_years.2.2.2.2.2 133 = some (.getfield 9, 3, 11, 1, 1088, 0) := by decide +kernel
theorem aX12_years_136 : i_at mX12_years.2.2.2.2.2 136 = some (.iconst 2, 1, 0, 0, 0, 0) := by decide +kernel
theorem aX12_years_137 : i_at mX12_years.2.2.2.2.2 137 = some (.iaload, 1, 0, 0, 0, 0) := by decide +kernel
theorem aX12_years_138 : i_at mX12_years.2.2.2.2.2 138 = some (.invokevirtual 464, 3, 222, 1, 1666, 0) := by decide +kernel
theorem aX12_years_141 : i_at mX12_years.2.2.2.2.2 141 = some (.iastore, 1, 0, 0, 0, 0) := by decide +kernel
theorem aX12_years_142 : i_at mX12_years.2.2.2.2.2 142 = some (.aload_n 0, 1, 0, 0, 0, 0) := by decide +kernel
theorem aX12_years_143 : i_at mX12_years.2.2.2.2.2 143 = some (.invokevirtual 375, 3, 183, 0, 1481, 0) := by decide +kernel
theorem aX12_years_146 : i_at mX12_years.2.2.2.2.2 146 = some (.istore 11, 2, 0, 0, 0, 0) := by decide +kernel
theorem aX12_years_148 : i_at mX12_years.2.2.2.2.2 148 = some (.iload 7, 2, 0, 0, 0, 0) := by decide +kernel
theorem aX12_years_150 : i_at mX12_years.2.2.2.2.2 150 = some (.aload_n 0, 1, 0, 0, 0, 0) := by decide +kernel
theorem aX12_years_151 : i_at mX12_years.2.2.2.2.2 151 = some (.getfield 9, 3, 11, 1, 1088, 0) := by decide +kernel
theorem aX12_years_154 : i_at mX12_years.2.2.2.2.2 154 = some (.iconst 5, 1, 0, 0, 0, 0) := by decide +kernel
theorem aX12_years_155 : i_at mX12_years.2.2.2.2.2 155 = some (.iaload, 1, 0, 0, 0, 0) := by decide +kernel
theorem aX12_years_156 : i_at mX12_years.2.2.2.2.2 156 = some (.iconst (-1), 1, 0, 0, 0, 0) := by decide +kernel
theorem aX12_years_157 : i_at mX12_years.2.2.2.2.2 157 = some (.if_icmp .ne 7, 3, 164, 0, 0, 0) := by decide +kernel
theorem aX12_years_160 : i_at mX12_years.2.2.2.2.2 160 = some (.iconst 0, 1, 0, 0, 0, 0) := by decide +kernel
theorem aX12_years_161 : i_at mX12_years.2.2.2.2.2 161 = some (.goto 8, 3, 169, 0, 0, 0) := by decide +kernel
theorem aX12_years_164 : i_at mX12_years.2.2.2.2.2 164 = some (.iload 11, 2, 0, 0, 0, 0) := by decide +kernel
theorem aX12_years_166 : i_at mX12_years.2.2.2.2.2 166 = some (.invokestatic 359, 3, 128, 1, 1497, 0) := by decide +kernel
theorem aX12_years_169 : i_at mX12_years.2.2.2.2.2 169 = some (.iadd, 1, 0, 0, 0, 0) := by decide +kernel
theorem aX12_years_170 : i_at mX12_years.2.2.2.2.2 170 = some (.istore 7, 2, 0, 0, 0, 0) := by decide +kernel
theorem aX12_years_172 : i_at mX12_years.2.2.2.2.2 172 = some (.iinc 10 1, 3, 0, 0, 0, 0) := by decide +kernel
theorem aX12_years_175 : i_at mX12_years.2.2.2.2.2 175 = some (.goto (-75), 3, 100, 0, 0, 0) := by decide +kernel
theorem aX12_years_178 : i_at mX12_years.2.2.2.2.2 178 = some (.iload 8, 2, 0, 0, 0, 0) := by decide +kernel
theorem aX12_years_180 : i_at mX12_years.2.2.2.2.2 180 = some (.aload_n 0, 1, 0, 0, 0, 0) := by decide +kernel
theorem aX12_years_181 : i_at mX12_years.2.2.2.2.2 181 = some (.invokevirtual 467, 3, 223, 0, 1674, 0) := by decide +kernel
theorem aX12_years_184 : i_at mX12_years.2.2.2.2.2 184 = some (.iadd, 1, 0, 0, 0, 0) := by decide +kernel
theorem aX12_years_185 : i_at mX12_years.2.2.2.2.2 185 = some (.istore 8, 2, 0, 0, 0, 0) := by decide +kernel
theorem aX12_years_187 : i_at mX12_years.2.2.2.2.2 187 = some (.aload_n 0, 1, 0, 0, 0, 0) := by decide +kernel
theorem aX12_years_188 : i_at mX12_years.2.2.2.2.2 188 = some (.getfield 9, 3, 11, 1, 1088, 0) := by decide +kernel
theorem aX12_years_191 : i_at mX12_years.2.2.2.2.2 191 = some (.bipush 9, 2, 0, 0, 0, 0) := by decide +kernel
theorem aX12_years_193 : i_at mX12_years.2.2.2.2.2 193 = some (.iaload, 1, 0, 0, 0, 0) := by decide +kernel
theorem aX12_years_194 : i_at mX12_years.2.2.2.2.2 194 = some (.istore 6, 2, 0, 0, 0, 0) := by decide +kernel
theorem aX12_years_196 : i_at mX12_years.2.2.2.2.2 196 = some (.aload_n 0, 1, 0, 0, 0, 0) := by decide +kernel
theorem aX12_years_197 : i_at mX12_years.2.2.2.2.2 197 = some (.invokevirtual 416, 3, 197, 0, 1561, 0) := by decide +kernel
theorem aX12_years_200 : i_at mX12_years.2.2.2.2.2 200 = some (.iinc 9 1, 3, 0, 0, 0, 0) := by decide +kernel
theorem aX12_years_203 : i_at mX12_years.2.2.2.2.2 203 = some (.goto (-121), 3, 82, 0, 0, 0) := by decide +kernel
theorem aX12_years_206 : i_at mX12_years.2.2.2.2.2 206 = some (.aload_n 0, 1, 0, 0, 0, 0) := by decide +kernel
theorem aX12_years_207 : i_at mX12_years.2.2.2.2.2 207 = some (.getfield 9, 3, 11, 1, 1088, 0) := by decide +kernel
theorem aX12_years_210 : i_at mX12_years.2.2.2.2.2 210 = some (.bipush 9, 2, 0, 0, 0, 0) := by decide +kernel
theorem aX12_years_212 : i_at mX12_years.2.2.2.2.2 212 = some (.iload 5, 2, 0, 0, 0, 0) := by decide +kernel
theorem aX12_years_214 : i_at mX12_years.2.2.2.2.2 214 = some (.iastore, 1, 0, 0, 0, 0) := by decide +kernel
theorem aX12_years_215 : i_at mX12_years.2.2.2.2.2 215 = some (.iload 4, 2, 0, 0, 0, 0) := by decide +kernel
theorem aX12_years_217 : i_at mX12_years.2.2.2.2.2 217 = some (.ifCond .ne 8, 3, 225, 0, 0, 0) := by decide +kernel
theorem aX12_years_220 : i_at mX12_years.2.2.2.2.2 220 = some (.iload 7, 2, 0, 0, 0, 0) := by decide +kernel
theorem aX12_years_222 : i_at mX12_years.2.2.2.2.2 222 = some (.goto 5, 3, 227, 0, 0, 0) := by decide +kernel
theorem aX12_years_225 : i_at mX12_years.2.2.2.2.2 225 = some (.iload 8, 2, 0, 0, 0, 0) := by decide +kernel
theorem aX12_years_227 : i_at mX12_years.2.2.2.2.2 227 = some (.ireturn, 1, 0, 0, 0, 0) := by decide +kernel
noncomputable def fX12_years_J169 (sh : List kd) (p1 : Int32) (p2 : Int32) (p3 : Int32) (p4 : Int32) (s18 : St) (x25 : Int32) (x27 : Int32) (x28 : Int32) (x92 : Int32) (x93 : Int32) (r206 : Int32) (k100 : Int32 → Int32 → Value → St → Option (Int32 × St)) (x260 : Int32) (s261 : St) : Option (Int32 × St) := k100 (x92 + x260) (x93 + 1) (.int r206) s261
noncomputable def fX12_years_J142 (sh : List kd) (p1 : Int32) (p2 : Int32) (p3 : Int32) (p4 : Int32) (s18 : St) (x25 : Int32) (x27 : Int32) (x28 : Int32) (x92 : Int32) (x93 : Int32) (x94 : Value) (k100 : Int32 → Int32 → Value → St → Option (Int32 × St)) (s205 : St) : Option (Int32 × St) := i_bd (fX12_goes sh s205) (fun r206 s207 => if i_ok 5 11 then if ¬ (s207.2.1 1 (5 : Int32).toNatClampNeg) = (-1) then i_bd (fX12_bits sh s207 r206) (fun r263 s264 => fX12_years_J169 sh p1 p2 p3 p4 s18 x25 x27 x28 x92 x93 r206 k100 r263 s264) else fX12_years_J169 sh p1 p2 p3 p4 s18 x25 x27 x28 x92 x93 r206 k100 0 s207 else none)
noncomputable def fX12_years_L100 (sh : List kd) (p1 : Int32) (p2 : Int32) (p3 : Int32) (p4 : Int32) (s18 : St) (x25 : Int32) (x27 : Int32) (x28 : Int32) (k178 : Int32 → Int32 → Value → St → Option (Int32 × St)) : Nat → Int32 → Int32 → Value → St → Option (Int32 × St)
  | 0, _, _, _, _ => none
  | n150 + 1, x92, x93, x94, s95 => if p2 ≤ x93 then k178 x92 x93 x94 s95 else i_bd (fX12_draws sh s95 100) (fun r152 s153 => if p3 ≤ r152 then fX12_years_J142 sh p1 p2 p3 p4 s18 x25 x27 x28 x92 x93 x94 (fX12_years_L100 sh p1 p2 p3 p4 s18 x25 x27 x28 k178 n150) s153 else if i_ok 2 11 then if (s153.2.1 1 (2 : Int32).toNatClampNeg) ≤ 0 then fX12_years_J142 sh p1 p2 p3 p4 s18 x25 x27 x28 x92 x93 x94 (fX12_years_L100 sh p1 p2 p3 p4 s18 x25 x27 x28 k178 n150) s153 else if i_ok 2 11 then i_bd (fX12_draws sh s153 (s153.2.1 1 (2 : Int32).toNatClampNeg)) (fun r270 s271 => if i_ok 6 11 then fX12_years_J142 sh p1 p2 p3 p4 s18 x25 x27 x28 x92 x93 x94 (fX12_years_L100 sh p1 p2 p3 p4 s18 x25 x27 x28 k178 n150) (s_A s271 1 (6 : Int32).toNatClampNeg r270) else none) else none else none)
noncomputable def fX12_years_X178 (sh : List kd) (p1 : Int32) (p2 : Int32) (p3 : Int32) (p4 : Int32) (s18 : St) (x25 : Int32) (x27 : Int32) (x28 : Int32) (k82 : Int32 → Int32 → Int32 → Int32 → Value → Value → St → Option (Int32 × St)) (x146 : Int32) (x147 : Int32) (x148 : Value) (s149 : St) : Option (Int32 × St) := i_bd (fX12_allRank sh s149) (fun r274 s275 => if i_ok 9 11 then i_bd (fX12_laysBack sh s275) (fun r278 s279 => k82 (s275.2.1 1 (9 : Int32).toNatClampNeg) x146 (x27 + r274) (x28 + 1) (.int x147) x148 s279) else none)
noncomputable def fX12_years_L82 (sh : List kd) (p1 : Int32) (p2 : Int32) (p3 : Int32) (p4 : Int32) (s18 : St) (k206 : Int32 → Int32 → Int32 → Int32 → Value → Value → St → Option (Int32 × St)) : Nat → Int32 → Int32 → Int32 → Int32 → Value → Value → St → Option (Int32 × St)
  | 0, _, _, _, _, _, _, _ => none
  | n89 + 1, x25, x26, x27, x28, x29, x30, s31 => if p1 ≤ x28 then k206 x25 x26 x27 x28 x29 x30 s31 else if i_ok 9 11 then fX12_years_L100 sh p1 p2 p3 p4 s18 x25 x27 x28 (fun (x146 : Int32) (x147 : Int32) (x148 : Value) (s149 : St) => fX12_years_X178 sh p1 p2 p3 p4 s18 x25 x27 x28 (fX12_years_L82 sh p1 p2 p3 p4 s18 k206 n89) x146 x147 x148 s149) i_F x26 0 x30 (s_A s31 1 (9 : Int32).toNatClampNeg x25) else none
noncomputable def fX12_years_X206 (sh : List kd) (p1 : Int32) (p2 : Int32) (p3 : Int32) (p4 : Int32) (s18 : St) (x82 : Int32) (x83 : Int32) (x84 : Int32) (x85 : Int32) (x86 : Value) (x87 : Value) (s88 : St) : Option (Int32 × St) := if i_ok 9 11 then some (((if ¬ p4 = 0 then x84 else x83) : Int32), s_A s88 1 (9 : Int32).toNatClampNeg (s18.2.1 1 (9 : Int32).toNatClampNeg)) else none
noncomputable def fX12_years (sh : List kd) (σ : St) (p1 : Int32) (p2 : Int32) (p3 : Int32) (p4 : Int32) : Option (Int32 × St) := i_bd (fX12_isCourt sh σ) (fun r1 s2 => if r1 = 0 then some ((-1), s2) else i_bd (fX12_in sh s2 p1.toInt64 1 10) (fun r5 s6 => if r5 = 0 then some ((-1), s6) else i_bd (fX12_in sh s6 p2.toInt64 1 60) (fun r9 s10 => if r9 = 0 then some ((-1), s10) else i_bd (fX12_in sh s10 p3.toInt64 0 100) (fun r13 s14 => if r13 = 0 then some ((-1), s14) else i_bd (fX12_in sh s14 p4.toInt64 0 1) (fun r17 s18 => if ¬ r17 = 0 then if i_ok 9 11 then i_bd (fX12_keepsAll sh s18) (fun r22 s23 => fX12_years_L82 sh p1 p2 p3 p4 s18 (fun (x82 : Int32) (x83 : Int32) (x84 : Int32) (x85 : Int32) (x86 : Value) (x87 : Value) (s88 : St) => fX12_years_X206 sh p1 p2 p3 p4 s18 x82 x83 x84 x85 x86 x87 s88) i_F (s18.2.1 1 (9 : Int32).toNatClampNeg) 0 0 0 (.retAddr 0) (.retAddr 0) s23) else none else some ((-1), s18))))))
set_option maxRecDepth 20000 in
set_option maxHeartbeats 2000000 in
theorem tX12_years_J169 {sh : List kd} {τ : St} {r : Int32} (hsh : rmSh sh) {p1 : Int32} {p2 : Int32} {p3 : Int32} {p4 : Int32} {s18 : St} {x25 : Int32} {x27 : Int32} {x28 : Int32} {x92 : Int32} {x93 : Int32} {r206 : Int32} {x260 : Int32} {s261 : St} {k100 : Int32 → Int32 → Value → St → Option (Int32 × St)} (hk100 : ∀ (x92 : Int32) (x93 : Int32) (x94 : Value) (s95 : St), k100 x92 x93 x94 s95 = some (r, τ) → g_R sh 7 mX12_years (some (.int r)) τ 100 [.ref 0, .int p1, .int p2, .int p3, .int p4, .int (s18.2.1 1 (9 : Int32).toNatClampNeg), .int x25, .int x92, .int x27, .int x28, .int x93, x94] [] (s95)) (hE : fX12_years_J169 sh p1 p2 p3 p4 s18 x25 x27 x28 x92 x93 r206 k100 x260 s261 = some (r, τ)) : g_R sh 7 mX12_years (some (.int r)) τ 169 [.ref 0, .int p1, .int p2, .int p3, .int p4, .int (s18.2.1 1 (9 : Int32).toNatClampNeg), .int x25, .int x92, .int x27, .int x28, .int x93, .int r206] [.int x260, .int x92] (s261) := by
  unfold fX12_years_J169 at hE
  refine g_iadd aX12_years_169 ?_
  refine g_sti (loc2 := [.ref 0, .int p1, .int p2, .int p3, .int p4, .int (s18.2.1 1 (9 : Int32).toNatClampNeg), .int x25, .int (x92 + x260), .int x27, .int x28, .int x93, .int r206]) aX12_years_170 (Nat.le_of_ble_eq_true rfl) rfl ?_
  refine g_iinc (y := 1) (loc2 := [.ref 0, .int p1, .int p2, .int p3, .int p4, .int (s18.2.1 1 (9 : Int32).toNatClampNeg), .int x25, .int (x92 + x260), .int x27, .int x28, .int (x93 + 1), .int r206]) aX12_years_172 rfl rfl rfl ?_
  refine g_goto aX12_years_175 ?_
  exact hk100 _ _ _ _ hE
set_option maxRecDepth 20000 in
set_option maxHeartbeats 2000000 in
theorem tX12_years_J142 {sh : List kd} {τ : St} {r : Int32} (hsh : rmSh sh) {p1 : Int32} {p2 : Int32} {p3 : Int32} {p4 : Int32} {s18 : St} {x25 : Int32} {x27 : Int32} {x28 : Int32} {x92 : Int32} {x93 : Int32} {x94 : Value} {s205 : St} {k100 : Int32 → Int32 → Value → St → Option (Int32 × St)} (hk100 : ∀ (x92 : Int32) (x93 : Int32) (x94 : Value) (s95 : St), k100 x92 x93 x94 s95 = some (r, τ) → g_R sh 7 mX12_years (some (.int r)) τ 100 [.ref 0, .int p1, .int p2, .int p3, .int p4, .int (s18.2.1 1 (9 : Int32).toNatClampNeg), .int x25, .int x92, .int x27, .int x28, .int x93, x94] [] (s95)) (hE : fX12_years_J142 sh p1 p2 p3 p4 s18 x25 x27 x28 x92 x93 x94 k100 s205 = some (r, τ)) : g_R sh 7 mX12_years (some (.int r)) τ 142 [.ref 0, .int p1, .int p2, .int p3, .int p4, .int (s18.2.1 1 (9 : Int32).toNatClampNeg), .int x25, .int x92, .int x27, .int x28, .int x93, x94] [] (s205) := by
  unfold fX12_years_J142 at hE
  refine g_ldan aX12_years_142 rfl ?_
  obtain ⟨r206, s207, h208, hE⟩ := i_bd_some hE
  refine g_calV (As := []) (rest := []) aX12_years_143 (i_X_mono (by omega) (tX12_goes hsh h208)) (sR_0 hsh) (by decide +kernel) rfl rfl (Nat.le_of_ble_eq_true rfl) rfl ?_
  refine g_sti (loc2 := [.ref 0, .int p1, .int p2, .int p3, .int p4, .int (s18.2.1 1 (9 : Int32).toNatClampNeg), .int x25, .int x92, .int x27, .int x28, .int x93, .int r206]) aX12_years_146 (Nat.le_of_ble_eq_true rfl) rfl ?_
  refine g_ldi aX12_years_148 rfl ?_
  refine g_ldan aX12_years_150 rfl ?_
  refine g_getR aX12_years_151 (sR_0 hsh) rfl ?_
  refine g_iconst (x := 5) aX12_years_154 rfl ?_
  obtain ⟨h209, hE⟩ := i_ifn hE
  refine g_ild aX12_years_155 (sR_1 hsh) h209 ?_
  refine g_iconst (x := (-1)) aX12_years_156 rfl ?_
  by_cases hc262 : ¬ (s207.2.1 1 (5 : Int32).toNatClampNeg) = (-1)
  · rw [if_pos hc262] at hE
    refine g_ic_ne_t aX12_years_157 hc262 ?_
    refine g_ldi aX12_years_164 rfl ?_
    obtain ⟨r263, s264, h265, hE⟩ := i_bd_some hE
    refine g_calS (As := [.int r206]) (rest := [.int x92]) aX12_years_166 (i_X_mono (by omega) (tX12_bits hsh h265)) rfl rfl (Nat.le_of_ble_eq_true rfl) rfl ?_
    exact tX12_years_J169 hsh hk100 hE
  · rw [if_neg hc262] at hE
    refine g_ic_ne_f aX12_years_157 hc262 ?_
    refine g_iconst (x := 0) aX12_years_160 rfl ?_
    refine g_goto aX12_years_161 ?_
    exact tX12_years_J169 hsh hk100 hE
set_option maxRecDepth 20000 in
set_option maxHeartbeats 2000000 in
theorem tX12_years_L100 {sh : List kd} {τ : St} {r : Int32} (hsh : rmSh sh) {p1 : Int32} {p2 : Int32} {p3 : Int32} {p4 : Int32} {s18 : St} {x25 : Int32} {x27 : Int32} {x28 : Int32} {k178 : Int32 → Int32 → Value → St → Option (Int32 × St)} (hk178 : ∀ (x146 : Int32) (x147 : Int32) (x148 : Value) (s149 : St), k178 x146 x147 x148 s149 = some (r, τ) → g_R sh 7 mX12_years (some (.int r)) τ 178 [.ref 0, .int p1, .int p2, .int p3, .int p4, .int (s18.2.1 1 (9 : Int32).toNatClampNeg), .int x25, .int x146, .int x27, .int x28, .int x147, x148] [] (s149)) : ∀ (n0 : Nat) (x92 : Int32) (x93 : Int32) (x94 : Value) (s95 : St), fX12_years_L100 sh p1 p2 p3 p4 s18 x25 x27 x28 k178 n0 x92 x93 x94 s95 = some (r, τ) → g_R sh 7 mX12_years (some (.int r)) τ 100 [.ref 0, .int p1, .int p2, .int p3, .int p4, .int (s18.2.1 1 (9 : Int32).toNatClampNeg), .int x25, .int x92, .int x27, .int x28, .int x93, x94] [] (s95) := by
  intro n0
  induction n0 with
  | zero => intro _ _ _ _ hE; cases hE
  | succ n150 ih =>
    intro x92 x93 x94 s95 hE
    unfold fX12_years_L100 at hE
    refine g_ldi aX12_years_100 rfl ?_
    refine g_ldin aX12_years_102 rfl ?_
    by_cases hc151 : p2 ≤ x93
    · rw [if_pos hc151] at hE
      refine g_ic_ge_t aX12_years_103 hc151 ?_
      exact hk178 _ _ _ _ hE
    · rw [if_neg hc151] at hE
      refine g_ic_ge_f aX12_years_103 hc151 ?_
      refine g_ldan aX12_years_106 rfl ?_
      refine g_bipush (x := 100) aX12_years_107 rfl ?_
      obtain ⟨r152, s153, h154, hE⟩ := i_bd_some hE
      refine g_calV (As := [.int 100]) (rest := []) aX12_years_109 (i_X_mono (by omega) (tX12_draws hsh h154)) (sR_0 hsh) (by decide +kernel) rfl rfl (Nat.le_of_ble_eq_true rfl) rfl ?_
      refine g_ldin aX12_years_112 rfl ?_
      by_cases hc266 : p3 ≤ r152
      · rw [if_pos hc266] at hE
        refine g_ic_ge_t aX12_years_113 hc266 ?_
        exact tX12_years_J142 hsh ih hE
      · rw [if_neg hc266] at hE
        refine g_ic_ge_f aX12_years_113 hc266 ?_
        refine g_ldan aX12_years_116 rfl ?_
        refine g_getR aX12_years_117 (sR_0 hsh) rfl ?_
        refine g_iconst (x := 2) aX12_years_120 rfl ?_
        obtain ⟨h267, hE⟩ := i_ifn hE
        refine g_ild aX12_years_121 (sR_1 hsh) h267 ?_
        by_cases hc268 : (s153.2.1 1 (2 : Int32).toNatClampNeg) ≤ 0
        · rw [if_pos hc268] at hE
          refine g_if_le_t aX12_years_122 hc268 ?_
          exact tX12_years_J142 hsh ih hE
        · rw [if_neg hc268] at hE
          refine g_if_le_f aX12_years_122 hc268 ?_
          refine g_ldan aX12_years_125 rfl ?_
          refine g_getR aX12_years_126 (sR_0 hsh) rfl ?_
          refine g_bipush (x := 6) aX12_years_129 rfl ?_
          refine g_ldan aX12_years_131 rfl ?_
          refine g_ldan aX12_years_132 rfl ?_
          refine g_getR aX12_years_133 (sR_0 hsh) rfl ?_
          refine g_iconst (x := 2) aX12_years_136 rfl ?_
          obtain ⟨h269, hE⟩ := i_ifn hE
          refine g_ild aX12_years_137 (sR_1 hsh) h269 ?_
          obtain ⟨r270, s271, h272, hE⟩ := i_bd_some hE
          refine g_calV (As := [.int (s153.2.1 1 (2 : Int32).toNatClampNeg)]) (rest := [.int 6, .ref 1]) aX12_years_138 (i_X_mono (by omega) (tX12_draws hsh h272)) (sR_0 hsh) (by decide +kernel) rfl rfl (Nat.le_of_ble_eq_true rfl) rfl ?_
          obtain ⟨h273, hE⟩ := i_ifn hE
          refine g_ist aX12_years_141 (sR_1 hsh) h273 ?_
          exact tX12_years_J142 hsh ih hE
set_option maxRecDepth 20000 in
set_option maxHeartbeats 2000000 in
theorem tX12_years_X178 {sh : List kd} {τ : St} {r : Int32} (hsh : rmSh sh) {p1 : Int32} {p2 : Int32} {p3 : Int32} {p4 : Int32} {s18 : St} {x25 : Int32} {x27 : Int32} {x28 : Int32} {x146 : Int32} {x147 : Int32} {x148 : Value} {s149 : St} {k82 : Int32 → Int32 → Int32 → Int32 → Value → Value → St → Option (Int32 × St)} (hk82 : ∀ (x25 : Int32) (x26 : Int32) (x27 : Int32) (x28 : Int32) (x29 : Value) (x30 : Value) (s31 : St), k82 x25 x26 x27 x28 x29 x30 s31 = some (r, τ) → g_R sh 7 mX12_years (some (.int r)) τ 82 [.ref 0, .int p1, .int p2, .int p3, .int p4, .int (s18.2.1 1 (9 : Int32).toNatClampNeg), .int x25, .int x26, .int x27, .int x28, x29, x30] [] (s31)) (hE : fX12_years_X178 sh p1 p2 p3 p4 s18 x25 x27 x28 k82 x146 x147 x148 s149 = some (r, τ)) : g_R sh 7 mX12_years (some (.int r)) τ 178 [.ref 0, .int p1, .int p2, .int p3, .int p4, .int (s18.2.1 1 (9 : Int32).toNatClampNeg), .int x25, .int x146, .int x27, .int x28, .int x147, x148] [] (s149) := by
  unfold fX12_years_X178 at hE
  refine g_ldi aX12_years_178 rfl ?_
  refine g_ldan aX12_years_180 rfl ?_
  obtain ⟨r274, s275, h276, hE⟩ := i_bd_some hE
  refine g_calV (As := []) (rest := [.int x27]) aX12_years_181 (i_X_mono (by omega) (tX12_allRank hsh h276)) (sR_0 hsh) (by decide +kernel) rfl rfl (Nat.le_of_ble_eq_true rfl) rfl ?_
  refine g_iadd aX12_years_184 ?_
  refine g_sti (loc2 := [.ref 0, .int p1, .int p2, .int p3, .int p4, .int (s18.2.1 1 (9 : Int32).toNatClampNeg), .int x25, .int x146, .int (x27 + r274), .int x28, .int x147, x148]) aX12_years_185 (Nat.le_of_ble_eq_true rfl) rfl ?_
  refine g_ldan aX12_years_187 rfl ?_
  refine g_getR aX12_years_188 (sR_0 hsh) rfl ?_
  refine g_bipush (x := 9) aX12_years_191 rfl ?_
  obtain ⟨h277, hE⟩ := i_ifn hE
  refine g_ild aX12_years_193 (sR_1 hsh) h277 ?_
  refine g_sti (loc2 := [.ref 0, .int p1, .int p2, .int p3, .int p4, .int (s18.2.1 1 (9 : Int32).toNatClampNeg), .int (s275.2.1 1 (9 : Int32).toNatClampNeg), .int x146, .int (x27 + r274), .int x28, .int x147, x148]) aX12_years_194 (Nat.le_of_ble_eq_true rfl) rfl ?_
  refine g_ldan aX12_years_196 rfl ?_
  obtain ⟨r278, s279, h280, hE⟩ := i_bd_some hE
  refine g_calV (As := []) (rest := []) aX12_years_197 (i_X_mono (by omega) (tX12_laysBack hsh h280)) (sR_0 hsh) (by decide +kernel) rfl rfl (Nat.le_of_ble_eq_true rfl) rfl ?_
  refine g_iinc (y := 1) (loc2 := [.ref 0, .int p1, .int p2, .int p3, .int p4, .int (s18.2.1 1 (9 : Int32).toNatClampNeg), .int (s275.2.1 1 (9 : Int32).toNatClampNeg), .int x146, .int (x27 + r274), .int (x28 + 1), .int x147, x148]) aX12_years_200 rfl rfl rfl ?_
  refine g_goto aX12_years_203 ?_
  exact hk82 _ _ _ _ _ _ _ hE
set_option maxRecDepth 20000 in
set_option maxHeartbeats 2000000 in
theorem tX12_years_L82 {sh : List kd} {τ : St} {r : Int32} (hsh : rmSh sh) {p1 : Int32} {p2 : Int32} {p3 : Int32} {p4 : Int32} {s18 : St} {k206 : Int32 → Int32 → Int32 → Int32 → Value → Value → St → Option (Int32 × St)} (hk206 : ∀ (x82 : Int32) (x83 : Int32) (x84 : Int32) (x85 : Int32) (x86 : Value) (x87 : Value) (s88 : St), k206 x82 x83 x84 x85 x86 x87 s88 = some (r, τ) → g_R sh 7 mX12_years (some (.int r)) τ 206 [.ref 0, .int p1, .int p2, .int p3, .int p4, .int (s18.2.1 1 (9 : Int32).toNatClampNeg), .int x82, .int x83, .int x84, .int x85, x86, x87] [] (s88)) : ∀ (n0 : Nat) (x25 : Int32) (x26 : Int32) (x27 : Int32) (x28 : Int32) (x29 : Value) (x30 : Value) (s31 : St), fX12_years_L82 sh p1 p2 p3 p4 s18 k206 n0 x25 x26 x27 x28 x29 x30 s31 = some (r, τ) → g_R sh 7 mX12_years (some (.int r)) τ 82 [.ref 0, .int p1, .int p2, .int p3, .int p4, .int (s18.2.1 1 (9 : Int32).toNatClampNeg), .int x25, .int x26, .int x27, .int x28, x29, x30] [] (s31) := by
  intro n0
  induction n0 with
  | zero => intro _ _ _ _ _ _ _ hE; cases hE
  | succ n89 ih =>
    intro x25 x26 x27 x28 x29 x30 s31 hE
    unfold fX12_years_L82 at hE
    refine g_ldi aX12_years_82 rfl ?_
    refine g_ldin aX12_years_84 rfl ?_
    by_cases hc90 : p1 ≤ x28
    · rw [if_pos hc90] at hE
      refine g_ic_ge_t aX12_years_85 hc90 ?_
      exact hk206 _ _ _ _ _ _ _ hE
    · rw [if_neg hc90] at hE
      refine g_ic_ge_f aX12_years_85 hc90 ?_
      refine g_ldan aX12_years_88 rfl ?_
      refine g_getR aX12_years_89 (sR_0 hsh) rfl ?_
      refine g_bipush (x := 9) aX12_years_92 rfl ?_
      refine g_ldi aX12_years_94 rfl ?_
      obtain ⟨h91, hE⟩ := i_ifn hE
      refine g_ist aX12_years_96 (sR_1 hsh) h91 ?_
      refine g_iconst (x := 0) aX12_years_97 rfl ?_
      refine g_sti (loc2 := [.ref 0, .int p1, .int p2, .int p3, .int p4, .int (s18.2.1 1 (9 : Int32).toNatClampNeg), .int x25, .int x26, .int x27, .int x28, .int 0, x30]) aX12_years_98 (Nat.le_of_ble_eq_true rfl) rfl ?_
      exact tX12_years_L100 hsh (fun x146 x147 x148 s149 hE => tX12_years_X178 hsh ih hE) i_F _ _ _ _ hE
set_option maxRecDepth 20000 in
set_option maxHeartbeats 2000000 in
theorem tX12_years_X206 {sh : List kd} {τ : St} {r : Int32} (hsh : rmSh sh) {p1 : Int32} {p2 : Int32} {p3 : Int32} {p4 : Int32} {s18 : St} {x82 : Int32} {x83 : Int32} {x84 : Int32} {x85 : Int32} {x86 : Value} {x87 : Value} {s88 : St} (hE : fX12_years_X206 sh p1 p2 p3 p4 s18 x82 x83 x84 x85 x86 x87 s88 = some (r, τ)) : g_R sh 7 mX12_years (some (.int r)) τ 206 [.ref 0, .int p1, .int p2, .int p3, .int p4, .int (s18.2.1 1 (9 : Int32).toNatClampNeg), .int x82, .int x83, .int x84, .int x85, x86, x87] [] (s88) := by
  unfold fX12_years_X206 at hE
  refine g_ldan aX12_years_206 rfl ?_
  refine g_getR aX12_years_207 (sR_0 hsh) rfl ?_
  refine g_bipush (x := 9) aX12_years_210 rfl ?_
  refine g_ldi aX12_years_212 rfl ?_
  obtain ⟨h281, hE⟩ := i_ifn hE
  refine g_ist aX12_years_214 (sR_1 hsh) h281 ?_
  refine g_ldi aX12_years_215 rfl ?_
  have hJ : g_R sh 7 mX12_years (some (.int r)) τ 227 [.ref 0, .int p1, .int p2, .int p3, .int p4, .int (s18.2.1 1 (9 : Int32).toNatClampNeg), .int x82, .int x83, .int x84, .int x85, x86, x87] [.int ((if ¬ p4 = 0 then x84 else x83) : Int32)] (s_A s88 1 (9 : Int32).toNatClampNeg (s18.2.1 1 (9 : Int32).toNatClampNeg)) := by
    obtain ⟨rfl, rfl⟩ := i_some_inj hE
    exact g_iret aX12_years_227 rfl rfl
  clear hE
  by_cases hc281 : ¬ p4 = 0
  · (try rw [if_pos hc281] at hJ)
    refine g_if_ne_t aX12_years_217 hc281 ?_
    refine g_ldi aX12_years_225 rfl ?_
    exact hJ
  · (try rw [if_neg hc281] at hJ)
    refine g_if_ne_f aX12_years_217 hc281 ?_
    refine g_ldi aX12_years_220 rfl ?_
    refine g_goto aX12_years_222 ?_
    exact hJ
set_option maxRecDepth 20000 in
set_option maxHeartbeats 2000000 in
theorem tX12_years {sh : List kd} {σ τ : St} {r : Int32} (hsh : rmSh sh) {p1 : Int32} {p2 : Int32} {p3 : Int32} {p4 : Int32} (hE : fX12_years sh σ p1 p2 p3 p4 = some (r, τ)) : i_X 8 224 [.ref 0, .int p1, .int p2, .int p3, .int p4] (s_h sh σ) 0 0 (some (.int r)) (s_h sh τ) := by
  refine g_X (M := mX12_years) (loc := [.ref 0, .int p1, .int p2, .int p3, .int p4, .retAddr 0, .retAddr 0, .retAddr 0, .retAddr 0, .retAddr 0, .retAddr 0, .retAddr 0]) rfl (Nat.le_of_ble_eq_true rfl) rfl ?_
  unfold fX12_years at hE
  refine g_ldan aX12_years_0 rfl ?_
  obtain ⟨r1, s2, h3, hE⟩ := i_bd_some hE
  refine g_calV (As := []) (rest := []) aX12_years_1 (i_X_mono (by omega) (tX12_isCourt hsh h3)) (sR_0 hsh) (by decide +kernel) rfl rfl (Nat.le_of_ble_eq_true rfl) rfl ?_
  by_cases hc4 : r1 = 0
  · rw [if_pos hc4] at hE
    refine g_if_eq_t aX12_years_4 hc4 ?_
    refine g_iconst (x := (-1)) aX12_years_54 rfl ?_
    obtain ⟨rfl, rfl⟩ := i_some_inj hE
    exact g_iret aX12_years_55 rfl rfl
  · rw [if_neg hc4] at hE
    refine g_if_eq_f aX12_years_4 hc4 ?_
    refine g_ldin aX12_years_7 rfl ?_
    refine g_i2l aX12_years_8 ?_
    refine g_lconst (x := 1) aX12_years_9 rfl ?_
    refine g_ldc2 (x := 10) aX12_years_10 rfl ?_
    obtain ⟨r5, s6, h7, hE⟩ := i_bd_some hE
    refine g_calS (As := [.long p1.toInt64, .long 1, .long 10]) (rest := []) aX12_years_13 (i_X_mono (by omega) (tX12_in hsh h7)) rfl rfl (Nat.le_of_ble_eq_true rfl) rfl ?_
    by_cases hc8 : r5 = 0
    · rw [if_pos hc8] at hE
      refine g_if_eq_t aX12_years_16 hc8 ?_
      refine g_iconst (x := (-1)) aX12_years_54 rfl ?_
      obtain ⟨rfl, rfl⟩ := i_some_inj hE
      exact g_iret aX12_years_55 rfl rfl
    · rw [if_neg hc8] at hE
      refine g_if_eq_f aX12_years_16 hc8 ?_
      refine g_ldin aX12_years_19 rfl ?_
      refine g_i2l aX12_years_20 ?_
      refine g_lconst (x := 1) aX12_years_21 rfl ?_
      refine g_ldc2 (x := 60) aX12_years_22 rfl ?_
      obtain ⟨r9, s10, h11, hE⟩ := i_bd_some hE
      refine g_calS (As := [.long p2.toInt64, .long 1, .long 60]) (rest := []) aX12_years_25 (i_X_mono (by omega) (tX12_in hsh h11)) rfl rfl (Nat.le_of_ble_eq_true rfl) rfl ?_
      by_cases hc12 : r9 = 0
      · rw [if_pos hc12] at hE
        refine g_if_eq_t aX12_years_28 hc12 ?_
        refine g_iconst (x := (-1)) aX12_years_54 rfl ?_
        obtain ⟨rfl, rfl⟩ := i_some_inj hE
        exact g_iret aX12_years_55 rfl rfl
      · rw [if_neg hc12] at hE
        refine g_if_eq_f aX12_years_28 hc12 ?_
        refine g_ldin aX12_years_31 rfl ?_
        refine g_i2l aX12_years_32 ?_
        refine g_lconst (x := 0) aX12_years_33 rfl ?_
        refine g_ldc2 (x := 100) aX12_years_34 rfl ?_
        obtain ⟨r13, s14, h15, hE⟩ := i_bd_some hE
        refine g_calS (As := [.long p3.toInt64, .long 0, .long 100]) (rest := []) aX12_years_37 (i_X_mono (by omega) (tX12_in hsh h15)) rfl rfl (Nat.le_of_ble_eq_true rfl) rfl ?_
        by_cases hc16 : r13 = 0
        · rw [if_pos hc16] at hE
          refine g_if_eq_t aX12_years_40 hc16 ?_
          refine g_iconst (x := (-1)) aX12_years_54 rfl ?_
          obtain ⟨rfl, rfl⟩ := i_some_inj hE
          exact g_iret aX12_years_55 rfl rfl
        · rw [if_neg hc16] at hE
          refine g_if_eq_f aX12_years_40 hc16 ?_
          refine g_ldi aX12_years_43 rfl ?_
          refine g_i2l aX12_years_45 ?_
          refine g_lconst (x := 0) aX12_years_46 rfl ?_
          refine g_lconst (x := 1) aX12_years_47 rfl ?_
          obtain ⟨r17, s18, h19, hE⟩ := i_bd_some hE
          refine g_calS (As := [.long p4.toInt64, .long 0, .long 1]) (rest := []) aX12_years_48 (i_X_mono (by omega) (tX12_in hsh h19)) rfl rfl (Nat.le_of_ble_eq_true rfl) rfl ?_
          by_cases hc20 : ¬ r17 = 0
          · rw [if_pos hc20] at hE
            refine g_if_ne_t aX12_years_51 hc20 ?_
            refine g_ldan aX12_years_56 rfl ?_
            refine g_getR aX12_years_57 (sR_0 hsh) rfl ?_
            refine g_bipush (x := 9) aX12_years_60 rfl ?_
            obtain ⟨h21, hE⟩ := i_ifn hE
            refine g_ild aX12_years_62 (sR_1 hsh) h21 ?_
            refine g_sti (loc2 := [.ref 0, .int p1, .int p2, .int p3, .int p4, .int (s18.2.1 1 (9 : Int32).toNatClampNeg), .retAddr 0, .retAddr 0, .retAddr 0, .retAddr 0, .retAddr 0, .retAddr 0]) aX12_years_63 (Nat.le_of_ble_eq_true rfl) rfl ?_
            refine g_ldi aX12_years_65 rfl ?_
            refine g_sti (loc2 := [.ref 0, .int p1, .int p2, .int p3, .int p4, .int (s18.2.1 1 (9 : Int32).toNatClampNeg), .int (s18.2.1 1 (9 : Int32).toNatClampNeg), .retAddr 0, .retAddr 0, .retAddr 0, .retAddr 0, .retAddr 0]) aX12_years_67 (Nat.le_of_ble_eq_true rfl) rfl ?_
            refine g_iconst (x := 0) aX12_years_69 rfl ?_
            refine g_sti (loc2 := [.ref 0, .int p1, .int p2, .int p3, .int p4, .int (s18.2.1 1 (9 : Int32).toNatClampNeg), .int (s18.2.1 1 (9 : Int32).toNatClampNeg), .int 0, .retAddr 0, .retAddr 0, .retAddr 0, .retAddr 0]) aX12_years_70 (Nat.le_of_ble_eq_true rfl) rfl ?_
            refine g_iconst (x := 0) aX12_years_72 rfl ?_
            refine g_sti (loc2 := [.ref 0, .int p1, .int p2, .int p3, .int p4, .int (s18.2.1 1 (9 : Int32).toNatClampNeg), .int (s18.2.1 1 (9 : Int32).toNatClampNeg), .int 0, .int 0, .retAddr 0, .retAddr 0, .retAddr 0]) aX12_years_73 (Nat.le_of_ble_eq_true rfl) rfl ?_
            refine g_ldan aX12_years_75 rfl ?_
            obtain ⟨r22, s23, h24, hE⟩ := i_bd_some hE
            refine g_calV (As := []) (rest := []) aX12_years_76 (i_X_mono (by omega) (tX12_keepsAll hsh h24)) (sR_0 hsh) (by decide +kernel) rfl rfl (Nat.le_of_ble_eq_true rfl) rfl ?_
            refine g_iconst (x := 0) aX12_years_79 rfl ?_
            refine g_sti (loc2 := [.ref 0, .int p1, .int p2, .int p3, .int p4, .int (s18.2.1 1 (9 : Int32).toNatClampNeg), .int (s18.2.1 1 (9 : Int32).toNatClampNeg), .int 0, .int 0, .int 0, .retAddr 0, .retAddr 0]) aX12_years_80 (Nat.le_of_ble_eq_true rfl) rfl ?_
            exact tX12_years_L82 hsh (fun x82 x83 x84 x85 x86 x87 s88 hE => tX12_years_X206 hsh hE) i_F _ _ _ _ _ _ _ hE
          · rw [if_neg hc20] at hE
            refine g_if_ne_f aX12_years_51 hc20 ?_
            refine g_iconst (x := (-1)) aX12_years_54 rfl ?_
            obtain ⟨rfl, rfl⟩ := i_some_inj hE
            exact g_iret aX12_years_55 rfl rfl
theorem aX1_readClause_0 : i_at mX1_readClause.2.2.2.2.2 0 = some (.aload_n 0, 1, 0, 0, 0, 0) := by decide +kernel
theorem aX1_readClause_1 : i_at mX1_readClause.2.2.2.2.2 1 = some (.getfield 9, 3, 1, 0, 221, 0) := by decide +kernel
theorem aX1_readClause_4 : i_at mX1_readClause.2.2.2.2.2 4 = some (.ldc 52, 2, 1, 0, 0, 0) := by decide +kernel
theorem aX1_readClause_6 : i_at mX1_readClause.2.2.2.2.2 6 = some (.invokevirtual 54, 3, 81, 1, 524, 0) := by decide +kernel
theorem aX1_readClause_9 : i_at mX1_readClause.2.2.2.2.2 9 = some (.istore_n 2, 1, 0, 0, 0, 0) := by decide +kernel
theorem aX1_readClause_10 : i_at mX1_readClause.2.2.2.2.2 10 = some (.iload_n 2, 1, 0, 0, 0, 0) := by decide +kernel
theorem aX1_readClause_11 : i_at mX1_readClause.2.2.2.2.2 11 = some (.iconst (-1), 1, 0, 0, 0, 0) := by decide +kernel
theorem aX1_readClause_12 : i_at mX1_readClause.2.2.2.2.2 12 = some (.if_icmp .ne 19, 3, 31, 0, 0, 0) := by decide +kernel
theorem aX1_readClause_15 : i_at mX1_readClause.2.2.2.2.2 15 = some (.aload_n 0, 1, 0, 0, 0, 0) := by decide +kernel
theorem aX1_readClause_16 : i_at mX1_readClause.2.2.2.2.2 16 = some (.getfield 9, 3, 1, 0, 221, 0) := by decide +kernel
theorem aX1_readClause_19 : i_at mX1_readClause.2.2.2.2.2 19 = some (.aload_n 0, 1, 0, 0, 0, 0) := by decide +kernel
theorem aX1_readClause_20 : i_at mX1_readClause.2.2.2.2.2 20 = some (.getfield 9, 3, 1, 0, 221, 0) := by decide +kernel
theorem aX1_readClause_23 : i_at mX1_readClause.2.2.2.2.2 23 = some (.getfield 45, 3, 8, 2, 131, 0) := by decide +kernel
theorem aX1_readClause_26 : i_at mX1_readClause.2.2.2.2.2 26 = some (.iconst 0, 1, 0, 0, 0, 0) := by decide +kernel
theorem aX1_readClause_27 : i_at mX1_readClause.2.2.2.2.2 27 = some (.invokevirtual 48, 3, 77, 2, 588, 0) := by decide +kernel
theorem aX1_readClause_30 : i_at mX1_readClause.2.2.2.2.2 30 = some (.return_, 1, 0, 0, 0, 0) := by decide +kernel
theorem aX1_readClause_31 : i_at mX1_readClause.2.2.2.2.2 31 = some (.aload_n 0, 1, 0, 0, 0, 0) := by decide +kernel
theorem aX1_readClause_32 : i_at mX1_readClause.2.2.2.2.2 32 = some (.iload_n 2, 1, 0, 0, 0, 0) := by decide +kernel
theorem aX1_readClause_33 : i_at mX1_readClause.2.2.2.2.2 33 = some (.iload_n 1, 1, 0, 0, 0, 0) := by decide +kernel
theorem aX1_readClause_34 : i_at mX1_readClause.2.2.2.2.2 34 = some (.invokevirtual 58, 3, 8, 2, 592, 0) := by decide +kernel
theorem aX1_readClause_37 : i_at mX1_readClause.2.2.2.2.2 37 = some (.ifCond .eq 19, 3, 56, 0, 0, 0) := by decide +kernel
theorem aX1_readClause_40 : i_at mX1_readClause.2.2.2.2.2 40 = some (.aload_n 0, 1, 0, 0, 0, 0) := by decide +kernel
theorem aX1_readClause_41 : i_at mX1_readClause.2.2.2.2.2 41 = some (.getfield 9, 3, 1, 0, 221, 0) := by decide +kernel
theorem aX1_readClause_44 : i_at mX1_readClause.2.2.2.2.2 44 = some (.aload_n 0, 1, 0, 0, 0, 0) := by decide +kernel
theorem aX1_readClause_45 : i_at mX1_readClause.2.2.2.2.2 45 = some (.getfield 9, 3, 1, 0, 221, 0) := by decide +kernel
theorem aX1_readClause_48 : i_at mX1_readClause.2.2.2.2.2 48 = some (.getfield 45, 3, 8, 2, 131, 0) := by decide +kernel
theorem aX1_readClause_51 : i_at mX1_readClause.2.2.2.2.2 51 = some (.iconst 4, 1, 0, 0, 0, 0) := by decide +kernel
theorem aX1_readClause_52 : i_at mX1_readClause.2.2.2.2.2 52 = some (.invokevirtual 48, 3, 77, 2, 588, 0) := by decide +kernel
theorem aX1_readClause_55 : i_at mX1_readClause.2.2.2.2.2 55 = some (.return_, 1, 0, 0, 0, 0) := by decide +kernel
theorem aX1_readClause_56 : i_at mX1_readClause.2.2.2.2.2 56 = some (.aload_n 0, 1, 0, 0, 0, 0) := by decide +kernel
theorem aX1_readClause_57 : i_at mX1_readClause.2.2.2.2.2 57 = some (.getfield 9, 3, 1, 0, 221, 0) := by decide +kernel
theorem aX1_readClause_60 : i_at mX1_readClause.2.2.2.2.2 60 = some (.invokevirtual 62, 3, 83, 0, 596, 0) := by decide +kernel
theorem aX1_readClause_63 : i_at mX1_readClause.2.2.2.2.2 63 = some (.iload_n 2, 1, 0, 0, 0, 0) := by decide +kernel
theorem aX1_readClause_64 : i_at mX1_readClause.2.2.2.2.2 64 = some (.tableswitch 60 0 3 #[32, 39, 46, 53], 32, 0, 0, 0, 0) := by decide +kernel
theorem aX1_readClause_96 : i_at mX1_readClause.2.2.2.2.2 96 = some (.aload_n 0, 1, 0, 0, 0, 0) := by decide +kernel
theorem aX1_readClause_97 : i_at mX1_readClause.2.2.2.2.2 97 = some (.invokevirtual 65, 3, 9, 0, 600, 0) := by decide +kernel
theorem aX1_readClause_100 : i_at mX1_readClause.2.2.2.2.2 100 = some (.goto 28, 3, 128, 0, 0, 0) := by decide +kernel
theorem aX1_readClause_103 : i_at mX1_readClause.2.2.2.2.2 103 = some (.aload_n 0, 1, 0, 0, 0, 0) := by decide +kernel
theorem aX1_readClause_104 : i_at mX1_readClause.2.2.2.2.2 104 = some (.invokevirtual 68, 3, 10, 0, 609, 0) := by decide +kernel
theorem aX1_readClause_107 : i_at mX1_readClause.2.2.2.2.2 107 = some (.goto 21, 3, 128, 0, 0, 0) := by decide +kernel
theorem aX1_readClause_110 : i_at mX1_readClause.2.2.2.2.2 110 = some (.aload_n 0, 1, 0, 0, 0, 0) := by decide +kernel
theorem aX1_readClause_111 : i_at mX1_readClause.2.2.2.2.2 111 = some (.invokevirtual 71, 3, 11, 0, 613, 0) := by decide +kernel
theorem aX1_readClause_114 : i_at mX1_readClause.2.2.2.2.2 114 = some (.goto 14, 3, 128, 0, 0, 0) := by decide +kernel
theorem aX1_readClause_117 : i_at mX1_readClause.2.2.2.2.2 117 = some (.aload_n 0, 1, 0, 0, 0, 0) := by decide +kernel
theorem aX1_readClause_118 : i_at mX1_readClause.2.2.2.2.2 118 = some (.invokevirtual 74, 3, 12, 0, 617, 0) := by decide +kernel
theorem aX1_readClause_121 : i_at mX1_readClause.2.2.2.2.2 121 = some (.goto 7, 3, 128, 0, 0, 0) := by decide +kernel
theorem aX1_readClause_124 : i_at mX1_readClause.2.2.2.2.2 124 = some (.aload_n 0, 1, 0, 0, 0, 0) := by decide +kernel
theorem aX1_readClause_125 : i_at mX1_readClause.2.2.2.2.2 125 = some (.invokevirtual 77, 3, 13, 0, 621, 0) := by decide +kernel
theorem aX1_readClause_128 : i_at mX1_readClause.2.2.2.2.2 128 = some (.return_, 1, 0, 0, 0, 0) := by decide +kernel
noncomputable def fX1_readClause_J128 (sh : List kd) (p1 : Int32) (r1 : Int32) (s62 : St) : Option (Unit × St) := some ((), s62)
noncomputable def fX1_readClause (sh : List kd) (σ : St) (p1 : Int32) : Option (Unit × St) := i_bd (fX9_wordIn sh σ 0) (fun r1 s2 => if ¬ r1 = (-1) then i_bd (fX1_isOutOfPlace sh s2 r1 p1) (fun r5 s6 => if r5 = 0 then i_bd (fX9_skipWord sh s6) (fun r9 s10 => if r1 = 0 then i_bd (fX1_readCourt sh s10) (fun r64 s65 => fX1_readClause_J128 sh p1 r1 s65) else if r1 = 1 then i_bd (fX1_readThing sh s10) (fun r68 s69 => fX1_readClause_J128 sh p1 r1 s69) else if r1 = 2 then i_bd (fX1_readHolds sh s10) (fun r72 s73 => fX1_readClause_J128 sh p1 r1 s73) else if r1 = 3 then i_bd (fX1_readPerson sh s10) (fun r76 s77 => fX1_readClause_J128 sh p1 r1 s77) else i_bd (fX1_readQuarrel sh s10) (fun r79 s80 => fX1_readClause_J128 sh p1 r1 s80)) else i_bd (fX9_refuse sh s6 (s6.1 1 2) 4) (fun r83 s84 => some ((), s84))) else i_bd (fX9_refuse sh s2 (s2.1 1 2) 0) (fun r86 s87 => some ((), s87)))
set_option maxRecDepth 20000 in
set_option maxHeartbeats 2000000 in
theorem tX1_readClause_J128 {sh : List kd} {τ : St} {r : Unit} (hsh : cSh sh) {p1 : Int32} {r1 : Int32} {s62 : St} (hE : fX1_readClause_J128 sh p1 r1 s62 = some (r, τ)) : g_R sh 3 mX1_readClause none τ 128 [.ref 9, .int p1, .int r1] [] (s62) := by
  unfold fX1_readClause_J128 at hE
  obtain ⟨rfl, rfl⟩ := i_some_inj hE
  exact g_vret aX1_readClause_128 rfl
set_option maxRecDepth 20000 in
set_option maxHeartbeats 2000000 in
theorem tX1_readClause {sh : List kd} {σ τ : St} {r : Unit} (hsh : cSh sh) {p1 : Int32} (hE : fX1_readClause sh σ p1 = some (r, τ)) : i_X 4 7 [.ref 9, .int p1] (s_h sh σ) 0 0 none (s_h sh τ) := by
  refine g_X (M := mX1_readClause) (loc := [.ref 9, .int p1, .retAddr 0]) rfl (Nat.le_of_ble_eq_true rfl) rfl ?_
  unfold fX1_readClause at hE
  refine g_ldan aX1_readClause_0 rfl ?_
  refine g_getR aX1_readClause_1 (sC_9 hsh) rfl ?_
  refine g_ldcS aX1_readClause_4 rfl ?_
  obtain ⟨r1, s2, h3, hE⟩ := i_bd_some hE
  refine g_calV (As := [.ref (i_SB + 0)]) (rest := []) aX1_readClause_6 (i_X_mono (by omega) (tX9_wordIn hsh h3)) (sC_1 hsh) (by decide +kernel) rfl rfl (Nat.le_of_ble_eq_true rfl) rfl ?_
  refine g_stin (loc2 := [.ref 9, .int p1, .int r1]) aX1_readClause_9 (Nat.le_of_ble_eq_true rfl) rfl ?_
  refine g_ldin aX1_readClause_10 rfl ?_
  refine g_iconst (x := (-1)) aX1_readClause_11 rfl ?_
  by_cases hc4 : ¬ r1 = (-1)
  · rw [if_pos hc4] at hE
    refine g_ic_ne_t aX1_readClause_12 hc4 ?_
    refine g_ldan aX1_readClause_31 rfl ?_
    refine g_ldin aX1_readClause_32 rfl ?_
    refine g_ldin aX1_readClause_33 rfl ?_
    obtain ⟨r5, s6, h7, hE⟩ := i_bd_some hE
    refine g_calV (As := [.int r1, .int p1]) (rest := []) aX1_readClause_34 (i_X_mono (by omega) (tX1_isOutOfPlace hsh h7)) (sC_9 hsh) (by decide +kernel) rfl rfl (Nat.le_of_ble_eq_true rfl) rfl ?_
    by_cases hc8 : r5 = 0
    · rw [if_pos hc8] at hE
      refine g_if_eq_t aX1_readClause_37 hc8 ?_
      refine g_ldan aX1_readClause_56 rfl ?_
      refine g_getR aX1_readClause_57 (sC_9 hsh) rfl ?_
      obtain ⟨r9, s10, h11, hE⟩ := i_bd_some hE
      refine g_calV (As := []) (rest := []) aX1_readClause_60 (i_X_mono (by omega) (tX9_skipWord hsh h11)) (sC_1 hsh) (by decide +kernel) rfl rfl (Nat.le_of_ble_eq_true rfl) rfl ?_
      refine g_ldin aX1_readClause_63 rfl ?_
      by_cases hc63 : r1 = 0
      · rw [if_pos hc63] at hE
        refine g_tabIn (i := 0) aX1_readClause_64 (by rw [hc63]; decide) (by decide) rfl rfl ?_
        refine g_ldan aX1_readClause_96 rfl ?_
        obtain ⟨r64, s65, h66, hE⟩ := i_bd_some hE
        refine g_calV (As := []) (rest := []) aX1_readClause_97 (i_X_mono (by omega) (tX1_readCourt hsh h66)) (sC_9 hsh) (by decide +kernel) rfl rfl (Nat.le_of_ble_eq_true rfl) rfl ?_
        refine g_goto aX1_readClause_100 ?_
        exact tX1_readClause_J128 hsh hE
      · rw [if_neg hc63] at hE
        by_cases hc67 : r1 = 1
        · rw [if_pos hc67] at hE
          refine g_tabIn (i := 1) aX1_readClause_64 (by rw [hc67]; decide) (by decide) rfl rfl ?_
          refine g_ldan aX1_readClause_103 rfl ?_
          obtain ⟨r68, s69, h70, hE⟩ := i_bd_some hE
          refine g_calV (As := []) (rest := []) aX1_readClause_104 (i_X_mono (by omega) (tX1_readThing hsh h70)) (sC_9 hsh) (by decide +kernel) rfl rfl (Nat.le_of_ble_eq_true rfl) rfl ?_
          refine g_goto aX1_readClause_107 ?_
          exact tX1_readClause_J128 hsh hE
        · rw [if_neg hc67] at hE
          by_cases hc71 : r1 = 2
          · rw [if_pos hc71] at hE
            refine g_tabIn (i := 2) aX1_readClause_64 (by rw [hc71]; decide) (by decide) rfl rfl ?_
            refine g_ldan aX1_readClause_110 rfl ?_
            obtain ⟨r72, s73, h74, hE⟩ := i_bd_some hE
            refine g_calV (As := []) (rest := []) aX1_readClause_111 (i_X_mono (by omega) (tX1_readHolds hsh h74)) (sC_9 hsh) (by decide +kernel) rfl rfl (Nat.le_of_ble_eq_true rfl) rfl ?_
            refine g_goto aX1_readClause_114 ?_
            exact tX1_readClause_J128 hsh hE
          · rw [if_neg hc71] at hE
            by_cases hc75 : r1 = 3
            · rw [if_pos hc75] at hE
              refine g_tabIn (i := 3) aX1_readClause_64 (by rw [hc75]; decide) (by decide) rfl rfl ?_
              refine g_ldan aX1_readClause_117 rfl ?_
              obtain ⟨r76, s77, h78, hE⟩ := i_bd_some hE
              refine g_calV (As := []) (rest := []) aX1_readClause_118 (i_X_mono (by omega) (tX1_readPerson hsh h78)) (sC_9 hsh) (by decide +kernel) rfl rfl (Nat.le_of_ble_eq_true rfl) rfl ?_
              refine g_goto aX1_readClause_121 ?_
              exact tX1_readClause_J128 hsh hE
            · rw [if_neg hc75] at hE
              have hto82 : r1.toInt < ((0 : Nat) : Int) ∨ ((3 : Nat) : Int) < r1.toInt := by
                refine i_tabo (x := r1) 0 3 (by decide) (fun k k1 k2 => ?_)
                rcases (show k = 0 ∨ k = 1 ∨ k = 2 ∨ k = 3 by omega) with rfl | rfl | rfl | rfl
                · exact fun hz => hc63 hz
                · exact fun hz => hc67 hz
                · exact fun hz => hc71 hz
                · exact fun hz => hc75 hz
              refine g_tabOut aX1_readClause_64 hto82 rfl ?_
              refine g_ldan aX1_readClause_124 rfl ?_
              obtain ⟨r79, s80, h81, hE⟩ := i_bd_some hE
              refine g_calV (As := []) (rest := []) aX1_readClause_125 (i_X_mono (by omega) (tX1_readQuarrel hsh h81)) (sC_9 hsh) (by decide +kernel) rfl rfl (Nat.le_of_ble_eq_true rfl) rfl ?_
              exact tX1_readClause_J128 hsh hE
    · rw [if_neg hc8] at hE
      refine g_if_eq_f aX1_readClause_37 hc8 ?_
      refine g_ldan aX1_readClause_40 rfl ?_
      refine g_getR aX1_readClause_41 (sC_9 hsh) rfl ?_
      refine g_ldan aX1_readClause_44 rfl ?_
      refine g_getR aX1_readClause_45 (sC_9 hsh) rfl ?_
      refine g_getI aX1_readClause_48 (sC_1 hsh) rfl ?_
      refine g_iconst (x := 4) aX1_readClause_51 rfl ?_
      obtain ⟨r83, s84, h85, hE⟩ := i_bd_some hE
      refine g_calV (As := [.int (s6.1 1 2), .int 4]) (rest := []) aX1_readClause_52 (i_X_mono (by omega) (tX9_refuse hsh h85)) (sC_1 hsh) (by decide +kernel) rfl rfl (Nat.le_of_ble_eq_true rfl) rfl ?_
      obtain ⟨rfl, rfl⟩ := i_some_inj hE
      exact g_vret aX1_readClause_55 rfl
  · rw [if_neg hc4] at hE
    refine g_ic_ne_f aX1_readClause_12 hc4 ?_
    refine g_ldan aX1_readClause_15 rfl ?_
    refine g_getR aX1_readClause_16 (sC_9 hsh) rfl ?_
    refine g_ldan aX1_readClause_19 rfl ?_
    refine g_getR aX1_readClause_20 (sC_9 hsh) rfl ?_
    refine g_getI aX1_readClause_23 (sC_1 hsh) rfl ?_
    refine g_iconst (x := 0) aX1_readClause_26 rfl ?_
    obtain ⟨r86, s87, h88, hE⟩ := i_bd_some hE
    refine g_calV (As := [.int (s2.1 1 2), .int 0]) (rest := []) aX1_readClause_27 (i_X_mono (by omega) (tX9_refuse hsh h88)) (sC_1 hsh) (by decide +kernel) rfl rfl (Nat.le_of_ble_eq_true rfl) rfl ?_
    obtain ⟨rfl, rfl⟩ := i_some_inj hE
    exact g_vret aX1_readClause_30 rfl
theorem aX3_bestHour_0 : i_at mX3_bestHour.2.2.2.2.2 0 = some (.aload_n 0, 1, 0, 0, 0, 0) := by decide +kernel
theorem aX3_bestHour_1 : i_at mX3_bestHour.2.2.2.2.2 1 = some (.getfield 39, 3, 2, 6, 435, 0) := by decide +kernel
theorem aX3_bestHour_4 : i_at mX3_bestHour.2.2.2.2.2 4 = some (.ifCond .ne 6, 3, 10, 0, 0, 0) := by decide +kernel
theorem aX3_bestHour_7 : i_at mX3_bestHour.2.2.2.2.2 7 = some (.bipush (-2), 2, 0, 0, 0, 0) := by decide +kernel
theorem aX3_bestHour_9 : i_at mX3_bestHour.2.2.2.2.2 9 = some (.ireturn, 1, 0, 0, 0, 0) := by decide +kernel
theorem aX3_bestHour_10 : i_at mX3_bestHour.2.2.2.2.2 10 = some (.iconst 0, 1, 0, 0, 0, 0) := by decide +kernel
theorem aX3_bestHour_11 : i_at mX3_bestHour.2.2.2.2.2 11 = some (.istore_n 2, 1, 0, 0, 0, 0) := by decide +kernel
theorem aX3_bestHour_12 : i_at mX3_bestHour.2.2.2.2.2 12 = some (.bipush 8, 2, 0, 0, 0, 0) := by decide +kernel
theorem aX3_bestHour_14 : i_at mX3_bestHour.2.2.2.2.2 14 = some (.istore_n 3, 1, 0, 0, 0, 0) := by decide +kernel
theorem aX3_bestHour_15 : i_at mX3_bestHour.2.2.2.2.2 15 = some (.iconst 0, 1, 0, 0, 0, 0) := by decide +kernel
theorem aX3_bestHour_16 : i_at mX3_bestHour.2.2.2.2.2 16 = some (.istore 4, 2, 0, 0, 0, 0) := by decide +kernel
theorem aX3_bestHour_18 : i_at mX3_bestHour.2.2.2.2.2 18 = some (.iload 4, 2, 0, 0, 0, 0) := by decide +kernel
theorem aX3_bestHour_20 : i_at mX3_bestHour.2.2.2.2.2 20 = some (.bipush 60, 2, 0, 0, 0, 0) := by decide +kernel
theorem aX3_bestHour_22 : i_at mX3_bestHour.2.2.2.2.2 22 = some (.if_icmp .gt 29, 3, 51, 0, 0, 0) := by decide +kernel
theorem aX3_bestHour_25 : i_at mX3_bestHour.2.2.2.2.2 25 = some (.aload_n 0, 1, 0, 0, 0, 0) := by decide +kernel
theorem aX3_bestHour_26 : i_at mX3_bestHour.2.2.2.2.2 26 = some (.iload 4, 2, 0, 0, 0, 0) := by decide +kernel
theorem aX3_bestHour_28 : i_at mX3_bestHour.2.2.2.2.2 28 = some (.invokevirtual 79, 3, 24, 1, 1039, 0) := by decide +kernel
theorem aX3_bestHour_31 : i_at mX3_bestHour.2.2.2.2.2 31 = some (.istore 5, 2, 0, 0, 0, 0) := by decide +kernel
theorem aX3_bestHour_33 : i_at mX3_bestHour.2.2.2.2.2 33 = some (.iload 5, 2, 0, 0, 0, 0) := by decide +kernel
theorem aX3_bestHour_35 : i_at mX3_bestHour.2.2.2.2.2 35 = some (.iload_n 3, 1, 0, 0, 0, 0) := by decide +kernel
theorem aX3_bestHour_36 : i_at mX3_bestHour.2.2.2.2.2 36 = some (.if_icmp .ge 9, 3, 45, 0, 0, 0) := by decide +kernel
theorem aX3_bestHour_39 : i_at mX3_bestHour.2.2.2.2.2 39 = some (.iload 5, 2, 0, 0, 0, 0) := by decide +kernel
theorem aX3_bestHour_41 : i_at mX3_bestHour.2.2.2.2.2 41 = some (.istore_n 3, 1, 0, 0, 0, 0) := by decide +kernel
theorem aX3_bestHour_42 : i_at mX3_bestHour.2.2.2.2.2 42 = some (.iload 4, 2, 0, 0, 0, 0) := by decide +kernel
theorem aX3_bestHour_44 : i_at mX3_bestHour.2.2.2.2.2 44 = some (.istore_n 2, 1, 0, 0, 0, 0) := by decide +kernel
theorem aX3_bestHour_45 : i_at mX3_bestHour.2.2.2.2.2 45 = some (.iinc 4 1, 3, 0, 0, 0, 0) := by decide +kernel
theorem aX3_bestHour_48 : i_at mX3_bestHour.2.2.2.2.2 48 = some (.goto (-30), 3, 18, 0, 0, 0) := by decide +kernel
theorem aX3_bestHour_51 : i_at mX3_bestHour.2.2.2.2.2 51 = some (.iload_n 1, 1, 0, 0, 0, 0) := by decide +kernel
theorem aX3_bestHour_52 : i_at mX3_bestHour.2.2.2.2.2 52 = some (.ifCond .eq 7, 3, 59, 0, 0, 0) := by decide +kernel
theorem aX3_bestHour_55 : i_at mX3_bestHour.2.2.2.2.2 55 = some (.iload_n 2, 1, 0, 0, 0, 0) := by decide +kernel
theorem aX3_bestHour_56 : i_at mX3_bestHour.2.2.2.2.2 56 = some (.goto 4, 3, 60, 0, 0, 0) := by decide +kernel
theorem aX3_bestHour_59 : i_at mX3_bestHour.2.2.2.2.2 59 = some (.iload_n 3, 1, 0, 0, 0, 0) := by decide +kernel
theorem aX3_bestHour_60 : i_at mX3_bestHour.2.2.2.2.2 60 = some (.ireturn, 1, 0, 0, 0, 0) := by decide +kernel
noncomputable def fX3_bestHour_J45 (sh : List kd) (p1 : Int32) (x4 : Int32) (r64 : Int32) (s65 : St) (k18 : Int32 → Int32 → Int32 → Value → St → Option (Int32 × St)) (x117 : Int32) (x118 : Int32) : Option (Int32 × St) := k18 x117 x118 (x4 + 1) (.int r64) s65
noncomputable def fX3_bestHour_L18 (sh : List kd) (p1 : Int32) (k51 : Int32 → Int32 → Int32 → Value → St → Option (Int32 × St)) : Nat → Int32 → Int32 → Int32 → Value → St → Option (Int32 × St)
  | 0, _, _, _, _, _ => none
  | n62 + 1, x2, x3, x4, x5, s6 => if 60 < x4 then k51 x2 x3 x4 x5 s6 else i_bd (fX3_mostAlike sh s6 x4) (fun r64 s65 => if x3 ≤ r64 then fX3_bestHour_J45 sh p1 x4 r64 s65 (fX3_bestHour_L18 sh p1 k51 n62) x2 x3 else fX3_bestHour_J45 sh p1 x4 r64 s65 (fX3_bestHour_L18 sh p1 k51 n62) x4 r64)
noncomputable def fX3_bestHour_X51 (sh : List kd) (p1 : Int32) (x57 : Int32) (x58 : Int32) (x59 : Int32) (x60 : Value) (s61 : St) : Option (Int32 × St) := some (((if p1 = 0 then x58 else x57) : Int32), s61)
noncomputable def fX3_bestHour (sh : List kd) (σ : St) (p1 : Int32) : Option (Int32 × St) := if ¬ (σ.1 143 6) = 0 then fX3_bestHour_L18 sh p1 (fun (x57 : Int32) (x58 : Int32) (x59 : Int32) (x60 : Value) (s61 : St) => fX3_bestHour_X51 sh p1 x57 x58 x59 x60 s61) i_F 0 8 0 (.retAddr 0) σ else some ((-2), σ)
set_option maxRecDepth 20000 in
set_option maxHeartbeats 2000000 in
theorem tX3_bestHour_J45 {sh : List kd} {τ : St} {r : Int32} (hsh : cSh sh) {p1 : Int32} {x4 : Int32} {r64 : Int32} {s65 : St} {x117 : Int32} {x118 : Int32} {k18 : Int32 → Int32 → Int32 → Value → St → Option (Int32 × St)} (hk18 : ∀ (x2 : Int32) (x3 : Int32) (x4 : Int32) (x5 : Value) (s6 : St), k18 x2 x3 x4 x5 s6 = some (r, τ) → g_R sh 2 mX3_bestHour (some (.int r)) τ 18 [.ref 143, .int p1, .int x2, .int x3, .int x4, x5] [] (s6)) (hE : fX3_bestHour_J45 sh p1 x4 r64 s65 k18 x117 x118 = some (r, τ)) : g_R sh 2 mX3_bestHour (some (.int r)) τ 45 [.ref 143, .int p1, .int x117, .int x118, .int x4, .int r64] [] (s65) := by
  unfold fX3_bestHour_J45 at hE
  refine g_iinc (y := 1) (loc2 := [.ref 143, .int p1, .int x117, .int x118, .int (x4 + 1), .int r64]) aX3_bestHour_45 rfl rfl rfl ?_
  refine g_goto aX3_bestHour_48 ?_
  exact hk18 _ _ _ _ _ hE
set_option maxRecDepth 20000 in
set_option maxHeartbeats 2000000 in
theorem tX3_bestHour_L18 {sh : List kd} {τ : St} {r : Int32} (hsh : cSh sh) {p1 : Int32} {k51 : Int32 → Int32 → Int32 → Value → St → Option (Int32 × St)} (hk51 : ∀ (x57 : Int32) (x58 : Int32) (x59 : Int32) (x60 : Value) (s61 : St), k51 x57 x58 x59 x60 s61 = some (r, τ) → g_R sh 2 mX3_bestHour (some (.int r)) τ 51 [.ref 143, .int p1, .int x57, .int x58, .int x59, x60] [] (s61)) : ∀ (n0 : Nat) (x2 : Int32) (x3 : Int32) (x4 : Int32) (x5 : Value) (s6 : St), fX3_bestHour_L18 sh p1 k51 n0 x2 x3 x4 x5 s6 = some (r, τ) → g_R sh 2 mX3_bestHour (some (.int r)) τ 18 [.ref 143, .int p1, .int x2, .int x3, .int x4, x5] [] (s6) := by
  intro n0
  induction n0 with
  | zero => intro _ _ _ _ _ hE; cases hE
  | succ n62 ih =>
    intro x2 x3 x4 x5 s6 hE
    unfold fX3_bestHour_L18 at hE
    refine g_ldi aX3_bestHour_18 rfl ?_
    refine g_bipush (x := 60) aX3_bestHour_20 rfl ?_
    by_cases hc63 : 60 < x4
    · rw [if_pos hc63] at hE
      refine g_ic_gt_t aX3_bestHour_22 hc63 ?_
      exact hk51 _ _ _ _ _ hE
    · rw [if_neg hc63] at hE
      refine g_ic_gt_f aX3_bestHour_22 hc63 ?_
      refine g_ldan aX3_bestHour_25 rfl ?_
      refine g_ldi aX3_bestHour_26 rfl ?_
      obtain ⟨r64, s65, h66, hE⟩ := i_bd_some hE
      refine g_calV (As := [.int x4]) (rest := []) aX3_bestHour_28 (i_X_mono (by omega) (tX3_mostAlike hsh h66)) (sC_143 hsh) (by decide +kernel) rfl rfl (Nat.le_of_ble_eq_true rfl) rfl ?_
      refine g_sti (loc2 := [.ref 143, .int p1, .int x2, .int x3, .int x4, .int r64]) aX3_bestHour_31 (Nat.le_of_ble_eq_true rfl) rfl ?_
      refine g_ldi aX3_bestHour_33 rfl ?_
      refine g_ldin aX3_bestHour_35 rfl ?_
      by_cases hc119 : x3 ≤ r64
      · rw [if_pos hc119] at hE
        refine g_ic_ge_t aX3_bestHour_36 hc119 ?_
        exact tX3_bestHour_J45 hsh ih hE
      · rw [if_neg hc119] at hE
        refine g_ic_ge_f aX3_bestHour_36 hc119 ?_
        refine g_ldi aX3_bestHour_39 rfl ?_
        refine g_stin (loc2 := [.ref 143, .int p1, .int x2, .int r64, .int x4, .int r64]) aX3_bestHour_41 (Nat.le_of_ble_eq_true rfl) rfl ?_
        refine g_ldi aX3_bestHour_42 rfl ?_
        refine g_stin (loc2 := [.ref 143, .int p1, .int x4, .int r64, .int x4, .int r64]) aX3_bestHour_44 (Nat.le_of_ble_eq_true rfl) rfl ?_
        exact tX3_bestHour_J45 hsh ih hE
set_option maxRecDepth 20000 in
set_option maxHeartbeats 2000000 in
theorem tX3_bestHour_X51 {sh : List kd} {τ : St} {r : Int32} (hsh : cSh sh) {p1 : Int32} {x57 : Int32} {x58 : Int32} {x59 : Int32} {x60 : Value} {s61 : St} (hE : fX3_bestHour_X51 sh p1 x57 x58 x59 x60 s61 = some (r, τ)) : g_R sh 2 mX3_bestHour (some (.int r)) τ 51 [.ref 143, .int p1, .int x57, .int x58, .int x59, x60] [] (s61) := by
  unfold fX3_bestHour_X51 at hE
  refine g_ldin aX3_bestHour_51 rfl ?_
  have hJ : g_R sh 2 mX3_bestHour (some (.int r)) τ 60 [.ref 143, .int p1, .int x57, .int x58, .int x59, x60] [.int ((if p1 = 0 then x58 else x57) : Int32)] (s61) := by
    obtain ⟨rfl, rfl⟩ := i_some_inj hE
    exact g_iret aX3_bestHour_60 rfl rfl
  clear hE
  by_cases hc119 : p1 = 0
  · (try rw [if_pos hc119] at hJ)
    refine g_if_eq_t aX3_bestHour_52 hc119 ?_
    refine g_ldin aX3_bestHour_59 rfl ?_
    exact hJ
  · (try rw [if_neg hc119] at hJ)
    refine g_if_eq_f aX3_bestHour_52 hc119 ?_
    refine g_ldin aX3_bestHour_55 rfl ?_
    refine g_goto aX3_bestHour_56 ?_
    exact hJ
set_option maxRecDepth 20000 in
set_option maxHeartbeats 2000000 in
theorem tX3_bestHour {sh : List kd} {σ τ : St} {r : Int32} (hsh : cSh sh) {p1 : Int32} (hE : fX3_bestHour sh σ p1 = some (r, τ)) : i_X 3 23 [.ref 143, .int p1] (s_h sh σ) 0 0 (some (.int r)) (s_h sh τ) := by
  refine g_X (M := mX3_bestHour) (loc := [.ref 143, .int p1, .retAddr 0, .retAddr 0, .retAddr 0, .retAddr 0]) rfl (Nat.le_of_ble_eq_true rfl) rfl ?_
  unfold fX3_bestHour at hE
  refine g_ldan aX3_bestHour_0 rfl ?_
  refine g_getI aX3_bestHour_1 (sC_143 hsh) rfl ?_
  by_cases hc1 : ¬ (σ.1 143 6) = 0
  · rw [if_pos hc1] at hE
    refine g_if_ne_t aX3_bestHour_4 hc1 ?_
    refine g_iconst (x := 0) aX3_bestHour_10 rfl ?_
    refine g_stin (loc2 := [.ref 143, .int p1, .int 0, .retAddr 0, .retAddr 0, .retAddr 0]) aX3_bestHour_11 (Nat.le_of_ble_eq_true rfl) rfl ?_
    refine g_bipush (x := 8) aX3_bestHour_12 rfl ?_
    refine g_stin (loc2 := [.ref 143, .int p1, .int 0, .int 8, .retAddr 0, .retAddr 0]) aX3_bestHour_14 (Nat.le_of_ble_eq_true rfl) rfl ?_
    refine g_iconst (x := 0) aX3_bestHour_15 rfl ?_
    refine g_sti (loc2 := [.ref 143, .int p1, .int 0, .int 8, .int 0, .retAddr 0]) aX3_bestHour_16 (Nat.le_of_ble_eq_true rfl) rfl ?_
    exact tX3_bestHour_L18 hsh (fun x57 x58 x59 x60 s61 hE => tX3_bestHour_X51 hsh hE) i_F _ _ _ _ _ hE
  · rw [if_neg hc1] at hE
    refine g_if_ne_f aX3_bestHour_4 hc1 ?_
    refine g_bipush (x := (-2)) aX3_bestHour_7 rfl ?_
    obtain ⟨rfl, rfl⟩ := i_some_inj hE
    exact g_iret aX3_bestHour_9 rfl rfl
theorem aX7_worth_0 : i_at mX7_worth.2.2.2.2.2 0 = some (.iconst 0, 1, 0, 0, 0, 0) := by decide +kernel
theorem aX7_worth_1 : i_at mX7_worth.2.2.2.2.2 1 = some (.istore_n 3, 1, 0, 0, 0, 0) := by decide +kernel
theorem aX7_worth_2 : i_at mX7_worth.2.2.2.2.2 2 = some (.iconst 0, 1, 0, 0, 0, 0) := by decide +kernel
theorem aX7_worth_3 : i_at mX7_worth.2.2.2.2.2 3 = some (.istore 4, 2, 0, 0, 0, 0) := by decide +kernel
theorem aX7_worth_5 : i_at mX7_worth.2.2.2.2.2 5 = some (.iload 4, 2, 0, 0, 0, 0) := by decide +kernel
theorem aX7_worth_7 : i_at mX7_worth.2.2.2.2.2 7 = some (.aload_n 0, 1, 0, 0, 0, 0) := by decide +kernel
theorem aX7_worth_8 : i_at mX7_worth.2.2.2.2.2 8 = some (.getfield 16, 3, 6, 2, 738, 0) := by decide +kernel
theorem aX7_worth_11 : i_at mX7_worth.2.2.2.2.2 11 = some (.arraylength, 1, 0, 0, 0, 0) := by decide +kernel
theorem aX7_worth_12 : i_at mX7_worth.2.2.2.2.2 12 = some (.if_icmp .ge 96, 3, 108, 0, 0, 0) := by decide +kernel
theorem aX7_worth_15 : i_at mX7_worth.2.2.2.2.2 15 = some (.iload 4, 2, 0, 0, 0, 0) := by decide +kernel
theorem aX7_worth_17 : i_at mX7_worth.2.2.2.2.2 17 = some (.aload_n 0, 1, 0, 0, 0, 0) := by decide +kernel
theorem aX7_worth_18 : i_at mX7_worth.2.2.2.2.2 18 = some (.getfield 19, 3, 6, 3, 739, 0) := by decide +kernel
theorem aX7_worth_21 : i_at mX7_worth.2.2.2.2.2 21 = some (.arraylength, 1, 0, 0, 0, 0) := by decide +kernel
theorem aX7_worth_22 : i_at mX7_worth.2.2.2.2.2 22 = some (.if_icmp .ge 86, 3, 108, 0, 0, 0) := by decide +kernel
theorem aX7_worth_25 : i_at mX7_worth.2.2.2.2.2 25 = some (.aload_n 0, 1, 0, 0, 0, 0) := by decide +kernel
theorem aX7_worth_26 : i_at mX7_worth.2.2.2.2.2 26 = some (.getfield 19, 3, 6, 3, 739, 0) := by decide +kernel
theorem aX7_worth_29 : i_at mX7_worth.2.2.2.2.2 29 = some (.iload 4, 2, 0, 0, 0, 0) := by decide +kernel
theorem aX7_worth_31 : i_at mX7_worth.2.2.2.2.2 31 = some (.iaload, 1, 0, 0, 0, 0) := by decide +kernel
theorem aX7_worth_32 : i_at mX7_worth.2.2.2.2.2 32 = some (.aload_n 0, 1, 0, 0, 0, 0) := by decide +kernel
theorem aX7_worth_33 : i_at mX7_worth.2.2.2.2.2 33 = some (.getfield 16, 3, 6, 2, 738, 0) := by decide +kernel
theorem aX7_worth_36 : i_at mX7_worth.2.2.2.2.2 36 = some (.iload 4, 2, 0, 0, 0, 0) := by decide +kernel
theorem aX7_worth_38 : i_at mX7_worth.2.2.2.2.2 38 = some (.iaload, 1, 0, 0, 0, 0) := by decide +kernel
theorem aX7_worth_39 : i_at mX7_worth.2.2.2.2.2 39 = some (.if_icmp .le 7, 3, 46, 0, 0, 0) := by decide +kernel
theorem aX7_worth_42 : i_at mX7_worth.2.2.2.2.2 42 = some (.iconst 1, 1, 0, 0, 0, 0) := by decide +kernel
theorem aX7_worth_43 : i_at mX7_worth.2.2.2.2.2 43 = some (.goto 4, 3, 47, 0, 0, 0) := by decide +kernel
theorem aX7_worth_46 : i_at mX7_worth.2.2.2.2.2 46 = some (.iconst 0, 1, 0, 0, 0, 0) := by decide +kernel
theorem aX7_worth_47 : i_at mX7_worth.2.2.2.2.2 47 = some (.istore 5, 2, 0, 0, 0, 0) := by decide +kernel
theorem aX7_worth_49 : i_at mX7_worth.2.2.2.2.2 49 = some (.iload 5, 2, 0, 0, 0, 0) := by decide +kernel
theorem aX7_worth_51 : i_at mX7_worth.2.2.2.2.2 51 = some (.ifCond .eq 28, 3, 79, 0, 0, 0) := by decide +kernel
theorem aX7_worth_54 : i_at mX7_worth.2.2.2.2.2 54 = some (.aload_n 0, 1, 0, 0, 0, 0) := by decide +kernel
theorem aX7_worth_55 : i_at mX7_worth.2.2.2.2.2 55 = some (.aload_n 0, 1, 0, 0, 0, 0) := by decide +kernel
theorem aX7_worth_56 : i_at mX7_worth.2.2.2.2.2 56 = some (.getfield 16, 3, 6, 2, 738, 0) := by decide +kernel
theorem aX7_worth_59 : i_at mX7_worth.2.2.2.2.2 59 = some (.iload 4, 2, 0, 0, 0, 0) := by decide +kernel
theorem aX7_worth_61 : i_at mX7_worth.2.2.2.2.2 61 = some (.iaload, 1, 0, 0, 0, 0) := by decide +kernel
theorem aX7_worth_62 : i_at mX7_worth.2.2.2.2.2 62 = some (.aload_n 0, 1, 0, 0, 0, 0) := by decide +kernel
theorem aX7_worth_63 : i_at mX7_worth.2.2.2.2.2 63 = some (.getfield 19, 3, 6, 3, 739, 0) := by decide +kernel
theorem aX7_worth_66 : i_at mX7_worth.2.2.2.2.2 66 = some (.iload 4, 2, 0, 0, 0, 0) := by decide +kernel
theorem aX7_worth_68 : i_at mX7_worth.2.2.2.2.2 68 = some (.iaload, 1, 0, 0, 0, 0) := by decide +kernel
theorem aX7_worth_69 : i_at mX7_worth.2.2.2.2.2 69 = some (.aload_n 1, 1, 0, 0, 0, 0) := by decide +kernel
theorem aX7_worth_70 : i_at mX7_worth.2.2.2.2.2 70 = some (.aload_n 2, 1, 0, 0, 0, 0) := by decide +kernel
theorem aX7_worth_71 : i_at mX7_worth.2.2.2.2.2 71 = some (.invokevirtual 22, 3, 59, 4, 831, 0) := by decide +kernel
theorem aX7_worth_74 : i_at mX7_worth.2.2.2.2.2 74 = some (.lconst 0, 1, 0, 0, 0, 0) := by decide +kernel
theorem aX7_worth_75 : i_at mX7_worth.2.2.2.2.2 75 = some (.lcmp, 1, 0, 0, 0, 0) := by decide +kernel
theorem aX7_worth_76 : i_at mX7_worth.2.2.2.2.2 76 = some (.ifCond .eq 18, 3, 94, 0, 0, 0) := by decide +kernel
theorem aX7_worth_79 : i_at mX7_worth.2.2.2.2.2 79 = some (.aload_n 0, 1, 0, 0, 0, 0) := by decide +kernel
theorem aX7_worth_80 : i_at mX7_worth.2.2.2.2.2 80 = some (.iload_n 3, 1, 0, 0, 0, 0) := by decide +kernel
theorem aX7_worth_81 : i_at mX7_worth.2.2.2.2.2 81 = some (.aload_n 0, 1, 0, 0, 0, 0) := by decide +kernel
theorem aX7_worth_82 : i_at mX7_worth.2.2.2.2.2 82 = some (.getfield 16, 3, 6, 2, 738, 0) := by decide +kernel
theorem aX7_worth_85 : i_at mX7_worth.2.2.2.2.2 85 = some (.iload 4, 2, 0, 0, 0, 0) := by decide +kernel
theorem aX7_worth_87 : i_at mX7_worth.2.2.2.2.2 87 = some (.iaload, 1, 0, 0, 0, 0) := by decide +kernel
theorem aX7_worth_88 : i_at mX7_worth.2.2.2.2.2 88 = some (.aload_n 1, 1, 0, 0, 0, 0) := by decide +kernel
theorem aX7_worth_89 : i_at mX7_worth.2.2.2.2.2 89 = some (.aload_n 2, 1, 0, 0, 0, 0) := by decide +kernel
theorem aX7_worth_90 : i_at mX7_worth.2.2.2.2.2 90 = some (.invokevirtual 22, 3, 59, 4, 831, 0) := by decide +kernel
theorem aX7_worth_93 : i_at mX7_worth.2.2.2.2.2 93 = some (.lreturn, 1, 0, 0, 0, 0) := by decide +kernel
theorem aX7_worth_94 : i_at mX7_worth.2.2.2.2.2 94 = some (.aload_n 0, 1, 0, 0, 0, 0) := by decide +kernel
theorem aX7_worth_95 : i_at mX7_worth.2.2.2.2.2 95 = some (.getfield 19, 3, 6, 3, 739, 0) := by decide +kernel
theorem aX7_worth_98 : i_at mX7_worth.2.2.2.2.2 98 = some (.iload 4, 2, 0, 0, 0, 0) := by decide +kernel
theorem aX7_worth_100 : i_at mX7_worth.2.2.2.2.2 100 = some (.iaload, 1, 0, 0, 0, 0) := by decide +kernel
theorem aX7_worth_101 : i_at mX7_worth.2.2.2.2.2 101 = some (.istore_n 3, 1, 0, 0, 0, 0) := by decide +kernel
theorem aX7_worth_102 : i_at mX7_worth.2.2.2.2.2 102 = some (.iinc 4 1, 3, 0, 0, 0, 0) := by decide +kernel
theorem aX7_worth_105 : i_at mX7_worth.2.2.2.2.2 105 = some (.goto (-100), 3, 5, 0, 0, 0) := by decide +kernel
theorem aX7_worth_108 : i_at mX7_worth.2.2.2.2.2 108 = some (.lconst 0, 1, 0, 0, 0, 0) := by decide +kernel
theorem aX7_worth_109 : i_at mX7_worth.2.2.2.2.2 109 = some (.lreturn, 1, 0, 0, 0, 0) := by decide +kernel
noncomputable def fX7_worth_L5 (sh : List kd) (p0 : Nat) (p1 : Nat) (p2 : Nat) (k79 : Int32 → Int32 → Int32 → St → Option (Int64 × St)) : Nat → Int32 → Int32 → Value → St → Option (Int64 × St)
  | 0, _, _, _, _ => none
  | n59 + 1, x1, x2, x3, s4 => i_al sh .int (p0 + 3) (fun n60 => if (Int32.ofNat n60) ≤ x2 then some (0, s4) else i_al sh .int (p0 + 4) (fun n63 => if (Int32.ofNat n63) ≤ x2 then some (0, s4) else i_al sh .int (p0 + 4) (fun n66 => if i_ok x2 n66 then i_al sh .int (p0 + 3) (fun n69 => if i_ok x2 n69 then if ((if (s4.2.1 (p0 + 4) x2.toNatClampNeg) ≤ (s4.2.1 (p0 + 3) x2.toNatClampNeg) then 0 else 1) : Int32) = 0 then k79 x1 x2 ((if (s4.2.1 (p0 + 4) x2.toNatClampNeg) ≤ (s4.2.1 (p0 + 3) x2.toNatClampNeg) then 0 else 1) : Int32) s4 else i_al sh .int (p0 + 3) (fun n73 => if i_ok x2 n73 then i_al sh .int (p0 + 4) (fun n76 => if i_ok x2 n76 then i_bd (fX7_outcome sh s4 p0 (s4.2.1 (p0 + 3) x2.toNatClampNeg) (s4.2.1 (p0 + 4) x2.toNatClampNeg) p1 p2) (fun r79 s80 => if (lg_cmp r79 0) = 0 then i_al sh .int (p0 + 4) (fun n83 => if i_ok x2 n83 then (fX7_worth_L5 sh p0 p1 p2 k79 n59 (s80.2.1 (p0 + 4) x2.toNatClampNeg) (x2 + 1) (.int ((if (s4.2.1 (p0 + 4) x2.toNatClampNeg) ≤ (s4.2.1 (p0 + 3) x2.toNatClampNeg) then 0 else 1) : Int32)) s80) else none) else k79 x1 x2 ((if (s4.2.1 (p0 + 4) x2.toNatClampNeg) ≤ (s4.2.1 (p0 + 3) x2.toNatClampNeg) then 0 else 1) : Int32) s80) else none) else none) else none) else none)))
noncomputable def fX7_worth_X79 (sh : List kd) (p0 : Nat) (p1 : Nat) (p2 : Nat) (x55 : Int32) (x56 : Int32) (x57 : Int32) (s58 : St) : Option (Int64 × St) := i_al sh .int (p0 + 3) (fun n87 => if i_ok x56 n87 then i_bd (fX7_outcome sh s58 p0 x55 (s58.2.1 (p0 + 3) x56.toNatClampNeg) p1 p2) (fun r90 s91 => some (r90, s91)) else none)
noncomputable def fX7_worth (sh : List kd) (σ : St) (p0 : Nat) (p1 : Nat) (p2 : Nat) : Option (Int64 × St) := fX7_worth_L5 sh p0 p1 p2 (fun (x55 : Int32) (x56 : Int32) (x57 : Int32) (s58 : St) => fX7_worth_X79 sh p0 p1 p2 x55 x56 x57 s58) i_F 0 0 (.retAddr 0) σ
set_option maxRecDepth 20000 in
set_option maxHeartbeats 2000000 in
theorem tX7_worth_L5 {sh : List kd} {τ : St} {r : Int64} (hsh : cSh sh) {p0 : Nat} {p1 : Nat} {p2 : Nat} {k79 : Int32 → Int32 → Int32 → St → Option (Int64 × St)} (hp0 : uSh sh p0) (hk79 : ∀ (x55 : Int32) (x56 : Int32) (x57 : Int32) (s58 : St), k79 x55 x56 x57 s58 = some (r, τ) → g_R sh 2 mX7_worth (some (.long r)) τ 79 [.ref p0, .ref p1, .ref p2, .int x55, .int x56, .int x57] [] (s58)) : ∀ (n0 : Nat) (x1 : Int32) (x2 : Int32) (x3 : Value) (s4 : St), fX7_worth_L5 sh p0 p1 p2 k79 n0 x1 x2 x3 s4 = some (r, τ) → g_R sh 2 mX7_worth (some (.long r)) τ 5 [.ref p0, .ref p1, .ref p2, .int x1, .int x2, x3] [] (s4) := by
  intro n0
  induction n0 with
  | zero => intro _ _ _ _ hE; cases hE
  | succ n59 ih =>
    intro x1 x2 x3 s4 hE
    unfold fX7_worth_L5 at hE
    refine g_ldi aX7_worth_5 rfl ?_
    refine g_ldan aX7_worth_7 rfl ?_
    refine g_getR aX7_worth_8 (hp0) rfl ?_
    obtain ⟨n60, h61, hE⟩ := i_al_some hE
    refine g_len aX7_worth_11 h61 ?_
    by_cases hc62 : (Int32.ofNat n60) ≤ x2
    · rw [if_pos hc62] at hE
      refine g_ic_ge_t aX7_worth_12 hc62 ?_
      refine g_lconst (x := 0) aX7_worth_108 rfl ?_
      obtain ⟨rfl, rfl⟩ := i_some_inj hE
      exact g_lret aX7_worth_109 rfl
    · rw [if_neg hc62] at hE
      refine g_ic_ge_f aX7_worth_12 hc62 ?_
      refine g_ldi aX7_worth_15 rfl ?_
      refine g_ldan aX7_worth_17 rfl ?_
      refine g_getR aX7_worth_18 (hp0) rfl ?_
      obtain ⟨n63, h64, hE⟩ := i_al_some hE
      refine g_len aX7_worth_21 h64 ?_
      by_cases hc65 : (Int32.ofNat n63) ≤ x2
      · rw [if_pos hc65] at hE
        refine g_ic_ge_t aX7_worth_22 hc65 ?_
        refine g_lconst (x := 0) aX7_worth_108 rfl ?_
        obtain ⟨rfl, rfl⟩ := i_some_inj hE
        exact g_lret aX7_worth_109 rfl
      · rw [if_neg hc65] at hE
        refine g_ic_ge_f aX7_worth_22 hc65 ?_
        refine g_ldan aX7_worth_25 rfl ?_
        refine g_getR aX7_worth_26 (hp0) rfl ?_
        refine g_ldi aX7_worth_29 rfl ?_
        obtain ⟨n66, h67, hE⟩ := i_al_some hE
        obtain ⟨h68, hE⟩ := i_ifn hE
        refine g_ild aX7_worth_31 (h67) h68 ?_
        refine g_ldan aX7_worth_32 rfl ?_
        refine g_getR aX7_worth_33 (hp0) rfl ?_
        refine g_ldi aX7_worth_36 rfl ?_
        obtain ⟨n69, h70, hE⟩ := i_al_some hE
        obtain ⟨h71, hE⟩ := i_ifn hE
        refine g_ild aX7_worth_38 (h70) h71 ?_
        have hJ : g_R sh 2 mX7_worth (some (.long r)) τ 47 [.ref p0, .ref p1, .ref p2, .int x1, .int x2, x3] [.int ((if (s4.2.1 (p0 + 4) x2.toNatClampNeg) ≤ (s4.2.1 (p0 + 3) x2.toNatClampNeg) then 0 else 1) : Int32)] (s4) := by
          refine g_sti (loc2 := [.ref p0, .ref p1, .ref p2, .int x1, .int x2, .int ((if (s4.2.1 (p0 + 4) x2.toNatClampNeg) ≤ (s4.2.1 (p0 + 3) x2.toNatClampNeg) then 0 else 1) : Int32)]) aX7_worth_47 (Nat.le_of_ble_eq_true rfl) rfl ?_
          refine g_ldi aX7_worth_49 rfl ?_
          by_cases hc72 : ((if (s4.2.1 (p0 + 4) x2.toNatClampNeg) ≤ (s4.2.1 (p0 + 3) x2.toNatClampNeg) then 0 else 1) : Int32) = 0
          · rw [if_pos hc72] at hE
            refine g_if_eq_t aX7_worth_51 hc72 ?_
            exact hk79 _ _ _ _ hE
          · rw [if_neg hc72] at hE
            refine g_if_eq_f aX7_worth_51 hc72 ?_
            refine g_ldan aX7_worth_54 rfl ?_
            refine g_ldan aX7_worth_55 rfl ?_
            refine g_getR aX7_worth_56 (hp0) rfl ?_
            refine g_ldi aX7_worth_59 rfl ?_
            obtain ⟨n73, h74, hE⟩ := i_al_some hE
            obtain ⟨h75, hE⟩ := i_ifn hE
            refine g_ild aX7_worth_61 (h74) h75 ?_
            refine g_ldan aX7_worth_62 rfl ?_
            refine g_getR aX7_worth_63 (hp0) rfl ?_
            refine g_ldi aX7_worth_66 rfl ?_
            obtain ⟨n76, h77, hE⟩ := i_al_some hE
            obtain ⟨h78, hE⟩ := i_ifn hE
            refine g_ild aX7_worth_68 (h77) h78 ?_
            refine g_ldan aX7_worth_69 rfl ?_
            refine g_ldan aX7_worth_70 rfl ?_
            obtain ⟨r79, s80, h81, hE⟩ := i_bd_some hE
            refine g_calV (As := [.int (s4.2.1 (p0 + 3) x2.toNatClampNeg), .int (s4.2.1 (p0 + 4) x2.toNatClampNeg), .ref p1, .ref p2]) (rest := []) aX7_worth_71 (i_X_mono (by omega) (tX7_outcome hsh hp0 h81)) (hp0) (by decide +kernel) rfl rfl (Nat.le_of_ble_eq_true rfl) rfl ?_
            refine g_lconst (x := 0) aX7_worth_74 rfl ?_
            refine g_lcmp aX7_worth_75 ?_
            by_cases hc82 : (lg_cmp r79 0) = 0
            · rw [if_pos hc82] at hE
              refine g_if_eq_t aX7_worth_76 hc82 ?_
              refine g_ldan aX7_worth_94 rfl ?_
              refine g_getR aX7_worth_95 (hp0) rfl ?_
              refine g_ldi aX7_worth_98 rfl ?_
              obtain ⟨n83, h84, hE⟩ := i_al_some hE
              obtain ⟨h85, hE⟩ := i_ifn hE
              refine g_ild aX7_worth_100 (h84) h85 ?_
              refine g_stin (loc2 := [.ref p0, .ref p1, .ref p2, .int (s80.2.1 (p0 + 4) x2.toNatClampNeg), .int x2, .int ((if (s4.2.1 (p0 + 4) x2.toNatClampNeg) ≤ (s4.2.1 (p0 + 3) x2.toNatClampNeg) then 0 else 1) : Int32)]) aX7_worth_101 (Nat.le_of_ble_eq_true rfl) rfl ?_
              refine g_iinc (y := 1) (loc2 := [.ref p0, .ref p1, .ref p2, .int (s80.2.1 (p0 + 4) x2.toNatClampNeg), .int (x2 + 1), .int ((if (s4.2.1 (p0 + 4) x2.toNatClampNeg) ≤ (s4.2.1 (p0 + 3) x2.toNatClampNeg) then 0 else 1) : Int32)]) aX7_worth_102 rfl rfl rfl ?_
              refine g_goto aX7_worth_105 ?_
              exact ih _ _ _ _ hE
            · rw [if_neg hc82] at hE
              refine g_if_eq_f aX7_worth_76 hc82 ?_
              exact hk79 _ _ _ _ hE
        clear hE
        by_cases hc85 : (s4.2.1 (p0 + 4) x2.toNatClampNeg) ≤ (s4.2.1 (p0 + 3) x2.toNatClampNeg)
        · (try rw [if_pos hc85] at hJ)
          refine g_ic_le_t aX7_worth_39 hc85 ?_
          refine g_iconst (x := 0) aX7_worth_46 rfl ?_
          exact hJ
        · (try rw [if_neg hc85] at hJ)
          refine g_ic_le_f aX7_worth_39 hc85 ?_
          refine g_iconst (x := 1) aX7_worth_42 rfl ?_
          refine g_goto aX7_worth_43 ?_
          exact hJ
set_option maxRecDepth 20000 in
set_option maxHeartbeats 2000000 in
theorem tX7_worth_X79 {sh : List kd} {τ : St} {r : Int64} (hsh : cSh sh) {p0 : Nat} {p1 : Nat} {p2 : Nat} {x55 : Int32} {x56 : Int32} {x57 : Int32} {s58 : St} (hp0 : uSh sh p0) (hE : fX7_worth_X79 sh p0 p1 p2 x55 x56 x57 s58 = some (r, τ)) : g_R sh 2 mX7_worth (some (.long r)) τ 79 [.ref p0, .ref p1, .ref p2, .int x55, .int x56, .int x57] [] (s58) := by
  unfold fX7_worth_X79 at hE
  refine g_ldan aX7_worth_79 rfl ?_
  refine g_ldin aX7_worth_80 rfl ?_
  refine g_ldan aX7_worth_81 rfl ?_
  refine g_getR aX7_worth_82 (hp0) rfl ?_
  refine g_ldi aX7_worth_85 rfl ?_
  obtain ⟨n87, h88, hE⟩ := i_al_some hE
  obtain ⟨h89, hE⟩ := i_ifn hE
  refine g_ild aX7_worth_87 (h88) h89 ?_
  refine g_ldan aX7_worth_88 rfl ?_
  refine g_ldan aX7_worth_89 rfl ?_
  obtain ⟨r90, s91, h92, hE⟩ := i_bd_some hE
  refine g_calV (As := [.int x55, .int (s58.2.1 (p0 + 3) x56.toNatClampNeg), .ref p1, .ref p2]) (rest := []) aX7_worth_90 (i_X_mono (by omega) (tX7_outcome hsh hp0 h92)) (hp0) (by decide +kernel) rfl rfl (Nat.le_of_ble_eq_true rfl) rfl ?_
  obtain ⟨rfl, rfl⟩ := i_some_inj hE
  exact g_lret aX7_worth_93 rfl
set_option maxRecDepth 20000 in
set_option maxHeartbeats 2000000 in
theorem tX7_worth {sh : List kd} {σ τ : St} {r : Int64} (hsh : cSh sh) {p0 : Nat} {p1 : Nat} {p2 : Nat} (hp0 : uSh sh p0) (hE : fX7_worth sh σ p0 p1 p2 = some (r, τ)) : i_X 3 58 [.ref p0, .ref p1, .ref p2] (s_h sh σ) 0 0 (some (.long r)) (s_h sh τ) := by
  refine g_X (M := mX7_worth) (loc := [.ref p0, .ref p1, .ref p2, .retAddr 0, .retAddr 0, .retAddr 0]) rfl (Nat.le_of_ble_eq_true rfl) rfl ?_
  unfold fX7_worth at hE
  refine g_iconst (x := 0) aX7_worth_0 rfl ?_
  refine g_stin (loc2 := [.ref p0, .ref p1, .ref p2, .int 0, .retAddr 0, .retAddr 0]) aX7_worth_1 (Nat.le_of_ble_eq_true rfl) rfl ?_
  refine g_iconst (x := 0) aX7_worth_2 rfl ?_
  refine g_sti (loc2 := [.ref p0, .ref p1, .ref p2, .int 0, .int 0, .retAddr 0]) aX7_worth_3 (Nat.le_of_ble_eq_true rfl) rfl ?_
  exact tX7_worth_L5 hsh hp0 (fun x55 x56 x57 s58 hE => tX7_worth_X79 hsh hp0 hE) i_F _ _ _ _ hE
theorem aX8_openClause_0 : i_at mX8_openClause.2.2.2.2.2 0 = some (.aload_n 0, 1, 0, 0, 0, 0) := by decide +kernel
theorem aX8_openClause_1 : i_at mX8_openClause.2.2.2.2.2 1 = some (.getfield 24, 3, 7, 0, 234, 0) := by decide +kernel
theorem aX8_openClause_4 : i_at mX8_openClause.2.2.2.2.2 4 = some (.ldc 94, 2, 1, 1, 0, 0) := by decide +kernel
theorem aX8_openClause_6 : i_at mX8_openClause.2.2.2.2.2 6 = some (.invokevirtual 96, 3, 81, 1, 658, 0) := by decide +kernel
theorem aX8_openClause_9 : i_at mX8_openClause.2.2.2.2.2 9 = some (.iconst (-1), 1, 0, 0, 0, 0) := by decide +kernel
theorem aX8_openClause_10 : i_at mX8_openClause.2.2.2.2.2 10 = some (.if_icmp .ne 21, 3, 31, 0, 0, 0) := by decide +kernel
theorem aX8_openClause_13 : i_at mX8_openClause.2.2.2.2.2 13 = some (.aload_n 0, 1, 0, 0, 0, 0) := by decide +kernel
theorem aX8_openClause_14 : i_at mX8_openClause.2.2.2.2.2 14 = some (.getfield 24, 3, 7, 0, 234, 0) := by decide +kernel
theorem aX8_openClause_17 : i_at mX8_openClause.2.2.2.2.2 17 = some (.aload_n 0, 1, 0, 0, 0, 0) := by decide +kernel
theorem aX8_openClause_18 : i_at mX8_openClause.2.2.2.2.2 18 = some (.getfield 24, 3, 7, 0, 234, 0) := by decide +kernel
theorem aX8_openClause_21 : i_at mX8_openClause.2.2.2.2.2 21 = some (.getfield 76, 3, 8, 2, 132, 0) := by decide +kernel
theorem aX8_openClause_24 : i_at mX8_openClause.2.2.2.2.2 24 = some (.iconst 0, 1, 0, 0, 0, 0) := by decide +kernel
theorem aX8_openClause_25 : i_at mX8_openClause.2.2.2.2.2 25 = some (.invokevirtual 79, 3, 77, 2, 659, 0) := by decide +kernel
theorem aX8_openClause_28 : i_at mX8_openClause.2.2.2.2.2 28 = some (.goto 37, 3, 65, 0, 0, 0) := by decide +kernel
theorem aX8_openClause_31 : i_at mX8_openClause.2.2.2.2.2 31 = some (.aload_n 0, 1, 0, 0, 0, 0) := by decide +kernel
theorem aX8_openClause_32 : i_at mX8_openClause.2.2.2.2.2 32 = some (.getfield 37, 3, 7, 6, 240, 0) := by decide +kernel
theorem aX8_openClause_35 : i_at mX8_openClause.2.2.2.2.2 35 = some (.bipush 12, 2, 0, 0, 0, 0) := by decide +kernel
theorem aX8_openClause_37 : i_at mX8_openClause.2.2.2.2.2 37 = some (.if_icmp .lt 21, 3, 58, 0, 0, 0) := by decide +kernel
theorem aX8_openClause_40 : i_at mX8_openClause.2.2.2.2.2 40 = some (.aload_n 0, 1, 0, 0, 0, 0) := by decide +kernel
theorem aX8_openClause_41 : i_at mX8_openClause.2.2.2.2.2 41 = some (.getfield 24, 3, 7, 0, 234, 0) := by decide +kernel
theorem aX8_openClause_44 : i_at mX8_openClause.2.2.2.2.2 44 = some (.aload_n 0, 1, 0, 0, 0, 0) := by decide +kernel
theorem aX8_openClause_45 : i_at mX8_openClause.2.2.2.2.2 45 = some (.getfield 24, 3, 7, 0, 234, 0) := by decide +kernel
theorem aX8_openClause_48 : i_at mX8_openClause.2.2.2.2.2 48 = some (.getfield 76, 3, 8, 2, 132, 0) := by decide +kernel
theorem aX8_openClause_51 : i_at mX8_openClause.2.2.2.2.2 51 = some (.iconst 4, 1, 0, 0, 0, 0) := by decide +kernel
theorem aX8_openClause_52 : i_at mX8_openClause.2.2.2.2.2 52 = some (.invokevirtual 79, 3, 77, 2, 659, 0) := by decide +kernel
theorem aX8_openClause_55 : i_at mX8_openClause.2.2.2.2.2 55 = some (.goto 10, 3, 65, 0, 0, 0) := by decide +kernel
theorem aX8_openClause_58 : i_at mX8_openClause.2.2.2.2.2 58 = some (.aload_n 0, 1, 0, 0, 0, 0) := by decide +kernel
theorem aX8_openClause_59 : i_at mX8_openClause.2.2.2.2.2 59 = some (.getfield 24, 3, 7, 0, 234, 0) := by decide +kernel
theorem aX8_openClause_62 : i_at mX8_openClause.2.2.2.2.2 62 = some (.invokevirtual 100, 3, 83, 0, 660, 0) := by decide +kernel
theorem aX8_openClause_65 : i_at mX8_openClause.2.2.2.2.2 65 = some (.return_, 1, 0, 0, 0, 0) := by decide +kernel
noncomputable def fX8_openClause_J65 (sh : List kd) (s54 : St) : Option (Unit × St) := some ((), s54)
noncomputable def fX8_openClause (sh : List kd) (σ : St) : Option (Unit × St) := i_bd (fX9_wordIn sh σ 1) (fun r1 s2 => if ¬ r1 = (-1) then if (s2.1 10 6) < 12 then i_bd (fX9_skipWord sh s2) (fun r57 s58 => fX8_openClause_J65 sh s58) else i_bd (fX9_refuse sh s2 (s2.1 1 2) 4) (fun r60 s61 => fX8_openClause_J65 sh s61) else i_bd (fX9_refuse sh s2 (s2.1 1 2) 0) (fun r63 s64 => fX8_openClause_J65 sh s64))
set_option maxRecDepth 20000 in
set_option maxHeartbeats 2000000 in
theorem tX8_openClause_J65 {sh : List kd} {τ : St} {r : Unit} (hsh : cSh sh) {s54 : St} (hE : fX8_openClause_J65 sh s54 = some (r, τ)) : g_R sh 2 mX8_openClause none τ 65 [.ref 10] [] (s54) := by
  unfold fX8_openClause_J65 at hE
  obtain ⟨rfl, rfl⟩ := i_some_inj hE
  exact g_vret aX8_openClause_65 rfl
set_option maxRecDepth 20000 in
set_option maxHeartbeats 2000000 in
theorem tX8_openClause {sh : List kd} {σ τ : St} {r : Unit} (hsh : cSh sh) (hE : fX8_openClause sh σ = some (r, τ)) : i_X 3 64 [.ref 10] (s_h sh σ) 0 0 none (s_h sh τ) := by
  refine g_X (M := mX8_openClause) (loc := [.ref 10]) rfl (Nat.le_of_ble_eq_true rfl) rfl ?_
  unfold fX8_openClause at hE
  refine g_ldan aX8_openClause_0 rfl ?_
  refine g_getR aX8_openClause_1 (sC_10 hsh) rfl ?_
  refine g_ldcS aX8_openClause_4 rfl ?_
  obtain ⟨r1, s2, h3, hE⟩ := i_bd_some hE
  refine g_calV (As := [.ref (i_SB + 1)]) (rest := []) aX8_openClause_6 (i_X_mono (by omega) (tX9_wordIn hsh h3)) (sC_1 hsh) (by decide +kernel) rfl rfl (Nat.le_of_ble_eq_true rfl) rfl ?_
  refine g_iconst (x := (-1)) aX8_openClause_9 rfl ?_
  by_cases hc55 : ¬ r1 = (-1)
  · rw [if_pos hc55] at hE
    refine g_ic_ne_t aX8_openClause_10 hc55 ?_
    refine g_ldan aX8_openClause_31 rfl ?_
    refine g_getI aX8_openClause_32 (sC_10 hsh) rfl ?_
    refine g_bipush (x := 12) aX8_openClause_35 rfl ?_
    by_cases hc56 : (s2.1 10 6) < 12
    · rw [if_pos hc56] at hE
      refine g_ic_lt_t aX8_openClause_37 hc56 ?_
      refine g_ldan aX8_openClause_58 rfl ?_
      refine g_getR aX8_openClause_59 (sC_10 hsh) rfl ?_
      obtain ⟨r57, s58, h59, hE⟩ := i_bd_some hE
      refine g_calV (As := []) (rest := []) aX8_openClause_62 (i_X_mono (by omega) (tX9_skipWord hsh h59)) (sC_1 hsh) (by decide +kernel) rfl rfl (Nat.le_of_ble_eq_true rfl) rfl ?_
      exact tX8_openClause_J65 hsh hE
    · rw [if_neg hc56] at hE
      refine g_ic_lt_f aX8_openClause_37 hc56 ?_
      refine g_ldan aX8_openClause_40 rfl ?_
      refine g_getR aX8_openClause_41 (sC_10 hsh) rfl ?_
      refine g_ldan aX8_openClause_44 rfl ?_
      refine g_getR aX8_openClause_45 (sC_10 hsh) rfl ?_
      refine g_getI aX8_openClause_48 (sC_1 hsh) rfl ?_
      refine g_iconst (x := 4) aX8_openClause_51 rfl ?_
      obtain ⟨r60, s61, h62, hE⟩ := i_bd_some hE
      refine g_calV (As := [.int (s2.1 1 2), .int 4]) (rest := []) aX8_openClause_52 (i_X_mono (by omega) (tX9_refuse hsh h62)) (sC_1 hsh) (by decide +kernel) rfl rfl (Nat.le_of_ble_eq_true rfl) rfl ?_
      refine g_goto aX8_openClause_55 ?_
      exact tX8_openClause_J65 hsh hE
  · rw [if_neg hc55] at hE
    refine g_ic_ne_f aX8_openClause_10 hc55 ?_
    refine g_ldan aX8_openClause_13 rfl ?_
    refine g_getR aX8_openClause_14 (sC_10 hsh) rfl ?_
    refine g_ldan aX8_openClause_17 rfl ?_
    refine g_getR aX8_openClause_18 (sC_10 hsh) rfl ?_
    refine g_getI aX8_openClause_21 (sC_1 hsh) rfl ?_
    refine g_iconst (x := 0) aX8_openClause_24 rfl ?_
    obtain ⟨r63, s64, h65, hE⟩ := i_bd_some hE
    refine g_calV (As := [.int (s2.1 1 2), .int 0]) (rest := []) aX8_openClause_25 (i_X_mono (by omega) (tX9_refuse hsh h65)) (sC_1 hsh) (by decide +kernel) rfl rfl (Nat.le_of_ble_eq_true rfl) rfl ?_
    refine g_goto aX8_openClause_28 ?_
    exact tX8_openClause_J65 hsh hE
theorem aX8_readComparing_0 : i_at mX8_readComparing.2.2.2.2.2 0 = some (.aload_n 0, 1, 0, 0, 0, 0) := by decide +kernel
theorem aX8_readComparing_1 : i_at mX8_readComparing.2.2.2.2.2 1 = some (.getfield 24, 3, 7, 0, 234, 0) := by decide +kernel
theorem aX8_readComparing_4 : i_at mX8_readComparing.2.2.2.2.2 4 = some (.invokevirtual 68, 3, 78, 0, 669, 0) := by decide +kernel
theorem aX8_readComparing_7 : i_at mX8_readComparing.2.2.2.2.2 7 = some (.istore_n 1, 1, 0, 0, 0, 0) := by decide +kernel
theorem aX8_readComparing_8 : i_at mX8_readComparing.2.2.2.2.2 8 = some (.iload_n 1, 1, 0, 0, 0, 0) := by decide +kernel
theorem aX8_readComparing_9 : i_at mX8_readComparing.2.2.2.2.2 9 = some (.bipush 60, 2, 0, 0, 0, 0) := by decide +kernel
theorem aX8_readComparing_11 : i_at mX8_readComparing.2.2.2.2.2 11 = some (.if_icmp .eq 32, 3, 43, 0, 0, 0) := by decide +kernel
theorem aX8_readComparing_14 : i_at mX8_readComparing.2.2.2.2.2 14 = some (.iload_n 1, 1, 0, 0, 0, 0) := by decide +kernel
theorem aX8_readComparing_15 : i_at mX8_readComparing.2.2.2.2.2 15 = some (.bipush 61, 2, 0, 0, 0, 0) := by decide +kernel
theorem aX8_readComparing_17 : i_at mX8_readComparing.2.2.2.2.2 17 = some (.if_icmp .eq 26, 3, 43, 0, 0, 0) := by decide +kernel
theorem aX8_readComparing_20 : i_at mX8_readComparing.2.2.2.2.2 20 = some (.iload_n 1, 1, 0, 0, 0, 0) := by decide +kernel
theorem aX8_readComparing_21 : i_at mX8_readComparing.2.2.2.2.2 21 = some (.bipush 62, 2, 0, 0, 0, 0) := by decide +kernel
theorem aX8_readComparing_23 : i_at mX8_readComparing.2.2.2.2.2 23 = some (.if_icmp .eq 20, 3, 43, 0, 0, 0) := by decide +kernel
theorem aX8_readComparing_26 : i_at mX8_readComparing.2.2.2.2.2 26 = some (.aload_n 0, 1, 0, 0, 0, 0) := by decide +kernel
theorem aX8_readComparing_27 : i_at mX8_readComparing.2.2.2.2.2 27 = some (.getfield 24, 3, 7, 0, 234, 0) := by decide +kernel
theorem aX8_readComparing_30 : i_at mX8_readComparing.2.2.2.2.2 30 = some (.aload_n 0, 1, 0, 0, 0, 0) := by decide +kernel
theorem aX8_readComparing_31 : i_at mX8_readComparing.2.2.2.2.2 31 = some (.getfield 24, 3, 7, 0, 234, 0) := by decide +kernel
theorem aX8_readComparing_34 : i_at mX8_readComparing.2.2.2.2.2 34 = some (.getfield 76, 3, 8, 2, 132, 0) := by decide +kernel
theorem aX8_readComparing_37 : i_at mX8_readComparing.2.2.2.2.2 37 = some (.iconst 0, 1, 0, 0, 0, 0) := by decide +kernel
theorem aX8_readComparing_38 : i_at mX8_readComparing.2.2.2.2.2 38 = some (.invokevirtual 79, 3, 77, 2, 659, 0) := by decide +kernel
theorem aX8_readComparing_41 : i_at mX8_readComparing.2.2.2.2.2 41 = some (.iconst (-1), 1, 0, 0, 0, 0) := by decide +kernel
theorem aX8_readComparing_42 : i_at mX8_readComparing.2.2.2.2.2 42 = some (.ireturn, 1, 0, 0, 0, 0) := by decide +kernel
theorem aX8_readComparing_43 : i_at mX8_readComparing.2.2.2.2.2 43 = some (.aload_n 0, 1, 0, 0, 0, 0) := by decide +kernel
theorem aX8_readComparing_44 : i_at mX8_readComparing.2.2.2.2.2 44 = some (.aload_n 0, 1, 0, 0, 0, 0) := by decide +kernel
theorem aX8_readComparing_45 : i_at mX8_readComparing.2.2.2.2.2 45 = some (.getfield 24, 3, 7, 0, 234, 0) := by decide +kernel
theorem aX8_readComparing_48 : i_at mX8_readComparing.2.2.2.2.2 48 = some (.getfield 76, 3, 8, 2, 132, 0) := by decide +kernel
theorem aX8_readComparing_51 : i_at mX8_readComparing.2.2.2.2.2 51 = some (.invokevirtual 118, 3, 72, 1, 673, 0) := by decide +kernel
theorem aX8_readComparing_54 : i_at mX8_readComparing.2.2.2.2.2 54 = some (.aload_n 0, 1, 0, 0, 0, 0) := by decide +kernel
theorem aX8_readComparing_55 : i_at mX8_readComparing.2.2.2.2.2 55 = some (.getfield 24, 3, 7, 0, 234, 0) := by decide +kernel
theorem aX8_readComparing_58 : i_at mX8_readComparing.2.2.2.2.2 58 = some (.dup, 1, 0, 0, 0, 0) := by decide +kernel
theorem aX8_readComparing_59 : i_at mX8_readComparing.2.2.2.2.2 59 = some (.getfield 76, 3, 8, 2, 132, 0) := by decide +kernel
theorem aX8_readComparing_62 : i_at mX8_readComparing.2.2.2.2.2 62 = some (.iconst 1, 1, 0, 0, 0, 0) := by decide +kernel
theorem aX8_readComparing_63 : i_at mX8_readComparing.2.2.2.2.2 63 = some (.iadd, 1, 0, 0, 0, 0) := by decide +kernel
theorem aX8_readComparing_64 : i_at mX8_readComparing.2.2.2.2.2 64 = some (.putfield 76, 3, 8, 2, 132, 0) := by decide +kernel
theorem aX8_readComparing_67 : i_at mX8_readComparing.2.2.2.2.2 67 = some (.iload_n 1, 1, 0, 0, 0, 0) := by decide +kernel
theorem aX8_readComparing_68 : i_at mX8_readComparing.2.2.2.2.2 68 = some (.bipush 61, 2, 0, 0, 0, 0) := by decide +kernel
theorem aX8_readComparing_70 : i_at mX8_readComparing.2.2.2.2.2 70 = some (.if_icmp .ne 6, 3, 76, 0, 0, 0) := by decide +kernel
theorem aX8_readComparing_73 : i_at mX8_readComparing.2.2.2.2.2 73 = some (.bipush 10, 2, 0, 0, 0, 0) := by decide +kernel
theorem aX8_readComparing_75 : i_at mX8_readComparing.2.2.2.2.2 75 = some (.ireturn, 1, 0, 0, 0, 0) := by decide +kernel
theorem aX8_readComparing_76 : i_at mX8_readComparing.2.2.2.2.2 76 = some (.aload_n 0, 1, 0, 0, 0, 0) := by decide +kernel
theorem aX8_readComparing_77 : i_at mX8_readComparing.2.2.2.2.2 77 = some (.getfield 24, 3, 7, 0, 234, 0) := by decide +kernel
theorem aX8_readComparing_80 : i_at mX8_readComparing.2.2.2.2.2 80 = some (.getfield 76, 3, 8, 2, 132, 0) := by decide +kernel
theorem aX8_readComparing_83 : i_at mX8_readComparing.2.2.2.2.2 83 = some (.aload_n 0, 1, 0, 0, 0, 0) := by decide +kernel
theorem aX8_readComparing_84 : i_at mX8_readComparing.2.2.2.2.2 84 = some (.getfield 24, 3, 7, 0, 234, 0) := by decide +kernel
theorem aX8_readComparing_87 : i_at mX8_readComparing.2.2.2.2.2 87 = some (.getfield 121, 3, 8, 1, 130, 0) := by decide +kernel
theorem aX8_readComparing_90 : i_at mX8_readComparing.2.2.2.2.2 90 = some (.if_icmp .ge 27, 3, 117, 0, 0, 0) := by decide +kernel
theorem aX8_readComparing_93 : i_at mX8_readComparing.2.2.2.2.2 93 = some (.aload_n 0, 1, 0, 0, 0, 0) := by decide +kernel
theorem aX8_readComparing_94 : i_at mX8_readComparing.2.2.2.2.2 94 = some (.getfield 24, 3, 7, 0, 234, 0) := by decide +kernel
theorem aX8_readComparing_97 : i_at mX8_readComparing.2.2.2.2.2 97 = some (.getfield 122, 3, 8, 0, 127, 0) := by decide +kernel
theorem aX8_readComparing_100 : i_at mX8_readComparing.2.2.2.2.2 100 = some (.aload_n 0, 1, 0, 0, 0, 0) := by decide +kernel
theorem aX8_readComparing_101 : i_at mX8_readComparing.2.2.2.2.2 101 = some (.getfield 24, 3, 7, 0, 234, 0) := by decide +kernel
theorem aX8_readComparing_104 : i_at mX8_readComparing.2.2.2.2.2 104 = some (.getfield 76, 3, 8, 2, 132, 0) := by decide +kernel
theorem aX8_readComparing_107 : i_at mX8_readComparing.2.2.2.2.2 107 = some (.iaload, 1, 0, 0, 0, 0) := by decide +kernel
theorem aX8_readComparing_108 : i_at mX8_readComparing.2.2.2.2.2 108 = some (.bipush 61, 2, 0, 0, 0, 0) := by decide +kernel
theorem aX8_readComparing_110 : i_at mX8_readComparing.2.2.2.2.2 110 = some (.if_icmp .ne 7, 3, 117, 0, 0, 0) := by decide +kernel
theorem aX8_readComparing_113 : i_at mX8_readComparing.2.2.2.2.2 113 = some (.iconst 1, 1, 0, 0, 0, 0) := by decide +kernel
theorem aX8_readComparing_114 : i_at mX8_readComparing.2.2.2.2.2 114 = some (.goto 4, 3, 118, 0, 0, 0) := by decide +kernel
theorem aX8_readComparing_117 : i_at mX8_readComparing.2.2.2.2.2 117 = some (.iconst 0, 1, 0, 0, 0, 0) := by decide +kernel
theorem aX8_readComparing_118 : i_at mX8_readComparing.2.2.2.2.2 118 = some (.istore_n 2, 1, 0, 0, 0, 0) := by decide +kernel
theorem aX8_readComparing_119 : i_at mX8_readComparing.2.2.2.2.2 119 = some (.iload_n 2, 1, 0, 0, 0, 0) := by decide +kernel
theorem aX8_readComparing_120 : i_at mX8_readComparing.2.2.2.2.2 120 = some (.ifCond .eq 16, 3, 136, 0, 0, 0) := by decide +kernel
theorem aX8_readComparing_123 : i_at mX8_readComparing.2.2.2.2.2 123 = some (.aload_n 0, 1, 0, 0, 0, 0) := by decide +kernel
theorem aX8_readComparing_124 : i_at mX8_readComparing.2.2.2.2.2 124 = some (.getfield 24, 3, 7, 0, 234, 0) := by decide +kernel
theorem aX8_readComparing_127 : i_at mX8_readComparing.2.2.2.2.2 127 = some (.dup, 1, 0, 0, 0, 0) := by decide +kernel
theorem aX8_readComparing_128 : i_at mX8_readComparing.2.2.2.2.2 128 = some (.getfield 76, 3, 8, 2, 132, 0) := by decide +kernel
theorem aX8_readComparing_131 : i_at mX8_readComparing.2.2.2.2.2 131 = some (.iconst 1, 1, 0, 0, 0, 0) := by decide +kernel
theorem aX8_readComparing_132 : i_at mX8_readComparing.2.2.2.2.2 132 = some (.iadd, 1, 0, 0, 0, 0) := by decide +kernel
theorem aX8_readComparing_133 : i_at mX8_readComparing.2.2.2.2.2 133 = some (.putfield 76, 3, 8, 2, 132, 0) := by decide +kernel
theorem aX8_readComparing_136 : i_at mX8_readComparing.2.2.2.2.2 136 = some (.iload_n 1, 1, 0, 0, 0, 0) := by decide +kernel
theorem aX8_readComparing_137 : i_at mX8_readComparing.2.2.2.2.2 137 = some (.bipush 60, 2, 0, 0, 0, 0) := by decide +kernel
theorem aX8_readComparing_139 : i_at mX8_readComparing.2.2.2.2.2 139 = some (.if_icmp .ne 15, 3, 154, 0, 0, 0) := by decide +kernel
theorem aX8_readComparing_142 : i_at mX8_readComparing.2.2.2.2.2 142 = some (.iload_n 2, 1, 0, 0, 0, 0) := by decide +kernel
theorem aX8_readComparing_143 : i_at mX8_readComparing.2.2.2.2.2 143 = some (.ifCond .eq 8, 3, 151, 0, 0, 0) := by decide +kernel
theorem aX8_readComparing_146 : i_at mX8_readComparing.2.2.2.2.2 146 = some (.bipush 9, 2, 0, 0, 0, 0) := by decide +kernel
theorem aX8_readComparing_148 : i_at mX8_readComparing.2.2.2.2.2 148 = some (.goto 5, 3, 153, 0, 0, 0) := by decide +kernel
theorem aX8_readComparing_151 : i_at mX8_readComparing.2.2.2.2.2 151 = some (.bipush 8, 2, 0, 0, 0, 0) := by decide +kernel
theorem aX8_readComparing_153 : i_at mX8_readComparing.2.2.2.2.2 153 = some (.ireturn, 1, 0, 0, 0, 0) := by decide +kernel
theorem aX8_readComparing_154 : i_at mX8_readComparing.2.2.2.2.2 154 = some (.iload_n 2, 1, 0, 0, 0, 0) := by decide +kernel
theorem aX8_readComparing_155 : i_at mX8_readComparing.2.2.2.2.2 155 = some (.ifCond .eq 8, 3, 163, 0, 0, 0) := by decide +kernel
theorem aX8_readComparing_158 : i_at mX8_readComparing.2.2.2.2.2 158 = some (.bipush 11, 2, 0, 0, 0, 0) := by decide +kernel
theorem aX8_readComparing_160 : i_at mX8_readComparing.2.2.2.2.2 160 = some (.goto 5, 3, 165, 0, 0, 0) := by decide +kernel
theorem aX8_readComparing_163 : i_at mX8_readComparing.2.2.2.2.2 163 = some (.bipush 12, 2, 0, 0, 0, 0) := by decide +kernel
theorem aX8_readComparing_165 : i_at mX8_readComparing.2.2.2.2.2 165 = some (.ireturn, 1, 0, 0, 0, 0) := by decide +kernel
noncomputable def fX8_readComparing_J136 (sh : List kd) (r1 : Int32) (x59 : Int32) (s110 : St) : Option (Int32 × St) := if ¬ r1 = 60 then some (((if x59 = 0 then 12 else 11) : Int32), s110) else some (((if x59 = 0 then 8 else 9) : Int32), s110)
noncomputable def fX8_readComparing_J118 (sh : List kd) (r1 : Int32) (s6 : St) (x59 : Int32) : Option (Int32 × St) := if x59 = 0 then fX8_readComparing_J136 sh r1 x59 (s_F s6 1 2 ((s6.1 1 2) + 1)) else fX8_readComparing_J136 sh r1 x59 (s_F (s_F s6 1 2 ((s6.1 1 2) + 1)) 1 2 (((s_F s6 1 2 ((s6.1 1 2) + 1)).1 1 2) + 1))
noncomputable def fX8_readComparing_J136_224 (sh : List kd) (r1 : Int32) (x173 : Int32) (s224 : St) : Option (Int32 × St) := if ¬ r1 = 60 then some (((if x173 = 0 then 12 else 11) : Int32), s224) else some (((if x173 = 0 then 8 else 9) : Int32), s224)
noncomputable def fX8_readComparing_J118_173 (sh : List kd) (r1 : Int32) (s120 : St) (x173 : Int32) : Option (Int32 × St) := if x173 = 0 then fX8_readComparing_J136_224 sh r1 x173 (s_F s120 1 2 ((s120.1 1 2) + 1)) else fX8_readComparing_J136_224 sh r1 x173 (s_F (s_F s120 1 2 ((s120.1 1 2) + 1)) 1 2 (((s_F s120 1 2 ((s120.1 1 2) + 1)).1 1 2) + 1))
noncomputable def fX8_readComparing_J136_338 (sh : List kd) (r1 : Int32) (x287 : Int32) (s338 : St) : Option (Int32 × St) := if ¬ r1 = 60 then some (((if x287 = 0 then 12 else 11) : Int32), s338) else some (((if x287 = 0 then 8 else 9) : Int32), s338)
noncomputable def fX8_readComparing_J118_287 (sh : List kd) (r1 : Int32) (s234 : St) (x287 : Int32) : Option (Int32 × St) := if x287 = 0 then fX8_readComparing_J136_338 sh r1 x287 (s_F s234 1 2 ((s234.1 1 2) + 1)) else fX8_readComparing_J136_338 sh r1 x287 (s_F (s_F s234 1 2 ((s234.1 1 2) + 1)) 1 2 (((s_F s234 1 2 ((s234.1 1 2) + 1)).1 1 2) + 1))
noncomputable def fX8_readComparing (sh : List kd) (σ : St) : Option (Int32 × St) := i_bd (fX9_sign sh σ) (fun r1 s2 => if r1 = 60 then i_bd (fX8_countPart sh s2 (s2.1 1 2)) (fun r5 s6 => if ¬ r1 = 61 then if ((s_F s6 1 2 ((s6.1 1 2) + 1)).1 1 1) ≤ ((s_F s6 1 2 ((s6.1 1 2) + 1)).1 1 2) then fX8_readComparing_J118 sh r1 s6 0 else if i_ok ((s_F s6 1 2 ((s6.1 1 2) + 1)).1 1 2) 400 then fX8_readComparing_J118 sh r1 s6 ((if ¬ ((s_F s6 1 2 ((s6.1 1 2) + 1)).2.1 2 ((s_F s6 1 2 ((s6.1 1 2) + 1)).1 1 2).toNatClampNeg) = 61 then 0 else 1) : Int32) else none else some (10, s_F s6 1 2 ((s6.1 1 2) + 1))) else if r1 = 61 then i_bd (fX8_countPart sh s2 (s2.1 1 2)) (fun r119 s120 => if ¬ r1 = 61 then if ((s_F s120 1 2 ((s120.1 1 2) + 1)).1 1 1) ≤ ((s_F s120 1 2 ((s120.1 1 2) + 1)).1 1 2) then fX8_readComparing_J118_173 sh r1 s120 0 else if i_ok ((s_F s120 1 2 ((s120.1 1 2) + 1)).1 1 2) 400 then fX8_readComparing_J118_173 sh r1 s120 ((if ¬ ((s_F s120 1 2 ((s120.1 1 2) + 1)).2.1 2 ((s_F s120 1 2 ((s120.1 1 2) + 1)).1 1 2).toNatClampNeg) = 61 then 0 else 1) : Int32) else none else some (10, s_F s120 1 2 ((s120.1 1 2) + 1))) else if r1 = 62 then i_bd (fX8_countPart sh s2 (s2.1 1 2)) (fun r233 s234 => if ¬ r1 = 61 then if ((s_F s234 1 2 ((s234.1 1 2) + 1)).1 1 1) ≤ ((s_F s234 1 2 ((s234.1 1 2) + 1)).1 1 2) then fX8_readComparing_J118_287 sh r1 s234 0 else if i_ok ((s_F s234 1 2 ((s234.1 1 2) + 1)).1 1 2) 400 then fX8_readComparing_J118_287 sh r1 s234 ((if ¬ ((s_F s234 1 2 ((s234.1 1 2) + 1)).2.1 2 ((s_F s234 1 2 ((s234.1 1 2) + 1)).1 1 2).toNatClampNeg) = 61 then 0 else 1) : Int32) else none else some (10, s_F s234 1 2 ((s234.1 1 2) + 1))) else i_bd (fX9_refuse sh s2 (s2.1 1 2) 0) (fun r346 s347 => some ((-1), s347)))
set_option maxRecDepth 20000 in
set_option maxHeartbeats 2000000 in
theorem tX8_readComparing_J136 {sh : List kd} {τ : St} {r : Int32} (hsh : cSh sh) {r1 : Int32} {x59 : Int32} {s110 : St} (hE : fX8_readComparing_J136 sh r1 x59 s110 = some (r, τ)) : g_R sh 2 mX8_readComparing (some (.int r)) τ 136 [.ref 10, .int r1, .int x59] [] (s110) := by
  unfold fX8_readComparing_J136 at hE
  refine g_ldin aX8_readComparing_136 rfl ?_
  refine g_bipush (x := 60) aX8_readComparing_137 rfl ?_
  by_cases hc111 : ¬ r1 = 60
  · rw [if_pos hc111] at hE
    refine g_ic_ne_t aX8_readComparing_139 hc111 ?_
    refine g_ldin aX8_readComparing_154 rfl ?_
    have hJ : g_R sh 2 mX8_readComparing (some (.int r)) τ 165 [.ref 10, .int r1, .int x59] [.int ((if x59 = 0 then 12 else 11) : Int32)] (s110) := by
      obtain ⟨rfl, rfl⟩ := i_some_inj hE
      exact g_iret aX8_readComparing_165 rfl rfl
    clear hE
    by_cases hc111 : x59 = 0
    · (try rw [if_pos hc111] at hJ)
      refine g_if_eq_t aX8_readComparing_155 hc111 ?_
      refine g_bipush (x := 12) aX8_readComparing_163 rfl ?_
      exact hJ
    · (try rw [if_neg hc111] at hJ)
      refine g_if_eq_f aX8_readComparing_155 hc111 ?_
      refine g_bipush (x := 11) aX8_readComparing_158 rfl ?_
      refine g_goto aX8_readComparing_160 ?_
      exact hJ
  · rw [if_neg hc111] at hE
    refine g_ic_ne_f aX8_readComparing_139 hc111 ?_
    refine g_ldin aX8_readComparing_142 rfl ?_
    have hJ : g_R sh 2 mX8_readComparing (some (.int r)) τ 153 [.ref 10, .int r1, .int x59] [.int ((if x59 = 0 then 8 else 9) : Int32)] (s110) := by
      obtain ⟨rfl, rfl⟩ := i_some_inj hE
      exact g_iret aX8_readComparing_153 rfl rfl
    clear hE
    by_cases hc112 : x59 = 0
    · (try rw [if_pos hc112] at hJ)
      refine g_if_eq_t aX8_readComparing_143 hc112 ?_
      refine g_bipush (x := 8) aX8_readComparing_151 rfl ?_
      exact hJ
    · (try rw [if_neg hc112] at hJ)
      refine g_if_eq_f aX8_readComparing_143 hc112 ?_
      refine g_bipush (x := 9) aX8_readComparing_146 rfl ?_
      refine g_goto aX8_readComparing_148 ?_
      exact hJ
set_option maxRecDepth 20000 in
set_option maxHeartbeats 2000000 in
theorem tX8_readComparing_J118 {sh : List kd} {τ : St} {r : Int32} (hsh : cSh sh) {r1 : Int32} {s6 : St} {x59 : Int32} (hE : fX8_readComparing_J118 sh r1 s6 x59 = some (r, τ)) : g_R sh 2 mX8_readComparing (some (.int r)) τ 118 [.ref 10, .int r1, .retAddr 0] [.int x59] (s_F s6 1 2 ((s6.1 1 2) + 1)) := by
  unfold fX8_readComparing_J118 at hE
  refine g_stin (loc2 := [.ref 10, .int r1, .int x59]) aX8_readComparing_118 (Nat.le_of_ble_eq_true rfl) rfl ?_
  refine g_ldin aX8_readComparing_119 rfl ?_
  by_cases hc114 : x59 = 0
  · rw [if_pos hc114] at hE
    refine g_if_eq_t aX8_readComparing_120 hc114 ?_
    exact tX8_readComparing_J136 hsh hE
  · rw [if_neg hc114] at hE
    refine g_if_eq_f aX8_readComparing_120 hc114 ?_
    refine g_ldan aX8_readComparing_123 rfl ?_
    refine g_getR aX8_readComparing_124 (sC_10 hsh) rfl ?_
    refine g_dupa aX8_readComparing_127 ?_
    refine g_getI aX8_readComparing_128 (sC_1 hsh) rfl ?_
    refine g_iconst (x := 1) aX8_readComparing_131 rfl ?_
    refine g_iadd aX8_readComparing_132 ?_
    refine g_putI aX8_readComparing_133 (sC_1 hsh) rfl rfl ?_
    exact tX8_readComparing_J136 hsh hE
set_option maxRecDepth 20000 in
set_option maxHeartbeats 2000000 in
theorem tX8_readComparing_J136_224 {sh : List kd} {τ : St} {r : Int32} (hsh : cSh sh) {r1 : Int32} {x173 : Int32} {s224 : St} (hE : fX8_readComparing_J136_224 sh r1 x173 s224 = some (r, τ)) : g_R sh 2 mX8_readComparing (some (.int r)) τ 136 [.ref 10, .int r1, .int x173] [] (s224) := by
  unfold fX8_readComparing_J136_224 at hE
  refine g_ldin aX8_readComparing_136 rfl ?_
  refine g_bipush (x := 60) aX8_readComparing_137 rfl ?_
  by_cases hc225 : ¬ r1 = 60
  · rw [if_pos hc225] at hE
    refine g_ic_ne_t aX8_readComparing_139 hc225 ?_
    refine g_ldin aX8_readComparing_154 rfl ?_
    have hJ : g_R sh 2 mX8_readComparing (some (.int r)) τ 165 [.ref 10, .int r1, .int x173] [.int ((if x173 = 0 then 12 else 11) : Int32)] (s224) := by
      obtain ⟨rfl, rfl⟩ := i_some_inj hE
      exact g_iret aX8_readComparing_165 rfl rfl
    clear hE
    by_cases hc225 : x173 = 0
    · (try rw [if_pos hc225] at hJ)
      refine g_if_eq_t aX8_readComparing_155 hc225 ?_
      refine g_bipush (x := 12) aX8_readComparing_163 rfl ?_
      exact hJ
    · (try rw [if_neg hc225] at hJ)
      refine g_if_eq_f aX8_readComparing_155 hc225 ?_
      refine g_bipush (x := 11) aX8_readComparing_158 rfl ?_
      refine g_goto aX8_readComparing_160 ?_
      exact hJ
  · rw [if_neg hc225] at hE
    refine g_ic_ne_f aX8_readComparing_139 hc225 ?_
    refine g_ldin aX8_readComparing_142 rfl ?_
    have hJ : g_R sh 2 mX8_readComparing (some (.int r)) τ 153 [.ref 10, .int r1, .int x173] [.int ((if x173 = 0 then 8 else 9) : Int32)] (s224) := by
      obtain ⟨rfl, rfl⟩ := i_some_inj hE
      exact g_iret aX8_readComparing_153 rfl rfl
    clear hE
    by_cases hc226 : x173 = 0
    · (try rw [if_pos hc226] at hJ)
      refine g_if_eq_t aX8_readComparing_143 hc226 ?_
      refine g_bipush (x := 8) aX8_readComparing_151 rfl ?_
      exact hJ
    · (try rw [if_neg hc226] at hJ)
      refine g_if_eq_f aX8_readComparing_143 hc226 ?_
      refine g_bipush (x := 9) aX8_readComparing_146 rfl ?_
      refine g_goto aX8_readComparing_148 ?_
      exact hJ
set_option maxRecDepth 20000 in
set_option maxHeartbeats 2000000 in
theorem tX8_readComparing_J118_173 {sh : List kd} {τ : St} {r : Int32} (hsh : cSh sh) {r1 : Int32} {s120 : St} {x173 : Int32} (hE : fX8_readComparing_J118_173 sh r1 s120 x173 = some (r, τ)) : g_R sh 2 mX8_readComparing (some (.int r)) τ 118 [.ref 10, .int r1, .retAddr 0] [.int x173] (s_F s120 1 2 ((s120.1 1 2) + 1)) := by
  unfold fX8_readComparing_J118_173 at hE
  refine g_stin (loc2 := [.ref 10, .int r1, .int x173]) aX8_readComparing_118 (Nat.le_of_ble_eq_true rfl) rfl ?_
  refine g_ldin aX8_readComparing_119 rfl ?_
  by_cases hc228 : x173 = 0
  · rw [if_pos hc228] at hE
    refine g_if_eq_t aX8_readComparing_120 hc228 ?_
    exact tX8_readComparing_J136_224 hsh hE
  · rw [if_neg hc228] at hE
    refine g_if_eq_f aX8_readComparing_120 hc228 ?_
    refine g_ldan aX8_readComparing_123 rfl ?_
    refine g_getR aX8_readComparing_124 (sC_10 hsh) rfl ?_
    refine g_dupa aX8_readComparing_127 ?_
    refine g_getI aX8_readComparing_128 (sC_1 hsh) rfl ?_
    refine g_iconst (x := 1) aX8_readComparing_131 rfl ?_
    refine g_iadd aX8_readComparing_132 ?_
    refine g_putI aX8_readComparing_133 (sC_1 hsh) rfl rfl ?_
    exact tX8_readComparing_J136_224 hsh hE
set_option maxRecDepth 20000 in
set_option maxHeartbeats 2000000 in
theorem tX8_readComparing_J136_338 {sh : List kd} {τ : St} {r : Int32} (hsh : cSh sh) {r1 : Int32} {x287 : Int32} {s338 : St} (hE : fX8_readComparing_J136_338 sh r1 x287 s338 = some (r, τ)) : g_R sh 2 mX8_readComparing (some (.int r)) τ 136 [.ref 10, .int r1, .int x287] [] (s338) := by
  unfold fX8_readComparing_J136_338 at hE
  refine g_ldin aX8_readComparing_136 rfl ?_
  refine g_bipush (x := 60) aX8_readComparing_137 rfl ?_
  by_cases hc339 : ¬ r1 = 60
  · rw [if_pos hc339] at hE
    refine g_ic_ne_t aX8_readComparing_139 hc339 ?_
    refine g_ldin aX8_readComparing_154 rfl ?_
    have hJ : g_R sh 2 mX8_readComparing (some (.int r)) τ 165 [.ref 10, .int r1, .int x287] [.int ((if x287 = 0 then 12 else 11) : Int32)] (s338) := by
      obtain ⟨rfl, rfl⟩ := i_some_inj hE
      exact g_iret aX8_readComparing_165 rfl rfl
    clear hE
    by_cases hc339 : x287 = 0
    · (try rw [if_pos hc339] at hJ)
      refine g_if_eq_t aX8_readComparing_155 hc339 ?_
      refine g_bipush (x := 12) aX8_readComparing_163 rfl ?_
      exact hJ
    · (try rw [if_neg hc339] at hJ)
      refine g_if_eq_f aX8_readComparing_155 hc339 ?_
      refine g_bipush (x := 11) aX8_readComparing_158 rfl ?_
      refine g_goto aX8_readComparing_160 ?_
      exact hJ
  · rw [if_neg hc339] at hE
    refine g_ic_ne_f aX8_readComparing_139 hc339 ?_
    refine g_ldin aX8_readComparing_142 rfl ?_
    have hJ : g_R sh 2 mX8_readComparing (some (.int r)) τ 153 [.ref 10, .int r1, .int x287] [.int ((if x287 = 0 then 8 else 9) : Int32)] (s338) := by
      obtain ⟨rfl, rfl⟩ := i_some_inj hE
      exact g_iret aX8_readComparing_153 rfl rfl
    clear hE
    by_cases hc340 : x287 = 0
    · (try rw [if_pos hc340] at hJ)
      refine g_if_eq_t aX8_readComparing_143 hc340 ?_
      refine g_bipush (x := 8) aX8_readComparing_151 rfl ?_
      exact hJ
    · (try rw [if_neg hc340] at hJ)
      refine g_if_eq_f aX8_readComparing_143 hc340 ?_
      refine g_bipush (x := 9) aX8_readComparing_146 rfl ?_
      refine g_goto aX8_readComparing_148 ?_
      exact hJ
set_option maxRecDepth 20000 in
set_option maxHeartbeats 2000000 in
theorem tX8_readComparing_J118_287 {sh : List kd} {τ : St} {r : Int32} (hsh : cSh sh) {r1 : Int32} {s234 : St} {x287 : Int32} (hE : fX8_readComparing_J118_287 sh r1 s234 x287 = some (r, τ)) : g_R sh 2 mX8_readComparing (some (.int r)) τ 118 [.ref 10, .int r1, .retAddr 0] [.int x287] (s_F s234 1 2 ((s234.1 1 2) + 1)) := by
  unfold fX8_readComparing_J118_287 at hE
  refine g_stin (loc2 := [.ref 10, .int r1, .int x287]) aX8_readComparing_118 (Nat.le_of_ble_eq_true rfl) rfl ?_
  refine g_ldin aX8_readComparing_119 rfl ?_
  by_cases hc342 : x287 = 0
  · rw [if_pos hc342] at hE
    refine g_if_eq_t aX8_readComparing_120 hc342 ?_
    exact tX8_readComparing_J136_338 hsh hE
  · rw [if_neg hc342] at hE
    refine g_if_eq_f aX8_readComparing_120 hc342 ?_
    refine g_ldan aX8_readComparing_123 rfl ?_
    refine g_getR aX8_readComparing_124 (sC_10 hsh) rfl ?_
    refine g_dupa aX8_readComparing_127 ?_
    refine g_getI aX8_readComparing_128 (sC_1 hsh) rfl ?_
    refine g_iconst (x := 1) aX8_readComparing_131 rfl ?_
    refine g_iadd aX8_readComparing_132 ?_
    refine g_putI aX8_readComparing_133 (sC_1 hsh) rfl rfl ?_
    exact tX8_readComparing_J136_338 hsh hE
set_option maxRecDepth 20000 in
set_option maxHeartbeats 2000000 in
theorem tX8_readComparing {sh : List kd} {σ τ : St} {r : Int32} (hsh : cSh sh) (hE : fX8_readComparing sh σ = some (r, τ)) : i_X 3 69 [.ref 10] (s_h sh σ) 0 0 (some (.int r)) (s_h sh τ) := by
  refine g_X (M := mX8_readComparing) (loc := [.ref 10, .retAddr 0, .retAddr 0]) rfl (Nat.le_of_ble_eq_true rfl) rfl ?_
  unfold fX8_readComparing at hE
  refine g_ldan aX8_readComparing_0 rfl ?_
  refine g_getR aX8_readComparing_1 (sC_10 hsh) rfl ?_
  obtain ⟨r1, s2, h3, hE⟩ := i_bd_some hE
  refine g_calV (As := []) (rest := []) aX8_readComparing_4 (i_X_mono (by omega) (tX9_sign hsh h3)) (sC_1 hsh) (by decide +kernel) rfl rfl (Nat.le_of_ble_eq_true rfl) rfl ?_
  refine g_stin (loc2 := [.ref 10, .int r1, .retAddr 0]) aX8_readComparing_7 (Nat.le_of_ble_eq_true rfl) rfl ?_
  refine g_ldin aX8_readComparing_8 rfl ?_
  refine g_bipush (x := 60) aX8_readComparing_9 rfl ?_
  by_cases hc4 : r1 = 60
  · rw [if_pos hc4] at hE
    refine g_ic_eq_t aX8_readComparing_11 hc4 ?_
    refine g_ldan aX8_readComparing_43 rfl ?_
    refine g_ldan aX8_readComparing_44 rfl ?_
    refine g_getR aX8_readComparing_45 (sC_10 hsh) rfl ?_
    refine g_getI aX8_readComparing_48 (sC_1 hsh) rfl ?_
    obtain ⟨r5, s6, h7, hE⟩ := i_bd_some hE
    refine g_calV (As := [.int (s2.1 1 2)]) (rest := []) aX8_readComparing_51 (i_X_mono (by omega) (tX8_countPart hsh h7)) (sC_10 hsh) (by decide +kernel) rfl rfl (Nat.le_of_ble_eq_true rfl) rfl ?_
    refine g_ldan aX8_readComparing_54 rfl ?_
    refine g_getR aX8_readComparing_55 (sC_10 hsh) rfl ?_
    refine g_dupa aX8_readComparing_58 ?_
    refine g_getI aX8_readComparing_59 (sC_1 hsh) rfl ?_
    refine g_iconst (x := 1) aX8_readComparing_62 rfl ?_
    refine g_iadd aX8_readComparing_63 ?_
    refine g_putI aX8_readComparing_64 (sC_1 hsh) rfl rfl ?_
    refine g_ldin aX8_readComparing_67 rfl ?_
    refine g_bipush (x := 61) aX8_readComparing_68 rfl ?_
    by_cases hc8 : ¬ r1 = 61
    · rw [if_pos hc8] at hE
      refine g_ic_ne_t aX8_readComparing_70 hc8 ?_
      refine g_ldan aX8_readComparing_76 rfl ?_
      refine g_getR aX8_readComparing_77 (sC_10 hsh) rfl ?_
      refine g_getI aX8_readComparing_80 (sC_1 hsh) rfl ?_
      refine g_ldan aX8_readComparing_83 rfl ?_
      refine g_getR aX8_readComparing_84 (sC_10 hsh) rfl ?_
      refine g_getI aX8_readComparing_87 (sC_1 hsh) rfl ?_
      by_cases hc115 : ((s_F s6 1 2 ((s6.1 1 2) + 1)).1 1 1) ≤ ((s_F s6 1 2 ((s6.1 1 2) + 1)).1 1 2)
      · rw [if_pos hc115] at hE
        refine g_ic_ge_t aX8_readComparing_90 hc115 ?_
        refine g_iconst (x := 0) aX8_readComparing_117 rfl ?_
        exact tX8_readComparing_J118 hsh hE
      · rw [if_neg hc115] at hE
        refine g_ic_ge_f aX8_readComparing_90 hc115 ?_
        refine g_ldan aX8_readComparing_93 rfl ?_
        refine g_getR aX8_readComparing_94 (sC_10 hsh) rfl ?_
        refine g_getR aX8_readComparing_97 (sC_1 hsh) rfl ?_
        refine g_ldan aX8_readComparing_100 rfl ?_
        refine g_getR aX8_readComparing_101 (sC_10 hsh) rfl ?_
        refine g_getI aX8_readComparing_104 (sC_1 hsh) rfl ?_
        obtain ⟨h116, hE⟩ := i_ifn hE
        refine g_ild aX8_readComparing_107 (sC_2 hsh) h116 ?_
        refine g_bipush (x := 61) aX8_readComparing_108 rfl ?_
        have hJ : g_R sh 2 mX8_readComparing (some (.int r)) τ 118 [.ref 10, .int r1, .retAddr 0] [.int ((if ¬ ((s_F s6 1 2 ((s6.1 1 2) + 1)).2.1 2 ((s_F s6 1 2 ((s6.1 1 2) + 1)).1 1 2).toNatClampNeg) = 61 then 0 else 1) : Int32)] (s_F s6 1 2 ((s6.1 1 2) + 1)) := by
          exact tX8_readComparing_J118 hsh hE
        clear hE
        by_cases hc116 : ¬ ((s_F s6 1 2 ((s6.1 1 2) + 1)).2.1 2 ((s_F s6 1 2 ((s6.1 1 2) + 1)).1 1 2).toNatClampNeg) = 61
        · (try rw [if_pos hc116] at hJ)
          refine g_ic_ne_t aX8_readComparing_110 hc116 ?_
          refine g_iconst (x := 0) aX8_readComparing_117 rfl ?_
          exact hJ
        · (try rw [if_neg hc116] at hJ)
          refine g_ic_ne_f aX8_readComparing_110 hc116 ?_
          refine g_iconst (x := 1) aX8_readComparing_113 rfl ?_
          refine g_goto aX8_readComparing_114 ?_
          exact hJ
    · rw [if_neg hc8] at hE
      refine g_ic_ne_f aX8_readComparing_70 hc8 ?_
      refine g_bipush (x := 10) aX8_readComparing_73 rfl ?_
      obtain ⟨rfl, rfl⟩ := i_some_inj hE
      exact g_iret aX8_readComparing_75 rfl rfl
  · rw [if_neg hc4] at hE
    refine g_ic_eq_f aX8_readComparing_11 hc4 ?_
    refine g_ldin aX8_readComparing_14 rfl ?_
    refine g_bipush (x := 61) aX8_readComparing_15 rfl ?_
    by_cases hc118 : r1 = 61
    · rw [if_pos hc118] at hE
      refine g_ic_eq_t aX8_readComparing_17 hc118 ?_
      refine g_ldan aX8_readComparing_43 rfl ?_
      refine g_ldan aX8_readComparing_44 rfl ?_
      refine g_getR aX8_readComparing_45 (sC_10 hsh) rfl ?_
      refine g_getI aX8_readComparing_48 (sC_1 hsh) rfl ?_
      obtain ⟨r119, s120, h121, hE⟩ := i_bd_some hE
      refine g_calV (As := [.int (s2.1 1 2)]) (rest := []) aX8_readComparing_51 (i_X_mono (by omega) (tX8_countPart hsh h121)) (sC_10 hsh) (by decide +kernel) rfl rfl (Nat.le_of_ble_eq_true rfl) rfl ?_
      refine g_ldan aX8_readComparing_54 rfl ?_
      refine g_getR aX8_readComparing_55 (sC_10 hsh) rfl ?_
      refine g_dupa aX8_readComparing_58 ?_
      refine g_getI aX8_readComparing_59 (sC_1 hsh) rfl ?_
      refine g_iconst (x := 1) aX8_readComparing_62 rfl ?_
      refine g_iadd aX8_readComparing_63 ?_
      refine g_putI aX8_readComparing_64 (sC_1 hsh) rfl rfl ?_
      refine g_ldin aX8_readComparing_67 rfl ?_
      refine g_bipush (x := 61) aX8_readComparing_68 rfl ?_
      by_cases hc122 : ¬ r1 = 61
      · rw [if_pos hc122] at hE
        refine g_ic_ne_t aX8_readComparing_70 hc122 ?_
        refine g_ldan aX8_readComparing_76 rfl ?_
        refine g_getR aX8_readComparing_77 (sC_10 hsh) rfl ?_
        refine g_getI aX8_readComparing_80 (sC_1 hsh) rfl ?_
        refine g_ldan aX8_readComparing_83 rfl ?_
        refine g_getR aX8_readComparing_84 (sC_10 hsh) rfl ?_
        refine g_getI aX8_readComparing_87 (sC_1 hsh) rfl ?_
        by_cases hc229 : ((s_F s120 1 2 ((s120.1 1 2) + 1)).1 1 1) ≤ ((s_F s120 1 2 ((s120.1 1 2) + 1)).1 1 2)
        · rw [if_pos hc229] at hE
          refine g_ic_ge_t aX8_readComparing_90 hc229 ?_
          refine g_iconst (x := 0) aX8_readComparing_117 rfl ?_
          exact tX8_readComparing_J118_173 hsh hE
        · rw [if_neg hc229] at hE
          refine g_ic_ge_f aX8_readComparing_90 hc229 ?_
          refine g_ldan aX8_readComparing_93 rfl ?_
          refine g_getR aX8_readComparing_94 (sC_10 hsh) rfl ?_
          refine g_getR aX8_readComparing_97 (sC_1 hsh) rfl ?_
          refine g_ldan aX8_readComparing_100 rfl ?_
          refine g_getR aX8_readComparing_101 (sC_10 hsh) rfl ?_
          refine g_getI aX8_readComparing_104 (sC_1 hsh) rfl ?_
          obtain ⟨h230, hE⟩ := i_ifn hE
          refine g_ild aX8_readComparing_107 (sC_2 hsh) h230 ?_
          refine g_bipush (x := 61) aX8_readComparing_108 rfl ?_
          have hJ : g_R sh 2 mX8_readComparing (some (.int r)) τ 118 [.ref 10, .int r1, .retAddr 0] [.int ((if ¬ ((s_F s120 1 2 ((s120.1 1 2) + 1)).2.1 2 ((s_F s120 1 2 ((s120.1 1 2) + 1)).1 1 2).toNatClampNeg) = 61 then 0 else 1) : Int32)] (s_F s120 1 2 ((s120.1 1 2) + 1)) := by
            exact tX8_readComparing_J118_173 hsh hE
          clear hE
          by_cases hc230 : ¬ ((s_F s120 1 2 ((s120.1 1 2) + 1)).2.1 2 ((s_F s120 1 2 ((s120.1 1 2) + 1)).1 1 2).toNatClampNeg) = 61
          · (try rw [if_pos hc230] at hJ)
            refine g_ic_ne_t aX8_readComparing_110 hc230 ?_
            refine g_iconst (x := 0) aX8_readComparing_117 rfl ?_
            exact hJ
          · (try rw [if_neg hc230] at hJ)
            refine g_ic_ne_f aX8_readComparing_110 hc230 ?_
            refine g_iconst (x := 1) aX8_readComparing_113 rfl ?_
            refine g_goto aX8_readComparing_114 ?_
            exact hJ
      · rw [if_neg hc122] at hE
        refine g_ic_ne_f aX8_readComparing_70 hc122 ?_
        refine g_bipush (x := 10) aX8_readComparing_73 rfl ?_
        obtain ⟨rfl, rfl⟩ := i_some_inj hE
        exact g_iret aX8_readComparing_75 rfl rfl
    · rw [if_neg hc118] at hE
      refine g_ic_eq_f aX8_readComparing_17 hc118 ?_
      refine g_ldin aX8_readComparing_20 rfl ?_
      refine g_bipush (x := 62) aX8_readComparing_21 rfl ?_
      by_cases hc232 : r1 = 62
      · rw [if_pos hc232] at hE
        refine g_ic_eq_t aX8_readComparing_23 hc232 ?_
        refine g_ldan aX8_readComparing_43 rfl ?_
        refine g_ldan aX8_readComparing_44 rfl ?_
        refine g_getR aX8_readComparing_45 (sC_10 hsh) rfl ?_
        refine g_getI aX8_readComparing_48 (sC_1 hsh) rfl ?_
        obtain ⟨r233, s234, h235, hE⟩ := i_bd_some hE
        refine g_calV (As := [.int (s2.1 1 2)]) (rest := []) aX8_readComparing_51 (i_X_mono (by omega) (tX8_countPart hsh h235)) (sC_10 hsh) (by decide +kernel) rfl rfl (Nat.le_of_ble_eq_true rfl) rfl ?_
        refine g_ldan aX8_readComparing_54 rfl ?_
        refine g_getR aX8_readComparing_55 (sC_10 hsh) rfl ?_
        refine g_dupa aX8_readComparing_58 ?_
        refine g_getI aX8_readComparing_59 (sC_1 hsh) rfl ?_
        refine g_iconst (x := 1) aX8_readComparing_62 rfl ?_
        refine g_iadd aX8_readComparing_63 ?_
        refine g_putI aX8_readComparing_64 (sC_1 hsh) rfl rfl ?_
        refine g_ldin aX8_readComparing_67 rfl ?_
        refine g_bipush (x := 61) aX8_readComparing_68 rfl ?_
        by_cases hc236 : ¬ r1 = 61
        · rw [if_pos hc236] at hE
          refine g_ic_ne_t aX8_readComparing_70 hc236 ?_
          refine g_ldan aX8_readComparing_76 rfl ?_
          refine g_getR aX8_readComparing_77 (sC_10 hsh) rfl ?_
          refine g_getI aX8_readComparing_80 (sC_1 hsh) rfl ?_
          refine g_ldan aX8_readComparing_83 rfl ?_
          refine g_getR aX8_readComparing_84 (sC_10 hsh) rfl ?_
          refine g_getI aX8_readComparing_87 (sC_1 hsh) rfl ?_
          by_cases hc343 : ((s_F s234 1 2 ((s234.1 1 2) + 1)).1 1 1) ≤ ((s_F s234 1 2 ((s234.1 1 2) + 1)).1 1 2)
          · rw [if_pos hc343] at hE
            refine g_ic_ge_t aX8_readComparing_90 hc343 ?_
            refine g_iconst (x := 0) aX8_readComparing_117 rfl ?_
            exact tX8_readComparing_J118_287 hsh hE
          · rw [if_neg hc343] at hE
            refine g_ic_ge_f aX8_readComparing_90 hc343 ?_
            refine g_ldan aX8_readComparing_93 rfl ?_
            refine g_getR aX8_readComparing_94 (sC_10 hsh) rfl ?_
            refine g_getR aX8_readComparing_97 (sC_1 hsh) rfl ?_
            refine g_ldan aX8_readComparing_100 rfl ?_
            refine g_getR aX8_readComparing_101 (sC_10 hsh) rfl ?_
            refine g_getI aX8_readComparing_104 (sC_1 hsh) rfl ?_
            obtain ⟨h344, hE⟩ := i_ifn hE
            refine g_ild aX8_readComparing_107 (sC_2 hsh) h344 ?_
            refine g_bipush (x := 61) aX8_readComparing_108 rfl ?_
            have hJ : g_R sh 2 mX8_readComparing (some (.int r)) τ 118 [.ref 10, .int r1, .retAddr 0] [.int ((if ¬ ((s_F s234 1 2 ((s234.1 1 2) + 1)).2.1 2 ((s_F s234 1 2 ((s234.1 1 2) + 1)).1 1 2).toNatClampNeg) = 61 then 0 else 1) : Int32)] (s_F s234 1 2 ((s234.1 1 2) + 1)) := by
              exact tX8_readComparing_J118_287 hsh hE
            clear hE
            by_cases hc344 : ¬ ((s_F s234 1 2 ((s234.1 1 2) + 1)).2.1 2 ((s_F s234 1 2 ((s234.1 1 2) + 1)).1 1 2).toNatClampNeg) = 61
            · (try rw [if_pos hc344] at hJ)
              refine g_ic_ne_t aX8_readComparing_110 hc344 ?_
              refine g_iconst (x := 0) aX8_readComparing_117 rfl ?_
              exact hJ
            · (try rw [if_neg hc344] at hJ)
              refine g_ic_ne_f aX8_readComparing_110 hc344 ?_
              refine g_iconst (x := 1) aX8_readComparing_113 rfl ?_
              refine g_goto aX8_readComparing_114 ?_
              exact hJ
        · rw [if_neg hc236] at hE
          refine g_ic_ne_f aX8_readComparing_70 hc236 ?_
          refine g_bipush (x := 10) aX8_readComparing_73 rfl ?_
          obtain ⟨rfl, rfl⟩ := i_some_inj hE
          exact g_iret aX8_readComparing_75 rfl rfl
      · rw [if_neg hc232] at hE
        refine g_ic_eq_f aX8_readComparing_23 hc232 ?_
        refine g_ldan aX8_readComparing_26 rfl ?_
        refine g_getR aX8_readComparing_27 (sC_10 hsh) rfl ?_
        refine g_ldan aX8_readComparing_30 rfl ?_
        refine g_getR aX8_readComparing_31 (sC_10 hsh) rfl ?_
        refine g_getI aX8_readComparing_34 (sC_1 hsh) rfl ?_
        refine g_iconst (x := 0) aX8_readComparing_37 rfl ?_
        obtain ⟨r346, s347, h348, hE⟩ := i_bd_some hE
        refine g_calV (As := [.int (s2.1 1 2), .int 0]) (rest := []) aX8_readComparing_38 (i_X_mono (by omega) (tX9_refuse hsh h348)) (sC_1 hsh) (by decide +kernel) rfl rfl (Nat.le_of_ble_eq_true rfl) rfl ?_
        refine g_iconst (x := (-1)) aX8_readComparing_41 rfl ?_
        obtain ⟨rfl, rfl⟩ := i_some_inj hE
        exact g_iret aX8_readComparing_42 rfl rfl
