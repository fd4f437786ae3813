/-! X12_test X12_amount X12_courtWord X12_quarrelPart X12_courtPart X12_copies X12_goesOn X12_starts X12_begins X12_ruleClause -/
theorem aX12_test_0 : i_at mX12_test.2.2.2.2.2 0 = some (.aload_n 0, 1, 0, 0, 0, 0) := by decide +kernel
theorem aX12_test_1 : i_at mX12_test.2.2.2.2.2 1 = some (.iconst 0, 1, 0, 0, 0, 0) := by decide +kernel
theorem aX12_test_2 : i_at mX12_test.2.2.2.2.2 2 = some (.putfield 234, 3, 11, 27, 1114, 0) := by decide +kernel
theorem aX12_test_5 : i_at mX12_test.2.2.2.2.2 5 = some (.iconst 1, 1, 0, 0, 0, 0) := by decide +kernel
theorem aX12_test_6 : i_at mX12_test.2.2.2.2.2 6 = some (.istore_n 1, 1, 0, 0, 0, 0) := by decide +kernel
theorem aX12_test_7 : i_at mX12_test.2.2.2.2.2 7 = some (.iconst 1, 1, 0, 0, 0, 0) := by decide +kernel
theorem aX12_test_8 : i_at mX12_test.2.2.2.2.2 8 = some (.istore_n 2, 1, 0, 0, 0, 0) := by decide +kernel
theorem aX12_test_9 : i_at mX12_test.2.2.2.2.2 9 = some (.iload_n 2, 1, 0, 0, 0, 0) := by decide +kernel
theorem aX12_test_10 : i_at mX12_test.2.2.2.2.2 10 = some (.ifCond .eq 192, 3, 202, 0, 0, 0) := by decide +kernel
theorem aX12_test_13 : i_at mX12_test.2.2.2.2.2 13 = some (.aload_n 0, 1, 0, 0, 0, 0) := by decide +kernel
theorem aX12_test_14 : i_at mX12_test.2.2.2.2.2 14 = some (.getfield 163, 3, 11, 21, 1108, 0) := by decide +kernel
theorem aX12_test_17 : i_at mX12_test.2.2.2.2.2 17 = some (.ifCond .ne 185, 3, 202, 0, 0, 0) := by decide +kernel
theorem aX12_test_20 : i_at mX12_test.2.2.2.2.2 20 = some (.iload_n 1, 1, 0, 0, 0, 0) := by decide +kernel
theorem aX12_test_21 : i_at mX12_test.2.2.2.2.2 21 = some (.ifCond .eq 19, 3, 40, 0, 0, 0) := by decide +kernel
theorem aX12_test_24 : i_at mX12_test.2.2.2.2.2 24 = some (.aload_n 0, 1, 0, 0, 0, 0) := by decide +kernel
theorem aX12_test_25 : i_at mX12_test.2.2.2.2.2 25 = some (.invokevirtual 251, 3, 153, 0, 1394, 0) := by decide +kernel
theorem aX12_test_28 : i_at mX12_test.2.2.2.2.2 28 = some (.ifCond .ne 7, 3, 35, 0, 0, 0) := by decide +kernel
theorem aX12_test_31 : i_at mX12_test.2.2.2.2.2 31 = some (.iconst 1, 1, 0, 0, 0, 0) := by decide +kernel
theorem aX12_test_32 : i_at mX12_test.2.2.2.2.2 32 = some (.goto 4, 3, 36, 0, 0, 0) := by decide +kernel
theorem aX12_test_35 : i_at mX12_test.2.2.2.2.2 35 = some (.iconst 0, 1, 0, 0, 0, 0) := by decide +kernel
theorem aX12_test_36 : i_at mX12_test.2.2.2.2.2 36 = some (.istore_n 1, 1, 0, 0, 0, 0) := by decide +kernel
theorem aX12_test_37 : i_at mX12_test.2.2.2.2.2 37 = some (.goto (-28), 3, 9, 0, 0, 0) := by decide +kernel
theorem aX12_test_40 : i_at mX12_test.2.2.2.2.2 40 = some (.aload_n 0, 1, 0, 0, 0, 0) := by decide +kernel
theorem aX12_test_41 : i_at mX12_test.2.2.2.2.2 41 = some (.bipush 9, 2, 0, 0, 0, 0) := by decide +kernel
theorem aX12_test_43 : i_at mX12_test.2.2.2.2.2 43 = some (.invokevirtual 254, 3, 152, 1, 1407, 0) := by decide +kernel
theorem aX12_test_46 : i_at mX12_test.2.2.2.2.2 46 = some (.aload_n 0, 1, 0, 0, 0, 0) := by decide +kernel
theorem aX12_test_47 : i_at mX12_test.2.2.2.2.2 47 = some (.invokevirtual 186, 3, 139, 0, 1275, 0) := by decide +kernel
theorem aX12_test_50 : i_at mX12_test.2.2.2.2.2 50 = some (.aload_n 0, 1, 0, 0, 0, 0) := by decide +kernel
theorem aX12_test_51 : i_at mX12_test.2.2.2.2.2 51 = some (.ldc_w 257, 3, 1, 26, 0, 0) := by decide +kernel
theorem aX12_test_54 : i_at mX12_test.2.2.2.2.2 54 = some (.invokevirtual 189, 3, 141, 1, 1291, 0) := by decide +kernel
theorem aX12_test_57 : i_at mX12_test.2.2.2.2.2 57 = some (.istore_n 3, 1, 0, 0, 0, 0) := by decide +kernel
theorem aX12_test_58 : i_at mX12_test.2.2.2.2.2 58 = some (.aload_n 0, 1, 0, 0, 0, 0) := by decide +kernel
theorem aX12_test_59 : i_at mX12_test.2.2.2.2.2 59 = some (.ldc_w 259, 3, 1, 27, 0, 0) := by decide +kernel
theorem aX12_test_62 : i_at mX12_test.2.2.2.2.2 62 = some (.invokevirtual 189, 3, 141, 1, 1291, 0) := by decide +kernel
theorem aX12_test_65 : i_at mX12_test.2.2.2.2.2 65 = some (.istore 4, 2, 0, 0, 0, 0) := by decide +kernel
theorem aX12_test_67 : i_at mX12_test.2.2.2.2.2 67 = some (.aload_n 0, 1, 0, 0, 0, 0) := by decide +kernel
theorem aX12_test_68 : i_at mX12_test.2.2.2.2.2 68 = some (.bipush 10, 2, 0, 0, 0, 0) := by decide +kernel
theorem aX12_test_70 : i_at mX12_test.2.2.2.2.2 70 = some (.invokevirtual 254, 3, 152, 1, 1407, 0) := by decide +kernel
theorem aX12_test_73 : i_at mX12_test.2.2.2.2.2 73 = some (.iload_n 3, 1, 0, 0, 0, 0) := by decide +kernel
theorem aX12_test_74 : i_at mX12_test.2.2.2.2.2 74 = some (.ifCond .ne 8, 3, 82, 0, 0, 0) := by decide +kernel
theorem aX12_test_77 : i_at mX12_test.2.2.2.2.2 77 = some (.iload 4, 2, 0, 0, 0, 0) := by decide +kernel
theorem aX12_test_79 : i_at mX12_test.2.2.2.2.2 79 = some (.ifCond .eq 52, 3, 131, 0, 0, 0) := by decide +kernel
theorem aX12_test_82 : i_at mX12_test.2.2.2.2.2 82 = some (.iload 4, 2, 0, 0, 0, 0) := by decide +kernel
theorem aX12_test_84 : i_at mX12_test.2.2.2.2.2 84 = some (.ifCond .eq 9, 3, 93, 0, 0, 0) := by decide +kernel
theorem aX12_test_87 : i_at mX12_test.2.2.2.2.2 87 = some (.aload_n 0, 1, 0, 0, 0, 0) := by decide +kernel
theorem aX12_test_88 : i_at mX12_test.2.2.2.2.2 88 = some (.bipush 11, 2, 0, 0, 0, 0) := by decide +kernel
theorem aX12_test_90 : i_at mX12_test.2.2.2.2.2 90 = some (.invokevirtual 254, 3, 152, 1, 1407, 0) := by decide +kernel
theorem aX12_test_93 : i_at mX12_test.2.2.2.2.2 93 = some (.aload_n 0, 1, 0, 0, 0, 0) := by decide +kernel
theorem aX12_test_94 : i_at mX12_test.2.2.2.2.2 94 = some (.iload_n 3, 1, 0, 0, 0, 0) := by decide +kernel
theorem aX12_test_95 : i_at mX12_test.2.2.2.2.2 95 = some (.ifCond .eq 8, 3, 103, 0, 0, 0) := by decide +kernel
theorem aX12_test_98 : i_at mX12_test.2.2.2.2.2 98 = some (.bipush 10, 2, 0, 0, 0, 0) := by decide +kernel
theorem aX12_test_100 : i_at mX12_test.2.2.2.2.2 100 = some (.goto 5, 3, 105, 0, 0, 0) := by decide +kernel
theorem aX12_test_103 : i_at mX12_test.2.2.2.2.2 103 = some (.bipush 11, 2, 0, 0, 0, 0) := by decide +kernel
theorem aX12_test_105 : i_at mX12_test.2.2.2.2.2 105 = some (.invokevirtual 245, 3, 151, 1, 1399, 0) := by decide +kernel
theorem aX12_test_108 : i_at mX12_test.2.2.2.2.2 108 = some (.aload_n 0, 1, 0, 0, 0, 0) := by decide +kernel
theorem aX12_test_109 : i_at mX12_test.2.2.2.2.2 109 = some (.dup, 1, 0, 0, 0, 0) := by decide +kernel
theorem aX12_test_110 : i_at mX12_test.2.2.2.2.2 110 = some (.getfield 166, 3, 11, 20, 1107, 0) := by decide +kernel
theorem aX12_test_113 : i_at mX12_test.2.2.2.2.2 113 = some (.iload_n 3, 1, 0, 0, 0, 0) := by decide +kernel
theorem aX12_test_114 : i_at mX12_test.2.2.2.2.2 114 = some (.ifCond .eq 7, 3, 121, 0, 0, 0) := by decide +kernel
theorem aX12_test_117 : i_at mX12_test.2.2.2.2.2 117 = some (.iconst 3, 1, 0, 0, 0, 0) := by decide +kernel
theorem aX12_test_118 : i_at mX12_test.2.2.2.2.2 118 = some (.goto 4, 3, 122, 0, 0, 0) := by decide +kernel
theorem aX12_test_121 : i_at mX12_test.2.2.2.2.2 121 = some (.iconst 2, 1, 0, 0, 0, 0) := by decide +kernel
theorem aX12_test_122 : i_at mX12_test.2.2.2.2.2 122 = some (.iadd, 1, 0, 0, 0, 0) := by decide +kernel
theorem aX12_test_123 : i_at mX12_test.2.2.2.2.2 123 = some (.putfield 166, 3, 11, 20, 1107, 0) := by decide +kernel
theorem aX12_test_126 : i_at mX12_test.2.2.2.2.2 126 = some (.iconst 1, 1, 0, 0, 0, 0) := by decide +kernel
theorem aX12_test_127 : i_at mX12_test.2.2.2.2.2 127 = some (.istore_n 1, 1, 0, 0, 0, 0) := by decide +kernel
theorem aX12_test_128 : i_at mX12_test.2.2.2.2.2 128 = some (.goto 71, 3, 199, 0, 0, 0) := by decide +kernel
theorem aX12_test_131 : i_at mX12_test.2.2.2.2.2 131 = some (.aload_n 0, 1, 0, 0, 0, 0) := by decide +kernel
theorem aX12_test_132 : i_at mX12_test.2.2.2.2.2 132 = some (.bipush 11, 2, 0, 0, 0, 0) := by decide +kernel
theorem aX12_test_134 : i_at mX12_test.2.2.2.2.2 134 = some (.invokevirtual 254, 3, 152, 1, 1407, 0) := by decide +kernel
theorem aX12_test_137 : i_at mX12_test.2.2.2.2.2 137 = some (.aload_n 0, 1, 0, 0, 0, 0) := by decide +kernel
theorem aX12_test_138 : i_at mX12_test.2.2.2.2.2 138 = some (.invokevirtual 240, 3, 150, 0, 1411, 0) := by decide +kernel
theorem aX12_test_141 : i_at mX12_test.2.2.2.2.2 141 = some (.bipush 12, 2, 0, 0, 0, 0) := by decide +kernel
theorem aX12_test_143 : i_at mX12_test.2.2.2.2.2 143 = some (.if_icmp .ne 54, 3, 197, 0, 0, 0) := by decide +kernel
theorem aX12_test_146 : i_at mX12_test.2.2.2.2.2 146 = some (.aload_n 0, 1, 0, 0, 0, 0) := by decide +kernel
theorem aX12_test_147 : i_at mX12_test.2.2.2.2.2 147 = some (.invokevirtual 169, 3, 138, 0, 1279, 0) := by decide +kernel
theorem aX12_test_150 : i_at mX12_test.2.2.2.2.2 150 = some (.bipush 93, 2, 0, 0, 0, 0) := by decide +kernel
theorem aX12_test_152 : i_at mX12_test.2.2.2.2.2 152 = some (.if_icmp .eq 12, 3, 164, 0, 0, 0) := by decide +kernel
theorem aX12_test_155 : i_at mX12_test.2.2.2.2.2 155 = some (.aload_n 0, 1, 0, 0, 0, 0) := by decide +kernel
theorem aX12_test_156 : i_at mX12_test.2.2.2.2.2 156 = some (.iconst 0, 1, 0, 0, 0, 0) := by decide +kernel
theorem aX12_test_157 : i_at mX12_test.2.2.2.2.2 157 = some (.aload_n 0, 1, 0, 0, 0, 0) := by decide +kernel
theorem aX12_test_158 : i_at mX12_test.2.2.2.2.2 158 = some (.getfield 166, 3, 11, 20, 1107, 0) := by decide +kernel
theorem aX12_test_161 : i_at mX12_test.2.2.2.2.2 161 = some (.invokevirtual 202, 3, 137, 2, 1297, 0) := by decide +kernel
theorem aX12_test_164 : i_at mX12_test.2.2.2.2.2 164 = some (.aload_n 0, 1, 0, 0, 0, 0) := by decide +kernel
theorem aX12_test_165 : i_at mX12_test.2.2.2.2.2 165 = some (.dup, 1, 0, 0, 0, 0) := by decide +kernel
theorem aX12_test_166 : i_at mX12_test.2.2.2.2.2 166 = some (.getfield 166, 3, 11, 20, 1107, 0) := by decide +kernel
theorem aX12_test_169 : i_at mX12_test.2.2.2.2.2 169 = some (.iconst 1, 1, 0, 0, 0, 0) := by decide +kernel
theorem aX12_test_170 : i_at mX12_test.2.2.2.2.2 170 = some (.iadd, 1, 0, 0, 0, 0) := by decide +kernel
theorem aX12_test_171 : i_at mX12_test.2.2.2.2.2 171 = some (.putfield 166, 3, 11, 20, 1107, 0) := by decide +kernel
theorem aX12_test_174 : i_at mX12_test.2.2.2.2.2 174 = some (.aload_n 0, 1, 0, 0, 0, 0) := by decide +kernel
theorem aX12_test_175 : i_at mX12_test.2.2.2.2.2 175 = some (.dup, 1, 0, 0, 0, 0) := by decide +kernel
theorem aX12_test_176 : i_at mX12_test.2.2.2.2.2 176 = some (.getfield 234, 3, 11, 27, 1114, 0) := by decide +kernel
theorem aX12_test_179 : i_at mX12_test.2.2.2.2.2 179 = some (.iconst 1, 1, 0, 0, 0, 0) := by decide +kernel
theorem aX12_test_180 : i_at mX12_test.2.2.2.2.2 180 = some (.isub, 1, 0, 0, 0, 0) := by decide +kernel
theorem aX12_test_181 : i_at mX12_test.2.2.2.2.2 181 = some (.putfield 234, 3, 11, 27, 1114, 0) := by decide +kernel
theorem aX12_test_184 : i_at mX12_test.2.2.2.2.2 184 = some (.aload_n 0, 1, 0, 0, 0, 0) := by decide +kernel
theorem aX12_test_185 : i_at mX12_test.2.2.2.2.2 185 = some (.dup, 1, 0, 0, 0, 0) := by decide +kernel
theorem aX12_test_186 : i_at mX12_test.2.2.2.2.2 186 = some (.getfield 237, 3, 11, 25, 1112, 0) := by decide +kernel
theorem aX12_test_189 : i_at mX12_test.2.2.2.2.2 189 = some (.iconst 1, 1, 0, 0, 0, 0) := by decide +kernel
theorem aX12_test_190 : i_at mX12_test.2.2.2.2.2 190 = some (.isub, 1, 0, 0, 0, 0) := by decide +kernel
theorem aX12_test_191 : i_at mX12_test.2.2.2.2.2 191 = some (.putfield 237, 3, 11, 25, 1112, 0) := by decide +kernel
theorem aX12_test_194 : i_at mX12_test.2.2.2.2.2 194 = some (.goto 5, 3, 199, 0, 0, 0) := by decide +kernel
theorem aX12_test_197 : i_at mX12_test.2.2.2.2.2 197 = some (.iconst 0, 1, 0, 0, 0, 0) := by decide +kernel
theorem aX12_test_198 : i_at mX12_test.2.2.2.2.2 198 = some (.istore_n 2, 1, 0, 0, 0, 0) := by decide +kernel
theorem aX12_test_199 : i_at mX12_test.2.2.2.2.2 199 = some (.goto (-190), 3, 9, 0, 0, 0) := by decide +kernel
theorem aX12_test_202 : i_at mX12_test.2.2.2.2.2 202 = some (.return_, 1, 0, 0, 0, 0) := by decide +kernel
noncomputable def fX12_test_J202 (sh : List kd) (x1 : Int32) (x2 : Int32) (x3 : Value) (x4 : Value) (s5 : St) : Option (Unit × St) := some ((), s5)
noncomputable def fX12_test_J93 (sh : List kd) (x1 : Int32) (x2 : Int32) (r66 : Int32) (r69 : Int32) (k9 : Int32 → Int32 → Value → Value → St → Option (Unit × St)) (s176 : St) : Option (Unit × St) := i_bd (fX12_opens sh s176 ((if r66 = 0 then 11 else 10) : Int32)) (fun r177 s178 => k9 1 x2 (.int r66) (.int r69) (s_F s178 0 20 ((s178.1 0 20) + ((if r66 = 0 then 2 else 3) : Int32))))
noncomputable def fX12_test_J164 (sh : List kd) (x1 : Int32) (x2 : Int32) (r66 : Int32) (r69 : Int32) (k9 : Int32 → Int32 → Value → Value → St → Option (Unit × St)) (s347 : St) : Option (Unit × St) := i_jp (s_F (s_F (s_F s347 0 20 ((s347.1 0 20) + 1)) 0 27 (((s_F s347 0 20 ((s347.1 0 20) + 1)).1 0 27) - 1)) 0 25 (((s_F (s_F s347 0 20 ((s347.1 0 20) + 1)) 0 27 (((s_F s347 0 20 ((s347.1 0 20) + 1)).1 0 27) - 1)).1 0 25) - 1)) (fun (s348 : St) => k9 x1 x2 (.int r66) (.int r69) s348)
noncomputable def fX12_test_J93_404 (sh : List kd) (x1 : Int32) (x2 : Int32) (r66 : Int32) (r69 : Int32) (k9 : Int32 → Int32 → Value → Value → St → Option (Unit × St)) (s404 : St) : Option (Unit × St) := i_bd (fX12_opens sh s404 ((if r66 = 0 then 11 else 10) : Int32)) (fun r405 s406 => k9 1 x2 (.int r66) (.int r69) (s_F s406 0 20 ((s406.1 0 20) + ((if r66 = 0 then 2 else 3) : Int32))))
noncomputable def fX12_test_L9 (sh : List kd) : Nat → Int32 → Int32 → Value → Value → St → Option (Unit × St)
  | 0, _, _, _, _, _ => none
  | n6 + 1, x1, x2, x3, x4, s5 => if x2 = 0 then fX12_test_J202 sh x1 x2 x3 x4 s5 else if ¬ (s5.1 0 21) = 0 then fX12_test_J202 sh x1 x2 x3 x4 s5 else if x1 = 0 then i_bd (fX12_answers sh s5 9) (fun r60 s61 => i_bd (fX12_blanks sh s61) (fun r63 s64 => i_bd (fX12_stood sh s64 26) (fun r66 s67 => i_bd (fX12_stood sh s67 27) (fun r69 s70 => i_bd (fX12_answers sh s70 10) (fun r72 s73 => if ¬ r66 = 0 then if r69 = 0 then fX12_test_J93 sh x1 x2 r66 r69 (fX12_test_L9 sh n6) s73 else i_bd (fX12_answers sh s73 11) (fun r183 s184 => fX12_test_J93 sh x1 x2 r66 r69 (fX12_test_L9 sh n6) s184) else if r69 = 0 then i_bd (fX12_answers sh s73 11) (fun r237 s238 => i_bd (fX12_top sh s238) (fun r240 s241 => if ¬ r240 = 12 then (fX12_test_L9 sh n6 x1 0 (.int r66) (.int r69) s241) else i_bd (fX12_sign sh s241) (fun r294 s295 => if r294 = 93 then fX12_test_J164 sh x1 x2 r66 r69 (fX12_test_L9 sh n6) s295 else i_bd (fX12_fails sh s295 0 (s295.1 0 20)) (fun r351 s352 => fX12_test_J164 sh x1 x2 r66 r69 (fX12_test_L9 sh n6) s352)))) else if r69 = 0 then fX12_test_J93_404 sh x1 x2 r66 r69 (fX12_test_L9 sh n6) s73 else i_bd (fX12_answers sh s73 11) (fun r411 s412 => fX12_test_J93_404 sh x1 x2 r66 r69 (fX12_test_L9 sh n6) s412)))))) else i_bd (fX12_fact sh s5) (fun r414 s415 => (fX12_test_L9 sh n6 ((if ¬ r414 = 0 then 0 else 1) : Int32) x2 x3 x4 s415))
noncomputable def fX12_test (sh : List kd) (σ : St) : Option (Unit × St) := fX12_test_L9 sh i_F 1 1 (.retAddr 0) (.retAddr 0) (s_F σ 0 27 0)
set_option maxRecDepth 20000 in
set_option maxHeartbeats 2000000 in
theorem tX12_test_J202 {sh : List kd} {τ : St} {r : Unit} (hsh : rmSh sh) {x1 : Int32} {x2 : Int32} {x3 : Value} {x4 : Value} {s5 : St} (hE : fX12_test_J202 sh x1 x2 x3 x4 s5 = some (r, τ)) : g_R sh 8 mX12_test none τ 202 [.ref 0, .int x1, .int x2, x3, x4] [] (s5) := by
  unfold fX12_test_J202 at hE
  obtain ⟨rfl, rfl⟩ := i_some_inj hE
  exact g_vret aX12_test_202 rfl
set_option maxRecDepth 20000 in
set_option maxHeartbeats 2000000 in
theorem tX12_test_J93 {sh : List kd} {τ : St} {r : Unit} (hsh : rmSh sh) {x1 : Int32} {x2 : Int32} {r66 : Int32} {r69 : Int32} {s176 : St} {k9 : Int32 → Int32 → Value → Value → St → Option (Unit × St)} (hk9 : ∀ (x1 : Int32) (x2 : Int32) (x3 : Value) (x4 : Value) (s5 : St), k9 x1 x2 x3 x4 s5 = some (r, τ) → g_R sh 8 mX12_test none τ 9 [.ref 0, .int x1, .int x2, x3, x4] [] (s5)) (hE : fX12_test_J93 sh x1 x2 r66 r69 k9 s176 = some (r, τ)) : g_R sh 8 mX12_test none τ 93 [.ref 0, .int x1, .int x2, .int r66, .int r69] [] (s176) := by
  unfold fX12_test_J93 at hE
  refine g_ldan aX12_test_93 rfl ?_
  refine g_ldin aX12_test_94 rfl ?_
  have hJ : g_R sh 8 mX12_test none τ 105 [.ref 0, .int x1, .int x2, .int r66, .int r69] [.int ((if r66 = 0 then 11 else 10) : Int32), .ref 0] (s176) := by
    obtain ⟨r177, s178, h179, hE⟩ := i_bd_some hE
    refine g_calV (As := [.int ((if r66 = 0 then 11 else 10) : Int32)]) (rest := []) aX12_test_105 (i_X_mono (by omega) (tX12_opens hsh h179)) (sR_0 hsh) (by decide +kernel) rfl rfl (Nat.le_of_ble_eq_true rfl) rfl ?_
    refine g_ldan aX12_test_108 rfl ?_
    refine g_dupa aX12_test_109 ?_
    refine g_getI aX12_test_110 (sR_0 hsh) rfl ?_
    refine g_ldin aX12_test_113 rfl ?_
    have hJ : g_R sh 8 mX12_test none τ 122 [.ref 0, .int x1, .int x2, .int r66, .int r69] [.int ((if r66 = 0 then 2 else 3) : Int32), .int (s178.1 0 20), .ref 0] (s178) := by
      refine g_iadd aX12_test_122 ?_
      refine g_putI aX12_test_123 (sR_0 hsh) rfl rfl ?_
      refine g_iconst (x := 1) aX12_test_126 rfl ?_
      refine g_stin (loc2 := [.ref 0, .int 1, .int x2, .int r66, .int r69]) aX12_test_127 (Nat.le_of_ble_eq_true rfl) rfl ?_
      refine g_goto aX12_test_128 ?_
      refine g_goto aX12_test_199 ?_
      exact hk9 _ _ _ _ _ hE
    clear hE
    by_cases hc179 : r66 = 0
    · (try rw [if_pos hc179] at hJ)
      refine g_if_eq_t aX12_test_114 hc179 ?_
      refine g_iconst (x := 2) aX12_test_121 rfl ?_
      exact hJ
    · (try rw [if_neg hc179] at hJ)
      refine g_if_eq_f aX12_test_114 hc179 ?_
      refine g_iconst (x := 3) aX12_test_117 rfl ?_
      refine g_goto aX12_test_118 ?_
      exact hJ
  clear hE
  by_cases hc180 : r66 = 0
  · (try rw [if_pos hc180] at hJ)
    refine g_if_eq_t aX12_test_95 hc180 ?_
    refine g_bipush (x := 11) aX12_test_103 rfl ?_
    exact hJ
  · (try rw [if_neg hc180] at hJ)
    refine g_if_eq_f aX12_test_95 hc180 ?_
    refine g_bipush (x := 10) aX12_test_98 rfl ?_
    refine g_goto aX12_test_100 ?_
    exact hJ
set_option maxRecDepth 20000 in
set_option maxHeartbeats 2000000 in
theorem tX12_test_J164 {sh : List kd} {τ : St} {r : Unit} (hsh : rmSh sh) {x1 : Int32} {x2 : Int32} {r66 : Int32} {r69 : Int32} {s347 : St} {k9 : Int32 → Int32 → Value → Value → St → Option (Unit × St)} (hk9 : ∀ (x1 : Int32) (x2 : Int32) (x3 : Value) (x4 : Value) (s5 : St), k9 x1 x2 x3 x4 s5 = some (r, τ) → g_R sh 8 mX12_test none τ 9 [.ref 0, .int x1, .int x2, x3, x4] [] (s5)) (hE : fX12_test_J164 sh x1 x2 r66 r69 k9 s347 = some (r, τ)) : g_R sh 8 mX12_test none τ 164 [.ref 0, .int x1, .int x2, .int r66, .int r69] [] (s347) := by
  unfold fX12_test_J164 at hE
  refine g_ldan aX12_test_164 rfl ?_
  refine g_dupa aX12_test_165 ?_
  refine g_getI aX12_test_166 (sR_0 hsh) rfl ?_
  refine g_iconst (x := 1) aX12_test_169 rfl ?_
  refine g_iadd aX12_test_170 ?_
  refine g_putI aX12_test_171 (sR_0 hsh) rfl rfl ?_
  refine g_ldan aX12_test_174 rfl ?_
  refine g_dupa aX12_test_175 ?_
  refine g_getI aX12_test_176 (sR_0 hsh) rfl ?_
  refine g_iconst (x := 1) aX12_test_179 rfl ?_
  refine g_isub aX12_test_180 ?_
  refine g_putI aX12_test_181 (sR_0 hsh) rfl rfl ?_
  refine g_ldan aX12_test_184 rfl ?_
  refine g_dupa aX12_test_185 ?_
  refine g_getI aX12_test_186 (sR_0 hsh) rfl ?_
  refine g_iconst (x := 1) aX12_test_189 rfl ?_
  refine g_isub aX12_test_190 ?_
  refine g_putI aX12_test_191 (sR_0 hsh) rfl rfl ?_
  obtain ⟨s348, h349, hE⟩ := i_jp_some hE
  rw [← h349]
  refine g_goto aX12_test_194 ?_
  refine g_goto aX12_test_199 ?_
  exact hk9 _ _ _ _ _ hE
set_option maxRecDepth 20000 in
set_option maxHeartbeats 2000000 in
theorem tX12_test_J93_404 {sh : List kd} {τ : St} {r : Unit} (hsh : rmSh sh) {x1 : Int32} {x2 : Int32} {r66 : Int32} {r69 : Int32} {s404 : St} {k9 : Int32 → Int32 → Value → Value → St → Option (Unit × St)} (hk9 : ∀ (x1 : Int32) (x2 : Int32) (x3 : Value) (x4 : Value) (s5 : St), k9 x1 x2 x3 x4 s5 = some (r, τ) → g_R sh 8 mX12_test none τ 9 [.ref 0, .int x1, .int x2, x3, x4] [] (s5)) (hE : fX12_test_J93_404 sh x1 x2 r66 r69 k9 s404 = some (r, τ)) : g_R sh 8 mX12_test none τ 93 [.ref 0, .int x1, .int x2, .int r66, .int r69] [] (s404) := by
  unfold fX12_test_J93_404 at hE
  refine g_ldan aX12_test_93 rfl ?_
  refine g_ldin aX12_test_94 rfl ?_
  have hJ : g_R sh 8 mX12_test none τ 105 [.ref 0, .int x1, .int x2, .int r66, .int r69] [.int ((if r66 = 0 then 11 else 10) : Int32), .ref 0] (s404) := by
    obtain ⟨r405, s406, h407, hE⟩ := i_bd_some hE
    refine g_calV (As := [.int ((if r66 = 0 then 11 else 10) : Int32)]) (rest := []) aX12_test_105 (i_X_mono (by omega) (tX12_opens hsh h407)) (sR_0 hsh) (by decide +kernel) rfl rfl (Nat.le_of_ble_eq_true rfl) rfl ?_
    refine g_ldan aX12_test_108 rfl ?_
    refine g_dupa aX12_test_109 ?_
    refine g_getI aX12_test_110 (sR_0 hsh) rfl ?_
    refine g_ldin aX12_test_113 rfl ?_
    have hJ : g_R sh 8 mX12_test none τ 122 [.ref 0, .int x1, .int x2, .int r66, .int r69] [.int ((if r66 = 0 then 2 else 3) : Int32), .int (s406.1 0 20), .ref 0] (s406) := by
      refine g_iadd aX12_test_122 ?_
      refine g_putI aX12_test_123 (sR_0 hsh) rfl rfl ?_
      refine g_iconst (x := 1) aX12_test_126 rfl ?_
      refine g_stin (loc2 := [.ref 0, .int 1, .int x2, .int r66, .int r69]) aX12_test_127 (Nat.le_of_ble_eq_true rfl) rfl ?_
      refine g_goto aX12_test_128 ?_
      refine g_goto aX12_test_199 ?_
      exact hk9 _ _ _ _ _ hE
    clear hE
    by_cases hc407 : r66 = 0
    · (try rw [if_pos hc407] at hJ)
      refine g_if_eq_t aX12_test_114 hc407 ?_
      refine g_iconst (x := 2) aX12_test_121 rfl ?_
      exact hJ
    · (try rw [if_neg hc407] at hJ)
      refine g_if_eq_f aX12_test_114 hc407 ?_
      refine g_iconst (x := 3) aX12_test_117 rfl ?_
      refine g_goto aX12_test_118 ?_
      exact hJ
  clear hE
  by_cases hc408 : r66 = 0
  · (try rw [if_pos hc408] at hJ)
    refine g_if_eq_t aX12_test_95 hc408 ?_
    refine g_bipush (x := 11) aX12_test_103 rfl ?_
    exact hJ
  · (try rw [if_neg hc408] at hJ)
    refine g_if_eq_f aX12_test_95 hc408 ?_
    refine g_bipush (x := 10) aX12_test_98 rfl ?_
    refine g_goto aX12_test_100 ?_
    exact hJ
set_option maxRecDepth 20000 in
set_option maxHeartbeats 2000000 in
theorem tX12_test_L9 {sh : List kd} {τ : St} {r : Unit} (hsh : rmSh sh) : ∀ (n0 : Nat) (x1 : Int32) (x2 : Int32) (x3 : Value) (x4 : Value) (s5 : St), fX12_test_L9 sh n0 x1 x2 x3 x4 s5 = some (r, τ) → g_R sh 8 mX12_test none τ 9 [.ref 0, .int x1, .int x2, x3, x4] [] (s5) := by
  intro n0
  induction n0 with
  | zero => intro _ _ _ _ _ hE; cases hE
  | succ n6 ih =>
    intro x1 x2 x3 x4 s5 hE
    unfold fX12_test_L9 at hE
    refine g_ldin aX12_test_9 rfl ?_
    by_cases hc57 : x2 = 0
    · rw [if_pos hc57] at hE
      refine g_if_eq_t aX12_test_10 hc57 ?_
      exact tX12_test_J202 hsh hE
    · rw [if_neg hc57] at hE
      refine g_if_eq_f aX12_test_10 hc57 ?_
      refine g_ldan aX12_test_13 rfl ?_
      refine g_getI aX12_test_14 (sR_0 hsh) rfl ?_
      by_cases hc58 : ¬ (s5.1 0 21) = 0
      · rw [if_pos hc58] at hE
        refine g_if_ne_t aX12_test_17 hc58 ?_
        exact tX12_test_J202 hsh hE
      · rw [if_neg hc58] at hE
        refine g_if_ne_f aX12_test_17 hc58 ?_
        refine g_ldin aX12_test_20 rfl ?_
        by_cases hc59 : x1 = 0
        · rw [if_pos hc59] at hE
          refine g_if_eq_t aX12_test_21 hc59 ?_
          refine g_ldan aX12_test_40 rfl ?_
          refine g_bipush (x := 9) aX12_test_41 rfl ?_
          obtain ⟨r60, s61, h62, hE⟩ := i_bd_some hE
          refine g_calV (As := [.int 9]) (rest := []) aX12_test_43 (i_X_mono (by omega) (tX12_answers hsh h62)) (sR_0 hsh) (by decide +kernel) rfl rfl (Nat.le_of_ble_eq_true rfl) rfl ?_
          refine g_ldan aX12_test_46 rfl ?_
          obtain ⟨r63, s64, h65, hE⟩ := i_bd_some hE
          refine g_calV (As := []) (rest := []) aX12_test_47 (i_X_mono (by omega) (tX12_blanks hsh h65)) (sR_0 hsh) (by decide +kernel) rfl rfl (Nat.le_of_ble_eq_true rfl) rfl ?_
          refine g_ldan aX12_test_50 rfl ?_
          refine g_ldcwS aX12_test_51 rfl ?_
          obtain ⟨r66, s67, h68, hE⟩ := i_bd_some hE
          refine g_calV (As := [.ref (i_SB + 26)]) (rest := []) aX12_test_54 (i_X_mono (by omega) (tX12_stood hsh h68)) (sR_0 hsh) (by decide +kernel) rfl rfl (Nat.le_of_ble_eq_true rfl) rfl ?_
          refine g_stin (loc2 := [.ref 0, .int x1, .int x2, .int r66, x4]) aX12_test_57 (Nat.le_of_ble_eq_true rfl) rfl ?_
          refine g_ldan aX12_test_58 rfl ?_
          refine g_ldcwS aX12_test_59 rfl ?_
          obtain ⟨r69, s70, h71, hE⟩ := i_bd_some hE
          refine g_calV (As := [.ref (i_SB + 27)]) (rest := []) aX12_test_62 (i_X_mono (by omega) (tX12_stood hsh h71)) (sR_0 hsh) (by decide +kernel) rfl rfl (Nat.le_of_ble_eq_true rfl) rfl ?_
          refine g_sti (loc2 := [.ref 0, .int x1, .int x2, .int r66, .int r69]) aX12_test_65 (Nat.le_of_ble_eq_true rfl) rfl ?_
          refine g_ldan aX12_test_67 rfl ?_
          refine g_bipush (x := 10) aX12_test_68 rfl ?_
          obtain ⟨r72, s73, h74, hE⟩ := i_bd_some hE
          refine g_calV (As := [.int 10]) (rest := []) aX12_test_70 (i_X_mono (by omega) (tX12_answers hsh h74)) (sR_0 hsh) (by decide +kernel) rfl rfl (Nat.le_of_ble_eq_true rfl) rfl ?_
          refine g_ldin aX12_test_73 rfl ?_
          by_cases hc125 : ¬ r66 = 0
          · rw [if_pos hc125] at hE
            refine g_if_ne_t aX12_test_74 hc125 ?_
            refine g_ldi aX12_test_82 rfl ?_
            by_cases hc182 : r69 = 0
            · rw [if_pos hc182] at hE
              refine g_if_eq_t aX12_test_84 hc182 ?_
              exact tX12_test_J93 hsh ih hE
            · rw [if_neg hc182] at hE
              refine g_if_eq_f aX12_test_84 hc182 ?_
              refine g_ldan aX12_test_87 rfl ?_
              refine g_bipush (x := 11) aX12_test_88 rfl ?_
              obtain ⟨r183, s184, h185, hE⟩ := i_bd_some hE
              refine g_calV (As := [.int 11]) (rest := []) aX12_test_90 (i_X_mono (by omega) (tX12_answers hsh h185)) (sR_0 hsh) (by decide +kernel) rfl rfl (Nat.le_of_ble_eq_true rfl) rfl ?_
              exact tX12_test_J93 hsh ih hE
          · rw [if_neg hc125] at hE
            refine g_if_ne_f aX12_test_74 hc125 ?_
            refine g_ldi aX12_test_77 rfl ?_
            by_cases hc236 : r69 = 0
            · rw [if_pos hc236] at hE
              refine g_if_eq_t aX12_test_79 hc236 ?_
              refine g_ldan aX12_test_131 rfl ?_
              refine g_bipush (x := 11) aX12_test_132 rfl ?_
              obtain ⟨r237, s238, h239, hE⟩ := i_bd_some hE
              refine g_calV (As := [.int 11]) (rest := []) aX12_test_134 (i_X_mono (by omega) (tX12_answers hsh h239)) (sR_0 hsh) (by decide +kernel) rfl rfl (Nat.le_of_ble_eq_true rfl) rfl ?_
              refine g_ldan aX12_test_137 rfl ?_
              obtain ⟨r240, s241, h242, hE⟩ := i_bd_some hE
              refine g_calV (As := []) (rest := []) aX12_test_138 (i_X_mono (by omega) (tX12_top hsh h242)) (sR_0 hsh) (by decide +kernel) rfl rfl (Nat.le_of_ble_eq_true rfl) rfl ?_
              refine g_bipush (x := 12) aX12_test_141 rfl ?_
              by_cases hc293 : ¬ r240 = 12
              · rw [if_pos hc293] at hE
                refine g_ic_ne_t aX12_test_143 hc293 ?_
                refine g_iconst (x := 0) aX12_test_197 rfl ?_
                refine g_stin (loc2 := [.ref 0, .int x1, .int 0, .int r66, .int r69]) aX12_test_198 (Nat.le_of_ble_eq_true rfl) rfl ?_
                refine g_goto aX12_test_199 ?_
                exact ih _ _ _ _ _ hE
              · rw [if_neg hc293] at hE
                refine g_ic_ne_f aX12_test_143 hc293 ?_
                refine g_ldan aX12_test_146 rfl ?_
                obtain ⟨r294, s295, h296, hE⟩ := i_bd_some hE
                refine g_calV (As := []) (rest := []) aX12_test_147 (i_X_mono (by omega) (tX12_sign hsh h296)) (sR_0 hsh) (by decide +kernel) rfl rfl (Nat.le_of_ble_eq_true rfl) rfl ?_
                refine g_bipush (x := 93) aX12_test_150 rfl ?_
                by_cases hc350 : r294 = 93
                · rw [if_pos hc350] at hE
                  refine g_ic_eq_t aX12_test_152 hc350 ?_
                  exact tX12_test_J164 hsh ih hE
                · rw [if_neg hc350] at hE
                  refine g_ic_eq_f aX12_test_152 hc350 ?_
                  refine g_ldan aX12_test_155 rfl ?_
                  refine g_iconst (x := 0) aX12_test_156 rfl ?_
                  refine g_ldan aX12_test_157 rfl ?_
                  refine g_getI aX12_test_158 (sR_0 hsh) rfl ?_
                  obtain ⟨r351, s352, h353, hE⟩ := i_bd_some hE
                  refine g_calV (As := [.int 0, .int (s295.1 0 20)]) (rest := []) aX12_test_161 (i_X_mono (by omega) (tX12_fails hsh h353)) (sR_0 hsh) (by decide +kernel) rfl rfl (Nat.le_of_ble_eq_true rfl) rfl ?_
                  exact tX12_test_J164 hsh ih hE
            · rw [if_neg hc236] at hE
              refine g_if_eq_f aX12_test_79 hc236 ?_
              refine g_ldi aX12_test_82 rfl ?_
              by_cases hc410 : r69 = 0
              · rw [if_pos hc410] at hE
                refine g_if_eq_t aX12_test_84 hc410 ?_
                exact tX12_test_J93_404 hsh ih hE
              · rw [if_neg hc410] at hE
                refine g_if_eq_f aX12_test_84 hc410 ?_
                refine g_ldan aX12_test_87 rfl ?_
                refine g_bipush (x := 11) aX12_test_88 rfl ?_
                obtain ⟨r411, s412, h413, hE⟩ := i_bd_some hE
                refine g_calV (As := [.int 11]) (rest := []) aX12_test_90 (i_X_mono (by omega) (tX12_answers hsh h413)) (sR_0 hsh) (by decide +kernel) rfl rfl (Nat.le_of_ble_eq_true rfl) rfl ?_
                exact tX12_test_J93_404 hsh ih hE
        · rw [if_neg hc59] at hE
          refine g_if_eq_f aX12_test_21 hc59 ?_
          refine g_ldan aX12_test_24 rfl ?_
          obtain ⟨r414, s415, h416, hE⟩ := i_bd_some hE
          refine g_calV (As := []) (rest := []) aX12_test_25 (i_X_mono (by omega) (tX12_fact hsh h416)) (sR_0 hsh) (by decide +kernel) rfl rfl (Nat.le_of_ble_eq_true rfl) rfl ?_
          have hJ : g_R sh 8 mX12_test none τ 36 [.ref 0, .int x1, .int x2, x3, x4] [.int ((if ¬ r414 = 0 then 0 else 1) : Int32)] (s415) := by
            refine g_stin (loc2 := [.ref 0, .int ((if ¬ r414 = 0 then 0 else 1) : Int32), .int x2, x3, x4]) aX12_test_36 (Nat.le_of_ble_eq_true rfl) rfl ?_
            refine g_goto aX12_test_37 ?_
            exact ih _ _ _ _ _ hE
          clear hE
          by_cases hc416 : ¬ r414 = 0
          · (try rw [if_pos hc416] at hJ)
            refine g_if_ne_t aX12_test_28 hc416 ?_
            refine g_iconst (x := 0) aX12_test_35 rfl ?_
            exact hJ
          · (try rw [if_neg hc416] at hJ)
            refine g_if_ne_f aX12_test_28 hc416 ?_
            refine g_iconst (x := 1) aX12_test_31 rfl ?_
            refine g_goto aX12_test_32 ?_
            exact hJ
set_option maxRecDepth 20000 in
set_option maxHeartbeats 2000000 in
theorem tX12_test {sh : List kd} {σ τ : St} {r : Unit} (hsh : rmSh sh) (hE : fX12_test sh σ = some (r, τ)) : i_X 9 154 [.ref 0] (s_h sh σ) 0 0 none (s_h sh τ) := by
  refine g_X (M := mX12_test) (loc := [.ref 0, .retAddr 0, .retAddr 0, .retAddr 0, .retAddr 0]) rfl (Nat.le_of_ble_eq_true rfl) rfl ?_
  unfold fX12_test at hE
  refine g_ldan aX12_test_0 rfl ?_
  refine g_iconst (x := 0) aX12_test_1 rfl ?_
  refine g_putI aX12_test_2 (sR_0 hsh) rfl rfl ?_
  refine g_iconst (x := 1) aX12_test_5 rfl ?_
  refine g_stin (loc2 := [.ref 0, .int 1, .retAddr 0, .retAddr 0, .retAddr 0]) aX12_test_6 (Nat.le_of_ble_eq_true rfl) rfl ?_
  refine g_iconst (x := 1) aX12_test_7 rfl ?_
  refine g_stin (loc2 := [.ref 0, .int 1, .int 1, .retAddr 0, .retAddr 0]) aX12_test_8 (Nat.le_of_ble_eq_true rfl) rfl ?_
  exact tX12_test_L9 hsh i_F _ _ _ _ _ hE
theorem aX12_amount_0 : i_at mX12_amount.2.2.2.2.2 0 = some (.aload_n 0, 1, 0, 0, 0, 0) := by decide +kernel
theorem aX12_amount_1 : i_at mX12_amount.2.2.2.2.2 1 = some (.invokevirtual 186, 3, 139, 0, 1275, 0) := by decide +kernel
theorem aX12_amount_4 : i_at mX12_amount.2.2.2.2.2 4 = some (.aload_n 0, 1, 0, 0, 0, 0) := by decide +kernel
theorem aX12_amount_5 : i_at mX12_amount.2.2.2.2.2 5 = some (.getfield 166, 3, 11, 20, 1107, 0) := by decide +kernel
theorem aX12_amount_8 : i_at mX12_amount.2.2.2.2.2 8 = some (.istore_n 3, 1, 0, 0, 0, 0) := by decide +kernel
theorem aX12_amount_9 : i_at mX12_amount.2.2.2.2.2 9 = some (.aload_n 0, 1, 0, 0, 0, 0) := by decide +kernel
theorem aX12_amount_10 : i_at mX12_amount.2.2.2.2.2 10 = some (.getfield 163, 3, 11, 21, 1108, 0) := by decide +kernel
theorem aX12_amount_13 : i_at mX12_amount.2.2.2.2.2 13 = some (.ifCond .ne 12, 3, 25, 0, 0, 0) := by decide +kernel
theorem aX12_amount_16 : i_at mX12_amount.2.2.2.2.2 16 = some (.aload_n 0, 1, 0, 0, 0, 0) := by decide +kernel
theorem aX12_amount_17 : i_at mX12_amount.2.2.2.2.2 17 = some (.ldc 210, 2, 0, 0, 1313, 99999) := by decide +kernel
theorem aX12_amount_19 : i_at mX12_amount.2.2.2.2.2 19 = some (.invokevirtual 211, 3, 145, 1, 1314, 0) := by decide +kernel
theorem aX12_amount_22 : i_at mX12_amount.2.2.2.2.2 22 = some (.goto 4, 3, 26, 0, 0, 0) := by decide +kernel
theorem aX12_amount_25 : i_at mX12_amount.2.2.2.2.2 25 = some (.iconst 0, 1, 0, 0, 0, 0) := by decide +kernel
theorem aX12_amount_26 : i_at mX12_amount.2.2.2.2.2 26 = some (.istore 4, 2, 0, 0, 0, 0) := by decide +kernel
theorem aX12_amount_28 : i_at mX12_amount.2.2.2.2.2 28 = some (.aload_n 0, 1, 0, 0, 0, 0) := by decide +kernel
theorem aX12_amount_29 : i_at mX12_amount.2.2.2.2.2 29 = some (.getfield 163, 3, 11, 21, 1108, 0) := by decide +kernel
theorem aX12_amount_32 : i_at mX12_amount.2.2.2.2.2 32 = some (.ifCond .ne 22, 3, 54, 0, 0, 0) := by decide +kernel
theorem aX12_amount_35 : i_at mX12_amount.2.2.2.2.2 35 = some (.iload 4, 2, 0, 0, 0, 0) := by decide +kernel
theorem aX12_amount_37 : i_at mX12_amount.2.2.2.2.2 37 = some (.i2l, 1, 0, 0, 0, 0) := by decide +kernel
theorem aX12_amount_38 : i_at mX12_amount.2.2.2.2.2 38 = some (.iload_n 1, 1, 0, 0, 0, 0) := by decide +kernel
theorem aX12_amount_39 : i_at mX12_amount.2.2.2.2.2 39 = some (.i2l, 1, 0, 0, 0, 0) := by decide +kernel
theorem aX12_amount_40 : i_at mX12_amount.2.2.2.2.2 40 = some (.iload_n 2, 1, 0, 0, 0, 0) := by decide +kernel
theorem aX12_amount_41 : i_at mX12_amount.2.2.2.2.2 41 = some (.i2l, 1, 0, 0, 0, 0) := by decide +kernel
theorem aX12_amount_42 : i_at mX12_amount.2.2.2.2.2 42 = some (.invokestatic 131, 3, 127, 3, 1324, 0) := by decide +kernel
theorem aX12_amount_45 : i_at mX12_amount.2.2.2.2.2 45 = some (.ifCond .ne 9, 3, 54, 0, 0, 0) := by decide +kernel
theorem aX12_amount_48 : i_at mX12_amount.2.2.2.2.2 48 = some (.aload_n 0, 1, 0, 0, 0, 0) := by decide +kernel
theorem aX12_amount_49 : i_at mX12_amount.2.2.2.2.2 49 = some (.iconst 1, 1, 0, 0, 0, 0) := by decide +kernel
theorem aX12_amount_50 : i_at mX12_amount.2.2.2.2.2 50 = some (.iload_n 3, 1, 0, 0, 0, 0) := by decide +kernel
theorem aX12_amount_51 : i_at mX12_amount.2.2.2.2.2 51 = some (.invokevirtual 202, 3, 137, 2, 1297, 0) := by decide +kernel
theorem aX12_amount_54 : i_at mX12_amount.2.2.2.2.2 54 = some (.iload 4, 2, 0, 0, 0, 0) := by decide +kernel
theorem aX12_amount_56 : i_at mX12_amount.2.2.2.2.2 56 = some (.ireturn, 1, 0, 0, 0, 0) := by decide +kernel
noncomputable def fX12_amount_J54 (sh : List kd) (p1 : Int32) (p2 : Int32) (s2 : St) (x54 : Int32) (s106 : St) : Option (Int32 × St) := some (x54, s106)
noncomputable def fX12_amount_J26 (sh : List kd) (p1 : Int32) (p2 : Int32) (s2 : St) (x54 : Int32) (s55 : St) : Option (Int32 × St) := if ¬ (s55.1 0 21) = 0 then fX12_amount_J54 sh p1 p2 s2 x54 s55 else i_bd (fX12_in sh s55 x54.toInt64 p1.toInt64 p2.toInt64) (fun r108 s109 => if ¬ r108 = 0 then fX12_amount_J54 sh p1 p2 s2 x54 s109 else i_bd (fX12_fails sh s109 1 (s2.1 0 20)) (fun r112 s113 => fX12_amount_J54 sh p1 p2 s2 x54 s113))
noncomputable def fX12_amount (sh : List kd) (σ : St) (p1 : Int32) (p2 : Int32) : Option (Int32 × St) := i_bd (fX12_blanks sh σ) (fun r1 s2 => if ¬ (s2.1 0 21) = 0 then fX12_amount_J26 sh p1 p2 s2 0 s2 else i_bd (fX12_digits sh s2 99999) (fun r116 s117 => fX12_amount_J26 sh p1 p2 s2 r116 s117))
set_option maxRecDepth 20000 in
set_option maxHeartbeats 2000000 in
theorem tX12_amount_J54 {sh : List kd} {τ : St} {r : Int32} (hsh : rmSh sh) {p1 : Int32} {p2 : Int32} {s2 : St} {x54 : Int32} {s106 : St} (hE : fX12_amount_J54 sh p1 p2 s2 x54 s106 = some (r, τ)) : g_R sh 3 mX12_amount (some (.int r)) τ 54 [.ref 0, .int p1, .int p2, .int (s2.1 0 20), .int x54] [] (s106) := by
  unfold fX12_amount_J54 at hE
  refine g_ldi aX12_amount_54 rfl ?_
  obtain ⟨rfl, rfl⟩ := i_some_inj hE
  exact g_iret aX12_amount_56 rfl rfl
set_option maxRecDepth 20000 in
set_option maxHeartbeats 2000000 in
theorem tX12_amount_J26 {sh : List kd} {τ : St} {r : Int32} (hsh : rmSh sh) {p1 : Int32} {p2 : Int32} {s2 : St} {x54 : Int32} {s55 : St} (hE : fX12_amount_J26 sh p1 p2 s2 x54 s55 = some (r, τ)) : g_R sh 3 mX12_amount (some (.int r)) τ 26 [.ref 0, .int p1, .int p2, .int (s2.1 0 20), .retAddr 0] [.int x54] (s55) := by
  unfold fX12_amount_J26 at hE
  refine g_sti (loc2 := [.ref 0, .int p1, .int p2, .int (s2.1 0 20), .int x54]) aX12_amount_26 (Nat.le_of_ble_eq_true rfl) rfl ?_
  refine g_ldan aX12_amount_28 rfl ?_
  refine g_getI aX12_amount_29 (sR_0 hsh) rfl ?_
  by_cases hc107 : ¬ (s55.1 0 21) = 0
  · rw [if_pos hc107] at hE
    refine g_if_ne_t aX12_amount_32 hc107 ?_
    exact tX12_amount_J54 hsh hE
  · rw [if_neg hc107] at hE
    refine g_if_ne_f aX12_amount_32 hc107 ?_
    refine g_ldi aX12_amount_35 rfl ?_
    refine g_i2l aX12_amount_37 ?_
    refine g_ldin aX12_amount_38 rfl ?_
    refine g_i2l aX12_amount_39 ?_
    refine g_ldin aX12_amount_40 rfl ?_
    refine g_i2l aX12_amount_41 ?_
    obtain ⟨r108, s109, h110, hE⟩ := i_bd_some hE
    refine g_calS (As := [.long x54.toInt64, .long p1.toInt64, .long p2.toInt64]) (rest := []) aX12_amount_42 (i_X_mono (by omega) (tX12_in hsh h110)) rfl rfl (Nat.le_of_ble_eq_true rfl) rfl ?_
    by_cases hc111 : ¬ r108 = 0
    · rw [if_pos hc111] at hE
      refine g_if_ne_t aX12_amount_45 hc111 ?_
      exact tX12_amount_J54 hsh hE
    · rw [if_neg hc111] at hE
      refine g_if_ne_f aX12_amount_45 hc111 ?_
      refine g_ldan aX12_amount_48 rfl ?_
      refine g_iconst (x := 1) aX12_amount_49 rfl ?_
      refine g_ldin aX12_amount_50 rfl ?_
      obtain ⟨r112, s113, h114, hE⟩ := i_bd_some hE
      refine g_calV (As := [.int 1, .int (s2.1 0 20)]) (rest := []) aX12_amount_51 (i_X_mono (by omega) (tX12_fails hsh h114)) (sR_0 hsh) (by decide +kernel) rfl rfl (Nat.le_of_ble_eq_true rfl) rfl ?_
      exact tX12_amount_J54 hsh hE
set_option maxRecDepth 20000 in
set_option maxHeartbeats 2000000 in
theorem tX12_amount {sh : List kd} {σ τ : St} {r : Int32} (hsh : rmSh sh) {p1 : Int32} {p2 : Int32} (hE : fX12_amount sh σ p1 p2 = some (r, τ)) : i_X 4 155 [.ref 0, .int p1, .int p2] (s_h sh σ) 0 0 (some (.int r)) (s_h sh τ) := by
  refine g_X (M := mX12_amount) (loc := [.ref 0, .int p1, .int p2, .retAddr 0, .retAddr 0]) rfl (Nat.le_of_ble_eq_true rfl) rfl ?_
  unfold fX12_amount at hE
  refine g_ldan aX12_amount_0 rfl ?_
  obtain ⟨r1, s2, h3, hE⟩ := i_bd_some hE
  refine g_calV (As := []) (rest := []) aX12_amount_1 (i_X_mono (by omega) (tX12_blanks hsh h3)) (sR_0 hsh) (by decide +kernel) rfl rfl (Nat.le_of_ble_eq_true rfl) rfl ?_
  refine g_ldan aX12_amount_4 rfl ?_
  refine g_getI aX12_amount_5 (sR_0 hsh) rfl ?_
  refine g_stin (loc2 := [.ref 0, .int p1, .int p2, .int (s2.1 0 20), .retAddr 0]) aX12_amount_8 (Nat.le_of_ble_eq_true rfl) rfl ?_
  refine g_ldan aX12_amount_9 rfl ?_
  refine g_getI aX12_amount_10 (sR_0 hsh) rfl ?_
  by_cases hc115 : ¬ (s2.1 0 21) = 0
  · rw [if_pos hc115] at hE
    refine g_if_ne_t aX12_amount_13 hc115 ?_
    refine g_iconst (x := 0) aX12_amount_25 rfl ?_
    exact tX12_amount_J26 hsh hE
  · rw [if_neg hc115] at hE
    refine g_if_ne_f aX12_amount_13 hc115 ?_
    refine g_ldan aX12_amount_16 rfl ?_
    refine g_ldcI (x := 99999) aX12_amount_17 rfl rfl ?_
    obtain ⟨r116, s117, h118, hE⟩ := i_bd_some hE
    refine g_calV (As := [.int 99999]) (rest := []) aX12_amount_19 (i_X_mono (by omega) (tX12_digits hsh h118)) (sR_0 hsh) (by decide +kernel) rfl rfl (Nat.le_of_ble_eq_true rfl) rfl ?_
    refine g_goto aX12_amount_22 ?_
    exact tX12_amount_J26 hsh hE
theorem aX12_courtWord_0 : i_at mX12_courtWord.2.2.2.2.2 0 = some (.iload_n 0, 1, 0, 0, 0, 0) := by decide +kernel
theorem aX12_courtWord_1 : i_at mX12_courtWord.2.2.2.2.2 1 = some (.tableswitch 46 0 3 #[31, 35, 38, 42], 31, 0, 0, 0, 0) := by decide +kernel
theorem aX12_courtWord_32 : i_at mX12_courtWord.2.2.2.2.2 32 = some (.ldc_w 261, 3, 1, 7, 0, 0) := by decide +kernel
theorem aX12_courtWord_35 : i_at mX12_courtWord.2.2.2.2.2 35 = some (.areturn, 1, 0, 0, 0, 0) := by decide +kernel
theorem aX12_courtWord_36 : i_at mX12_courtWord.2.2.2.2.2 36 = some (.ldc 142, 2, 1, 8, 0, 0) := by decide +kernel
theorem aX12_courtWord_38 : i_at mX12_courtWord.2.2.2.2.2 38 = some (.areturn, 1, 0, 0, 0, 0) := by decide +kernel
theorem aX12_courtWord_39 : i_at mX12_courtWord.2.2.2.2.2 39 = some (.ldc_w 263, 3, 1, 9, 0, 0) := by decide +kernel
theorem aX12_courtWord_42 : i_at mX12_courtWord.2.2.2.2.2 42 = some (.areturn, 1, 0, 0, 0, 0) := by decide +kernel
theorem aX12_courtWord_43 : i_at mX12_courtWord.2.2.2.2.2 43 = some (.ldc_w 265, 3, 1, 10, 0, 0) := by decide +kernel
theorem aX12_courtWord_46 : i_at mX12_courtWord.2.2.2.2.2 46 = some (.areturn, 1, 0, 0, 0, 0) := by decide +kernel
theorem aX12_courtWord_47 : i_at mX12_courtWord.2.2.2.2.2 47 = some (.ldc_w 267, 3, 1, 11, 0, 0) := by decide +kernel
theorem aX12_courtWord_50 : i_at mX12_courtWord.2.2.2.2.2 50 = some (.areturn, 1, 0, 0, 0, 0) := by decide +kernel
noncomputable def fX12_courtWord (sh : List kd) (σ : St) (p0 : Int32) : Option (Nat × St) := if p0 = 0 then some (7, σ) else if p0 = 1 then some (8, σ) else if p0 = 2 then some (9, σ) else if p0 = 3 then some (10, σ) else some (11, σ)
set_option maxRecDepth 20000 in
set_option maxHeartbeats 2000000 in
theorem tX12_courtWord {sh : List kd} {σ τ : St} {r : Nat} (hsh : rmSh sh) {p0 : Int32} (hE : fX12_courtWord sh σ p0 = some (r, τ)) : i_X 1 156 [.int p0] (s_h sh σ) 0 0 (some (.ref (i_SB + r))) (s_h sh τ) := by
  refine g_X (M := mX12_courtWord) (loc := [.int p0]) rfl (Nat.le_of_ble_eq_true rfl) rfl ?_
  unfold fX12_courtWord at hE
  refine g_ldin aX12_courtWord_0 rfl ?_
  by_cases hc1 : p0 = 0
  · rw [if_pos hc1] at hE
    refine g_tabIn (i := 0) aX12_courtWord_1 (by rw [hc1]; decide) (by decide) rfl rfl ?_
    refine g_ldcwS aX12_courtWord_32 rfl ?_
    obtain ⟨rfl, rfl⟩ := i_some_inj hE
    exact g_aret aX12_courtWord_35 rfl rfl
  · rw [if_neg hc1] at hE
    by_cases hc2 : p0 = 1
    · rw [if_pos hc2] at hE
      refine g_tabIn (i := 1) aX12_courtWord_1 (by rw [hc2]; decide) (by decide) rfl rfl ?_
      refine g_ldcS aX12_courtWord_36 rfl ?_
      obtain ⟨rfl, rfl⟩ := i_some_inj hE
      exact g_aret aX12_courtWord_38 rfl rfl
    · rw [if_neg hc2] at hE
      by_cases hc3 : p0 = 2
      · rw [if_pos hc3] at hE
        refine g_tabIn (i := 2) aX12_courtWord_1 (by rw [hc3]; decide) (by decide) rfl rfl ?_
        refine g_ldcwS aX12_courtWord_39 rfl ?_
        obtain ⟨rfl, rfl⟩ := i_some_inj hE
        exact g_aret aX12_courtWord_42 rfl rfl
      · rw [if_neg hc3] at hE
        by_cases hc4 : p0 = 3
        · rw [if_pos hc4] at hE
          refine g_tabIn (i := 3) aX12_courtWord_1 (by rw [hc4]; decide) (by decide) rfl rfl ?_
          refine g_ldcwS aX12_courtWord_43 rfl ?_
          obtain ⟨rfl, rfl⟩ := i_some_inj hE
          exact g_aret aX12_courtWord_46 rfl rfl
        · rw [if_neg hc4] at hE
          have hto5 : p0.toInt < ((0 : Nat) : Int) ∨ ((3 : Nat) : Int) < p0.toInt := by
            refine i_tabo (x := p0) 0 3 (by decide) (fun k k1 k2 => ?_)
            rcases (show k = 0 ∨ k = 1 ∨ k = 2 ∨ k = 3 by omega) with rfl | rfl | rfl | rfl
            · exact fun hz => hc1 hz
            · exact fun hz => hc2 hz
            · exact fun hz => hc3 hz
            · exact fun hz => hc4 hz
          refine g_tabOut aX12_courtWord_1 hto5 rfl ?_
          refine g_ldcwS aX12_courtWord_47 rfl ?_
          obtain ⟨rfl, rfl⟩ := i_some_inj hE
          exact g_aret aX12_courtWord_50 rfl rfl
theorem aX12_quarrelPart_0 : i_at mX12_quarrelPart.2.2.2.2.2 0 = some (.aload_n 0, 1, 0, 0, 0, 0) := by decide +kernel
theorem aX12_quarrelPart_1 : i_at mX12_quarrelPart.2.2.2.2.2 1 = some (.iconst 0, 1, 0, 0, 0, 0) := by decide +kernel
theorem aX12_quarrelPart_2 : i_at mX12_quarrelPart.2.2.2.2.2 2 = some (.aload_n 0, 1, 0, 0, 0, 0) := by decide +kernel
theorem aX12_quarrelPart_3 : i_at mX12_quarrelPart.2.2.2.2.2 3 = some (.getfield 46, 3, 11, 13, 1100, 0) := by decide +kernel
theorem aX12_quarrelPart_6 : i_at mX12_quarrelPart.2.2.2.2.2 6 = some (.iconst 2, 1, 0, 0, 0, 0) := by decide +kernel
theorem aX12_quarrelPart_7 : i_at mX12_quarrelPart.2.2.2.2.2 7 = some (.iaload, 1, 0, 0, 0, 0) := by decide +kernel
theorem aX12_quarrelPart_8 : i_at mX12_quarrelPart.2.2.2.2.2 8 = some (.iconst 1, 1, 0, 0, 0, 0) := by decide +kernel
theorem aX12_quarrelPart_9 : i_at mX12_quarrelPart.2.2.2.2.2 9 = some (.isub, 1, 0, 0, 0, 0) := by decide +kernel
theorem aX12_quarrelPart_10 : i_at mX12_quarrelPart.2.2.2.2.2 10 = some (.invokevirtual 269, 3, 155, 2, 1309, 0) := by decide +kernel
theorem aX12_quarrelPart_13 : i_at mX12_quarrelPart.2.2.2.2.2 13 = some (.istore_n 1, 1, 0, 0, 0, 0) := by decide +kernel
theorem aX12_quarrelPart_14 : i_at mX12_quarrelPart.2.2.2.2.2 14 = some (.aload_n 0, 1, 0, 0, 0, 0) := by decide +kernel
theorem aX12_quarrelPart_15 : i_at mX12_quarrelPart.2.2.2.2.2 15 = some (.invokevirtual 186, 3, 139, 0, 1275, 0) := by decide +kernel
theorem aX12_quarrelPart_18 : i_at mX12_quarrelPart.2.2.2.2.2 18 = some (.aload_n 0, 1, 0, 0, 0, 0) := by decide +kernel
theorem aX12_quarrelPart_19 : i_at mX12_quarrelPart.2.2.2.2.2 19 = some (.getfield 166, 3, 11, 20, 1107, 0) := by decide +kernel
theorem aX12_quarrelPart_22 : i_at mX12_quarrelPart.2.2.2.2.2 22 = some (.istore_n 2, 1, 0, 0, 0, 0) := by decide +kernel
theorem aX12_quarrelPart_23 : i_at mX12_quarrelPart.2.2.2.2.2 23 = some (.aload_n 0, 1, 0, 0, 0, 0) := by decide +kernel
theorem aX12_quarrelPart_24 : i_at mX12_quarrelPart.2.2.2.2.2 24 = some (.iconst 0, 1, 0, 0, 0, 0) := by decide +kernel
theorem aX12_quarrelPart_25 : i_at mX12_quarrelPart.2.2.2.2.2 25 = some (.aload_n 0, 1, 0, 0, 0, 0) := by decide +kernel
theorem aX12_quarrelPart_26 : i_at mX12_quarrelPart.2.2.2.2.2 26 = some (.getfield 46, 3, 11, 13, 1100, 0) := by decide +kernel
theorem aX12_quarrelPart_29 : i_at mX12_quarrelPart.2.2.2.2.2 29 = some (.iconst 2, 1, 0, 0, 0, 0) := by decide +kernel
theorem aX12_quarrelPart_30 : i_at mX12_quarrelPart.2.2.2.2.2 30 = some (.iaload, 1, 0, 0, 0, 0) := by decide +kernel
theorem aX12_quarrelPart_31 : i_at mX12_quarrelPart.2.2.2.2.2 31 = some (.iconst 1, 1, 0, 0, 0, 0) := by decide +kernel
theorem aX12_quarrelPart_32 : i_at mX12_quarrelPart.2.2.2.2.2 32 = some (.isub, 1, 0, 0, 0, 0) := by decide +kernel
theorem aX12_quarrelPart_33 : i_at mX12_quarrelPart.2.2.2.2.2 33 = some (.invokevirtual 269, 3, 155, 2, 1309, 0) := by decide +kernel
theorem aX12_quarrelPart_36 : i_at mX12_quarrelPart.2.2.2.2.2 36 = some (.istore_n 3, 1, 0, 0, 0, 0) := by decide +kernel
theorem aX12_quarrelPart_37 : i_at mX12_quarrelPart.2.2.2.2.2 37 = some (.aload_n 0, 1, 0, 0, 0, 0) := by decide +kernel
theorem aX12_quarrelPart_38 : i_at mX12_quarrelPart.2.2.2.2.2 38 = some (.getfield 163, 3, 11, 21, 1108, 0) := by decide +kernel
theorem aX12_quarrelPart_41 : i_at mX12_quarrelPart.2.2.2.2.2 41 = some (.ifCond .ne 14, 3, 55, 0, 0, 0) := by decide +kernel
theorem aX12_quarrelPart_44 : i_at mX12_quarrelPart.2.2.2.2.2 44 = some (.iload_n 1, 1, 0, 0, 0, 0) := by decide +kernel
theorem aX12_quarrelPart_45 : i_at mX12_quarrelPart.2.2.2.2.2 45 = some (.iload_n 3, 1, 0, 0, 0, 0) := by decide +kernel
theorem aX12_quarrelPart_46 : i_at mX12_quarrelPart.2.2.2.2.2 46 = some (.if_icmp .ne 9, 3, 55, 0, 0, 0) := by decide +kernel
theorem aX12_quarrelPart_49 : i_at mX12_quarrelPart.2.2.2.2.2 49 = some (.aload_n 0, 1, 0, 0, 0, 0) := by decide +kernel
theorem aX12_quarrelPart_50 : i_at mX12_quarrelPart.2.2.2.2.2 50 = some (.iconst 1, 1, 0, 0, 0, 0) := by decide +kernel
theorem aX12_quarrelPart_51 : i_at mX12_quarrelPart.2.2.2.2.2 51 = some (.iload_n 2, 1, 0, 0, 0, 0) := by decide +kernel
theorem aX12_quarrelPart_52 : i_at mX12_quarrelPart.2.2.2.2.2 52 = some (.invokevirtual 202, 3, 137, 2, 1297, 0) := by decide +kernel
theorem aX12_quarrelPart_55 : i_at mX12_quarrelPart.2.2.2.2.2 55 = some (.aload_n 0, 1, 0, 0, 0, 0) := by decide +kernel
theorem aX12_quarrelPart_56 : i_at mX12_quarrelPart.2.2.2.2.2 56 = some (.getfield 163, 3, 11, 21, 1108, 0) := by decide +kernel
theorem aX12_quarrelPart_59 : i_at mX12_quarrelPart.2.2.2.2.2 59 = some (.ifCond .ne 27, 3, 86, 0, 0, 0) := by decide +kernel
theorem aX12_quarrelPart_62 : i_at mX12_quarrelPart.2.2.2.2.2 62 = some (.aload_n 0, 1, 0, 0, 0, 0) := by decide +kernel
theorem aX12_quarrelPart_63 : i_at mX12_quarrelPart.2.2.2.2.2 63 = some (.getfield 52, 3, 11, 15, 1102, 0) := by decide +kernel
theorem aX12_quarrelPart_66 : i_at mX12_quarrelPart.2.2.2.2.2 66 = some (.iload_n 1, 1, 0, 0, 0, 0) := by decide +kernel
theorem aX12_quarrelPart_67 : i_at mX12_quarrelPart.2.2.2.2.2 67 = some (.dup2, 1, 0, 0, 0, 0) := by decide +kernel
theorem aX12_quarrelPart_68 : i_at mX12_quarrelPart.2.2.2.2.2 68 = some (.iaload, 1, 0, 0, 0, 0) := by decide +kernel
theorem aX12_quarrelPart_69 : i_at mX12_quarrelPart.2.2.2.2.2 69 = some (.iconst 1, 1, 0, 0, 0, 0) := by decide +kernel
theorem aX12_quarrelPart_70 : i_at mX12_quarrelPart.2.2.2.2.2 70 = some (.iload_n 3, 1, 0, 0, 0, 0) := by decide +kernel
theorem aX12_quarrelPart_71 : i_at mX12_quarrelPart.2.2.2.2.2 71 = some (.ishl, 1, 0, 0, 0, 0) := by decide +kernel
theorem aX12_quarrelPart_72 : i_at mX12_quarrelPart.2.2.2.2.2 72 = some (.ior, 1, 0, 0, 0, 0) := by decide +kernel
theorem aX12_quarrelPart_73 : i_at mX12_quarrelPart.2.2.2.2.2 73 = some (.iastore, 1, 0, 0, 0, 0) := by decide +kernel
theorem aX12_quarrelPart_74 : i_at mX12_quarrelPart.2.2.2.2.2 74 = some (.aload_n 0, 1, 0, 0, 0, 0) := by decide +kernel
theorem aX12_quarrelPart_75 : i_at mX12_quarrelPart.2.2.2.2.2 75 = some (.getfield 52, 3, 11, 15, 1102, 0) := by decide +kernel
theorem aX12_quarrelPart_78 : i_at mX12_quarrelPart.2.2.2.2.2 78 = some (.iload_n 3, 1, 0, 0, 0, 0) := by decide +kernel
theorem aX12_quarrelPart_79 : i_at mX12_quarrelPart.2.2.2.2.2 79 = some (.dup2, 1, 0, 0, 0, 0) := by decide +kernel
theorem aX12_quarrelPart_80 : i_at mX12_quarrelPart.2.2.2.2.2 80 = some (.iaload, 1, 0, 0, 0, 0) := by decide +kernel
theorem aX12_quarrelPart_81 : i_at mX12_quarrelPart.2.2.2.2.2 81 = some (.iconst 1, 1, 0, 0, 0, 0) := by decide +kernel
theorem aX12_quarrelPart_82 : i_at mX12_quarrelPart.2.2.2.2.2 82 = some (.iload_n 1, 1, 0, 0, 0, 0) := by decide +kernel
theorem aX12_quarrelPart_83 : i_at mX12_quarrelPart.2.2.2.2.2 83 = some (.ishl, 1, 0, 0, 0, 0) := by decide +kernel
theorem aX12_quarrelPart_84 : i_at mX12_quarrelPart.2.2.2.2.2 84 = some (.ior, 1, 0, 0, 0, 0) := by decide +kernel
theorem aX12_quarrelPart_85 : i_at mX12_quarrelPart.2.2.2.2.2 85 = some (.iastore, 1, 0, 0, 0, 0) := by decide +kernel
theorem aX12_quarrelPart_86 : i_at mX12_quarrelPart.2.2.2.2.2 86 = some (.return_, 1, 0, 0, 0, 0) := by decide +kernel
noncomputable def fX12_quarrelPart_J86 (sh : List kd) (r2 : Int32) (s6 : St) (r9 : Int32) (s113 : St) : Option (Unit × St) := some ((), s113)
noncomputable def fX12_quarrelPart_J55 (sh : List kd) (r2 : Int32) (s6 : St) (r9 : Int32) (s62 : St) : Option (Unit × St) := if ¬ (s62.1 0 21) = 0 then fX12_quarrelPart_J86 sh r2 s6 r9 s62 else if i_ok r2 6 then if i_ok r2 6 then if i_ok r9 6 then if i_ok r9 6 then i_jp (s_A (s_A s62 15 r2.toNatClampNeg ((s62.2.1 15 r2.toNatClampNeg) ||| (1 <<< (r9 &&& 31)))) 15 r9.toNatClampNeg (((s_A s62 15 r2.toNatClampNeg ((s62.2.1 15 r2.toNatClampNeg) ||| (1 <<< (r9 &&& 31)))).2.1 15 r9.toNatClampNeg) ||| (1 <<< (r2 &&& 31)))) (fun (s119 : St) => fX12_quarrelPart_J86 sh r2 s6 r9 s119) else none else none else none else none
noncomputable def fX12_quarrelPart (sh : List kd) (σ : St) : Option (Unit × St) := if i_ok 2 4 then i_bd (fX12_amount sh σ 0 ((σ.2.1 13 (2 : Int32).toNatClampNeg) - 1)) (fun r2 s3 => i_bd (fX12_blanks sh s3) (fun r5 s6 => if i_ok 2 4 then i_bd (fX12_amount sh s6 0 ((s6.2.1 13 (2 : Int32).toNatClampNeg) - 1)) (fun r9 s10 => if ¬ (s10.1 0 21) = 0 then fX12_quarrelPart_J55 sh r2 s6 r9 s10 else if ¬ r2 = r9 then fX12_quarrelPart_J55 sh r2 s6 r9 s10 else i_bd (fX12_fails sh s10 1 (s6.1 0 20)) (fun r123 s124 => fX12_quarrelPart_J55 sh r2 s6 r9 s124)) else none)) else none
set_option maxRecDepth 20000 in
set_option maxHeartbeats 2000000 in
theorem tX12_quarrelPart_J86 {sh : List kd} {τ : St} {r : Unit} (hsh : rmSh sh) {r2 : Int32} {s6 : St} {r9 : Int32} {s113 : St} (hE : fX12_quarrelPart_J86 sh r2 s6 r9 s113 = some (r, τ)) : g_R sh 4 mX12_quarrelPart none τ 86 [.ref 0, .int r2, .int (s6.1 0 20), .int r9] [] (s113) := by
  unfold fX12_quarrelPart_J86 at hE
  obtain ⟨rfl, rfl⟩ := i_some_inj hE
  exact g_vret aX12_quarrelPart_86 rfl
set_option maxRecDepth 20000 in
set_option maxHeartbeats 2000000 in
theorem tX12_quarrelPart_J55 {sh : List kd} {τ : St} {r : Unit} (hsh : rmSh sh) {r2 : Int32} {s6 : St} {r9 : Int32} {s62 : St} (hE : fX12_quarrelPart_J55 sh r2 s6 r9 s62 = some (r, τ)) : g_R sh 4 mX12_quarrelPart none τ 55 [.ref 0, .int r2, .int (s6.1 0 20), .int r9] [] (s62) := by
  unfold fX12_quarrelPart_J55 at hE
  refine g_ldan aX12_quarrelPart_55 rfl ?_
  refine g_getI aX12_quarrelPart_56 (sR_0 hsh) rfl ?_
  by_cases hc114 : ¬ (s62.1 0 21) = 0
  · rw [if_pos hc114] at hE
    refine g_if_ne_t aX12_quarrelPart_59 hc114 ?_
    exact tX12_quarrelPart_J86 hsh hE
  · rw [if_neg hc114] at hE
    refine g_if_ne_f aX12_quarrelPart_59 hc114 ?_
    refine g_ldan aX12_quarrelPart_62 rfl ?_
    refine g_getR aX12_quarrelPart_63 (sR_0 hsh) rfl ?_
    refine g_ldin aX12_quarrelPart_66 rfl ?_
    refine g_dup2 aX12_quarrelPart_67 ?_
    obtain ⟨h115, hE⟩ := i_ifn hE
    refine g_ild aX12_quarrelPart_68 (sR_15 hsh) h115 ?_
    refine g_iconst (x := 1) aX12_quarrelPart_69 rfl ?_
    refine g_ldin aX12_quarrelPart_70 rfl ?_
    refine g_ishl aX12_quarrelPart_71 ?_
    refine g_ior aX12_quarrelPart_72 ?_
    obtain ⟨h116, hE⟩ := i_ifn hE
    refine g_ist aX12_quarrelPart_73 (sR_15 hsh) h116 ?_
    refine g_ldan aX12_quarrelPart_74 rfl ?_
    refine g_getR aX12_quarrelPart_75 (sR_0 hsh) rfl ?_
    refine g_ldin aX12_quarrelPart_78 rfl ?_
    refine g_dup2 aX12_quarrelPart_79 ?_
    obtain ⟨h117, hE⟩ := i_ifn hE
    refine g_ild aX12_quarrelPart_80 (sR_15 hsh) h117 ?_
    refine g_iconst (x := 1) aX12_quarrelPart_81 rfl ?_
    refine g_ldin aX12_quarrelPart_82 rfl ?_
    refine g_ishl aX12_quarrelPart_83 ?_
    refine g_ior aX12_quarrelPart_84 ?_
    obtain ⟨h118, hE⟩ := i_ifn hE
    refine g_ist aX12_quarrelPart_85 (sR_15 hsh) h118 ?_
    obtain ⟨s119, h120, hE⟩ := i_jp_some hE
    rw [← h120]
    exact tX12_quarrelPart_J86 hsh hE
set_option maxRecDepth 20000 in
set_option maxHeartbeats 2000000 in
theorem tX12_quarrelPart {sh : List kd} {σ τ : St} {r : Unit} (hsh : rmSh sh) (hE : fX12_quarrelPart sh σ = some (r, τ)) : i_X 5 157 [.ref 0] (s_h sh σ) 0 0 none (s_h sh τ) := by
  refine g_X (M := mX12_quarrelPart) (loc := [.ref 0, .retAddr 0, .retAddr 0, .retAddr 0]) rfl (Nat.le_of_ble_eq_true rfl) rfl ?_
  unfold fX12_quarrelPart at hE
  refine g_ldan aX12_quarrelPart_0 rfl ?_
  refine g_iconst (x := 0) aX12_quarrelPart_1 rfl ?_
  refine g_ldan aX12_quarrelPart_2 rfl ?_
  refine g_getR aX12_quarrelPart_3 (sR_0 hsh) rfl ?_
  refine g_iconst (x := 2) aX12_quarrelPart_6 rfl ?_
  obtain ⟨h1, hE⟩ := i_ifn hE
  refine g_ild aX12_quarrelPart_7 (sR_13 hsh) h1 ?_
  refine g_iconst (x := 1) aX12_quarrelPart_8 rfl ?_
  refine g_isub aX12_quarrelPart_9 ?_
  obtain ⟨r2, s3, h4, hE⟩ := i_bd_some hE
  refine g_calV (As := [.int 0, .int ((σ.2.1 13 (2 : Int32).toNatClampNeg) - 1)]) (rest := []) aX12_quarrelPart_10 (i_X_mono (by omega) (tX12_amount hsh h4)) (sR_0 hsh) (by decide +kernel) rfl rfl (Nat.le_of_ble_eq_true rfl) rfl ?_
  refine g_stin (loc2 := [.ref 0, .int r2, .retAddr 0, .retAddr 0]) aX12_quarrelPart_13 (Nat.le_of_ble_eq_true rfl) rfl ?_
  refine g_ldan aX12_quarrelPart_14 rfl ?_
  obtain ⟨r5, s6, h7, hE⟩ := i_bd_some hE
  refine g_calV (As := []) (rest := []) aX12_quarrelPart_15 (i_X_mono (by omega) (tX12_blanks hsh h7)) (sR_0 hsh) (by decide +kernel) rfl rfl (Nat.le_of_ble_eq_true rfl) rfl ?_
  refine g_ldan aX12_quarrelPart_18 rfl ?_
  refine g_getI aX12_quarrelPart_19 (sR_0 hsh) rfl ?_
  refine g_stin (loc2 := [.ref 0, .int r2, .int (s6.1 0 20), .retAddr 0]) aX12_quarrelPart_22 (Nat.le_of_ble_eq_true rfl) rfl ?_
  refine g_ldan aX12_quarrelPart_23 rfl ?_
  refine g_iconst (x := 0) aX12_quarrelPart_24 rfl ?_
  refine g_ldan aX12_quarrelPart_25 rfl ?_
  refine g_getR aX12_quarrelPart_26 (sR_0 hsh) rfl ?_
  refine g_iconst (x := 2) aX12_quarrelPart_29 rfl ?_
  obtain ⟨h8, hE⟩ := i_ifn hE
  refine g_ild aX12_quarrelPart_30 (sR_13 hsh) h8 ?_
  refine g_iconst (x := 1) aX12_quarrelPart_31 rfl ?_
  refine g_isub aX12_quarrelPart_32 ?_
  obtain ⟨r9, s10, h11, hE⟩ := i_bd_some hE
  refine g_calV (As := [.int 0, .int ((s6.2.1 13 (2 : Int32).toNatClampNeg) - 1)]) (rest := []) aX12_quarrelPart_33 (i_X_mono (by omega) (tX12_amount hsh h11)) (sR_0 hsh) (by decide +kernel) rfl rfl (Nat.le_of_ble_eq_true rfl) rfl ?_
  refine g_stin (loc2 := [.ref 0, .int r2, .int (s6.1 0 20), .int r9]) aX12_quarrelPart_36 (Nat.le_of_ble_eq_true rfl) rfl ?_
  refine g_ldan aX12_quarrelPart_37 rfl ?_
  refine g_getI aX12_quarrelPart_38 (sR_0 hsh) rfl ?_
  by_cases hc121 : ¬ (s10.1 0 21) = 0
  · rw [if_pos hc121] at hE
    refine g_if_ne_t aX12_quarrelPart_41 hc121 ?_
    exact tX12_quarrelPart_J55 hsh hE
  · rw [if_neg hc121] at hE
    refine g_if_ne_f aX12_quarrelPart_41 hc121 ?_
    refine g_ldin aX12_quarrelPart_44 rfl ?_
    refine g_ldin aX12_quarrelPart_45 rfl ?_
    by_cases hc122 : ¬ r2 = r9
    · rw [if_pos hc122] at hE
      refine g_ic_ne_t aX12_quarrelPart_46 hc122 ?_
      exact tX12_quarrelPart_J55 hsh hE
    · rw [if_neg hc122] at hE
      refine g_ic_ne_f aX12_quarrelPart_46 hc122 ?_
      refine g_ldan aX12_quarrelPart_49 rfl ?_
      refine g_iconst (x := 1) aX12_quarrelPart_50 rfl ?_
      refine g_ldin aX12_quarrelPart_51 rfl ?_
      obtain ⟨r123, s124, h125, hE⟩ := i_bd_some hE
      refine g_calV (As := [.int 1, .int (s6.1 0 20)]) (rest := []) aX12_quarrelPart_52 (i_X_mono (by omega) (tX12_fails hsh h125)) (sR_0 hsh) (by decide +kernel) rfl rfl (Nat.le_of_ble_eq_true rfl) rfl ?_
      exact tX12_quarrelPart_J55 hsh hE
theorem aX12_courtPart_0 : i_at mX12_courtPart.2.2.2.2.2 0 = some (.iload_n 1, 1, 0, 0, 0, 0) := by decide +kernel
theorem aX12_courtPart_1 : i_at mX12_courtPart.2.2.2.2.2 1 = some (.tableswitch 182 0 3 #[31, 60, 91, 136], 31, 0, 0, 0, 0) := by decide +kernel
theorem aX12_courtPart_32 : i_at mX12_courtPart.2.2.2.2.2 32 = some (.aload_n 0, 1, 0, 0, 0, 0) := by decide +kernel
theorem aX12_courtPart_33 : i_at mX12_courtPart.2.2.2.2.2 33 = some (.getfield 46, 3, 11, 13, 1100, 0) := by decide +kernel
theorem aX12_courtPart_36 : i_at mX12_courtPart.2.2.2.2.2 36 = some (.iconst 0, 1, 0, 0, 0, 0) := by decide +kernel
theorem aX12_courtPart_37 : i_at mX12_courtPart.2.2.2.2.2 37 = some (.aload_n 0, 1, 0, 0, 0, 0) := by decide +kernel
theorem aX12_courtPart_38 : i_at mX12_courtPart.2.2.2.2.2 38 = some (.iconst 1, 1, 0, 0, 0, 0) := by decide +kernel
theorem aX12_courtPart_39 : i_at mX12_courtPart.2.2.2.2.2 39 = some (.bipush 12, 2, 0, 0, 0, 0) := by decide +kernel
theorem aX12_courtPart_41 : i_at mX12_courtPart.2.2.2.2.2 41 = some (.invokevirtual 269, 3, 155, 2, 1309, 0) := by decide +kernel
theorem aX12_courtPart_44 : i_at mX12_courtPart.2.2.2.2.2 44 = some (.iastore, 1, 0, 0, 0, 0) := by decide +kernel
theorem aX12_courtPart_45 : i_at mX12_courtPart.2.2.2.2.2 45 = some (.aload_n 0, 1, 0, 0, 0, 0) := by decide +kernel
theorem aX12_courtPart_46 : i_at mX12_courtPart.2.2.2.2.2 46 = some (.getfield 46, 3, 11, 13, 1100, 0) := by decide +kernel
theorem aX12_courtPart_49 : i_at mX12_courtPart.2.2.2.2.2 49 = some (.iconst 1, 1, 0, 0, 0, 0) := by decide +kernel
theorem aX12_courtPart_50 : i_at mX12_courtPart.2.2.2.2.2 50 = some (.aload_n 0, 1, 0, 0, 0, 0) := by decide +kernel
theorem aX12_courtPart_51 : i_at mX12_courtPart.2.2.2.2.2 51 = some (.iconst 1, 1, 0, 0, 0, 0) := by decide +kernel
theorem aX12_courtPart_52 : i_at mX12_courtPart.2.2.2.2.2 52 = some (.bipush 99, 2, 0, 0, 0, 0) := by decide +kernel
theorem aX12_courtPart_54 : i_at mX12_courtPart.2.2.2.2.2 54 = some (.invokevirtual 269, 3, 155, 2, 1309, 0) := by decide +kernel
theorem aX12_courtPart_57 : i_at mX12_courtPart.2.2.2.2.2 57 = some (.iastore, 1, 0, 0, 0, 0) := by decide +kernel
theorem aX12_courtPart_58 : i_at mX12_courtPart.2.2.2.2.2 58 = some (.goto 129, 3, 187, 0, 0, 0) := by decide +kernel
theorem aX12_courtPart_61 : i_at mX12_courtPart.2.2.2.2.2 61 = some (.aload_n 0, 1, 0, 0, 0, 0) := by decide +kernel
theorem aX12_courtPart_62 : i_at mX12_courtPart.2.2.2.2.2 62 = some (.getfield 49, 3, 11, 14, 1101, 0) := by decide +kernel
theorem aX12_courtPart_65 : i_at mX12_courtPart.2.2.2.2.2 65 = some (.aload_n 0, 1, 0, 0, 0, 0) := by decide +kernel
theorem aX12_courtPart_66 : i_at mX12_courtPart.2.2.2.2.2 66 = some (.getfield 46, 3, 11, 13, 1100, 0) := by decide +kernel
theorem aX12_courtPart_69 : i_at mX12_courtPart.2.2.2.2.2 69 = some (.iconst 2, 1, 0, 0, 0, 0) := by decide +kernel
theorem aX12_courtPart_70 : i_at mX12_courtPart.2.2.2.2.2 70 = some (.iaload, 1, 0, 0, 0, 0) := by decide +kernel
theorem aX12_courtPart_71 : i_at mX12_courtPart.2.2.2.2.2 71 = some (.aload_n 0, 1, 0, 0, 0, 0) := by decide +kernel
theorem aX12_courtPart_72 : i_at mX12_courtPart.2.2.2.2.2 72 = some (.iconst 0, 1, 0, 0, 0, 0) := by decide +kernel
theorem aX12_courtPart_73 : i_at mX12_courtPart.2.2.2.2.2 73 = some (.bipush 20, 2, 0, 0, 0, 0) := by decide +kernel
theorem aX12_courtPart_75 : i_at mX12_courtPart.2.2.2.2.2 75 = some (.invokevirtual 269, 3, 155, 2, 1309, 0) := by decide +kernel
theorem aX12_courtPart_78 : i_at mX12_courtPart.2.2.2.2.2 78 = some (.iastore, 1, 0, 0, 0, 0) := by decide +kernel
theorem aX12_courtPart_79 : i_at mX12_courtPart.2.2.2.2.2 79 = some (.aload_n 0, 1, 0, 0, 0, 0) := by decide +kernel
theorem aX12_courtPart_80 : i_at mX12_courtPart.2.2.2.2.2 80 = some (.getfield 46, 3, 11, 13, 1100, 0) := by decide +kernel
theorem aX12_courtPart_83 : i_at mX12_courtPart.2.2.2.2.2 83 = some (.iconst 2, 1, 0, 0, 0, 0) := by decide +kernel
theorem aX12_courtPart_84 : i_at mX12_courtPart.2.2.2.2.2 84 = some (.dup2, 1, 0, 0, 0, 0) := by decide +kernel
theorem aX12_courtPart_85 : i_at mX12_courtPart.2.2.2.2.2 85 = some (.iaload, 1, 0, 0, 0, 0) := by decide +kernel
theorem aX12_courtPart_86 : i_at mX12_courtPart.2.2.2.2.2 86 = some (.iconst 1, 1, 0, 0, 0, 0) := by decide +kernel
theorem aX12_courtPart_87 : i_at mX12_courtPart.2.2.2.2.2 87 = some (.iadd, 1, 0, 0, 0, 0) := by decide +kernel
theorem aX12_courtPart_88 : i_at mX12_courtPart.2.2.2.2.2 88 = some (.iastore, 1, 0, 0, 0, 0) := by decide +kernel
theorem aX12_courtPart_89 : i_at mX12_courtPart.2.2.2.2.2 89 = some (.goto 98, 3, 187, 0, 0, 0) := by decide +kernel
theorem aX12_courtPart_92 : i_at mX12_courtPart.2.2.2.2.2 92 = some (.aload_n 0, 1, 0, 0, 0, 0) := by decide +kernel
theorem aX12_courtPart_93 : i_at mX12_courtPart.2.2.2.2.2 93 = some (.iconst 0, 1, 0, 0, 0, 0) := by decide +kernel
theorem aX12_courtPart_94 : i_at mX12_courtPart.2.2.2.2.2 94 = some (.aload_n 0, 1, 0, 0, 0, 0) := by decide +kernel
theorem aX12_courtPart_95 : i_at mX12_courtPart.2.2.2.2.2 95 = some (.getfield 46, 3, 11, 13, 1100, 0) := by decide +kernel
theorem aX12_courtPart_98 : i_at mX12_courtPart.2.2.2.2.2 98 = some (.iconst 0, 1, 0, 0, 0, 0) := by decide +kernel
theorem aX12_courtPart_99 : i_at mX12_courtPart.2.2.2.2.2 99 = some (.iaload, 1, 0, 0, 0, 0) := by decide +kernel
theorem aX12_courtPart_100 : i_at mX12_courtPart.2.2.2.2.2 100 = some (.iconst 1, 1, 0, 0, 0, 0) := by decide +kernel
theorem aX12_courtPart_101 : i_at mX12_courtPart.2.2.2.2.2 101 = some (.isub, 1, 0, 0, 0, 0) := by decide +kernel
theorem aX12_courtPart_102 : i_at mX12_courtPart.2.2.2.2.2 102 = some (.invokevirtual 269, 3, 155, 2, 1309, 0) := by decide +kernel
theorem aX12_courtPart_105 : i_at mX12_courtPart.2.2.2.2.2 105 = some (.istore_n 2, 1, 0, 0, 0, 0) := by decide +kernel
theorem aX12_courtPart_106 : i_at mX12_courtPart.2.2.2.2.2 106 = some (.aload_n 0, 1, 0, 0, 0, 0) := by decide +kernel
theorem aX12_courtPart_107 : i_at mX12_courtPart.2.2.2.2.2 107 = some (.iconst 0, 1, 0, 0, 0, 0) := by decide +kernel
theorem aX12_courtPart_108 : i_at mX12_courtPart.2.2.2.2.2 108 = some (.aload_n 0, 1, 0, 0, 0, 0) := by decide +kernel
theorem aX12_courtPart_109 : i_at mX12_courtPart.2.2.2.2.2 109 = some (.getfield 46, 3, 11, 13, 1100, 0) := by decide +kernel
theorem aX12_courtPart_112 : i_at mX12_courtPart.2.2.2.2.2 112 = some (.iconst 2, 1, 0, 0, 0, 0) := by decide +kernel
theorem aX12_courtPart_113 : i_at mX12_courtPart.2.2.2.2.2 113 = some (.iaload, 1, 0, 0, 0, 0) := by decide +kernel
theorem aX12_courtPart_114 : i_at mX12_courtPart.2.2.2.2.2 114 = some (.iconst 1, 1, 0, 0, 0, 0) := by decide +kernel
theorem aX12_courtPart_115 : i_at mX12_courtPart.2.2.2.2.2 115 = some (.isub, 1, 0, 0, 0, 0) := by decide +kernel
theorem aX12_courtPart_116 : i_at mX12_courtPart.2.2.2.2.2 116 = some (.invokevirtual 269, 3, 155, 2, 1309, 0) := by decide +kernel
theorem aX12_courtPart_119 : i_at mX12_courtPart.2.2.2.2.2 119 = some (.istore_n 3, 1, 0, 0, 0, 0) := by decide +kernel
theorem aX12_courtPart_120 : i_at mX12_courtPart.2.2.2.2.2 120 = some (.aload_n 0, 1, 0, 0, 0, 0) := by decide +kernel
theorem aX12_courtPart_121 : i_at mX12_courtPart.2.2.2.2.2 121 = some (.getfield 163, 3, 11, 21, 1108, 0) := by decide +kernel
theorem aX12_courtPart_124 : i_at mX12_courtPart.2.2.2.2.2 124 = some (.ifCond .ne 63, 3, 187, 0, 0, 0) := by decide +kernel
theorem aX12_courtPart_127 : i_at mX12_courtPart.2.2.2.2.2 127 = some (.aload_n 0, 1, 0, 0, 0, 0) := by decide +kernel
theorem aX12_courtPart_128 : i_at mX12_courtPart.2.2.2.2.2 128 = some (.getfield 55, 3, 11, 16, 1103, 0) := by decide +kernel
theorem aX12_courtPart_131 : i_at mX12_courtPart.2.2.2.2.2 131 = some (.iload_n 2, 1, 0, 0, 0, 0) := by decide +kernel
theorem aX12_courtPart_132 : i_at mX12_courtPart.2.2.2.2.2 132 = some (.iload_n 3, 1, 0, 0, 0, 0) := by decide +kernel
theorem aX12_courtPart_133 : i_at mX12_courtPart.2.2.2.2.2 133 = some (.iastore, 1, 0, 0, 0, 0) := by decide +kernel
theorem aX12_courtPart_134 : i_at mX12_courtPart.2.2.2.2.2 134 = some (.goto 53, 3, 187, 0, 0, 0) := by decide +kernel
theorem aX12_courtPart_137 : i_at mX12_courtPart.2.2.2.2.2 137 = some (.aload_n 0, 1, 0, 0, 0, 0) := by decide +kernel
theorem aX12_courtPart_138 : i_at mX12_courtPart.2.2.2.2.2 138 = some (.getfield 46, 3, 11, 13, 1100, 0) := by decide +kernel
theorem aX12_courtPart_141 : i_at mX12_courtPart.2.2.2.2.2 141 = some (.iconst 3, 1, 0, 0, 0, 0) := by decide +kernel
theorem aX12_courtPart_142 : i_at mX12_courtPart.2.2.2.2.2 142 = some (.iaload, 1, 0, 0, 0, 0) := by decide +kernel
theorem aX12_courtPart_143 : i_at mX12_courtPart.2.2.2.2.2 143 = some (.istore_n 2, 1, 0, 0, 0, 0) := by decide +kernel
theorem aX12_courtPart_144 : i_at mX12_courtPart.2.2.2.2.2 144 = some (.aload_n 0, 1, 0, 0, 0, 0) := by decide +kernel
theorem aX12_courtPart_145 : i_at mX12_courtPart.2.2.2.2.2 145 = some (.getfield 58, 3, 11, 17, 1104, 0) := by decide +kernel
theorem aX12_courtPart_148 : i_at mX12_courtPart.2.2.2.2.2 148 = some (.iload_n 2, 1, 0, 0, 0, 0) := by decide +kernel
theorem aX12_courtPart_149 : i_at mX12_courtPart.2.2.2.2.2 149 = some (.aload_n 0, 1, 0, 0, 0, 0) := by decide +kernel
theorem aX12_courtPart_150 : i_at mX12_courtPart.2.2.2.2.2 150 = some (.iconst 0, 1, 0, 0, 0, 0) := by decide +kernel
theorem aX12_courtPart_151 : i_at mX12_courtPart.2.2.2.2.2 151 = some (.bipush 99, 2, 0, 0, 0, 0) := by decide +kernel
theorem aX12_courtPart_153 : i_at mX12_courtPart.2.2.2.2.2 153 = some (.invokevirtual 269, 3, 155, 2, 1309, 0) := by decide +kernel
theorem aX12_courtPart_156 : i_at mX12_courtPart.2.2.2.2.2 156 = some (.iastore, 1, 0, 0, 0, 0) := by decide +kernel
theorem aX12_courtPart_157 : i_at mX12_courtPart.2.2.2.2.2 157 = some (.aload_n 0, 1, 0, 0, 0, 0) := by decide +kernel
theorem aX12_courtPart_158 : i_at mX12_courtPart.2.2.2.2.2 158 = some (.getfield 61, 3, 11, 18, 1105, 0) := by decide +kernel
theorem aX12_courtPart_161 : i_at mX12_courtPart.2.2.2.2.2 161 = some (.iload_n 2, 1, 0, 0, 0, 0) := by decide +kernel
theorem aX12_courtPart_162 : i_at mX12_courtPart.2.2.2.2.2 162 = some (.aload_n 0, 1, 0, 0, 0, 0) := by decide +kernel
theorem aX12_courtPart_163 : i_at mX12_courtPart.2.2.2.2.2 163 = some (.iconst 0, 1, 0, 0, 0, 0) := by decide +kernel
theorem aX12_courtPart_164 : i_at mX12_courtPart.2.2.2.2.2 164 = some (.bipush 9, 2, 0, 0, 0, 0) := by decide +kernel
theorem aX12_courtPart_166 : i_at mX12_courtPart.2.2.2.2.2 166 = some (.invokevirtual 269, 3, 155, 2, 1309, 0) := by decide +kernel
theorem aX12_courtPart_169 : i_at mX12_courtPart.2.2.2.2.2 169 = some (.iastore, 1, 0, 0, 0, 0) := by decide +kernel
theorem aX12_courtPart_170 : i_at mX12_courtPart.2.2.2.2.2 170 = some (.aload_n 0, 1, 0, 0, 0, 0) := by decide +kernel
theorem aX12_courtPart_171 : i_at mX12_courtPart.2.2.2.2.2 171 = some (.getfield 46, 3, 11, 13, 1100, 0) := by decide +kernel
theorem aX12_courtPart_174 : i_at mX12_courtPart.2.2.2.2.2 174 = some (.iconst 3, 1, 0, 0, 0, 0) := by decide +kernel
theorem aX12_courtPart_175 : i_at mX12_courtPart.2.2.2.2.2 175 = some (.dup2, 1, 0, 0, 0, 0) := by decide +kernel
theorem aX12_courtPart_176 : i_at mX12_courtPart.2.2.2.2.2 176 = some (.iaload, 1, 0, 0, 0, 0) := by decide +kernel
theorem aX12_courtPart_177 : i_at mX12_courtPart.2.2.2.2.2 177 = some (.iconst 1, 1, 0, 0, 0, 0) := by decide +kernel
theorem aX12_courtPart_178 : i_at mX12_courtPart.2.2.2.2.2 178 = some (.iadd, 1, 0, 0, 0, 0) := by decide +kernel
theorem aX12_courtPart_179 : i_at mX12_courtPart.2.2.2.2.2 179 = some (.iastore, 1, 0, 0, 0, 0) := by decide +kernel
theorem aX12_courtPart_180 : i_at mX12_courtPart.2.2.2.2.2 180 = some (.goto 7, 3, 187, 0, 0, 0) := by decide +kernel
theorem aX12_courtPart_183 : i_at mX12_courtPart.2.2.2.2.2 183 = some (.aload_n 0, 1, 0, 0, 0, 0) := by decide +kernel
theorem aX12_courtPart_184 : i_at mX12_courtPart.2.2.2.2.2 184 = some (.invokevirtual 273, 3, 157, 0, 1327, 0) := by decide +kernel
theorem aX12_courtPart_187 : i_at mX12_courtPart.2.2.2.2.2 187 = some (.return_, 1, 0, 0, 0, 0) := by decide +kernel
noncomputable def fX12_courtPart_J187 (sh : List kd) (p1 : Int32) (x51 : Value) (x52 : Value) (s53 : St) : Option (Unit × St) := some ((), s53)
noncomputable def fX12_courtPart (sh : List kd) (σ : St) (p1 : Int32) : Option (Unit × St) := if p1 = 0 then i_bd (fX12_amount sh σ 1 12) (fun r55 s56 => if i_ok 0 4 then i_bd (fX12_amount sh (s_A s56 13 (0 : Int32).toNatClampNeg r55) 1 99) (fun r59 s60 => if i_ok 1 4 then fX12_courtPart_J187 sh p1 (.retAddr 0) (.retAddr 0) (s_A s60 13 (1 : Int32).toNatClampNeg r59) else none) else none) else if p1 = 1 then if i_ok 2 4 then i_bd (fX12_amount sh σ 0 20) (fun r65 s66 => if i_ok (σ.2.1 13 (2 : Int32).toNatClampNeg) 6 then if i_ok 2 4 then if i_ok 2 4 then i_jp (s_A (s_A s66 14 (σ.2.1 13 (2 : Int32).toNatClampNeg).toNatClampNeg r65) 13 (2 : Int32).toNatClampNeg (((s_A s66 14 (σ.2.1 13 (2 : Int32).toNatClampNeg).toNatClampNeg r65).2.1 13 (2 : Int32).toNatClampNeg) + 1)) (fun (s71 : St) => fX12_courtPart_J187 sh p1 (.retAddr 0) (.retAddr 0) s71) else none else none else none) else none else if p1 = 2 then if i_ok 0 4 then i_bd (fX12_amount sh σ 0 ((σ.2.1 13 (0 : Int32).toNatClampNeg) - 1)) (fun r75 s76 => if i_ok 2 4 then i_bd (fX12_amount sh s76 0 ((s76.2.1 13 (2 : Int32).toNatClampNeg) - 1)) (fun r79 s80 => if ¬ (s80.1 0 21) = 0 then fX12_courtPart_J187 sh p1 (.int r75) (.int r79) s80 else if i_ok r75 12 then fX12_courtPart_J187 sh p1 (.int r75) (.int r79) (s_A s80 16 r75.toNatClampNeg r79) else none) else none) else none else if p1 = 3 then if i_ok 3 4 then i_bd (fX12_amount sh σ 0 99) (fun r86 s87 => if i_ok (σ.2.1 13 (3 : Int32).toNatClampNeg) 6 then i_bd (fX12_amount sh (s_A s87 17 (σ.2.1 13 (3 : Int32).toNatClampNeg).toNatClampNeg r86) 0 9) (fun r90 s91 => if i_ok (σ.2.1 13 (3 : Int32).toNatClampNeg) 6 then if i_ok 3 4 then if i_ok 3 4 then i_jp (s_A (s_A s91 18 (σ.2.1 13 (3 : Int32).toNatClampNeg).toNatClampNeg r90) 13 (3 : Int32).toNatClampNeg (((s_A s91 18 (σ.2.1 13 (3 : Int32).toNatClampNeg).toNatClampNeg r90).2.1 13 (3 : Int32).toNatClampNeg) + 1)) (fun (s96 : St) => fX12_courtPart_J187 sh p1 (.int (σ.2.1 13 (3 : Int32).toNatClampNeg)) (.retAddr 0) s96) else none else none else none) else none) else none else i_bd (fX12_quarrelPart sh σ) (fun r98 s99 => fX12_courtPart_J187 sh p1 (.retAddr 0) (.retAddr 0) s99)
set_option maxRecDepth 20000 in
set_option maxHeartbeats 2000000 in
theorem tX12_courtPart_J187 {sh : List kd} {τ : St} {r : Unit} (hsh : rmSh sh) {p1 : Int32} {x51 : Value} {x52 : Value} {s53 : St} (hE : fX12_courtPart_J187 sh p1 x51 x52 s53 = some (r, τ)) : g_R sh 5 mX12_courtPart none τ 187 [.ref 0, .int p1, x51, x52] [] (s53) := by
  unfold fX12_courtPart_J187 at hE
  obtain ⟨rfl, rfl⟩ := i_some_inj hE
  exact g_vret aX12_courtPart_187 rfl
set_option maxRecDepth 20000 in
set_option maxHeartbeats 2000000 in
theorem tX12_courtPart {sh : List kd} {σ τ : St} {r : Unit} (hsh : rmSh sh) {p1 : Int32} (hE : fX12_courtPart sh σ p1 = some (r, τ)) : i_X 6 158 [.ref 0, .int p1] (s_h sh σ) 0 0 none (s_h sh τ) := by
  refine g_X (M := mX12_courtPart) (loc := [.ref 0, .int p1, .retAddr 0, .retAddr 0]) rfl (Nat.le_of_ble_eq_true rfl) rfl ?_
  unfold fX12_courtPart at hE
  refine g_ldin aX12_courtPart_0 rfl ?_
  by_cases hc54 : p1 = 0
  · rw [if_pos hc54] at hE
    refine g_tabIn (i := 0) aX12_courtPart_1 (by rw [hc54]; decide) (by decide) rfl rfl ?_
    refine g_ldan aX12_courtPart_32 rfl ?_
    refine g_getR aX12_courtPart_33 (sR_0 hsh) rfl ?_
    refine g_iconst (x := 0) aX12_courtPart_36 rfl ?_
    refine g_ldan aX12_courtPart_37 rfl ?_
    refine g_iconst (x := 1) aX12_courtPart_38 rfl ?_
    refine g_bipush (x := 12) aX12_courtPart_39 rfl ?_
    obtain ⟨r55, s56, h57, hE⟩ := i_bd_some hE
    refine g_calV (As := [.int 1, .int 12]) (rest := [.int 0, .ref 13]) aX12_courtPart_41 (i_X_mono (by omega) (tX12_amount hsh h57)) (sR_0 hsh) (by decide +kernel) rfl rfl (Nat.le_of_ble_eq_true rfl) rfl ?_
    obtain ⟨h58, hE⟩ := i_ifn hE
    refine g_ist aX12_courtPart_44 (sR_13 hsh) h58 ?_
    refine g_ldan aX12_courtPart_45 rfl ?_
    refine g_getR aX12_courtPart_46 (sR_0 hsh) rfl ?_
    refine g_iconst (x := 1) aX12_courtPart_49 rfl ?_
    refine g_ldan aX12_courtPart_50 rfl ?_
    refine g_iconst (x := 1) aX12_courtPart_51 rfl ?_
    refine g_bipush (x := 99) aX12_courtPart_52 rfl ?_
    obtain ⟨r59, s60, h61, hE⟩ := i_bd_some hE
    refine g_calV (As := [.int 1, .int 99]) (rest := [.int 1, .ref 13]) aX12_courtPart_54 (i_X_mono (by omega) (tX12_amount hsh h61)) (sR_0 hsh) (by decide +kernel) rfl rfl (Nat.le_of_ble_eq_true rfl) rfl ?_
    obtain ⟨h62, hE⟩ := i_ifn hE
    refine g_ist aX12_courtPart_57 (sR_13 hsh) h62 ?_
    refine g_goto aX12_courtPart_58 ?_
    exact tX12_courtPart_J187 hsh hE
  · rw [if_neg hc54] at hE
    by_cases hc63 : p1 = 1
    · rw [if_pos hc63] at hE
      refine g_tabIn (i := 1) aX12_courtPart_1 (by rw [hc63]; decide) (by decide) rfl rfl ?_
      refine g_ldan aX12_courtPart_61 rfl ?_
      refine g_getR aX12_courtPart_62 (sR_0 hsh) rfl ?_
      refine g_ldan aX12_courtPart_65 rfl ?_
      refine g_getR aX12_courtPart_66 (sR_0 hsh) rfl ?_
      refine g_iconst (x := 2) aX12_courtPart_69 rfl ?_
      obtain ⟨h64, hE⟩ := i_ifn hE
      refine g_ild aX12_courtPart_70 (sR_13 hsh) h64 ?_
      refine g_ldan aX12_courtPart_71 rfl ?_
      refine g_iconst (x := 0) aX12_courtPart_72 rfl ?_
      refine g_bipush (x := 20) aX12_courtPart_73 rfl ?_
      obtain ⟨r65, s66, h67, hE⟩ := i_bd_some hE
      refine g_calV (As := [.int 0, .int 20]) (rest := [.int (σ.2.1 13 (2 : Int32).toNatClampNeg), .ref 14]) aX12_courtPart_75 (i_X_mono (by omega) (tX12_amount hsh h67)) (sR_0 hsh) (by decide +kernel) rfl rfl (Nat.le_of_ble_eq_true rfl) rfl ?_
      obtain ⟨h68, hE⟩ := i_ifn hE
      refine g_ist aX12_courtPart_78 (sR_14 hsh) h68 ?_
      refine g_ldan aX12_courtPart_79 rfl ?_
      refine g_getR aX12_courtPart_80 (sR_0 hsh) rfl ?_
      refine g_iconst (x := 2) aX12_courtPart_83 rfl ?_
      refine g_dup2 aX12_courtPart_84 ?_
      obtain ⟨h69, hE⟩ := i_ifn hE
      refine g_ild aX12_courtPart_85 (sR_13 hsh) h69 ?_
      refine g_iconst (x := 1) aX12_courtPart_86 rfl ?_
      refine g_iadd aX12_courtPart_87 ?_
      obtain ⟨h70, hE⟩ := i_ifn hE
      refine g_ist aX12_courtPart_88 (sR_13 hsh) h70 ?_
      obtain ⟨s71, h72, hE⟩ := i_jp_some hE
      rw [← h72]
      refine g_goto aX12_courtPart_89 ?_
      exact tX12_courtPart_J187 hsh hE
    · rw [if_neg hc63] at hE
      by_cases hc73 : p1 = 2
      · rw [if_pos hc73] at hE
        refine g_tabIn (i := 2) aX12_courtPart_1 (by rw [hc73]; decide) (by decide) rfl rfl ?_
        refine g_ldan aX12_courtPart_92 rfl ?_
        refine g_iconst (x := 0) aX12_courtPart_93 rfl ?_
        refine g_ldan aX12_courtPart_94 rfl ?_
        refine g_getR aX12_courtPart_95 (sR_0 hsh) rfl ?_
        refine g_iconst (x := 0) aX12_courtPart_98 rfl ?_
        obtain ⟨h74, hE⟩ := i_ifn hE
        refine g_ild aX12_courtPart_99 (sR_13 hsh) h74 ?_
        refine g_iconst (x := 1) aX12_courtPart_100 rfl ?_
        refine g_isub aX12_courtPart_101 ?_
        obtain ⟨r75, s76, h77, hE⟩ := i_bd_some hE
        refine g_calV (As := [.int 0, .int ((σ.2.1 13 (0 : Int32).toNatClampNeg) - 1)]) (rest := []) aX12_courtPart_102 (i_X_mono (by omega) (tX12_amount hsh h77)) (sR_0 hsh) (by decide +kernel) rfl rfl (Nat.le_of_ble_eq_true rfl) rfl ?_
        refine g_stin (loc2 := [.ref 0, .int p1, .int r75, .retAddr 0]) aX12_courtPart_105 (Nat.le_of_ble_eq_true rfl) rfl ?_
        refine g_ldan aX12_courtPart_106 rfl ?_
        refine g_iconst (x := 0) aX12_courtPart_107 rfl ?_
        refine g_ldan aX12_courtPart_108 rfl ?_
        refine g_getR aX12_courtPart_109 (sR_0 hsh) rfl ?_
        refine g_iconst (x := 2) aX12_courtPart_112 rfl ?_
        obtain ⟨h78, hE⟩ := i_ifn hE
        refine g_ild aX12_courtPart_113 (sR_13 hsh) h78 ?_
        refine g_iconst (x := 1) aX12_courtPart_114 rfl ?_
        refine g_isub aX12_courtPart_115 ?_
        obtain ⟨r79, s80, h81, hE⟩ := i_bd_some hE
        refine g_calV (As := [.int 0, .int ((s76.2.1 13 (2 : Int32).toNatClampNeg) - 1)]) (rest := []) aX12_courtPart_116 (i_X_mono (by omega) (tX12_amount hsh h81)) (sR_0 hsh) (by decide +kernel) rfl rfl (Nat.le_of_ble_eq_true rfl) rfl ?_
        refine g_stin (loc2 := [.ref 0, .int p1, .int r75, .int r79]) aX12_courtPart_119 (Nat.le_of_ble_eq_true rfl) rfl ?_
        refine g_ldan aX12_courtPart_120 rfl ?_
        refine g_getI aX12_courtPart_121 (sR_0 hsh) rfl ?_
        by_cases hc82 : ¬ (s80.1 0 21) = 0
        · rw [if_pos hc82] at hE
          refine g_if_ne_t aX12_courtPart_124 hc82 ?_
          exact tX12_courtPart_J187 hsh hE
        · rw [if_neg hc82] at hE
          refine g_if_ne_f aX12_courtPart_124 hc82 ?_
          refine g_ldan aX12_courtPart_127 rfl ?_
          refine g_getR aX12_courtPart_128 (sR_0 hsh) rfl ?_
          refine g_ldin aX12_courtPart_131 rfl ?_
          refine g_ldin aX12_courtPart_132 rfl ?_
          obtain ⟨h83, hE⟩ := i_ifn hE
          refine g_ist aX12_courtPart_133 (sR_16 hsh) h83 ?_
          refine g_goto aX12_courtPart_134 ?_
          exact tX12_courtPart_J187 hsh hE
      · rw [if_neg hc73] at hE
        by_cases hc84 : p1 = 3
        · rw [if_pos hc84] at hE
          refine g_tabIn (i := 3) aX12_courtPart_1 (by rw [hc84]; decide) (by decide) rfl rfl ?_
          refine g_ldan aX12_courtPart_137 rfl ?_
          refine g_getR aX12_courtPart_138 (sR_0 hsh) rfl ?_
          refine g_iconst (x := 3) aX12_courtPart_141 rfl ?_
          obtain ⟨h85, hE⟩ := i_ifn hE
          refine g_ild aX12_courtPart_142 (sR_13 hsh) h85 ?_
          refine g_stin (loc2 := [.ref 0, .int p1, .int (σ.2.1 13 (3 : Int32).toNatClampNeg), .retAddr 0]) aX12_courtPart_143 (Nat.le_of_ble_eq_true rfl) rfl ?_
          refine g_ldan aX12_courtPart_144 rfl ?_
          refine g_getR aX12_courtPart_145 (sR_0 hsh) rfl ?_
          refine g_ldin aX12_courtPart_148 rfl ?_
          refine g_ldan aX12_courtPart_149 rfl ?_
          refine g_iconst (x := 0) aX12_courtPart_150 rfl ?_
          refine g_bipush (x := 99) aX12_courtPart_151 rfl ?_
          obtain ⟨r86, s87, h88, hE⟩ := i_bd_some hE
          refine g_calV (As := [.int 0, .int 99]) (rest := [.int (σ.2.1 13 (3 : Int32).toNatClampNeg), .ref 17]) aX12_courtPart_153 (i_X_mono (by omega) (tX12_amount hsh h88)) (sR_0 hsh) (by decide +kernel) rfl rfl (Nat.le_of_ble_eq_true rfl) rfl ?_
          obtain ⟨h89, hE⟩ := i_ifn hE
          refine g_ist aX12_courtPart_156 (sR_17 hsh) h89 ?_
          refine g_ldan aX12_courtPart_157 rfl ?_
          refine g_getR aX12_courtPart_158 (sR_0 hsh) rfl ?_
          refine g_ldin aX12_courtPart_161 rfl ?_
          refine g_ldan aX12_courtPart_162 rfl ?_
          refine g_iconst (x := 0) aX12_courtPart_163 rfl ?_
          refine g_bipush (x := 9) aX12_courtPart_164 rfl ?_
          obtain ⟨r90, s91, h92, hE⟩ := i_bd_some hE
          refine g_calV (As := [.int 0, .int 9]) (rest := [.int (σ.2.1 13 (3 : Int32).toNatClampNeg), .ref 18]) aX12_courtPart_166 (i_X_mono (by omega) (tX12_amount hsh h92)) (sR_0 hsh) (by decide +kernel) rfl rfl (Nat.le_of_ble_eq_true rfl) rfl ?_
          obtain ⟨h93, hE⟩ := i_ifn hE
          refine g_ist aX12_courtPart_169 (sR_18 hsh) h93 ?_
          refine g_ldan aX12_courtPart_170 rfl ?_
          refine g_getR aX12_courtPart_171 (sR_0 hsh) rfl ?_
          refine g_iconst (x := 3) aX12_courtPart_174 rfl ?_
          refine g_dup2 aX12_courtPart_175 ?_
          obtain ⟨h94, hE⟩ := i_ifn hE
          refine g_ild aX12_courtPart_176 (sR_13 hsh) h94 ?_
          refine g_iconst (x := 1) aX12_courtPart_177 rfl ?_
          refine g_iadd aX12_courtPart_178 ?_
          obtain ⟨h95, hE⟩ := i_ifn hE
          refine g_ist aX12_courtPart_179 (sR_13 hsh) h95 ?_
          obtain ⟨s96, h97, hE⟩ := i_jp_some hE
          rw [← h97]
          refine g_goto aX12_courtPart_180 ?_
          exact tX12_courtPart_J187 hsh hE
        · rw [if_neg hc84] at hE
          have hto101 : p1.toInt < ((0 : Nat) : Int) ∨ ((3 : Nat) : Int) < p1.toInt := by
            refine i_tabo (x := p1) 0 3 (by decide) (fun k k1 k2 => ?_)
            rcases (show k = 0 ∨ k = 1 ∨ k = 2 ∨ k = 3 by omega) with rfl | rfl | rfl | rfl
            · exact fun hz => hc54 hz
            · exact fun hz => hc63 hz
            · exact fun hz => hc73 hz
            · exact fun hz => hc84 hz
          refine g_tabOut aX12_courtPart_1 hto101 rfl ?_
          refine g_ldan aX12_courtPart_183 rfl ?_
          obtain ⟨r98, s99, h100, hE⟩ := i_bd_some hE
          refine g_calV (As := []) (rest := []) aX12_courtPart_184 (i_X_mono (by omega) (tX12_quarrelPart hsh h100)) (sR_0 hsh) (by decide +kernel) rfl rfl (Nat.le_of_ble_eq_true rfl) rfl ?_
          exact tX12_courtPart_J187 hsh hE
theorem aX12_copies_0 : i_at mX12_copies.2.2.2.2.2 0 = some (.iconst 0, 1, 0, 0, 0, 0) := by decide +kernel
theorem aX12_copies_1 : i_at mX12_copies.2.2.2.2.2 1 = some (.istore_n 2, 1, 0, 0, 0, 0) := by decide +kernel
theorem aX12_copies_2 : i_at mX12_copies.2.2.2.2.2 2 = some (.iload_n 2, 1, 0, 0, 0, 0) := by decide +kernel
theorem aX12_copies_3 : i_at mX12_copies.2.2.2.2.2 3 = some (.aload_n 0, 1, 0, 0, 0, 0) := by decide +kernel
theorem aX12_copies_4 : i_at mX12_copies.2.2.2.2.2 4 = some (.arraylength, 1, 0, 0, 0, 0) := by decide +kernel
theorem aX12_copies_5 : i_at mX12_copies.2.2.2.2.2 5 = some (.if_icmp .ge 15, 3, 20, 0, 0, 0) := by decide +kernel
theorem aX12_copies_8 : i_at mX12_copies.2.2.2.2.2 8 = some (.aload_n 1, 1, 0, 0, 0, 0) := by decide +kernel
theorem aX12_copies_9 : i_at mX12_copies.2.2.2.2.2 9 = some (.iload_n 2, 1, 0, 0, 0, 0) := by decide +kernel
theorem aX12_copies_10 : i_at mX12_copies.2.2.2.2.2 10 = some (.aload_n 0, 1, 0, 0, 0, 0) := by decide +kernel
theorem aX12_copies_11 : i_at mX12_copies.2.2.2.2.2 11 = some (.iload_n 2, 1, 0, 0, 0, 0) := by decide +kernel
theorem aX12_copies_12 : i_at mX12_copies.2.2.2.2.2 12 = some (.iaload, 1, 0, 0, 0, 0) := by decide +kernel
theorem aX12_copies_13 : i_at mX12_copies.2.2.2.2.2 13 = some (.iastore, 1, 0, 0, 0, 0) := by decide +kernel
theorem aX12_copies_14 : i_at mX12_copies.2.2.2.2.2 14 = some (.iinc 2 1, 3, 0, 0, 0, 0) := by decide +kernel
theorem aX12_copies_17 : i_at mX12_copies.2.2.2.2.2 17 = some (.goto (-15), 3, 2, 0, 0, 0) := by decide +kernel
theorem aX12_copies_20 : i_at mX12_copies.2.2.2.2.2 20 = some (.return_, 1, 0, 0, 0, 0) := by decide +kernel
noncomputable def fX12_copies_L2 (sh : List kd) (p0 : Nat) (p1 : Nat) : Nat → Int32 → St → Option (Unit × St)
  | 0, _, _ => none
  | n3 + 1, x1, s2 => i_al sh .int p0 (fun n4 => if (Int32.ofNat n4) ≤ x1 then some ((), s2) else i_al sh .int p0 (fun n57 => if i_ok x1 n57 then i_al sh .int p1 (fun n60 => if i_ok x1 n60 then (fX12_copies_L2 sh p0 p1 n3 (x1 + 1) (s_A s2 p1 x1.toNatClampNeg (s2.2.1 p0 x1.toNatClampNeg))) else none) else none))
noncomputable def fX12_copies (sh : List kd) (σ : St) (p0 : Nat) (p1 : Nat) : Option (Unit × St) := fX12_copies_L2 sh p0 p1 i_F 0 σ
set_option maxRecDepth 20000 in
set_option maxHeartbeats 2000000 in
theorem tX12_copies_L2 {sh : List kd} {τ : St} {r : Unit} (hsh : rmSh sh) {p0 : Nat} {p1 : Nat} : ∀ (n0 : Nat) (x1 : Int32) (s2 : St), fX12_copies_L2 sh p0 p1 n0 x1 s2 = some (r, τ) → g_R sh 0 mX12_copies none τ 2 [.ref p0, .ref p1, .int x1] [] (s2) := by
  intro n0
  induction n0 with
  | zero => intro _ _ hE; cases hE
  | succ n3 ih =>
    intro x1 s2 hE
    unfold fX12_copies_L2 at hE
    refine g_ldin aX12_copies_2 rfl ?_
    refine g_ldan aX12_copies_3 rfl ?_
    obtain ⟨n4, h5, hE⟩ := i_al_some hE
    refine g_len aX12_copies_4 h5 ?_
    by_cases hc56 : (Int32.ofNat n4) ≤ x1
    · rw [if_pos hc56] at hE
      refine g_ic_ge_t aX12_copies_5 hc56 ?_
      obtain ⟨rfl, rfl⟩ := i_some_inj hE
      exact g_vret aX12_copies_20 rfl
    · rw [if_neg hc56] at hE
      refine g_ic_ge_f aX12_copies_5 hc56 ?_
      refine g_ldan aX12_copies_8 rfl ?_
      refine g_ldin aX12_copies_9 rfl ?_
      refine g_ldan aX12_copies_10 rfl ?_
      refine g_ldin aX12_copies_11 rfl ?_
      obtain ⟨n57, h58, hE⟩ := i_al_some hE
      obtain ⟨h59, hE⟩ := i_ifn hE
      refine g_ild aX12_copies_12 (h58) h59 ?_
      obtain ⟨n60, h61, hE⟩ := i_al_some hE
      obtain ⟨h62, hE⟩ := i_ifn hE
      refine g_ist aX12_copies_13 (h61) h62 ?_
      refine g_iinc (y := 1) (loc2 := [.ref p0, .ref p1, .int (x1 + 1)]) aX12_copies_14 rfl rfl rfl ?_
      refine g_goto aX12_copies_17 ?_
      exact ih _ _ hE
set_option maxRecDepth 20000 in
set_option maxHeartbeats 2000000 in
theorem tX12_copies {sh : List kd} {σ τ : St} {r : Unit} (hsh : rmSh sh) {p0 : Nat} {p1 : Nat} (hE : fX12_copies sh σ p0 p1 = some (r, τ)) : i_X 1 161 [.ref p0, .ref p1] (s_h sh σ) 0 0 none (s_h sh τ) := by
  refine g_X (M := mX12_copies) (loc := [.ref p0, .ref p1, .retAddr 0]) rfl (Nat.le_of_ble_eq_true rfl) rfl ?_
  unfold fX12_copies at hE
  refine g_iconst (x := 0) aX12_copies_0 rfl ?_
  refine g_stin (loc2 := [.ref p0, .ref p1, .int 0]) aX12_copies_1 (Nat.le_of_ble_eq_true rfl) rfl ?_
  exact tX12_copies_L2 hsh i_F _ _ hE
theorem aX12_goesOn_0 : i_at mX12_goesOn.2.2.2.2.2 0 = some (.aload_n 0, 1, 0, 0, 0, 0) := by decide +kernel
theorem aX12_goesOn_1 : i_at mX12_goesOn.2.2.2.2.2 1 = some (.invokevirtual 186, 3, 139, 0, 1275, 0) := by decide +kernel
theorem aX12_goesOn_4 : i_at mX12_goesOn.2.2.2.2.2 4 = some (.aload_n 0, 1, 0, 0, 0, 0) := by decide +kernel
theorem aX12_goesOn_5 : i_at mX12_goesOn.2.2.2.2.2 5 = some (.getfield 163, 3, 11, 21, 1108, 0) := by decide +kernel
theorem aX12_goesOn_8 : i_at mX12_goesOn.2.2.2.2.2 8 = some (.ifCond .ne 32, 3, 40, 0, 0, 0) := by decide +kernel
theorem aX12_goesOn_11 : i_at mX12_goesOn.2.2.2.2.2 11 = some (.aload_n 0, 1, 0, 0, 0, 0) := by decide +kernel
theorem aX12_goesOn_12 : i_at mX12_goesOn.2.2.2.2.2 12 = some (.getfield 166, 3, 11, 20, 1107, 0) := by decide +kernel
theorem aX12_goesOn_15 : i_at mX12_goesOn.2.2.2.2.2 15 = some (.aload_n 0, 1, 0, 0, 0, 0) := by decide +kernel
theorem aX12_goesOn_16 : i_at mX12_goesOn.2.2.2.2.2 16 = some (.getfield 135, 3, 11, 19, 1106, 0) := by decide +kernel
theorem aX12_goesOn_19 : i_at mX12_goesOn.2.2.2.2.2 19 = some (.if_icmp .ge 21, 3, 40, 0, 0, 0) := by decide +kernel
theorem aX12_goesOn_22 : i_at mX12_goesOn.2.2.2.2.2 22 = some (.aload_n 0, 1, 0, 0, 0, 0) := by decide +kernel
theorem aX12_goesOn_23 : i_at mX12_goesOn.2.2.2.2.2 23 = some (.invokevirtual 169, 3, 138, 0, 1279, 0) := by decide +kernel
theorem aX12_goesOn_26 : i_at mX12_goesOn.2.2.2.2.2 26 = some (.bipush 59, 2, 0, 0, 0, 0) := by decide +kernel
theorem aX12_goesOn_28 : i_at mX12_goesOn.2.2.2.2.2 28 = some (.if_icmp .eq 12, 3, 40, 0, 0, 0) := by decide +kernel
theorem aX12_goesOn_31 : i_at mX12_goesOn.2.2.2.2.2 31 = some (.aload_n 0, 1, 0, 0, 0, 0) := by decide +kernel
theorem aX12_goesOn_32 : i_at mX12_goesOn.2.2.2.2.2 32 = some (.iconst 0, 1, 0, 0, 0, 0) := by decide +kernel
theorem aX12_goesOn_33 : i_at mX12_goesOn.2.2.2.2.2 33 = some (.aload_n 0, 1, 0, 0, 0, 0) := by decide +kernel
theorem aX12_goesOn_34 : i_at mX12_goesOn.2.2.2.2.2 34 = some (.getfield 166, 3, 11, 20, 1107, 0) := by decide +kernel
theorem aX12_goesOn_37 : i_at mX12_goesOn.2.2.2.2.2 37 = some (.invokevirtual 202, 3, 137, 2, 1297, 0) := by decide +kernel
theorem aX12_goesOn_40 : i_at mX12_goesOn.2.2.2.2.2 40 = some (.aload_n 0, 1, 0, 0, 0, 0) := by decide +kernel
theorem aX12_goesOn_41 : i_at mX12_goesOn.2.2.2.2.2 41 = some (.getfield 163, 3, 11, 21, 1108, 0) := by decide +kernel
theorem aX12_goesOn_44 : i_at mX12_goesOn.2.2.2.2.2 44 = some (.ifCond .ne 18, 3, 62, 0, 0, 0) := by decide +kernel
theorem aX12_goesOn_47 : i_at mX12_goesOn.2.2.2.2.2 47 = some (.aload_n 0, 1, 0, 0, 0, 0) := by decide +kernel
theorem aX12_goesOn_48 : i_at mX12_goesOn.2.2.2.2.2 48 = some (.getfield 166, 3, 11, 20, 1107, 0) := by decide +kernel
theorem aX12_goesOn_51 : i_at mX12_goesOn.2.2.2.2.2 51 = some (.aload_n 0, 1, 0, 0, 0, 0) := by decide +kernel
theorem aX12_goesOn_52 : i_at mX12_goesOn.2.2.2.2.2 52 = some (.getfield 135, 3, 11, 19, 1106, 0) := by decide +kernel
theorem aX12_goesOn_55 : i_at mX12_goesOn.2.2.2.2.2 55 = some (.if_icmp .ge 7, 3, 62, 0, 0, 0) := by decide +kernel
theorem aX12_goesOn_58 : i_at mX12_goesOn.2.2.2.2.2 58 = some (.iconst 1, 1, 0, 0, 0, 0) := by decide +kernel
theorem aX12_goesOn_59 : i_at mX12_goesOn.2.2.2.2.2 59 = some (.goto 4, 3, 63, 0, 0, 0) := by decide +kernel
theorem aX12_goesOn_62 : i_at mX12_goesOn.2.2.2.2.2 62 = some (.iconst 0, 1, 0, 0, 0, 0) := by decide +kernel
theorem aX12_goesOn_63 : i_at mX12_goesOn.2.2.2.2.2 63 = some (.istore_n 1, 1, 0, 0, 0, 0) := by decide +kernel
theorem aX12_goesOn_64 : i_at mX12_goesOn.2.2.2.2.2 64 = some (.aload_n 0, 1, 0, 0, 0, 0) := by decide +kernel
theorem aX12_goesOn_65 : i_at mX12_goesOn.2.2.2.2.2 65 = some (.dup, 1, 0, 0, 0, 0) := by decide +kernel
theorem aX12_goesOn_66 : i_at mX12_goesOn.2.2.2.2.2 66 = some (.getfield 166, 3, 11, 20, 1107, 0) := by decide +kernel
theorem aX12_goesOn_69 : i_at mX12_goesOn.2.2.2.2.2 69 = some (.iconst 1, 1, 0, 0, 0, 0) := by decide +kernel
theorem aX12_goesOn_70 : i_at mX12_goesOn.2.2.2.2.2 70 = some (.iadd, 1, 0, 0, 0, 0) := by decide +kernel
theorem aX12_goesOn_71 : i_at mX12_goesOn.2.2.2.2.2 71 = some (.putfield 166, 3, 11, 20, 1107, 0) := by decide +kernel
theorem aX12_goesOn_74 : i_at mX12_goesOn.2.2.2.2.2 74 = some (.iload_n 1, 1, 0, 0, 0, 0) := by decide +kernel
theorem aX12_goesOn_75 : i_at mX12_goesOn.2.2.2.2.2 75 = some (.ireturn, 1, 0, 0, 0, 0) := by decide +kernel
noncomputable def fX12_goesOn_J40 (sh : List kd) (s54 : St) : Option (Int32 × St) := if (((if ¬ (s54.1 0 21) = 0 then 0 else (if (s54.1 0 19) ≤ (s54.1 0 20) then 0 else 1)) : Int32) : Int32) &&& 1 = ((if ¬ (s54.1 0 21) = 0 then 0 else (if (s54.1 0 19) ≤ (s54.1 0 20) then 0 else 1)) : Int32) then some (((if ¬ (s54.1 0 21) = 0 then 0 else (if (s54.1 0 19) ≤ (s54.1 0 20) then 0 else 1)) : Int32), s_F s54 0 20 ((s54.1 0 20) + 1)) else none
noncomputable def fX12_goesOn (sh : List kd) (σ : St) : Option (Int32 × St) := i_bd (fX12_blanks sh σ) (fun r1 s2 => if ¬ (s2.1 0 21) = 0 then fX12_goesOn_J40 sh s2 else if (s2.1 0 19) ≤ (s2.1 0 20) then fX12_goesOn_J40 sh s2 else i_bd (fX12_sign sh s2) (fun r60 s61 => if r60 = 59 then fX12_goesOn_J40 sh s61 else i_bd (fX12_fails sh s61 0 (s61.1 0 20)) (fun r64 s65 => fX12_goesOn_J40 sh s65)))
set_option maxRecDepth 20000 in
set_option maxHeartbeats 2000000 in
theorem tX12_goesOn_J40 {sh : List kd} {τ : St} {r : Int32} (hsh : rmSh sh) {s54 : St} (hE : fX12_goesOn_J40 sh s54 = some (r, τ)) : g_R sh 2 mX12_goesOn (some (.int r)) τ 40 [.ref 0, .retAddr 0] [] (s54) := by
  unfold fX12_goesOn_J40 at hE
  refine g_ldan aX12_goesOn_40 rfl ?_
  refine g_getI aX12_goesOn_41 (sR_0 hsh) rfl ?_
  have hJ : g_R sh 2 mX12_goesOn (some (.int r)) τ 63 [.ref 0, .retAddr 0] [.int ((if ¬ (s54.1 0 21) = 0 then 0 else (if (s54.1 0 19) ≤ (s54.1 0 20) then 0 else 1)) : Int32)] (s54) := by
    refine g_stin (loc2 := [.ref 0, .int ((if ¬ (s54.1 0 21) = 0 then 0 else (if (s54.1 0 19) ≤ (s54.1 0 20) then 0 else 1)) : Int32)]) aX12_goesOn_63 (Nat.le_of_ble_eq_true rfl) rfl ?_
    refine g_ldan aX12_goesOn_64 rfl ?_
    refine g_dupa aX12_goesOn_65 ?_
    refine g_getI aX12_goesOn_66 (sR_0 hsh) rfl ?_
    refine g_iconst (x := 1) aX12_goesOn_69 rfl ?_
    refine g_iadd aX12_goesOn_70 ?_
    refine g_putI aX12_goesOn_71 (sR_0 hsh) rfl rfl ?_
    refine g_ldin aX12_goesOn_74 rfl ?_
    obtain ⟨h55, hE⟩ := i_ifn hE
    obtain ⟨rfl, rfl⟩ := i_some_inj hE
    exact g_iret aX12_goesOn_75 rfl (congrArg Value.int h55)
  clear hE
  by_cases hc55 : ¬ (s54.1 0 21) = 0
  · (try rw [if_pos hc55] at hJ)
    refine g_if_ne_t aX12_goesOn_44 hc55 ?_
    refine g_iconst (x := 0) aX12_goesOn_62 rfl ?_
    exact hJ
  · (try rw [if_neg hc55] at hJ)
    refine g_if_ne_f aX12_goesOn_44 hc55 ?_
    refine g_ldan aX12_goesOn_47 rfl ?_
    refine g_getI aX12_goesOn_48 (sR_0 hsh) rfl ?_
    refine g_ldan aX12_goesOn_51 rfl ?_
    refine g_getI aX12_goesOn_52 (sR_0 hsh) rfl ?_
    by_cases hc56 : (s54.1 0 19) ≤ (s54.1 0 20)
    · (try rw [if_pos hc56] at hJ)
      refine g_ic_ge_t aX12_goesOn_55 hc56 ?_
      refine g_iconst (x := 0) aX12_goesOn_62 rfl ?_
      exact hJ
    · (try rw [if_neg hc56] at hJ)
      refine g_ic_ge_f aX12_goesOn_55 hc56 ?_
      refine g_iconst (x := 1) aX12_goesOn_58 rfl ?_
      refine g_goto aX12_goesOn_59 ?_
      exact hJ
set_option maxRecDepth 20000 in
set_option maxHeartbeats 2000000 in
theorem tX12_goesOn {sh : List kd} {σ τ : St} {r : Int32} (hsh : rmSh sh) (hE : fX12_goesOn sh σ = some (r, τ)) : i_X 3 162 [.ref 0] (s_h sh σ) 0 0 (some (.int r)) (s_h sh τ) := by
  refine g_X (M := mX12_goesOn) (loc := [.ref 0, .retAddr 0]) rfl (Nat.le_of_ble_eq_true rfl) rfl ?_
  unfold fX12_goesOn at hE
  refine g_ldan aX12_goesOn_0 rfl ?_
  obtain ⟨r1, s2, h3, hE⟩ := i_bd_some hE
  refine g_calV (As := []) (rest := []) aX12_goesOn_1 (i_X_mono (by omega) (tX12_blanks hsh h3)) (sR_0 hsh) (by decide +kernel) rfl rfl (Nat.le_of_ble_eq_true rfl) rfl ?_
  refine g_ldan aX12_goesOn_4 rfl ?_
  refine g_getI aX12_goesOn_5 (sR_0 hsh) rfl ?_
  by_cases hc58 : ¬ (s2.1 0 21) = 0
  · rw [if_pos hc58] at hE
    refine g_if_ne_t aX12_goesOn_8 hc58 ?_
    exact tX12_goesOn_J40 hsh hE
  · rw [if_neg hc58] at hE
    refine g_if_ne_f aX12_goesOn_8 hc58 ?_
    refine g_ldan aX12_goesOn_11 rfl ?_
    refine g_getI aX12_goesOn_12 (sR_0 hsh) rfl ?_
    refine g_ldan aX12_goesOn_15 rfl ?_
    refine g_getI aX12_goesOn_16 (sR_0 hsh) rfl ?_
    by_cases hc59 : (s2.1 0 19) ≤ (s2.1 0 20)
    · rw [if_pos hc59] at hE
      refine g_ic_ge_t aX12_goesOn_19 hc59 ?_
      exact tX12_goesOn_J40 hsh hE
    · rw [if_neg hc59] at hE
      refine g_ic_ge_f aX12_goesOn_19 hc59 ?_
      refine g_ldan aX12_goesOn_22 rfl ?_
      obtain ⟨r60, s61, h62, hE⟩ := i_bd_some hE
      refine g_calV (As := []) (rest := []) aX12_goesOn_23 (i_X_mono (by omega) (tX12_sign hsh h62)) (sR_0 hsh) (by decide +kernel) rfl rfl (Nat.le_of_ble_eq_true rfl) rfl ?_
      refine g_bipush (x := 59) aX12_goesOn_26 rfl ?_
      by_cases hc63 : r60 = 59
      · rw [if_pos hc63] at hE
        refine g_ic_eq_t aX12_goesOn_28 hc63 ?_
        exact tX12_goesOn_J40 hsh hE
      · rw [if_neg hc63] at hE
        refine g_ic_eq_f aX12_goesOn_28 hc63 ?_
        refine g_ldan aX12_goesOn_31 rfl ?_
        refine g_iconst (x := 0) aX12_goesOn_32 rfl ?_
        refine g_ldan aX12_goesOn_33 rfl ?_
        refine g_getI aX12_goesOn_34 (sR_0 hsh) rfl ?_
        obtain ⟨r64, s65, h66, hE⟩ := i_bd_some hE
        refine g_calV (As := [.int 0, .int (s61.1 0 20)]) (rest := []) aX12_goesOn_37 (i_X_mono (by omega) (tX12_fails hsh h66)) (sR_0 hsh) (by decide +kernel) rfl rfl (Nat.le_of_ble_eq_true rfl) rfl ?_
        exact tX12_goesOn_J40 hsh hE
theorem aX12_starts_0 : i_at mX12_starts.2.2.2.2.2 0 = some (.aload_n 0, 1, 0, 0, 0, 0) := by decide +kernel
theorem aX12_starts_1 : i_at mX12_starts.2.2.2.2.2 1 = some (.iconst 0, 1, 0, 0, 0, 0) := by decide +kernel
theorem aX12_starts_2 : i_at mX12_starts.2.2.2.2.2 2 = some (.putfield 166, 3, 11, 20, 1107, 0) := by decide +kernel
theorem aX12_starts_5 : i_at mX12_starts.2.2.2.2.2 5 = some (.aload_n 0, 1, 0, 0, 0, 0) := by decide +kernel
theorem aX12_starts_6 : i_at mX12_starts.2.2.2.2.2 6 = some (.iconst 0, 1, 0, 0, 0, 0) := by decide +kernel
theorem aX12_starts_7 : i_at mX12_starts.2.2.2.2.2 7 = some (.putfield 163, 3, 11, 21, 1108, 0) := by decide +kernel
theorem aX12_starts_10 : i_at mX12_starts.2.2.2.2.2 10 = some (.aload_n 0, 1, 0, 0, 0, 0) := by decide +kernel
theorem aX12_starts_11 : i_at mX12_starts.2.2.2.2.2 11 = some (.iconst 0, 1, 0, 0, 0, 0) := by decide +kernel
theorem aX12_starts_12 : i_at mX12_starts.2.2.2.2.2 12 = some (.putfield 196, 3, 11, 24, 1111, 0) := by decide +kernel
theorem aX12_starts_15 : i_at mX12_starts.2.2.2.2.2 15 = some (.aload_n 0, 1, 0, 0, 0, 0) := by decide +kernel
theorem aX12_starts_16 : i_at mX12_starts.2.2.2.2.2 16 = some (.iconst 0, 1, 0, 0, 0, 0) := by decide +kernel
theorem aX12_starts_17 : i_at mX12_starts.2.2.2.2.2 17 = some (.putfield 237, 3, 11, 25, 1112, 0) := by decide +kernel
theorem aX12_starts_20 : i_at mX12_starts.2.2.2.2.2 20 = some (.aload_n 0, 1, 0, 0, 0, 0) := by decide +kernel
theorem aX12_starts_21 : i_at mX12_starts.2.2.2.2.2 21 = some (.iconst 0, 1, 0, 0, 0, 0) := by decide +kernel
theorem aX12_starts_22 : i_at mX12_starts.2.2.2.2.2 22 = some (.putfield 199, 3, 11, 26, 1113, 0) := by decide +kernel
theorem aX12_starts_25 : i_at mX12_starts.2.2.2.2.2 25 = some (.return_, 1, 0, 0, 0, 0) := by decide +kernel
noncomputable def fX12_starts (sh : List kd) (σ : St) : Option (Unit × St) := some ((), s_F (s_F (s_F (s_F (s_F σ 0 20 0) 0 21 0) 0 24 0) 0 25 0) 0 26 0)
set_option maxRecDepth 20000 in
set_option maxHeartbeats 2000000 in
theorem tX12_starts {sh : List kd} {σ τ : St} {r : Unit} (hsh : rmSh sh) (hE : fX12_starts sh σ = some (r, τ)) : i_X 1 163 [.ref 0] (s_h sh σ) 0 0 none (s_h sh τ) := by
  refine g_X (M := mX12_starts) (loc := [.ref 0]) rfl (Nat.le_of_ble_eq_true rfl) rfl ?_
  unfold fX12_starts at hE
  refine g_ldan aX12_starts_0 rfl ?_
  refine g_iconst (x := 0) aX12_starts_1 rfl ?_
  refine g_putI aX12_starts_2 (sR_0 hsh) rfl rfl ?_
  refine g_ldan aX12_starts_5 rfl ?_
  refine g_iconst (x := 0) aX12_starts_6 rfl ?_
  refine g_putI aX12_starts_7 (sR_0 hsh) rfl rfl ?_
  refine g_ldan aX12_starts_10 rfl ?_
  refine g_iconst (x := 0) aX12_starts_11 rfl ?_
  refine g_putI aX12_starts_12 (sR_0 hsh) rfl rfl ?_
  refine g_ldan aX12_starts_15 rfl ?_
  refine g_iconst (x := 0) aX12_starts_16 rfl ?_
  refine g_putI aX12_starts_17 (sR_0 hsh) rfl rfl ?_
  refine g_ldan aX12_starts_20 rfl ?_
  refine g_iconst (x := 0) aX12_starts_21 rfl ?_
  refine g_putI aX12_starts_22 (sR_0 hsh) rfl rfl ?_
  obtain ⟨rfl, rfl⟩ := i_some_inj hE
  exact g_vret aX12_starts_25 rfl
theorem aX12_begins_0 : i_at mX12_begins.2.2.2.2.2 0 = some (.aload_n 0, 1, 0, 0, 0, 0) := by decide +kernel
theorem aX12_begins_1 : i_at mX12_begins.2.2.2.2.2 1 = some (.getfield 43, 3, 11, 12, 1099, 0) := by decide +kernel
theorem aX12_begins_4 : i_at mX12_begins.2.2.2.2.2 4 = some (.aload_n 0, 1, 0, 0, 0, 0) := by decide +kernel
theorem aX12_begins_5 : i_at mX12_begins.2.2.2.2.2 5 = some (.getfield 25, 3, 11, 6, 1093, 0) := by decide +kernel
theorem aX12_begins_8 : i_at mX12_begins.2.2.2.2.2 8 = some (.invokestatic 295, 3, 161, 2, 1335, 0) := by decide +kernel
theorem aX12_begins_11 : i_at mX12_begins.2.2.2.2.2 11 = some (.aload_n 0, 1, 0, 0, 0, 0) := by decide +kernel
theorem aX12_begins_12 : i_at mX12_begins.2.2.2.2.2 12 = some (.getfield 9, 3, 11, 1, 1088, 0) := by decide +kernel
theorem aX12_begins_15 : i_at mX12_begins.2.2.2.2.2 15 = some (.iconst 4, 1, 0, 0, 0, 0) := by decide +kernel
theorem aX12_begins_16 : i_at mX12_begins.2.2.2.2.2 16 = some (.iconst 0, 1, 0, 0, 0, 0) := by decide +kernel
theorem aX12_begins_17 : i_at mX12_begins.2.2.2.2.2 17 = some (.iastore, 1, 0, 0, 0, 0) := by decide +kernel
theorem aX12_begins_18 : i_at mX12_begins.2.2.2.2.2 18 = some (.aload_n 0, 1, 0, 0, 0, 0) := by decide +kernel
theorem aX12_begins_19 : i_at mX12_begins.2.2.2.2.2 19 = some (.getfield 9, 3, 11, 1, 1088, 0) := by decide +kernel
theorem aX12_begins_22 : i_at mX12_begins.2.2.2.2.2 22 = some (.iconst 5, 1, 0, 0, 0, 0) := by decide +kernel
theorem aX12_begins_23 : i_at mX12_begins.2.2.2.2.2 23 = some (.iconst (-1), 1, 0, 0, 0, 0) := by decide +kernel
theorem aX12_begins_24 : i_at mX12_begins.2.2.2.2.2 24 = some (.iastore, 1, 0, 0, 0, 0) := by decide +kernel
theorem aX12_begins_25 : i_at mX12_begins.2.2.2.2.2 25 = some (.aload_n 0, 1, 0, 0, 0, 0) := by decide +kernel
theorem aX12_begins_26 : i_at mX12_begins.2.2.2.2.2 26 = some (.getfield 9, 3, 11, 1, 1088, 0) := by decide +kernel
theorem aX12_begins_29 : i_at mX12_begins.2.2.2.2.2 29 = some (.bipush 6, 2, 0, 0, 0, 0) := by decide +kernel
theorem aX12_begins_31 : i_at mX12_begins.2.2.2.2.2 31 = some (.iconst (-1), 1, 0, 0, 0, 0) := by decide +kernel
theorem aX12_begins_32 : i_at mX12_begins.2.2.2.2.2 32 = some (.iastore, 1, 0, 0, 0, 0) := by decide +kernel
theorem aX12_begins_33 : i_at mX12_begins.2.2.2.2.2 33 = some (.aload_n 0, 1, 0, 0, 0, 0) := by decide +kernel
theorem aX12_begins_34 : i_at mX12_begins.2.2.2.2.2 34 = some (.getfield 9, 3, 11, 1, 1088, 0) := by decide +kernel
theorem aX12_begins_37 : i_at mX12_begins.2.2.2.2.2 37 = some (.bipush 7, 2, 0, 0, 0, 0) := by decide +kernel
theorem aX12_begins_39 : i_at mX12_begins.2.2.2.2.2 39 = some (.iconst 0, 1, 0, 0, 0, 0) := by decide +kernel
theorem aX12_begins_40 : i_at mX12_begins.2.2.2.2.2 40 = some (.iastore, 1, 0, 0, 0, 0) := by decide +kernel
theorem aX12_begins_41 : i_at mX12_begins.2.2.2.2.2 41 = some (.iconst 0, 1, 0, 0, 0, 0) := by decide +kernel
theorem aX12_begins_42 : i_at mX12_begins.2.2.2.2.2 42 = some (.istore_n 1, 1, 0, 0, 0, 0) := by decide +kernel
theorem aX12_begins_43 : i_at mX12_begins.2.2.2.2.2 43 = some (.iload_n 1, 1, 0, 0, 0, 0) := by decide +kernel
theorem aX12_begins_44 : i_at mX12_begins.2.2.2.2.2 44 = some (.bipush 6, 2, 0, 0, 0, 0) := by decide +kernel
theorem aX12_begins_46 : i_at mX12_begins.2.2.2.2.2 46 = some (.if_icmp .ge 30, 3, 76, 0, 0, 0) := by decide +kernel
theorem aX12_begins_49 : i_at mX12_begins.2.2.2.2.2 49 = some (.aload_n 0, 1, 0, 0, 0, 0) := by decide +kernel
theorem aX12_begins_50 : i_at mX12_begins.2.2.2.2.2 50 = some (.getfield 19, 3, 11, 4, 1091, 0) := by decide +kernel
theorem aX12_begins_53 : i_at mX12_begins.2.2.2.2.2 53 = some (.iload_n 1, 1, 0, 0, 0, 0) := by decide +kernel
theorem aX12_begins_54 : i_at mX12_begins.2.2.2.2.2 54 = some (.iconst 0, 1, 0, 0, 0, 0) := by decide +kernel
theorem aX12_begins_55 : i_at mX12_begins.2.2.2.2.2 55 = some (.iastore, 1, 0, 0, 0, 0) := by decide +kernel
theorem aX12_begins_56 : i_at mX12_begins.2.2.2.2.2 56 = some (.aload_n 0, 1, 0, 0, 0, 0) := by decide +kernel
theorem aX12_begins_57 : i_at mX12_begins.2.2.2.2.2 57 = some (.getfield 31, 3, 11, 8, 1095, 0) := by decide +kernel
theorem aX12_begins_60 : i_at mX12_begins.2.2.2.2.2 60 = some (.iload_n 1, 1, 0, 0, 0, 0) := by decide +kernel
theorem aX12_begins_61 : i_at mX12_begins.2.2.2.2.2 61 = some (.iconst 0, 1, 0, 0, 0, 0) := by decide +kernel
theorem aX12_begins_62 : i_at mX12_begins.2.2.2.2.2 62 = some (.iastore, 1, 0, 0, 0, 0) := by decide +kernel
theorem aX12_begins_63 : i_at mX12_begins.2.2.2.2.2 63 = some (.aload_n 0, 1, 0, 0, 0, 0) := by decide +kernel
theorem aX12_begins_64 : i_at mX12_begins.2.2.2.2.2 64 = some (.getfield 34, 3, 11, 9, 1096, 0) := by decide +kernel
theorem aX12_begins_67 : i_at mX12_begins.2.2.2.2.2 67 = some (.iload_n 1, 1, 0, 0, 0, 0) := by decide +kernel
theorem aX12_begins_68 : i_at mX12_begins.2.2.2.2.2 68 = some (.iconst 0, 1, 0, 0, 0, 0) := by decide +kernel
theorem aX12_begins_69 : i_at mX12_begins.2.2.2.2.2 69 = some (.iastore, 1, 0, 0, 0, 0) := by decide +kernel
theorem aX12_begins_70 : i_at mX12_begins.2.2.2.2.2 70 = some (.iinc 1 1, 3, 0, 0, 0, 0) := by decide +kernel
theorem aX12_begins_73 : i_at mX12_begins.2.2.2.2.2 73 = some (.goto (-30), 3, 43, 0, 0, 0) := by decide +kernel
theorem aX12_begins_76 : i_at mX12_begins.2.2.2.2.2 76 = some (.return_, 1, 0, 0, 0, 0) := by decide +kernel
noncomputable def fX12_begins_L43 (sh : List kd) : Nat → Int32 → St → Option (Unit × St)
  | 0, _, _ => none
  | n12 + 1, x10, s11 => if 6 ≤ x10 then some ((), s11) else if i_ok x10 6 then if i_ok x10 6 then if i_ok x10 6 then (fX12_begins_L43 sh n12 (x10 + 1) (s_A (s_A (s_A s11 4 x10.toNatClampNeg 0) 8 x10.toNatClampNeg 0) 9 x10.toNatClampNeg 0)) else none else none else none
noncomputable def fX12_begins (sh : List kd) (σ : St) : Option (Unit × St) := i_bd (fX12_copies sh σ 12 6) (fun r1 s2 => if i_ok 4 11 then if i_ok 5 11 then if i_ok 6 11 then if i_ok 7 11 then i_jp (s_A (s_A (s_A (s_A s2 1 (4 : Int32).toNatClampNeg 0) 1 (5 : Int32).toNatClampNeg (-1)) 1 (6 : Int32).toNatClampNeg (-1)) 1 (7 : Int32).toNatClampNeg 0) (fun (s8 : St) => fX12_begins_L43 sh i_F 0 s8) else none else none else none else none)
set_option maxRecDepth 20000 in
set_option maxHeartbeats 2000000 in
theorem tX12_begins_L43 {sh : List kd} {τ : St} {r : Unit} (hsh : rmSh sh) : ∀ (n0 : Nat) (x10 : Int32) (s11 : St), fX12_begins_L43 sh n0 x10 s11 = some (r, τ) → g_R sh 1 mX12_begins none τ 43 [.ref 0, .int x10] [] (s11) := by
  intro n0
  induction n0 with
  | zero => intro _ _ hE; cases hE
  | succ n12 ih =>
    intro x10 s11 hE
    unfold fX12_begins_L43 at hE
    refine g_ldin aX12_begins_43 rfl ?_
    refine g_bipush (x := 6) aX12_begins_44 rfl ?_
    by_cases hc63 : 6 ≤ x10
    · rw [if_pos hc63] at hE
      refine g_ic_ge_t aX12_begins_46 hc63 ?_
      obtain ⟨rfl, rfl⟩ := i_some_inj hE
      exact g_vret aX12_begins_76 rfl
    · rw [if_neg hc63] at hE
      refine g_ic_ge_f aX12_begins_46 hc63 ?_
      refine g_ldan aX12_begins_49 rfl ?_
      refine g_getR aX12_begins_50 (sR_0 hsh) rfl ?_
      refine g_ldin aX12_begins_53 rfl ?_
      refine g_iconst (x := 0) aX12_begins_54 rfl ?_
      obtain ⟨h64, hE⟩ := i_ifn hE
      refine g_ist aX12_begins_55 (sR_4 hsh) h64 ?_
      refine g_ldan aX12_begins_56 rfl ?_
      refine g_getR aX12_begins_57 (sR_0 hsh) rfl ?_
      refine g_ldin aX12_begins_60 rfl ?_
      refine g_iconst (x := 0) aX12_begins_61 rfl ?_
      obtain ⟨h65, hE⟩ := i_ifn hE
      refine g_ist aX12_begins_62 (sR_8 hsh) h65 ?_
      refine g_ldan aX12_begins_63 rfl ?_
      refine g_getR aX12_begins_64 (sR_0 hsh) rfl ?_
      refine g_ldin aX12_begins_67 rfl ?_
      refine g_iconst (x := 0) aX12_begins_68 rfl ?_
      obtain ⟨h66, hE⟩ := i_ifn hE
      refine g_ist aX12_begins_69 (sR_9 hsh) h66 ?_
      refine g_iinc (y := 1) (loc2 := [.ref 0, .int (x10 + 1)]) aX12_begins_70 rfl rfl rfl ?_
      refine g_goto aX12_begins_73 ?_
      exact ih _ _ hE
set_option maxRecDepth 20000 in
set_option maxHeartbeats 2000000 in
theorem tX12_begins {sh : List kd} {σ τ : St} {r : Unit} (hsh : rmSh sh) (hE : fX12_begins sh σ = some (r, τ)) : i_X 2 165 [.ref 0] (s_h sh σ) 0 0 none (s_h sh τ) := by
  refine g_X (M := mX12_begins) (loc := [.ref 0, .retAddr 0]) rfl (Nat.le_of_ble_eq_true rfl) rfl ?_
  unfold fX12_begins at hE
  refine g_ldan aX12_begins_0 rfl ?_
  refine g_getR aX12_begins_1 (sR_0 hsh) rfl ?_
  refine g_ldan aX12_begins_4 rfl ?_
  refine g_getR aX12_begins_5 (sR_0 hsh) rfl ?_
  obtain ⟨r1, s2, h3, hE⟩ := i_bd_some hE
  refine g_calS (As := [.ref 12, .ref 6]) (rest := []) aX12_begins_8 (i_X_mono (by omega) (tX12_copies hsh h3)) rfl rfl (Nat.le_of_ble_eq_true rfl) rfl ?_
  refine g_ldan aX12_begins_11 rfl ?_
  refine g_getR aX12_begins_12 (sR_0 hsh) rfl ?_
  refine g_iconst (x := 4) aX12_begins_15 rfl ?_
  refine g_iconst (x := 0) aX12_begins_16 rfl ?_
  obtain ⟨h4, hE⟩ := i_ifn hE
  refine g_ist aX12_begins_17 (sR_1 hsh) h4 ?_
  refine g_ldan aX12_begins_18 rfl ?_
  refine g_getR aX12_begins_19 (sR_0 hsh) rfl ?_
  refine g_iconst (x := 5) aX12_begins_22 rfl ?_
  refine g_iconst (x := (-1)) aX12_begins_23 rfl ?_
  obtain ⟨h5, hE⟩ := i_ifn hE
  refine g_ist aX12_begins_24 (sR_1 hsh) h5 ?_
  refine g_ldan aX12_begins_25 rfl ?_
  refine g_getR aX12_begins_26 (sR_0 hsh) rfl ?_
  refine g_bipush (x := 6) aX12_begins_29 rfl ?_
  refine g_iconst (x := (-1)) aX12_begins_31 rfl ?_
  obtain ⟨h6, hE⟩ := i_ifn hE
  refine g_ist aX12_begins_32 (sR_1 hsh) h6 ?_
  refine g_ldan aX12_begins_33 rfl ?_
  refine g_getR aX12_begins_34 (sR_0 hsh) rfl ?_
  refine g_bipush (x := 7) aX12_begins_37 rfl ?_
  refine g_iconst (x := 0) aX12_begins_39 rfl ?_
  obtain ⟨h7, hE⟩ := i_ifn hE
  refine g_ist aX12_begins_40 (sR_1 hsh) h7 ?_
  obtain ⟨s8, h9, hE⟩ := i_jp_some hE
  rw [← h9]
  refine g_iconst (x := 0) aX12_begins_41 rfl ?_
  refine g_stin (loc2 := [.ref 0, .int 0]) aX12_begins_42 (Nat.le_of_ble_eq_true rfl) rfl ?_
  exact tX12_begins_L43 hsh i_F _ _ hE
theorem aX12_ruleClause_0 : i_at mX12_ruleClause.2.2.2.2.2 0 = some (.aload_n 0, 1, 0, 0, 0, 0) := by decide +kernel
theorem aX12_ruleClause_1 : i_at mX12_ruleClause.2.2.2.2.2 1 = some (.invokevirtual 186, 3, 139, 0, 1275, 0) := by decide +kernel
theorem aX12_ruleClause_4 : i_at mX12_ruleClause.2.2.2.2.2 4 = some (.aload_n 0, 1, 0, 0, 0, 0) := by decide +kernel
theorem aX12_ruleClause_5 : i_at mX12_ruleClause.2.2.2.2.2 5 = some (.getfield 166, 3, 11, 20, 1107, 0) := by decide +kernel
theorem aX12_ruleClause_8 : i_at mX12_ruleClause.2.2.2.2.2 8 = some (.istore_n 2, 1, 0, 0, 0, 0) := by decide +kernel
theorem aX12_ruleClause_9 : i_at mX12_ruleClause.2.2.2.2.2 9 = some (.aload_n 0, 1, 0, 0, 0, 0) := by decide +kernel
theorem aX12_ruleClause_10 : i_at mX12_ruleClause.2.2.2.2.2 10 = some (.ldc_w 308, 3, 1, 12, 0, 0) := by decide +kernel
theorem aX12_ruleClause_13 : i_at mX12_ruleClause.2.2.2.2.2 13 = some (.invokevirtual 189, 3, 141, 1, 1291, 0) := by decide +kernel
theorem aX12_ruleClause_16 : i_at mX12_ruleClause.2.2.2.2.2 16 = some (.ifCond .ne 10, 3, 26, 0, 0, 0) := by decide +kernel
theorem aX12_ruleClause_19 : i_at mX12_ruleClause.2.2.2.2.2 19 = some (.aload_n 0, 1, 0, 0, 0, 0) := by decide +kernel
theorem aX12_ruleClause_20 : i_at mX12_ruleClause.2.2.2.2.2 20 = some (.iconst 0, 1, 0, 0, 0, 0) := by decide +kernel
theorem aX12_ruleClause_21 : i_at mX12_ruleClause.2.2.2.2.2 21 = some (.iload_n 2, 1, 0, 0, 0, 0) := by decide +kernel
theorem aX12_ruleClause_22 : i_at mX12_ruleClause.2.2.2.2.2 22 = some (.invokevirtual 202, 3, 137, 2, 1297, 0) := by decide +kernel
theorem aX12_ruleClause_25 : i_at mX12_ruleClause.2.2.2.2.2 25 = some (.return_, 1, 0, 0, 0, 0) := by decide +kernel
theorem aX12_ruleClause_26 : i_at mX12_ruleClause.2.2.2.2.2 26 = some (.iload_n 1, 1, 0, 0, 0, 0) := by decide +kernel
theorem aX12_ruleClause_27 : i_at mX12_ruleClause.2.2.2.2.2 27 = some (.bipush 12, 2, 0, 0, 0, 0) := by decide +kernel
theorem aX12_ruleClause_29 : i_at mX12_ruleClause.2.2.2.2.2 29 = some (.if_icmp .ne 10, 3, 39, 0, 0, 0) := by decide +kernel
theorem aX12_ruleClause_32 : i_at mX12_ruleClause.2.2.2.2.2 32 = some (.aload_n 0, 1, 0, 0, 0, 0) := by decide +kernel
theorem aX12_ruleClause_33 : i_at mX12_ruleClause.2.2.2.2.2 33 = some (.iconst 4, 1, 0, 0, 0, 0) := by decide +kernel
theorem aX12_ruleClause_34 : i_at mX12_ruleClause.2.2.2.2.2 34 = some (.iload_n 2, 1, 0, 0, 0, 0) := by decide +kernel
theorem aX12_ruleClause_35 : i_at mX12_ruleClause.2.2.2.2.2 35 = some (.invokevirtual 202, 3, 137, 2, 1297, 0) := by decide +kernel
theorem aX12_ruleClause_38 : i_at mX12_ruleClause.2.2.2.2.2 38 = some (.return_, 1, 0, 0, 0, 0) := by decide +kernel
theorem aX12_ruleClause_39 : i_at mX12_ruleClause.2.2.2.2.2 39 = some (.aload_n 0, 1, 0, 0, 0, 0) := by decide +kernel
theorem aX12_ruleClause_40 : i_at mX12_ruleClause.2.2.2.2.2 40 = some (.dup, 1, 0, 0, 0, 0) := by decide +kernel
theorem aX12_ruleClause_41 : i_at mX12_ruleClause.2.2.2.2.2 41 = some (.getfield 166, 3, 11, 20, 1107, 0) := by decide +kernel
theorem aX12_ruleClause_44 : i_at mX12_ruleClause.2.2.2.2.2 44 = some (.iconst 4, 1, 0, 0, 0, 0) := by decide +kernel
theorem aX12_ruleClause_45 : i_at mX12_ruleClause.2.2.2.2.2 45 = some (.iadd, 1, 0, 0, 0, 0) := by decide +kernel
theorem aX12_ruleClause_46 : i_at mX12_ruleClause.2.2.2.2.2 46 = some (.putfield 166, 3, 11, 20, 1107, 0) := by decide +kernel
theorem aX12_ruleClause_49 : i_at mX12_ruleClause.2.2.2.2.2 49 = some (.bipush 12, 2, 0, 0, 0, 0) := by decide +kernel
theorem aX12_ruleClause_51 : i_at mX12_ruleClause.2.2.2.2.2 51 = some (.aload_n 0, 1, 0, 0, 0, 0) := by decide +kernel
theorem aX12_ruleClause_52 : i_at mX12_ruleClause.2.2.2.2.2 52 = some (.getfield 193, 3, 11, 22, 1109, 0) := by decide +kernel
theorem aX12_ruleClause_55 : i_at mX12_ruleClause.2.2.2.2.2 55 = some (.imul, 1, 0, 0, 0, 0) := by decide +kernel
theorem aX12_ruleClause_56 : i_at mX12_ruleClause.2.2.2.2.2 56 = some (.iload_n 1, 1, 0, 0, 0, 0) := by decide +kernel
theorem aX12_ruleClause_57 : i_at mX12_ruleClause.2.2.2.2.2 57 = some (.iadd, 1, 0, 0, 0, 0) := by decide +kernel
theorem aX12_ruleClause_58 : i_at mX12_ruleClause.2.2.2.2.2 58 = some (.istore_n 3, 1, 0, 0, 0, 0) := by decide +kernel
theorem aX12_ruleClause_59 : i_at mX12_ruleClause.2.2.2.2.2 59 = some (.aload_n 0, 1, 0, 0, 0, 0) := by decide +kernel
theorem aX12_ruleClause_60 : i_at mX12_ruleClause.2.2.2.2.2 60 = some (.getfield 81, 3, 11, 33, 1120, 0) := by decide +kernel
theorem aX12_ruleClause_63 : i_at mX12_ruleClause.2.2.2.2.2 63 = some (.iload_n 3, 1, 0, 0, 0, 0) := by decide +kernel
theorem aX12_ruleClause_64 : i_at mX12_ruleClause.2.2.2.2.2 64 = some (.aload_n 0, 1, 0, 0, 0, 0) := by decide +kernel
theorem aX12_ruleClause_65 : i_at mX12_ruleClause.2.2.2.2.2 65 = some (.getfield 196, 3, 11, 24, 1111, 0) := by decide +kernel
theorem aX12_ruleClause_68 : i_at mX12_ruleClause.2.2.2.2.2 68 = some (.iastore, 1, 0, 0, 0, 0) := by decide +kernel
theorem aX12_ruleClause_69 : i_at mX12_ruleClause.2.2.2.2.2 69 = some (.aload_n 0, 1, 0, 0, 0, 0) := by decide +kernel
theorem aX12_ruleClause_70 : i_at mX12_ruleClause.2.2.2.2.2 70 = some (.invokevirtual 231, 3, 148, 0, 1351, 0) := by decide +kernel
theorem aX12_ruleClause_73 : i_at mX12_ruleClause.2.2.2.2.2 73 = some (.aload_n 0, 1, 0, 0, 0, 0) := by decide +kernel
theorem aX12_ruleClause_74 : i_at mX12_ruleClause.2.2.2.2.2 74 = some (.getfield 84, 3, 11, 34, 1121, 0) := by decide +kernel
theorem aX12_ruleClause_77 : i_at mX12_ruleClause.2.2.2.2.2 77 = some (.iload_n 3, 1, 0, 0, 0, 0) := by decide +kernel
theorem aX12_ruleClause_78 : i_at mX12_ruleClause.2.2.2.2.2 78 = some (.aload_n 0, 1, 0, 0, 0, 0) := by decide +kernel
theorem aX12_ruleClause_79 : i_at mX12_ruleClause.2.2.2.2.2 79 = some (.getfield 196, 3, 11, 24, 1111, 0) := by decide +kernel
theorem aX12_ruleClause_82 : i_at mX12_ruleClause.2.2.2.2.2 82 = some (.iastore, 1, 0, 0, 0, 0) := by decide +kernel
theorem aX12_ruleClause_83 : i_at mX12_ruleClause.2.2.2.2.2 83 = some (.aload_n 0, 1, 0, 0, 0, 0) := by decide +kernel
theorem aX12_ruleClause_84 : i_at mX12_ruleClause.2.2.2.2.2 84 = some (.getfield 163, 3, 11, 21, 1108, 0) := by decide +kernel
theorem aX12_ruleClause_87 : i_at mX12_ruleClause.2.2.2.2.2 87 = some (.ifCond .ne 17, 3, 104, 0, 0, 0) := by decide +kernel
theorem aX12_ruleClause_90 : i_at mX12_ruleClause.2.2.2.2.2 90 = some (.aload_n 0, 1, 0, 0, 0, 0) := by decide +kernel
theorem aX12_ruleClause_91 : i_at mX12_ruleClause.2.2.2.2.2 91 = some (.ldc_w 310, 3, 1, 24, 0, 0) := by decide +kernel
theorem aX12_ruleClause_94 : i_at mX12_ruleClause.2.2.2.2.2 94 = some (.invokevirtual 312, 3, 142, 1, 1386, 0) := by decide +kernel
theorem aX12_ruleClause_97 : i_at mX12_ruleClause.2.2.2.2.2 97 = some (.ifCond .eq 7, 3, 104, 0, 0, 0) := by decide +kernel
theorem aX12_ruleClause_100 : i_at mX12_ruleClause.2.2.2.2.2 100 = some (.aload_n 0, 1, 0, 0, 0, 0) := by decide +kernel
theorem aX12_ruleClause_101 : i_at mX12_ruleClause.2.2.2.2.2 101 = some (.invokevirtual 315, 3, 154, 0, 1390, 0) := by decide +kernel
theorem aX12_ruleClause_104 : i_at mX12_ruleClause.2.2.2.2.2 104 = some (.aload_n 0, 1, 0, 0, 0, 0) := by decide +kernel
theorem aX12_ruleClause_105 : i_at mX12_ruleClause.2.2.2.2.2 105 = some (.getfield 87, 3, 11, 35, 1122, 0) := by decide +kernel
theorem aX12_ruleClause_108 : i_at mX12_ruleClause.2.2.2.2.2 108 = some (.iload_n 3, 1, 0, 0, 0, 0) := by decide +kernel
theorem aX12_ruleClause_109 : i_at mX12_ruleClause.2.2.2.2.2 109 = some (.aload_n 0, 1, 0, 0, 0, 0) := by decide +kernel
theorem aX12_ruleClause_110 : i_at mX12_ruleClause.2.2.2.2.2 110 = some (.getfield 196, 3, 11, 24, 1111, 0) := by decide +kernel
theorem aX12_ruleClause_113 : i_at mX12_ruleClause.2.2.2.2.2 113 = some (.iastore, 1, 0, 0, 0, 0) := by decide +kernel
theorem aX12_ruleClause_114 : i_at mX12_ruleClause.2.2.2.2.2 114 = some (.return_, 1, 0, 0, 0, 0) := by decide +kernel
noncomputable def fX12_ruleClause_J104 (sh : List kd) (p1 : Int32) (s2 : St) (s5 : St) (s66 : St) : Option (Unit × St) := if i_ok ((12 * ((s_F s5 0 20 ((s5.1 0 20) + 4)).1 0 22)) + p1) 72 then some ((), s_A s66 25 ((12 * ((s_F s5 0 20 ((s5.1 0 20) + 4)).1 0 22)) + p1).toNatClampNeg (s66.1 0 24)) else none
noncomputable def fX12_ruleClause (sh : List kd) (σ : St) (p1 : Int32) : Option (Unit × St) := i_bd (fX12_blanks sh σ) (fun r1 s2 => i_bd (fX12_stood sh s2 12) (fun r4 s5 => if ¬ r4 = 0 then if ¬ p1 = 12 then if i_ok ((12 * ((s_F s5 0 20 ((s5.1 0 20) + 4)).1 0 22)) + p1) 72 then i_jp (s_A (s_F s5 0 20 ((s5.1 0 20) + 4)) 23 ((12 * ((s_F s5 0 20 ((s5.1 0 20) + 4)).1 0 22)) + p1).toNatClampNeg ((s_F s5 0 20 ((s5.1 0 20) + 4)).1 0 24)) (fun (s10 : St) => i_bd (fX12_sum sh s10) (fun r12 s13 => if i_ok ((12 * ((s_F s5 0 20 ((s5.1 0 20) + 4)).1 0 22)) + p1) 72 then if ¬ ((s_A s13 24 ((12 * ((s_F s5 0 20 ((s5.1 0 20) + 4)).1 0 22)) + p1).toNatClampNeg (s13.1 0 24)).1 0 21) = 0 then fX12_ruleClause_J104 sh p1 s2 s5 (s_A s13 24 ((12 * ((s_F s5 0 20 ((s5.1 0 20) + 4)).1 0 22)) + p1).toNatClampNeg (s13.1 0 24)) else i_bd (fX12_takes sh (s_A s13 24 ((12 * ((s_F s5 0 20 ((s5.1 0 20) + 4)).1 0 22)) + p1).toNatClampNeg (s13.1 0 24)) 24) (fun r69 s70 => if r69 = 0 then fX12_ruleClause_J104 sh p1 s2 s5 s70 else i_bd (fX12_test sh s70) (fun r73 s74 => fX12_ruleClause_J104 sh p1 s2 s5 s74)) else none)) else none else i_bd (fX12_fails sh s5 4 (s2.1 0 20)) (fun r76 s77 => some ((), s77)) else i_bd (fX12_fails sh s5 0 (s2.1 0 20)) (fun r79 s80 => some ((), s80))))
set_option maxRecDepth 20000 in
set_option maxHeartbeats 2000000 in
theorem tX12_ruleClause_J104 {sh : List kd} {τ : St} {r : Unit} (hsh : rmSh sh) {p1 : Int32} {s2 : St} {s5 : St} {s66 : St} (hE : fX12_ruleClause_J104 sh p1 s2 s5 s66 = some (r, τ)) : g_R sh 9 mX12_ruleClause none τ 104 [.ref 0, .int p1, .int (s2.1 0 20), .int ((12 * ((s_F s5 0 20 ((s5.1 0 20) + 4)).1 0 22)) + p1)] [] (s66) := by
  unfold fX12_ruleClause_J104 at hE
  refine g_ldan aX12_ruleClause_104 rfl ?_
  refine g_getR aX12_ruleClause_105 (sR_0 hsh) rfl ?_
  refine g_ldin aX12_ruleClause_108 rfl ?_
  refine g_ldan aX12_ruleClause_109 rfl ?_
  refine g_getI aX12_ruleClause_110 (sR_0 hsh) rfl ?_
  obtain ⟨h67, hE⟩ := i_ifn hE
  refine g_ist aX12_ruleClause_113 (sR_25 hsh) h67 ?_
  obtain ⟨rfl, rfl⟩ := i_some_inj hE
  exact g_vret aX12_ruleClause_114 rfl
set_option maxRecDepth 20000 in
set_option maxHeartbeats 2000000 in
theorem tX12_ruleClause {sh : List kd} {σ τ : St} {r : Unit} (hsh : rmSh sh) {p1 : Int32} (hE : fX12_ruleClause sh σ p1 = some (r, τ)) : i_X 10 167 [.ref 0, .int p1] (s_h sh σ) 0 0 none (s_h sh τ) := by
  refine g_X (M := mX12_ruleClause) (loc := [.ref 0, .int p1, .retAddr 0, .retAddr 0]) rfl (Nat.le_of_ble_eq_true rfl) rfl ?_
  unfold fX12_ruleClause at hE
  refine g_ldan aX12_ruleClause_0 rfl ?_
  obtain ⟨r1, s2, h3, hE⟩ := i_bd_some hE
  refine g_calV (As := []) (rest := []) aX12_ruleClause_1 (i_X_mono (by omega) (tX12_blanks hsh h3)) (sR_0 hsh) (by decide +kernel) rfl rfl (Nat.le_of_ble_eq_true rfl) rfl ?_
  refine g_ldan aX12_ruleClause_4 rfl ?_
  refine g_getI aX12_ruleClause_5 (sR_0 hsh) rfl ?_
  refine g_stin (loc2 := [.ref 0, .int p1, .int (s2.1 0 20), .retAddr 0]) aX12_ruleClause_8 (Nat.le_of_ble_eq_true rfl) rfl ?_
  refine g_ldan aX12_ruleClause_9 rfl ?_
  refine g_ldcwS aX12_ruleClause_10 rfl ?_
  obtain ⟨r4, s5, h6, hE⟩ := i_bd_some hE
  refine g_calV (As := [.ref (i_SB + 12)]) (rest := []) aX12_ruleClause_13 (i_X_mono (by omega) (tX12_stood hsh h6)) (sR_0 hsh) (by decide +kernel) rfl rfl (Nat.le_of_ble_eq_true rfl) rfl ?_
  by_cases hc7 : ¬ r4 = 0
  · rw [if_pos hc7] at hE
    refine g_if_ne_t aX12_ruleClause_16 hc7 ?_
    refine g_ldin aX12_ruleClause_26 rfl ?_
    refine g_bipush (x := 12) aX12_ruleClause_27 rfl ?_
    by_cases hc8 : ¬ p1 = 12
    · rw [if_pos hc8] at hE
      refine g_ic_ne_t aX12_ruleClause_29 hc8 ?_
      refine g_ldan aX12_ruleClause_39 rfl ?_
      refine g_dupa aX12_ruleClause_40 ?_
      refine g_getI aX12_ruleClause_41 (sR_0 hsh) rfl ?_
      refine g_iconst (x := 4) aX12_ruleClause_44 rfl ?_
      refine g_iadd aX12_ruleClause_45 ?_
      refine g_putI aX12_ruleClause_46 (sR_0 hsh) rfl rfl ?_
      refine g_bipush (x := 12) aX12_ruleClause_49 rfl ?_
      refine g_ldan aX12_ruleClause_51 rfl ?_
      refine g_getI aX12_ruleClause_52 (sR_0 hsh) rfl ?_
      refine g_imul aX12_ruleClause_55 ?_
      refine g_ldin aX12_ruleClause_56 rfl ?_
      refine g_iadd aX12_ruleClause_57 ?_
      refine g_stin (loc2 := [.ref 0, .int p1, .int (s2.1 0 20), .int ((12 * ((s_F s5 0 20 ((s5.1 0 20) + 4)).1 0 22)) + p1)]) aX12_ruleClause_58 (Nat.le_of_ble_eq_true rfl) rfl ?_
      refine g_ldan aX12_ruleClause_59 rfl ?_
      refine g_getR aX12_ruleClause_60 (sR_0 hsh) rfl ?_
      refine g_ldin aX12_ruleClause_63 rfl ?_
      refine g_ldan aX12_ruleClause_64 rfl ?_
      refine g_getI aX12_ruleClause_65 (sR_0 hsh) rfl ?_
      obtain ⟨h9, hE⟩ := i_ifn hE
      refine g_ist aX12_ruleClause_68 (sR_23 hsh) h9 ?_
      obtain ⟨s10, h11, hE⟩ := i_jp_some hE
      rw [← h11]
      refine g_ldan aX12_ruleClause_69 rfl ?_
      obtain ⟨r12, s13, h14, hE⟩ := i_bd_some hE
      refine g_calV (As := []) (rest := []) aX12_ruleClause_70 (i_X_mono (by omega) (tX12_sum hsh h14)) (sR_0 hsh) (by decide +kernel) rfl rfl (Nat.le_of_ble_eq_true rfl) rfl ?_
      refine g_ldan aX12_ruleClause_73 rfl ?_
      refine g_getR aX12_ruleClause_74 (sR_0 hsh) rfl ?_
      refine g_ldin aX12_ruleClause_77 rfl ?_
      refine g_ldan aX12_ruleClause_78 rfl ?_
      refine g_getI aX12_ruleClause_79 (sR_0 hsh) rfl ?_
      obtain ⟨h15, hE⟩ := i_ifn hE
      refine g_ist aX12_ruleClause_82 (sR_24 hsh) h15 ?_
      refine g_ldan aX12_ruleClause_83 rfl ?_
      refine g_getI aX12_ruleClause_84 (sR_0 hsh) rfl ?_
      by_cases hc68 : ¬ ((s_A s13 24 ((12 * ((s_F s5 0 20 ((s5.1 0 20) + 4)).1 0 22)) + p1).toNatClampNeg (s13.1 0 24)).1 0 21) = 0
      · rw [if_pos hc68] at hE
        refine g_if_ne_t aX12_ruleClause_87 hc68 ?_
        exact tX12_ruleClause_J104 hsh hE
      · rw [if_neg hc68] at hE
        refine g_if_ne_f aX12_ruleClause_87 hc68 ?_
        refine g_ldan aX12_ruleClause_90 rfl ?_
        refine g_ldcwS aX12_ruleClause_91 rfl ?_
        obtain ⟨r69, s70, h71, hE⟩ := i_bd_some hE
        refine g_calV (As := [.ref (i_SB + 24)]) (rest := []) aX12_ruleClause_94 (i_X_mono (by omega) (tX12_takes hsh h71)) (sR_0 hsh) (by decide +kernel) rfl rfl (Nat.le_of_ble_eq_true rfl) rfl ?_
        by_cases hc72 : r69 = 0
        · rw [if_pos hc72] at hE
          refine g_if_eq_t aX12_ruleClause_97 hc72 ?_
          exact tX12_ruleClause_J104 hsh hE
        · rw [if_neg hc72] at hE
          refine g_if_eq_f aX12_ruleClause_97 hc72 ?_
          refine g_ldan aX12_ruleClause_100 rfl ?_
          obtain ⟨r73, s74, h75, hE⟩ := i_bd_some hE
          refine g_calV (As := []) (rest := []) aX12_ruleClause_101 (i_X_mono (by omega) (tX12_test hsh h75)) (sR_0 hsh) (by decide +kernel) rfl rfl (Nat.le_of_ble_eq_true rfl) rfl ?_
          exact tX12_ruleClause_J104 hsh hE
    · rw [if_neg hc8] at hE
      refine g_ic_ne_f aX12_ruleClause_29 hc8 ?_
      refine g_ldan aX12_ruleClause_32 rfl ?_
      refine g_iconst (x := 4) aX12_ruleClause_33 rfl ?_
      refine g_ldin aX12_ruleClause_34 rfl ?_
      obtain ⟨r76, s77, h78, hE⟩ := i_bd_some hE
      refine g_calV (As := [.int 4, .int (s2.1 0 20)]) (rest := []) aX12_ruleClause_35 (i_X_mono (by omega) (tX12_fails hsh h78)) (sR_0 hsh) (by decide +kernel) rfl rfl (Nat.le_of_ble_eq_true rfl) rfl ?_
      obtain ⟨rfl, rfl⟩ := i_some_inj hE
      exact g_vret aX12_ruleClause_38 rfl
  · rw [if_neg hc7] at hE
    refine g_if_ne_f aX12_ruleClause_16 hc7 ?_
    refine g_ldan aX12_ruleClause_19 rfl ?_
    refine g_iconst (x := 0) aX12_ruleClause_20 rfl ?_
    refine g_ldin aX12_ruleClause_21 rfl ?_
    obtain ⟨r79, s80, h81, hE⟩ := i_bd_some hE
    refine g_calV (As := [.int 0, .int (s2.1 0 20)]) (rest := []) aX12_ruleClause_22 (i_X_mono (by omega) (tX12_fails hsh h81)) (sR_0 hsh) (by decide +kernel) rfl rfl (Nat.le_of_ble_eq_true rfl) rfl ?_
    obtain ⟨rfl, rfl⟩ := i_some_inj hE
    exact g_vret aX12_ruleClause_25 rfl
