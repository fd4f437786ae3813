/-! X5_leastDeed X5_isSpared X5_bestTray X5_timesHeld X5_neverHeld X5_playAllTwos X5_drawnYears -/
theorem aX5_leastDeed_0 : i_at mX5_leastDeed.2.2.2.2.2 0 = some (.bipush (-2), 2, 0, 0, 0, 0) := by decide +kernel
theorem aX5_leastDeed_2 : i_at mX5_leastDeed.2.2.2.2.2 2 = some (.istore 4, 2, 0, 0, 0, 0) := by decide +kernel
theorem aX5_leastDeed_4 : i_at mX5_leastDeed.2.2.2.2.2 4 = some (.iconst 0, 1, 0, 0, 0, 0) := by decide +kernel
theorem aX5_leastDeed_5 : i_at mX5_leastDeed.2.2.2.2.2 5 = some (.istore 5, 2, 0, 0, 0, 0) := by decide +kernel
theorem aX5_leastDeed_7 : i_at mX5_leastDeed.2.2.2.2.2 7 = some (.iload 5, 2, 0, 0, 0, 0) := by decide +kernel
theorem aX5_leastDeed_9 : i_at mX5_leastDeed.2.2.2.2.2 9 = some (.sipush 200, 3, 0, 0, 0, 0) := by decide +kernel
theorem aX5_leastDeed_12 : i_at mX5_leastDeed.2.2.2.2.2 12 = some (.if_icmp .gt 172, 3, 184, 0, 0, 0) := by decide +kernel
theorem aX5_leastDeed_15 : i_at mX5_leastDeed.2.2.2.2.2 15 = some (.aload_n 0, 1, 0, 0, 0, 0) := by decide +kernel
theorem aX5_leastDeed_16 : i_at mX5_leastDeed.2.2.2.2.2 16 = some (.invokevirtual 59, 3, 33, 0, 887, 0) := by decide +kernel
theorem aX5_leastDeed_19 : i_at mX5_leastDeed.2.2.2.2.2 19 = some (.aload_n 0, 1, 0, 0, 0, 0) := by decide +kernel
theorem aX5_leastDeed_20 : i_at mX5_leastDeed.2.2.2.2.2 20 = some (.getfield 12, 3, 4, 2, 402, 0) := by decide +kernel
theorem aX5_leastDeed_23 : i_at mX5_leastDeed.2.2.2.2.2 23 = some (.iload_n 1, 1, 0, 0, 0, 0) := by decide +kernel
theorem aX5_leastDeed_24 : i_at mX5_leastDeed.2.2.2.2.2 24 = some (.iload 5, 2, 0, 0, 0, 0) := by decide +kernel
theorem aX5_leastDeed_26 : i_at mX5_leastDeed.2.2.2.2.2 26 = some (.invokevirtual 81, 3, 28, 2, 914, 0) := by decide +kernel
theorem aX5_leastDeed_29 : i_at mX5_leastDeed.2.2.2.2.2 29 = some (.aload_n 0, 1, 0, 0, 0, 0) := by decide +kernel
theorem aX5_leastDeed_30 : i_at mX5_leastDeed.2.2.2.2.2 30 = some (.getfield 32, 3, 4, 1, 401, 0) := by decide +kernel
theorem aX5_leastDeed_33 : i_at mX5_leastDeed.2.2.2.2.2 33 = some (.aload_n 0, 1, 0, 0, 0, 0) := by decide +kernel
theorem aX5_leastDeed_34 : i_at mX5_leastDeed.2.2.2.2.2 34 = some (.getfield 12, 3, 4, 2, 402, 0) := by decide +kernel
theorem aX5_leastDeed_37 : i_at mX5_leastDeed.2.2.2.2.2 37 = some (.aload_n 0, 1, 0, 0, 0, 0) := by decide +kernel
theorem aX5_leastDeed_38 : i_at mX5_leastDeed.2.2.2.2.2 38 = some (.getfield 28, 3, 4, 0, 400, 0) := by decide +kernel
theorem aX5_leastDeed_41 : i_at mX5_leastDeed.2.2.2.2.2 41 = some (.getfield 45, 3, 9, 0, 346, 0) := by decide +kernel
theorem aX5_leastDeed_44 : i_at mX5_leastDeed.2.2.2.2.2 44 = some (.aload_n 0, 1, 0, 0, 0, 0) := by decide +kernel
theorem aX5_leastDeed_45 : i_at mX5_leastDeed.2.2.2.2.2 45 = some (.getfield 28, 3, 4, 0, 400, 0) := by decide +kernel
theorem aX5_leastDeed_48 : i_at mX5_leastDeed.2.2.2.2.2 48 = some (.getfield 49, 3, 9, 8, 366, 0) := by decide +kernel
theorem aX5_leastDeed_51 : i_at mX5_leastDeed.2.2.2.2.2 51 = some (.invokevirtual 53, 3, 2, 3, 896, 0) := by decide +kernel
theorem aX5_leastDeed_54 : i_at mX5_leastDeed.2.2.2.2.2 54 = some (.istore 6, 2, 0, 0, 0, 0) := by decide +kernel
theorem aX5_leastDeed_56 : i_at mX5_leastDeed.2.2.2.2.2 56 = some (.iload 6, 2, 0, 0, 0, 0) := by decide +kernel
theorem aX5_leastDeed_58 : i_at mX5_leastDeed.2.2.2.2.2 58 = some (.iload_n 1, 1, 0, 0, 0, 0) := by decide +kernel
theorem aX5_leastDeed_59 : i_at mX5_leastDeed.2.2.2.2.2 59 = some (.ishr, 1, 0, 0, 0, 0) := by decide +kernel
theorem aX5_leastDeed_60 : i_at mX5_leastDeed.2.2.2.2.2 60 = some (.iconst 1, 1, 0, 0, 0, 0) := by decide +kernel
theorem aX5_leastDeed_61 : i_at mX5_leastDeed.2.2.2.2.2 61 = some (.iand, 1, 0, 0, 0, 0) := by decide +kernel
theorem aX5_leastDeed_62 : i_at mX5_leastDeed.2.2.2.2.2 62 = some (.ifCond .eq 7, 3, 69, 0, 0, 0) := by decide +kernel
theorem aX5_leastDeed_65 : i_at mX5_leastDeed.2.2.2.2.2 65 = some (.iconst 1, 1, 0, 0, 0, 0) := by decide +kernel
theorem aX5_leastDeed_66 : i_at mX5_leastDeed.2.2.2.2.2 66 = some (.goto 4, 3, 70, 0, 0, 0) := by decide +kernel
theorem aX5_leastDeed_69 : i_at mX5_leastDeed.2.2.2.2.2 69 = some (.iconst 0, 1, 0, 0, 0, 0) := by decide +kernel
theorem aX5_leastDeed_70 : i_at mX5_leastDeed.2.2.2.2.2 70 = some (.istore 7, 2, 0, 0, 0, 0) := by decide +kernel
theorem aX5_leastDeed_72 : i_at mX5_leastDeed.2.2.2.2.2 72 = some (.aload_n 0, 1, 0, 0, 0, 0) := by decide +kernel
theorem aX5_leastDeed_73 : i_at mX5_leastDeed.2.2.2.2.2 73 = some (.getfield 12, 3, 4, 2, 402, 0) := by decide +kernel
theorem aX5_leastDeed_76 : i_at mX5_leastDeed.2.2.2.2.2 76 = some (.getfield 78, 3, 3, 1, 299, 0) := by decide +kernel
theorem aX5_leastDeed_79 : i_at mX5_leastDeed.2.2.2.2.2 79 = some (.istore 8, 2, 0, 0, 0, 0) := by decide +kernel
theorem aX5_leastDeed_81 : i_at mX5_leastDeed.2.2.2.2.2 81 = some (.iload 7, 2, 0, 0, 0, 0) := by decide +kernel
theorem aX5_leastDeed_83 : i_at mX5_leastDeed.2.2.2.2.2 83 = some (.ifCond .eq 13, 3, 96, 0, 0, 0) := by decide +kernel
theorem aX5_leastDeed_86 : i_at mX5_leastDeed.2.2.2.2.2 86 = some (.iload 8, 2, 0, 0, 0, 0) := by decide +kernel
theorem aX5_leastDeed_88 : i_at mX5_leastDeed.2.2.2.2.2 88 = some (.iload 4, 2, 0, 0, 0, 0) := by decide +kernel
theorem aX5_leastDeed_90 : i_at mX5_leastDeed.2.2.2.2.2 90 = some (.if_icmp .ne 6, 3, 96, 0, 0, 0) := by decide +kernel
theorem aX5_leastDeed_93 : i_at mX5_leastDeed.2.2.2.2.2 93 = some (.goto 85, 3, 178, 0, 0, 0) := by decide +kernel
theorem aX5_leastDeed_96 : i_at mX5_leastDeed.2.2.2.2.2 96 = some (.iconst 1, 1, 0, 0, 0, 0) := by decide +kernel
theorem aX5_leastDeed_97 : i_at mX5_leastDeed.2.2.2.2.2 97 = some (.istore 9, 2, 0, 0, 0, 0) := by decide +kernel
theorem aX5_leastDeed_99 : i_at mX5_leastDeed.2.2.2.2.2 99 = some (.iload 9, 2, 0, 0, 0, 0) := by decide +kernel
theorem aX5_leastDeed_101 : i_at mX5_leastDeed.2.2.2.2.2 101 = some (.iload_n 3, 1, 0, 0, 0, 0) := by decide +kernel
theorem aX5_leastDeed_102 : i_at mX5_leastDeed.2.2.2.2.2 102 = some (.if_icmp .ge 47, 3, 149, 0, 0, 0) := by decide +kernel
theorem aX5_leastDeed_105 : i_at mX5_leastDeed.2.2.2.2.2 105 = some (.aload_n 0, 1, 0, 0, 0, 0) := by decide +kernel
theorem aX5_leastDeed_106 : i_at mX5_leastDeed.2.2.2.2.2 106 = some (.getfield 12, 3, 4, 2, 402, 0) := by decide +kernel
theorem aX5_leastDeed_109 : i_at mX5_leastDeed.2.2.2.2.2 109 = some (.iload_n 1, 1, 0, 0, 0, 0) := by decide +kernel
theorem aX5_leastDeed_110 : i_at mX5_leastDeed.2.2.2.2.2 110 = some (.iload_n 2, 1, 0, 0, 0, 0) := by decide +kernel
theorem aX5_leastDeed_111 : i_at mX5_leastDeed.2.2.2.2.2 111 = some (.invokevirtual 85, 3, 29, 2, 915, 0) := by decide +kernel
theorem aX5_leastDeed_114 : i_at mX5_leastDeed.2.2.2.2.2 114 = some (.ifCond .ne 35, 3, 149, 0, 0, 0) := by decide +kernel
theorem aX5_leastDeed_117 : i_at mX5_leastDeed.2.2.2.2.2 117 = some (.aload_n 0, 1, 0, 0, 0, 0) := by decide +kernel
theorem aX5_leastDeed_118 : i_at mX5_leastDeed.2.2.2.2.2 118 = some (.getfield 32, 3, 4, 1, 401, 0) := by decide +kernel
theorem aX5_leastDeed_121 : i_at mX5_leastDeed.2.2.2.2.2 121 = some (.aload_n 0, 1, 0, 0, 0, 0) := by decide +kernel
theorem aX5_leastDeed_122 : i_at mX5_leastDeed.2.2.2.2.2 122 = some (.getfield 12, 3, 4, 2, 402, 0) := by decide +kernel
theorem aX5_leastDeed_125 : i_at mX5_leastDeed.2.2.2.2.2 125 = some (.aload_n 0, 1, 0, 0, 0, 0) := by decide +kernel
theorem aX5_leastDeed_126 : i_at mX5_leastDeed.2.2.2.2.2 126 = some (.getfield 28, 3, 4, 0, 400, 0) := by decide +kernel
theorem aX5_leastDeed_129 : i_at mX5_leastDeed.2.2.2.2.2 129 = some (.getfield 45, 3, 9, 0, 346, 0) := by decide +kernel
theorem aX5_leastDeed_132 : i_at mX5_leastDeed.2.2.2.2.2 132 = some (.aload_n 0, 1, 0, 0, 0, 0) := by decide +kernel
theorem aX5_leastDeed_133 : i_at mX5_leastDeed.2.2.2.2.2 133 = some (.getfield 28, 3, 4, 0, 400, 0) := by decide +kernel
theorem aX5_leastDeed_136 : i_at mX5_leastDeed.2.2.2.2.2 136 = some (.getfield 49, 3, 9, 8, 366, 0) := by decide +kernel
theorem aX5_leastDeed_139 : i_at mX5_leastDeed.2.2.2.2.2 139 = some (.invokevirtual 53, 3, 2, 3, 896, 0) := by decide +kernel
theorem aX5_leastDeed_142 : i_at mX5_leastDeed.2.2.2.2.2 142 = some (.pop, 1, 0, 0, 0, 0) := by decide +kernel
theorem aX5_leastDeed_143 : i_at mX5_leastDeed.2.2.2.2.2 143 = some (.iinc 9 1, 3, 0, 0, 0, 0) := by decide +kernel
theorem aX5_leastDeed_146 : i_at mX5_leastDeed.2.2.2.2.2 146 = some (.goto (-47), 3, 99, 0, 0, 0) := by decide +kernel
theorem aX5_leastDeed_149 : i_at mX5_leastDeed.2.2.2.2.2 149 = some (.aload_n 0, 1, 0, 0, 0, 0) := by decide +kernel
theorem aX5_leastDeed_150 : i_at mX5_leastDeed.2.2.2.2.2 150 = some (.getfield 12, 3, 4, 2, 402, 0) := by decide +kernel
theorem aX5_leastDeed_153 : i_at mX5_leastDeed.2.2.2.2.2 153 = some (.iload_n 1, 1, 0, 0, 0, 0) := by decide +kernel
theorem aX5_leastDeed_154 : i_at mX5_leastDeed.2.2.2.2.2 154 = some (.iload_n 2, 1, 0, 0, 0, 0) := by decide +kernel
theorem aX5_leastDeed_155 : i_at mX5_leastDeed.2.2.2.2.2 155 = some (.invokevirtual 85, 3, 29, 2, 915, 0) := by decide +kernel
theorem aX5_leastDeed_158 : i_at mX5_leastDeed.2.2.2.2.2 158 = some (.ifCond .eq 6, 3, 164, 0, 0, 0) := by decide +kernel
theorem aX5_leastDeed_161 : i_at mX5_leastDeed.2.2.2.2.2 161 = some (.iload 5, 2, 0, 0, 0, 0) := by decide +kernel
theorem aX5_leastDeed_163 : i_at mX5_leastDeed.2.2.2.2.2 163 = some (.ireturn, 1, 0, 0, 0, 0) := by decide +kernel
theorem aX5_leastDeed_164 : i_at mX5_leastDeed.2.2.2.2.2 164 = some (.iload 7, 2, 0, 0, 0, 0) := by decide +kernel
theorem aX5_leastDeed_166 : i_at mX5_leastDeed.2.2.2.2.2 166 = some (.ifCond .eq 8, 3, 174, 0, 0, 0) := by decide +kernel
theorem aX5_leastDeed_169 : i_at mX5_leastDeed.2.2.2.2.2 169 = some (.iload 8, 2, 0, 0, 0, 0) := by decide +kernel
theorem aX5_leastDeed_171 : i_at mX5_leastDeed.2.2.2.2.2 171 = some (.goto 5, 3, 176, 0, 0, 0) := by decide +kernel
theorem aX5_leastDeed_174 : i_at mX5_leastDeed.2.2.2.2.2 174 = some (.iload 4, 2, 0, 0, 0, 0) := by decide +kernel
theorem aX5_leastDeed_176 : i_at mX5_leastDeed.2.2.2.2.2 176 = some (.istore 4, 2, 0, 0, 0, 0) := by decide +kernel
theorem aX5_leastDeed_178 : i_at mX5_leastDeed.2.2.2.2.2 178 = some (.iinc 5 1, 3, 0, 0, 0, 0) := by decide +kernel
theorem aX5_leastDeed_181 : i_at mX5_leastDeed.2.2.2.2.2 181 = some (.goto (-174), 3, 7, 0, 0, 0) := by decide +kernel
theorem aX5_leastDeed_184 : i_at mX5_leastDeed.2.2.2.2.2 184 = some (.bipush (-2), 2, 0, 0, 0, 0) := by decide +kernel
theorem aX5_leastDeed_186 : i_at mX5_leastDeed.2.2.2.2.2 186 = some (.ireturn, 1, 0, 0, 0, 0) := by decide +kernel
noncomputable def fX5_leastDeed_L99 (sh : List kd) (p1 : Int32) (p2 : Int32) (p3 : Int32) (x1 : Int32) (x2 : Int32) (r16 : Int32) (s17 : St) (k149 : Int32 → St → Option (Int32 × St)) : Nat → Int32 → St → Option (Int32 × St)
  | 0, _, _ => none
  | n74 + 1, x20, s21 => if p3 ≤ x20 then k149 x20 s21 else i_bd (fX4_hasTitle sh s21 135 p1 p2) (fun r76 s77 => if ¬ r76 = 0 then k149 x20 s77 else i_bd (fX0_pass sh s77 135 20 (s77.1 19 8)) (fun r80 s81 => (fX5_leastDeed_L99 sh p1 p2 p3 x1 x2 r16 s17 k149 n74 (x20 + 1) s81)))
noncomputable def fX5_leastDeed_X149 (sh : List kd) (p1 : Int32) (p2 : Int32) (p3 : Int32) (x1 : Int32) (x2 : Int32) (r16 : Int32) (s17 : St) (k7 : Int32 → Int32 → Value → Value → Value → Value → St → Option (Int32 × St)) (x72 : Int32) (s73 : St) : Option (Int32 × St) := i_bd (fX4_hasTitle sh s73 135 p1 p2) (fun r83 s84 => if r83 = 0 then k7 ((if ((if ((r16 >>> (p1 &&& 31)) &&& 1) = 0 then 0 else 1) : Int32) = 0 then x1 else (s17.1 135 1)) : Int32) (x2 + 1) (.int r16) (.int ((if ((r16 >>> (p1 &&& 31)) &&& 1) = 0 then 0 else 1) : Int32)) (.int (s17.1 135 1)) (.int x72) s84 else some (x2, s84))
noncomputable def fX5_leastDeed_L99_90 (sh : List kd) (p1 : Int32) (p2 : Int32) (p3 : Int32) (x1 : Int32) (x2 : Int32) (r16 : Int32) (s17 : St) (k149 : Int32 → St → Option (Int32 × St)) : Nat → Int32 → St → Option (Int32 × St)
  | 0, _, _ => none
  | n143 + 1, x89, s90 => if p3 ≤ x89 then k149 x89 s90 else i_bd (fX4_hasTitle sh s90 135 p1 p2) (fun r145 s146 => if ¬ r145 = 0 then k149 x89 s146 else i_bd (fX0_pass sh s146 135 20 (s146.1 19 8)) (fun r149 s150 => (fX5_leastDeed_L99_90 sh p1 p2 p3 x1 x2 r16 s17 k149 n143 (x89 + 1) s150)))
noncomputable def fX5_leastDeed_X149_151 (sh : List kd) (p1 : Int32) (p2 : Int32) (p3 : Int32) (x1 : Int32) (x2 : Int32) (r16 : Int32) (s17 : St) (k7 : Int32 → Int32 → Value → Value → Value → Value → St → Option (Int32 × St)) (x141 : Int32) (s142 : St) : Option (Int32 × St) := i_bd (fX4_hasTitle sh s142 135 p1 p2) (fun r152 s153 => if r152 = 0 then k7 ((if ((if ((r16 >>> (p1 &&& 31)) &&& 1) = 0 then 0 else 1) : Int32) = 0 then x1 else (s17.1 135 1)) : Int32) (x2 + 1) (.int r16) (.int ((if ((r16 >>> (p1 &&& 31)) &&& 1) = 0 then 0 else 1) : Int32)) (.int (s17.1 135 1)) (.int x141) s153 else some (x2, s153))
noncomputable def fX5_leastDeed_L7 (sh : List kd) (p1 : Int32) (p2 : Int32) (p3 : Int32) : Nat → Int32 → Int32 → Value → Value → Value → Value → St → Option (Int32 × St)
  | 0, _, _, _, _, _, _, _ => none
  | n8 + 1, x1, x2, x3, x4, x5, x6, s7 => if 200 < x2 then some ((-2), s7) else i_bd (fX5_begin sh s7) (fun r10 s11 => i_bd (fX4_thank sh s11 135 p1 x2) (fun r13 s14 => i_bd (fX0_pass sh s14 135 20 (s14.1 19 8)) (fun r16 s17 => if ((if ((r16 >>> (p1 &&& 31)) &&& 1) = 0 then 0 else 1) : Int32) = 0 then fX5_leastDeed_L99 sh p1 p2 p3 x1 x2 r16 s17 (fun (x72 : Int32) (s73 : St) => fX5_leastDeed_X149 sh p1 p2 p3 x1 x2 r16 s17 (fX5_leastDeed_L7 sh p1 p2 p3 n8) x72 s73) i_F 1 s17 else if ¬ (s17.1 135 1) = x1 then fX5_leastDeed_L99_90 sh p1 p2 p3 x1 x2 r16 s17 (fun (x141 : Int32) (s142 : St) => fX5_leastDeed_X149_151 sh p1 p2 p3 x1 x2 r16 s17 (fX5_leastDeed_L7 sh p1 p2 p3 n8) x141 s142) i_F 1 s17 else (fX5_leastDeed_L7 sh p1 p2 p3 n8 x1 (x2 + 1) (.int r16) (.int ((if ((r16 >>> (p1 &&& 31)) &&& 1) = 0 then 0 else 1) : Int32)) (.int (s17.1 135 1)) x6 s17))))
noncomputable def fX5_leastDeed (sh : List kd) (σ : St) (p1 : Int32) (p2 : Int32) (p3 : Int32) : Option (Int32 × St) := fX5_leastDeed_L7 sh p1 p2 p3 i_F (-2) 0 (.retAddr 0) (.retAddr 0) (.retAddr 0) (.retAddr 0) σ
set_option maxRecDepth 20000 in
set_option maxHeartbeats 2000000 in
theorem tX5_leastDeed_L99 {sh : List kd} {τ : St} {r : Int32} (hsh : cSh sh) {p1 : Int32} {p2 : Int32} {p3 : Int32} {x1 : Int32} {x2 : Int32} {r16 : Int32} {s17 : St} {k149 : Int32 → St → Option (Int32 × St)} (hk149 : ∀ (x72 : Int32) (s73 : St), k149 x72 s73 = some (r, τ) → g_R sh 5 mX5_leastDeed (some (.int r)) τ 149 [.ref 134, .int p1, .int p2, .int p3, .int x1, .int x2, .int r16, .int ((if ((r16 >>> (p1 &&& 31)) &&& 1) = 0 then 0 else 1) : Int32), .int (s17.1 135 1), .int x72] [] (s73)) : ∀ (n0 : Nat) (x20 : Int32) (s21 : St), fX5_leastDeed_L99 sh p1 p2 p3 x1 x2 r16 s17 k149 n0 x20 s21 = some (r, τ) → g_R sh 5 mX5_leastDeed (some (.int r)) τ 99 [.ref 134, .int p1, .int p2, .int p3, .int x1, .int x2, .int r16, .int ((if ((r16 >>> (p1 &&& 31)) &&& 1) = 0 then 0 else 1) : Int32), .int (s17.1 135 1), .int x20] [] (s21) := by
  intro n0
  induction n0 with
  | zero => intro _ _ hE; cases hE
  | succ n74 ih =>
    intro x20 s21 hE
    unfold fX5_leastDeed_L99 at hE
    refine g_ldi aX5_leastDeed_99 rfl ?_
    refine g_ldin aX5_leastDeed_101 rfl ?_
    by_cases hc75 : p3 ≤ x20
    · rw [if_pos hc75] at hE
      refine g_ic_ge_t aX5_leastDeed_102 hc75 ?_
      exact hk149 _ _ hE
    · rw [if_neg hc75] at hE
      refine g_ic_ge_f aX5_leastDeed_102 hc75 ?_
      refine g_ldan aX5_leastDeed_105 rfl ?_
      refine g_getR aX5_leastDeed_106 (sC_134 hsh) rfl ?_
      refine g_ldin aX5_leastDeed_109 rfl ?_
      refine g_ldin aX5_leastDeed_110 rfl ?_
      obtain ⟨r76, s77, h78, hE⟩ := i_bd_some hE
      refine g_calV (As := [.int p1, .int p2]) (rest := []) aX5_leastDeed_111 (i_X_mono (by omega) (tX4_hasTitle hsh (lShB_135 hsh) h78)) ((lShB_135 hsh).1) (by decide +kernel) rfl rfl (Nat.le_of_ble_eq_true rfl) rfl ?_
      by_cases hc79 : ¬ r76 = 0
      · rw [if_pos hc79] at hE
        refine g_if_ne_t aX5_leastDeed_114 hc79 ?_
        exact hk149 _ _ hE
      · rw [if_neg hc79] at hE
        refine g_if_ne_f aX5_leastDeed_114 hc79 ?_
        refine g_ldan aX5_leastDeed_117 rfl ?_
        refine g_getR aX5_leastDeed_118 (sC_134 hsh) rfl ?_
        refine g_ldan aX5_leastDeed_121 rfl ?_
        refine g_getR aX5_leastDeed_122 (sC_134 hsh) rfl ?_
        refine g_ldan aX5_leastDeed_125 rfl ?_
        refine g_getR aX5_leastDeed_126 (sC_134 hsh) rfl ?_
        refine g_getR aX5_leastDeed_129 ((wShB_19 hsh).1) rfl ?_
        refine g_ldan aX5_leastDeed_132 rfl ?_
        refine g_getR aX5_leastDeed_133 (sC_134 hsh) rfl ?_
        refine g_getI aX5_leastDeed_136 ((wShB_19 hsh).1) rfl ?_
        obtain ⟨r80, s81, h82, hE⟩ := i_bd_some hE
        refine g_calV (As := [.ref 135, .ref 20, .int (s77.1 19 8)]) (rest := []) aX5_leastDeed_139 (i_X_mono (by omega) (tX0_pass hsh (lShB_135 hsh) (rShB_20 hsh) h82)) (sC_16 hsh) (by decide +kernel) rfl rfl (Nat.le_of_ble_eq_true rfl) rfl ?_
        refine g_popi aX5_leastDeed_142 ?_
        refine g_iinc (y := 1) (loc2 := [.ref 134, .int p1, .int p2, .int p3, .int x1, .int x2, .int r16, .int ((if ((r16 >>> (p1 &&& 31)) &&& 1) = 0 then 0 else 1) : Int32), .int (s17.1 135 1), .int (x20 + 1)]) aX5_leastDeed_143 rfl rfl rfl ?_
        refine g_goto aX5_leastDeed_146 ?_
        exact ih _ _ hE
set_option maxRecDepth 20000 in
set_option maxHeartbeats 2000000 in
theorem tX5_leastDeed_X149 {sh : List kd} {τ : St} {r : Int32} (hsh : cSh sh) {p1 : Int32} {p2 : Int32} {p3 : Int32} {x1 : Int32} {x2 : Int32} {r16 : Int32} {s17 : St} {x72 : Int32} {s73 : St} {k7 : Int32 → Int32 → Value → Value → Value → Value → St → Option (Int32 × St)} (hk7 : ∀ (x1 : Int32) (x2 : Int32) (x3 : Value) (x4 : Value) (x5 : Value) (x6 : Value) (s7 : St), k7 x1 x2 x3 x4 x5 x6 s7 = some (r, τ) → g_R sh 5 mX5_leastDeed (some (.int r)) τ 7 [.ref 134, .int p1, .int p2, .int p3, .int x1, .int x2, x3, x4, x5, x6] [] (s7)) (hE : fX5_leastDeed_X149 sh p1 p2 p3 x1 x2 r16 s17 k7 x72 s73 = some (r, τ)) : g_R sh 5 mX5_leastDeed (some (.int r)) τ 149 [.ref 134, .int p1, .int p2, .int p3, .int x1, .int x2, .int r16, .int ((if ((r16 >>> (p1 &&& 31)) &&& 1) = 0 then 0 else 1) : Int32), .int (s17.1 135 1), .int x72] [] (s73) := by
  unfold fX5_leastDeed_X149 at hE
  refine g_ldan aX5_leastDeed_149 rfl ?_
  refine g_getR aX5_leastDeed_150 (sC_134 hsh) rfl ?_
  refine g_ldin aX5_leastDeed_153 rfl ?_
  refine g_ldin aX5_leastDeed_154 rfl ?_
  obtain ⟨r83, s84, h85, hE⟩ := i_bd_some hE
  refine g_calV (As := [.int p1, .int p2]) (rest := []) aX5_leastDeed_155 (i_X_mono (by omega) (tX4_hasTitle hsh (lShB_135 hsh) h85)) ((lShB_135 hsh).1) (by decide +kernel) rfl rfl (Nat.le_of_ble_eq_true rfl) rfl ?_
  by_cases hc86 : r83 = 0
  · rw [if_pos hc86] at hE
    refine g_if_eq_t aX5_leastDeed_158 hc86 ?_
    refine g_ldi aX5_leastDeed_164 rfl ?_
    have hJ : g_R sh 5 mX5_leastDeed (some (.int r)) τ 176 [.ref 134, .int p1, .int p2, .int p3, .int x1, .int x2, .int r16, .int ((if ((r16 >>> (p1 &&& 31)) &&& 1) = 0 then 0 else 1) : Int32), .int (s17.1 135 1), .int x72] [.int ((if ((if ((r16 >>> (p1 &&& 31)) &&& 1) = 0 then 0 else 1) : Int32) = 0 then x1 else (s17.1 135 1)) : Int32)] (s84) := by
      refine g_sti (loc2 := [.ref 134, .int p1, .int p2, .int p3, .int ((if ((if ((r16 >>> (p1 &&& 31)) &&& 1) = 0 then 0 else 1) : Int32) = 0 then x1 else (s17.1 135 1)) : Int32), .int x2, .int r16, .int ((if ((r16 >>> (p1 &&& 31)) &&& 1) = 0 then 0 else 1) : Int32), .int (s17.1 135 1), .int x72]) aX5_leastDeed_176 (Nat.le_of_ble_eq_true rfl) rfl ?_
      refine g_iinc (y := 1) (loc2 := [.ref 134, .int p1, .int p2, .int p3, .int ((if ((if ((r16 >>> (p1 &&& 31)) &&& 1) = 0 then 0 else 1) : Int32) = 0 then x1 else (s17.1 135 1)) : Int32), .int (x2 + 1), .int r16, .int ((if ((r16 >>> (p1 &&& 31)) &&& 1) = 0 then 0 else 1) : Int32), .int (s17.1 135 1), .int x72]) aX5_leastDeed_178 rfl rfl rfl ?_
      refine g_goto aX5_leastDeed_181 ?_
      exact hk7 _ _ _ _ _ _ _ hE
    clear hE
    by_cases hc86 : ((if ((r16 >>> (p1 &&& 31)) &&& 1) = 0 then 0 else 1) : Int32) = 0
    · (try rw [if_pos hc86] at hJ)
      refine g_if_eq_t aX5_leastDeed_166 hc86 ?_
      refine g_ldi aX5_leastDeed_174 rfl ?_
      exact hJ
    · (try rw [if_neg hc86] at hJ)
      refine g_if_eq_f aX5_leastDeed_166 hc86 ?_
      refine g_ldi aX5_leastDeed_169 rfl ?_
      refine g_goto aX5_leastDeed_171 ?_
      exact hJ
  · rw [if_neg hc86] at hE
    refine g_if_eq_f aX5_leastDeed_158 hc86 ?_
    refine g_ldi aX5_leastDeed_161 rfl ?_
    obtain ⟨rfl, rfl⟩ := i_some_inj hE
    exact g_iret aX5_leastDeed_163 rfl rfl
set_option maxRecDepth 20000 in
set_option maxHeartbeats 2000000 in
theorem tX5_leastDeed_L99_90 {sh : List kd} {τ : St} {r : Int32} (hsh : cSh sh) {p1 : Int32} {p2 : Int32} {p3 : Int32} {x1 : Int32} {x2 : Int32} {r16 : Int32} {s17 : St} {k149 : Int32 → St → Option (Int32 × St)} (hk149 : ∀ (x141 : Int32) (s142 : St), k149 x141 s142 = some (r, τ) → g_R sh 5 mX5_leastDeed (some (.int r)) τ 149 [.ref 134, .int p1, .int p2, .int p3, .int x1, .int x2, .int r16, .int ((if ((r16 >>> (p1 &&& 31)) &&& 1) = 0 then 0 else 1) : Int32), .int (s17.1 135 1), .int x141] [] (s142)) : ∀ (n0 : Nat) (x89 : Int32) (s90 : St), fX5_leastDeed_L99_90 sh p1 p2 p3 x1 x2 r16 s17 k149 n0 x89 s90 = some (r, τ) → g_R sh 5 mX5_leastDeed (some (.int r)) τ 99 [.ref 134, .int p1, .int p2, .int p3, .int x1, .int x2, .int r16, .int ((if ((r16 >>> (p1 &&& 31)) &&& 1) = 0 then 0 else 1) : Int32), .int (s17.1 135 1), .int x89] [] (s90) := by
  intro n0
  induction n0 with
  | zero => intro _ _ hE; cases hE
  | succ n143 ih =>
    intro x89 s90 hE
    unfold fX5_leastDeed_L99_90 at hE
    refine g_ldi aX5_leastDeed_99 rfl ?_
    refine g_ldin aX5_leastDeed_101 rfl ?_
    by_cases hc144 : p3 ≤ x89
    · rw [if_pos hc144] at hE
      refine g_ic_ge_t aX5_leastDeed_102 hc144 ?_
      exact hk149 _ _ hE
    · rw [if_neg hc144] at hE
      refine g_ic_ge_f aX5_leastDeed_102 hc144 ?_
      refine g_ldan aX5_leastDeed_105 rfl ?_
      refine g_getR aX5_leastDeed_106 (sC_134 hsh) rfl ?_
      refine g_ldin aX5_leastDeed_109 rfl ?_
      refine g_ldin aX5_leastDeed_110 rfl ?_
      obtain ⟨r145, s146, h147, hE⟩ := i_bd_some hE
      refine g_calV (As := [.int p1, .int p2]) (rest := []) aX5_leastDeed_111 (i_X_mono (by omega) (tX4_hasTitle hsh (lShB_135 hsh) h147)) ((lShB_135 hsh).1) (by decide +kernel) rfl rfl (Nat.le_of_ble_eq_true rfl) rfl ?_
      by_cases hc148 : ¬ r145 = 0
      · rw [if_pos hc148] at hE
        refine g_if_ne_t aX5_leastDeed_114 hc148 ?_
        exact hk149 _ _ hE
      · rw [if_neg hc148] at hE
        refine g_if_ne_f aX5_leastDeed_114 hc148 ?_
        refine g_ldan aX5_leastDeed_117 rfl ?_
        refine g_getR aX5_leastDeed_118 (sC_134 hsh) rfl ?_
        refine g_ldan aX5_leastDeed_121 rfl ?_
        refine g_getR aX5_leastDeed_122 (sC_134 hsh) rfl ?_
        refine g_ldan aX5_leastDeed_125 rfl ?_
        refine g_getR aX5_leastDeed_126 (sC_134 hsh) rfl ?_
        refine g_getR aX5_leastDeed_129 ((wShB_19 hsh).1) rfl ?_
        refine g_ldan aX5_leastDeed_132 rfl ?_
        refine g_getR aX5_leastDeed_133 (sC_134 hsh) rfl ?_
        refine g_getI aX5_leastDeed_136 ((wShB_19 hsh).1) rfl ?_
        obtain ⟨r149, s150, h151, hE⟩ := i_bd_some hE
        refine g_calV (As := [.ref 135, .ref 20, .int (s146.1 19 8)]) (rest := []) aX5_leastDeed_139 (i_X_mono (by omega) (tX0_pass hsh (lShB_135 hsh) (rShB_20 hsh) h151)) (sC_16 hsh) (by decide +kernel) rfl rfl (Nat.le_of_ble_eq_true rfl) rfl ?_
        refine g_popi aX5_leastDeed_142 ?_
        refine g_iinc (y := 1) (loc2 := [.ref 134, .int p1, .int p2, .int p3, .int x1, .int x2, .int r16, .int ((if ((r16 >>> (p1 &&& 31)) &&& 1) = 0 then 0 else 1) : Int32), .int (s17.1 135 1), .int (x89 + 1)]) aX5_leastDeed_143 rfl rfl rfl ?_
        refine g_goto aX5_leastDeed_146 ?_
        exact ih _ _ hE
set_option maxRecDepth 20000 in
set_option maxHeartbeats 2000000 in
theorem tX5_leastDeed_X149_151 {sh : List kd} {τ : St} {r : Int32} (hsh : cSh sh) {p1 : Int32} {p2 : Int32} {p3 : Int32} {x1 : Int32} {x2 : Int32} {r16 : Int32} {s17 : St} {x141 : Int32} {s142 : St} {k7 : Int32 → Int32 → Value → Value → Value → Value → St → Option (Int32 × St)} (hk7 : ∀ (x1 : Int32) (x2 : Int32) (x3 : Value) (x4 : Value) (x5 : Value) (x6 : Value) (s7 : St), k7 x1 x2 x3 x4 x5 x6 s7 = some (r, τ) → g_R sh 5 mX5_leastDeed (some (.int r)) τ 7 [.ref 134, .int p1, .int p2, .int p3, .int x1, .int x2, x3, x4, x5, x6] [] (s7)) (hE : fX5_leastDeed_X149_151 sh p1 p2 p3 x1 x2 r16 s17 k7 x141 s142 = some (r, τ)) : g_R sh 5 mX5_leastDeed (some (.int r)) τ 149 [.ref 134, .int p1, .int p2, .int p3, .int x1, .int x2, .int r16, .int ((if ((r16 >>> (p1 &&& 31)) &&& 1) = 0 then 0 else 1) : Int32), .int (s17.1 135 1), .int x141] [] (s142) := by
  unfold fX5_leastDeed_X149_151 at hE
  refine g_ldan aX5_leastDeed_149 rfl ?_
  refine g_getR aX5_leastDeed_150 (sC_134 hsh) rfl ?_
  refine g_ldin aX5_leastDeed_153 rfl ?_
  refine g_ldin aX5_leastDeed_154 rfl ?_
  obtain ⟨r152, s153, h154, hE⟩ := i_bd_some hE
  refine g_calV (As := [.int p1, .int p2]) (rest := []) aX5_leastDeed_155 (i_X_mono (by omega) (tX4_hasTitle hsh (lShB_135 hsh) h154)) ((lShB_135 hsh).1) (by decide +kernel) rfl rfl (Nat.le_of_ble_eq_true rfl) rfl ?_
  by_cases hc155 : r152 = 0
  · rw [if_pos hc155] at hE
    refine g_if_eq_t aX5_leastDeed_158 hc155 ?_
    refine g_ldi aX5_leastDeed_164 rfl ?_
    have hJ : g_R sh 5 mX5_leastDeed (some (.int r)) τ 176 [.ref 134, .int p1, .int p2, .int p3, .int x1, .int x2, .int r16, .int ((if ((r16 >>> (p1 &&& 31)) &&& 1) = 0 then 0 else 1) : Int32), .int (s17.1 135 1), .int x141] [.int ((if ((if ((r16 >>> (p1 &&& 31)) &&& 1) = 0 then 0 else 1) : Int32) = 0 then x1 else (s17.1 135 1)) : Int32)] (s153) := by
      refine g_sti (loc2 := [.ref 134, .int p1, .int p2, .int p3, .int ((if ((if ((r16 >>> (p1 &&& 31)) &&& 1) = 0 then 0 else 1) : Int32) = 0 then x1 else (s17.1 135 1)) : Int32), .int x2, .int r16, .int ((if ((r16 >>> (p1 &&& 31)) &&& 1) = 0 then 0 else 1) : Int32), .int (s17.1 135 1), .int x141]) aX5_leastDeed_176 (Nat.le_of_ble_eq_true rfl) rfl ?_
      refine g_iinc (y := 1) (loc2 := [.ref 134, .int p1, .int p2, .int p3, .int ((if ((if ((r16 >>> (p1 &&& 31)) &&& 1) = 0 then 0 else 1) : Int32) = 0 then x1 else (s17.1 135 1)) : Int32), .int (x2 + 1), .int r16, .int ((if ((r16 >>> (p1 &&& 31)) &&& 1) = 0 then 0 else 1) : Int32), .int (s17.1 135 1), .int x141]) aX5_leastDeed_178 rfl rfl rfl ?_
      refine g_goto aX5_leastDeed_181 ?_
      exact hk7 _ _ _ _ _ _ _ hE
    clear hE
    by_cases hc155 : ((if ((r16 >>> (p1 &&& 31)) &&& 1) = 0 then 0 else 1) : Int32) = 0
    · (try rw [if_pos hc155] at hJ)
      refine g_if_eq_t aX5_leastDeed_166 hc155 ?_
      refine g_ldi aX5_leastDeed_174 rfl ?_
      exact hJ
    · (try rw [if_neg hc155] at hJ)
      refine g_if_eq_f aX5_leastDeed_166 hc155 ?_
      refine g_ldi aX5_leastDeed_169 rfl ?_
      refine g_goto aX5_leastDeed_171 ?_
      exact hJ
  · rw [if_neg hc155] at hE
    refine g_if_eq_f aX5_leastDeed_158 hc155 ?_
    refine g_ldi aX5_leastDeed_161 rfl ?_
    obtain ⟨rfl, rfl⟩ := i_some_inj hE
    exact g_iret aX5_leastDeed_163 rfl rfl
set_option maxRecDepth 20000 in
set_option maxHeartbeats 2000000 in
theorem tX5_leastDeed_L7 {sh : List kd} {τ : St} {r : Int32} (hsh : cSh sh) {p1 : Int32} {p2 : Int32} {p3 : Int32} : ∀ (n0 : Nat) (x1 : Int32) (x2 : Int32) (x3 : Value) (x4 : Value) (x5 : Value) (x6 : Value) (s7 : St), fX5_leastDeed_L7 sh p1 p2 p3 n0 x1 x2 x3 x4 x5 x6 s7 = some (r, τ) → g_R sh 5 mX5_leastDeed (some (.int r)) τ 7 [.ref 134, .int p1, .int p2, .int p3, .int x1, .int x2, x3, x4, x5, x6] [] (s7) := by
  intro n0
  induction n0 with
  | zero => intro _ _ _ _ _ _ _ hE; cases hE
  | succ n8 ih =>
    intro x1 x2 x3 x4 x5 x6 s7 hE
    unfold fX5_leastDeed_L7 at hE
    refine g_ldi aX5_leastDeed_7 rfl ?_
    refine g_sipush (x := 200) aX5_leastDeed_9 rfl ?_
    by_cases hc9 : 200 < x2
    · rw [if_pos hc9] at hE
      refine g_ic_gt_t aX5_leastDeed_12 hc9 ?_
      refine g_bipush (x := (-2)) aX5_leastDeed_184 rfl ?_
      obtain ⟨rfl, rfl⟩ := i_some_inj hE
      exact g_iret aX5_leastDeed_186 rfl rfl
    · rw [if_neg hc9] at hE
      refine g_ic_gt_f aX5_leastDeed_12 hc9 ?_
      refine g_ldan aX5_leastDeed_15 rfl ?_
      obtain ⟨r10, s11, h12, hE⟩ := i_bd_some hE
      refine g_calV (As := []) (rest := []) aX5_leastDeed_16 (i_X_mono (by omega) (tX5_begin hsh h12)) (sC_134 hsh) (by decide +kernel) rfl rfl (Nat.le_of_ble_eq_true rfl) rfl ?_
      refine g_ldan aX5_leastDeed_19 rfl ?_
      refine g_getR aX5_leastDeed_20 (sC_134 hsh) rfl ?_
      refine g_ldin aX5_leastDeed_23 rfl ?_
      refine g_ldi aX5_leastDeed_24 rfl ?_
      obtain ⟨r13, s14, h15, hE⟩ := i_bd_some hE
      refine g_calV (As := [.int p1, .int x2]) (rest := []) aX5_leastDeed_26 (i_X_mono (by omega) (tX4_thank hsh (lShB_135 hsh) h15)) ((lShB_135 hsh).1) (by decide +kernel) rfl rfl (Nat.le_of_ble_eq_true rfl) rfl ?_
      refine g_ldan aX5_leastDeed_29 rfl ?_
      refine g_getR aX5_leastDeed_30 (sC_134 hsh) rfl ?_
      refine g_ldan aX5_leastDeed_33 rfl ?_
      refine g_getR aX5_leastDeed_34 (sC_134 hsh) rfl ?_
      refine g_ldan aX5_leastDeed_37 rfl ?_
      refine g_getR aX5_leastDeed_38 (sC_134 hsh) rfl ?_
      refine g_getR aX5_leastDeed_41 ((wShB_19 hsh).1) rfl ?_
      refine g_ldan aX5_leastDeed_44 rfl ?_
      refine g_getR aX5_leastDeed_45 (sC_134 hsh) rfl ?_
      refine g_getI aX5_leastDeed_48 ((wShB_19 hsh).1) rfl ?_
      obtain ⟨r16, s17, h18, hE⟩ := i_bd_some hE
      refine g_calV (As := [.ref 135, .ref 20, .int (s14.1 19 8)]) (rest := []) aX5_leastDeed_51 (i_X_mono (by omega) (tX0_pass hsh (lShB_135 hsh) (rShB_20 hsh) h18)) (sC_16 hsh) (by decide +kernel) rfl rfl (Nat.le_of_ble_eq_true rfl) rfl ?_
      refine g_sti (loc2 := [.ref 134, .int p1, .int p2, .int p3, .int x1, .int x2, .int r16, x4, x5, x6]) aX5_leastDeed_54 (Nat.le_of_ble_eq_true rfl) rfl ?_
      refine g_ldi aX5_leastDeed_56 rfl ?_
      refine g_ldin aX5_leastDeed_58 rfl ?_
      refine g_ishr aX5_leastDeed_59 ?_
      refine g_iconst (x := 1) aX5_leastDeed_60 rfl ?_
      refine g_iand aX5_leastDeed_61 ?_
      have hJ : g_R sh 5 mX5_leastDeed (some (.int r)) τ 70 [.ref 134, .int p1, .int p2, .int p3, .int x1, .int x2, .int r16, x4, x5, x6] [.int ((if ((r16 >>> (p1 &&& 31)) &&& 1) = 0 then 0 else 1) : Int32)] (s17) := by
        refine g_sti (loc2 := [.ref 134, .int p1, .int p2, .int p3, .int x1, .int x2, .int r16, .int ((if ((r16 >>> (p1 &&& 31)) &&& 1) = 0 then 0 else 1) : Int32), x5, x6]) aX5_leastDeed_70 (Nat.le_of_ble_eq_true rfl) rfl ?_
        refine g_ldan aX5_leastDeed_72 rfl ?_
        refine g_getR aX5_leastDeed_73 (sC_134 hsh) rfl ?_
        refine g_getI aX5_leastDeed_76 ((lShB_135 hsh).1) rfl ?_
        refine g_sti (loc2 := [.ref 134, .int p1, .int p2, .int p3, .int x1, .int x2, .int r16, .int ((if ((r16 >>> (p1 &&& 31)) &&& 1) = 0 then 0 else 1) : Int32), .int (s17.1 135 1), x6]) aX5_leastDeed_79 (Nat.le_of_ble_eq_true rfl) rfl ?_
        refine g_ldi aX5_leastDeed_81 rfl ?_
        by_cases hc19 : ((if ((r16 >>> (p1 &&& 31)) &&& 1) = 0 then 0 else 1) : Int32) = 0
        · rw [if_pos hc19] at hE
          refine g_if_eq_t aX5_leastDeed_83 hc19 ?_
          refine g_iconst (x := 1) aX5_leastDeed_96 rfl ?_
          refine g_sti (loc2 := [.ref 134, .int p1, .int p2, .int p3, .int x1, .int x2, .int r16, .int ((if ((r16 >>> (p1 &&& 31)) &&& 1) = 0 then 0 else 1) : Int32), .int (s17.1 135 1), .int 1]) aX5_leastDeed_97 (Nat.le_of_ble_eq_true rfl) rfl ?_
          exact tX5_leastDeed_L99 hsh (fun x72 s73 hE => tX5_leastDeed_X149 hsh ih hE) i_F _ _ hE
        · rw [if_neg hc19] at hE
          refine g_if_eq_f aX5_leastDeed_83 hc19 ?_
          refine g_ldi aX5_leastDeed_86 rfl ?_
          refine g_ldi aX5_leastDeed_88 rfl ?_
          by_cases hc88 : ¬ (s17.1 135 1) = x1
          · rw [if_pos hc88] at hE
            refine g_ic_ne_t aX5_leastDeed_90 hc88 ?_
            refine g_iconst (x := 1) aX5_leastDeed_96 rfl ?_
            refine g_sti (loc2 := [.ref 134, .int p1, .int p2, .int p3, .int x1, .int x2, .int r16, .int ((if ((r16 >>> (p1 &&& 31)) &&& 1) = 0 then 0 else 1) : Int32), .int (s17.1 135 1), .int 1]) aX5_leastDeed_97 (Nat.le_of_ble_eq_true rfl) rfl ?_
            exact tX5_leastDeed_L99_90 hsh (fun x141 s142 hE => tX5_leastDeed_X149_151 hsh ih hE) i_F _ _ hE
          · rw [if_neg hc88] at hE
            refine g_ic_ne_f aX5_leastDeed_90 hc88 ?_
            refine g_goto aX5_leastDeed_93 ?_
            refine g_iinc (y := 1) (loc2 := [.ref 134, .int p1, .int p2, .int p3, .int x1, .int (x2 + 1), .int r16, .int ((if ((r16 >>> (p1 &&& 31)) &&& 1) = 0 then 0 else 1) : Int32), .int (s17.1 135 1), x6]) aX5_leastDeed_178 rfl rfl rfl ?_
            refine g_goto aX5_leastDeed_181 ?_
            exact ih _ _ _ _ _ _ _ hE
      clear hE
      by_cases hc156 : ((r16 >>> (p1 &&& 31)) &&& 1) = 0
      · (try rw [if_pos hc156] at hJ)
        refine g_if_eq_t aX5_leastDeed_62 hc156 ?_
        refine g_iconst (x := 0) aX5_leastDeed_69 rfl ?_
        exact hJ
      · (try rw [if_neg hc156] at hJ)
        refine g_if_eq_f aX5_leastDeed_62 hc156 ?_
        refine g_iconst (x := 1) aX5_leastDeed_65 rfl ?_
        refine g_goto aX5_leastDeed_66 ?_
        exact hJ
set_option maxRecDepth 20000 in
set_option maxHeartbeats 2000000 in
theorem tX5_leastDeed {sh : List kd} {σ τ : St} {r : Int32} (hsh : cSh sh) {p1 : Int32} {p2 : Int32} {p3 : Int32} (hE : fX5_leastDeed sh σ p1 p2 p3 = some (r, τ)) : i_X 6 37 [.ref 134, .int p1, .int p2, .int p3] (s_h sh σ) 0 0 (some (.int r)) (s_h sh τ) := by
  refine g_X (M := mX5_leastDeed) (loc := [.ref 134, .int p1, .int p2, .int p3, .retAddr 0, .retAddr 0, .retAddr 0, .retAddr 0, .retAddr 0, .retAddr 0]) rfl (Nat.le_of_ble_eq_true rfl) rfl ?_
  unfold fX5_leastDeed at hE
  refine g_bipush (x := (-2)) aX5_leastDeed_0 rfl ?_
  refine g_sti (loc2 := [.ref 134, .int p1, .int p2, .int p3, .int (-2), .retAddr 0, .retAddr 0, .retAddr 0, .retAddr 0, .retAddr 0]) aX5_leastDeed_2 (Nat.le_of_ble_eq_true rfl) rfl ?_
  refine g_iconst (x := 0) aX5_leastDeed_4 rfl ?_
  refine g_sti (loc2 := [.ref 134, .int p1, .int p2, .int p3, .int (-2), .int 0, .retAddr 0, .retAddr 0, .retAddr 0, .retAddr 0]) aX5_leastDeed_5 (Nat.le_of_ble_eq_true rfl) rfl ?_
  exact tX5_leastDeed_L7 hsh i_F _ _ _ _ _ _ _ hE
theorem aX5_isSpared_0 : i_at mX5_isSpared.2.2.2.2.2 0 = some (.aload_n 0, 1, 0, 0, 0, 0) := by decide +kernel
theorem aX5_isSpared_1 : i_at mX5_isSpared.2.2.2.2.2 1 = some (.invokevirtual 59, 3, 33, 0, 887, 0) := by decide +kernel
theorem aX5_isSpared_4 : i_at mX5_isSpared.2.2.2.2.2 4 = some (.iconst 0, 1, 0, 0, 0, 0) := by decide +kernel
theorem aX5_isSpared_5 : i_at mX5_isSpared.2.2.2.2.2 5 = some (.istore 4, 2, 0, 0, 0, 0) := by decide +kernel
theorem aX5_isSpared_7 : i_at mX5_isSpared.2.2.2.2.2 7 = some (.iload 4, 2, 0, 0, 0, 0) := by decide +kernel
theorem aX5_isSpared_9 : i_at mX5_isSpared.2.2.2.2.2 9 = some (.iload_n 2, 1, 0, 0, 0, 0) := by decide +kernel
theorem aX5_isSpared_10 : i_at mX5_isSpared.2.2.2.2.2 10 = some (.if_icmp .ge 67, 3, 77, 0, 0, 0) := by decide +kernel
theorem aX5_isSpared_13 : i_at mX5_isSpared.2.2.2.2.2 13 = some (.aload_n 0, 1, 0, 0, 0, 0) := by decide +kernel
theorem aX5_isSpared_14 : i_at mX5_isSpared.2.2.2.2.2 14 = some (.getfield 12, 3, 4, 2, 402, 0) := by decide +kernel
theorem aX5_isSpared_17 : i_at mX5_isSpared.2.2.2.2.2 17 = some (.iload_n 3, 1, 0, 0, 0, 0) := by decide +kernel
theorem aX5_isSpared_18 : i_at mX5_isSpared.2.2.2.2.2 18 = some (.iload 4, 2, 0, 0, 0, 0) := by decide +kernel
theorem aX5_isSpared_20 : i_at mX5_isSpared.2.2.2.2.2 20 = some (.ishr, 1, 0, 0, 0, 0) := by decide +kernel
theorem aX5_isSpared_21 : i_at mX5_isSpared.2.2.2.2.2 21 = some (.iconst 1, 1, 0, 0, 0, 0) := by decide +kernel
theorem aX5_isSpared_22 : i_at mX5_isSpared.2.2.2.2.2 22 = some (.iand, 1, 0, 0, 0, 0) := by decide +kernel
theorem aX5_isSpared_23 : i_at mX5_isSpared.2.2.2.2.2 23 = some (.putfield 99, 3, 3, 3, 307, 0) := by decide +kernel
theorem aX5_isSpared_26 : i_at mX5_isSpared.2.2.2.2.2 26 = some (.aload_n 0, 1, 0, 0, 0, 0) := by decide +kernel
theorem aX5_isSpared_27 : i_at mX5_isSpared.2.2.2.2.2 27 = some (.getfield 32, 3, 4, 1, 401, 0) := by decide +kernel
theorem aX5_isSpared_30 : i_at mX5_isSpared.2.2.2.2.2 30 = some (.aload_n 0, 1, 0, 0, 0, 0) := by decide +kernel
theorem aX5_isSpared_31 : i_at mX5_isSpared.2.2.2.2.2 31 = some (.getfield 12, 3, 4, 2, 402, 0) := by decide +kernel
theorem aX5_isSpared_34 : i_at mX5_isSpared.2.2.2.2.2 34 = some (.aload_n 0, 1, 0, 0, 0, 0) := by decide +kernel
theorem aX5_isSpared_35 : i_at mX5_isSpared.2.2.2.2.2 35 = some (.getfield 28, 3, 4, 0, 400, 0) := by decide +kernel
theorem aX5_isSpared_38 : i_at mX5_isSpared.2.2.2.2.2 38 = some (.getfield 45, 3, 9, 0, 346, 0) := by decide +kernel
theorem aX5_isSpared_41 : i_at mX5_isSpared.2.2.2.2.2 41 = some (.aload_n 0, 1, 0, 0, 0, 0) := by decide +kernel
theorem aX5_isSpared_42 : i_at mX5_isSpared.2.2.2.2.2 42 = some (.getfield 28, 3, 4, 0, 400, 0) := by decide +kernel
theorem aX5_isSpared_45 : i_at mX5_isSpared.2.2.2.2.2 45 = some (.getfield 49, 3, 9, 8, 366, 0) := by decide +kernel
theorem aX5_isSpared_48 : i_at mX5_isSpared.2.2.2.2.2 48 = some (.invokevirtual 53, 3, 2, 3, 896, 0) := by decide +kernel
theorem aX5_isSpared_51 : i_at mX5_isSpared.2.2.2.2.2 51 = some (.istore 5, 2, 0, 0, 0, 0) := by decide +kernel
theorem aX5_isSpared_53 : i_at mX5_isSpared.2.2.2.2.2 53 = some (.iload 5, 2, 0, 0, 0, 0) := by decide +kernel
theorem aX5_isSpared_55 : i_at mX5_isSpared.2.2.2.2.2 55 = some (.ifCond .eq 16, 3, 71, 0, 0, 0) := by decide +kernel
theorem aX5_isSpared_58 : i_at mX5_isSpared.2.2.2.2.2 58 = some (.aload_n 0, 1, 0, 0, 0, 0) := by decide +kernel
theorem aX5_isSpared_59 : i_at mX5_isSpared.2.2.2.2.2 59 = some (.getfield 12, 3, 4, 2, 402, 0) := by decide +kernel
theorem aX5_isSpared_62 : i_at mX5_isSpared.2.2.2.2.2 62 = some (.getfield 78, 3, 3, 1, 299, 0) := by decide +kernel
theorem aX5_isSpared_65 : i_at mX5_isSpared.2.2.2.2.2 65 = some (.iload_n 1, 1, 0, 0, 0, 0) := by decide +kernel
theorem aX5_isSpared_66 : i_at mX5_isSpared.2.2.2.2.2 66 = some (.if_icmp .ne 5, 3, 71, 0, 0, 0) := by decide +kernel
theorem aX5_isSpared_69 : i_at mX5_isSpared.2.2.2.2.2 69 = some (.iconst 0, 1, 0, 0, 0, 0) := by decide +kernel
theorem aX5_isSpared_70 : i_at mX5_isSpared.2.2.2.2.2 70 = some (.ireturn, 1, 0, 0, 0, 0) := by decide +kernel
theorem aX5_isSpared_71 : i_at mX5_isSpared.2.2.2.2.2 71 = some (.iinc 4 1, 3, 0, 0, 0, 0) := by decide +kernel
theorem aX5_isSpared_74 : i_at mX5_isSpared.2.2.2.2.2 74 = some (.goto (-67), 3, 7, 0, 0, 0) := by decide +kernel
theorem aX5_isSpared_77 : i_at mX5_isSpared.2.2.2.2.2 77 = some (.iconst 1, 1, 0, 0, 0, 0) := by decide +kernel
theorem aX5_isSpared_78 : i_at mX5_isSpared.2.2.2.2.2 78 = some (.ireturn, 1, 0, 0, 0, 0) := by decide +kernel
noncomputable def fX5_isSpared_L7 (sh : List kd) (p1 : Int32) (p2 : Int32) (p3 : Int32) : Nat → Int32 → Value → St → Option (Int32 × St)
  | 0, _, _, _ => none
  | n7 + 1, x4, x5, s6 => if p2 ≤ x4 then some (1, s6) else i_bd (fX0_pass sh (s_F s6 135 3 ((p3 >>> (x4 &&& 31)) &&& 1)) 135 20 ((s_F s6 135 3 ((p3 >>> (x4 &&& 31)) &&& 1)).1 19 8)) (fun r9 s10 => if r9 = 0 then (fX5_isSpared_L7 sh p1 p2 p3 n7 (x4 + 1) (.int r9) s10) else if ¬ (s10.1 135 1) = p1 then (fX5_isSpared_L7 sh p1 p2 p3 n7 (x4 + 1) (.int r9) s10) else some (0, s10))
noncomputable def fX5_isSpared (sh : List kd) (σ : St) (p1 : Int32) (p2 : Int32) (p3 : Int32) : Option (Int32 × St) := i_bd (fX5_begin sh σ) (fun r1 s2 => fX5_isSpared_L7 sh p1 p2 p3 i_F 0 (.retAddr 0) s2)
set_option maxRecDepth 20000 in
set_option maxHeartbeats 2000000 in
theorem tX5_isSpared_L7 {sh : List kd} {τ : St} {r : Int32} (hsh : cSh sh) {p1 : Int32} {p2 : Int32} {p3 : Int32} : ∀ (n0 : Nat) (x4 : Int32) (x5 : Value) (s6 : St), fX5_isSpared_L7 sh p1 p2 p3 n0 x4 x5 s6 = some (r, τ) → g_R sh 5 mX5_isSpared (some (.int r)) τ 7 [.ref 134, .int p1, .int p2, .int p3, .int x4, x5] [] (s6) := by
  intro n0
  induction n0 with
  | zero => intro _ _ _ hE; cases hE
  | succ n7 ih =>
    intro x4 x5 s6 hE
    unfold fX5_isSpared_L7 at hE
    refine g_ldi aX5_isSpared_7 rfl ?_
    refine g_ldin aX5_isSpared_9 rfl ?_
    by_cases hc8 : p2 ≤ x4
    · rw [if_pos hc8] at hE
      refine g_ic_ge_t aX5_isSpared_10 hc8 ?_
      refine g_iconst (x := 1) aX5_isSpared_77 rfl ?_
      obtain ⟨rfl, rfl⟩ := i_some_inj hE
      exact g_iret aX5_isSpared_78 rfl rfl
    · rw [if_neg hc8] at hE
      refine g_ic_ge_f aX5_isSpared_10 hc8 ?_
      refine g_ldan aX5_isSpared_13 rfl ?_
      refine g_getR aX5_isSpared_14 (sC_134 hsh) rfl ?_
      refine g_ldin aX5_isSpared_17 rfl ?_
      refine g_ldi aX5_isSpared_18 rfl ?_
      refine g_ishr aX5_isSpared_20 ?_
      refine g_iconst (x := 1) aX5_isSpared_21 rfl ?_
      refine g_iand aX5_isSpared_22 ?_
      refine g_putI aX5_isSpared_23 ((lShB_135 hsh).1) rfl rfl ?_
      refine g_ldan aX5_isSpared_26 rfl ?_
      refine g_getR aX5_isSpared_27 (sC_134 hsh) rfl ?_
      refine g_ldan aX5_isSpared_30 rfl ?_
      refine g_getR aX5_isSpared_31 (sC_134 hsh) rfl ?_
      refine g_ldan aX5_isSpared_34 rfl ?_
      refine g_getR aX5_isSpared_35 (sC_134 hsh) rfl ?_
      refine g_getR aX5_isSpared_38 ((wShB_19 hsh).1) rfl ?_
      refine g_ldan aX5_isSpared_41 rfl ?_
      refine g_getR aX5_isSpared_42 (sC_134 hsh) rfl ?_
      refine g_getI aX5_isSpared_45 ((wShB_19 hsh).1) rfl ?_
      obtain ⟨r9, s10, h11, hE⟩ := i_bd_some hE
      refine g_calV (As := [.ref 135, .ref 20, .int ((s_F s6 135 3 ((p3 >>> (x4 &&& 31)) &&& 1)).1 19 8)]) (rest := []) aX5_isSpared_48 (i_X_mono (by omega) (tX0_pass hsh (lShB_135 hsh) (rShB_20 hsh) h11)) (sC_16 hsh) (by decide +kernel) rfl rfl (Nat.le_of_ble_eq_true rfl) rfl ?_
      refine g_sti (loc2 := [.ref 134, .int p1, .int p2, .int p3, .int x4, .int r9]) aX5_isSpared_51 (Nat.le_of_ble_eq_true rfl) rfl ?_
      refine g_ldi aX5_isSpared_53 rfl ?_
      by_cases hc12 : r9 = 0
      · rw [if_pos hc12] at hE
        refine g_if_eq_t aX5_isSpared_55 hc12 ?_
        refine g_iinc (y := 1) (loc2 := [.ref 134, .int p1, .int p2, .int p3, .int (x4 + 1), .int r9]) aX5_isSpared_71 rfl rfl rfl ?_
        refine g_goto aX5_isSpared_74 ?_
        exact ih _ _ _ hE
      · rw [if_neg hc12] at hE
        refine g_if_eq_f aX5_isSpared_55 hc12 ?_
        refine g_ldan aX5_isSpared_58 rfl ?_
        refine g_getR aX5_isSpared_59 (sC_134 hsh) rfl ?_
        refine g_getI aX5_isSpared_62 ((lShB_135 hsh).1) rfl ?_
        refine g_ldin aX5_isSpared_65 rfl ?_
        by_cases hc13 : ¬ (s10.1 135 1) = p1
        · rw [if_pos hc13] at hE
          refine g_ic_ne_t aX5_isSpared_66 hc13 ?_
          refine g_iinc (y := 1) (loc2 := [.ref 134, .int p1, .int p2, .int p3, .int (x4 + 1), .int r9]) aX5_isSpared_71 rfl rfl rfl ?_
          refine g_goto aX5_isSpared_74 ?_
          exact ih _ _ _ hE
        · rw [if_neg hc13] at hE
          refine g_ic_ne_f aX5_isSpared_66 hc13 ?_
          refine g_iconst (x := 0) aX5_isSpared_69 rfl ?_
          obtain ⟨rfl, rfl⟩ := i_some_inj hE
          exact g_iret aX5_isSpared_70 rfl rfl
set_option maxRecDepth 20000 in
set_option maxHeartbeats 2000000 in
theorem tX5_isSpared {sh : List kd} {σ τ : St} {r : Int32} (hsh : cSh sh) {p1 : Int32} {p2 : Int32} {p3 : Int32} (hE : fX5_isSpared sh σ p1 p2 p3 = some (r, τ)) : i_X 6 39 [.ref 134, .int p1, .int p2, .int p3] (s_h sh σ) 0 0 (some (.int r)) (s_h sh τ) := by
  refine g_X (M := mX5_isSpared) (loc := [.ref 134, .int p1, .int p2, .int p3, .retAddr 0, .retAddr 0]) rfl (Nat.le_of_ble_eq_true rfl) rfl ?_
  unfold fX5_isSpared at hE
  refine g_ldan aX5_isSpared_0 rfl ?_
  obtain ⟨r1, s2, h3, hE⟩ := i_bd_some hE
  refine g_calV (As := []) (rest := []) aX5_isSpared_1 (i_X_mono (by omega) (tX5_begin hsh h3)) (sC_134 hsh) (by decide +kernel) rfl rfl (Nat.le_of_ble_eq_true rfl) rfl ?_
  refine g_iconst (x := 0) aX5_isSpared_4 rfl ?_
  refine g_sti (loc2 := [.ref 134, .int p1, .int p2, .int p3, .int 0, .retAddr 0]) aX5_isSpared_5 (Nat.le_of_ble_eq_true rfl) rfl ?_
  exact tX5_isSpared_L7 hsh i_F _ _ _ hE
theorem aX5_bestTray_0 : i_at mX5_bestTray.2.2.2.2.2 0 = some (.iconst (-1), 1, 0, 0, 0, 0) := by decide +kernel
theorem aX5_bestTray_1 : i_at mX5_bestTray.2.2.2.2.2 1 = some (.istore 4, 2, 0, 0, 0, 0) := by decide +kernel
theorem aX5_bestTray_3 : i_at mX5_bestTray.2.2.2.2.2 3 = some (.iconst (-1), 1, 0, 0, 0, 0) := by decide +kernel
theorem aX5_bestTray_4 : i_at mX5_bestTray.2.2.2.2.2 4 = some (.istore 5, 2, 0, 0, 0, 0) := by decide +kernel
theorem aX5_bestTray_6 : i_at mX5_bestTray.2.2.2.2.2 6 = some (.iconst (-1), 1, 0, 0, 0, 0) := by decide +kernel
theorem aX5_bestTray_7 : i_at mX5_bestTray.2.2.2.2.2 7 = some (.istore 6, 2, 0, 0, 0, 0) := by decide +kernel
theorem aX5_bestTray_9 : i_at mX5_bestTray.2.2.2.2.2 9 = some (.iload 6, 2, 0, 0, 0, 0) := by decide +kernel
theorem aX5_bestTray_11 : i_at mX5_bestTray.2.2.2.2.2 11 = some (.aload_n 0, 1, 0, 0, 0, 0) := by decide +kernel
theorem aX5_bestTray_12 : i_at mX5_bestTray.2.2.2.2.2 12 = some (.getfield 28, 3, 4, 0, 400, 0) := by decide +kernel
theorem aX5_bestTray_15 : i_at mX5_bestTray.2.2.2.2.2 15 = some (.getfield 45, 3, 9, 0, 346, 0) := by decide +kernel
theorem aX5_bestTray_18 : i_at mX5_bestTray.2.2.2.2.2 18 = some (.getfield 102, 3, 5, 3, 168, 0) := by decide +kernel
theorem aX5_bestTray_21 : i_at mX5_bestTray.2.2.2.2.2 21 = some (.if_icmp .ge 63, 3, 84, 0, 0, 0) := by decide +kernel
theorem aX5_bestTray_24 : i_at mX5_bestTray.2.2.2.2.2 24 = some (.aload_n 0, 1, 0, 0, 0, 0) := by decide +kernel
theorem aX5_bestTray_25 : i_at mX5_bestTray.2.2.2.2.2 25 = some (.invokevirtual 59, 3, 33, 0, 887, 0) := by decide +kernel
theorem aX5_bestTray_28 : i_at mX5_bestTray.2.2.2.2.2 28 = some (.aload_n 0, 1, 0, 0, 0, 0) := by decide +kernel
theorem aX5_bestTray_29 : i_at mX5_bestTray.2.2.2.2.2 29 = some (.getfield 12, 3, 4, 2, 402, 0) := by decide +kernel
theorem aX5_bestTray_32 : i_at mX5_bestTray.2.2.2.2.2 32 = some (.iload 6, 2, 0, 0, 0, 0) := by decide +kernel
theorem aX5_bestTray_34 : i_at mX5_bestTray.2.2.2.2.2 34 = some (.putfield 107, 3, 3, 2, 303, 0) := by decide +kernel
theorem aX5_bestTray_37 : i_at mX5_bestTray.2.2.2.2.2 37 = some (.aload_n 0, 1, 0, 0, 0, 0) := by decide +kernel
theorem aX5_bestTray_38 : i_at mX5_bestTray.2.2.2.2.2 38 = some (.iload_n 2, 1, 0, 0, 0, 0) := by decide +kernel
theorem aX5_bestTray_39 : i_at mX5_bestTray.2.2.2.2.2 39 = some (.invokevirtual 62, 3, 34, 1, 892, 0) := by decide +kernel
theorem aX5_bestTray_42 : i_at mX5_bestTray.2.2.2.2.2 42 = some (.aload_n 0, 1, 0, 0, 0, 0) := by decide +kernel
theorem aX5_bestTray_43 : i_at mX5_bestTray.2.2.2.2.2 43 = some (.getfield 28, 3, 4, 0, 400, 0) := by decide +kernel
theorem aX5_bestTray_46 : i_at mX5_bestTray.2.2.2.2.2 46 = some (.getfield 45, 3, 9, 0, 346, 0) := by decide +kernel
theorem aX5_bestTray_49 : i_at mX5_bestTray.2.2.2.2.2 49 = some (.aload_n 0, 1, 0, 0, 0, 0) := by decide +kernel
theorem aX5_bestTray_50 : i_at mX5_bestTray.2.2.2.2.2 50 = some (.getfield 12, 3, 4, 2, 402, 0) := by decide +kernel
theorem aX5_bestTray_53 : i_at mX5_bestTray.2.2.2.2.2 53 = some (.getfield 69, 3, 3, 5, 316, 0) := by decide +kernel
theorem aX5_bestTray_56 : i_at mX5_bestTray.2.2.2.2.2 56 = some (.iload_n 1, 1, 0, 0, 0, 0) := by decide +kernel
theorem aX5_bestTray_57 : i_at mX5_bestTray.2.2.2.2.2 57 = some (.iaload, 1, 0, 0, 0, 0) := by decide +kernel
theorem aX5_bestTray_58 : i_at mX5_bestTray.2.2.2.2.2 58 = some (.invokevirtual 110, 3, 56, 1, 938, 0) := by decide +kernel
theorem aX5_bestTray_61 : i_at mX5_bestTray.2.2.2.2.2 61 = some (.istore 7, 2, 0, 0, 0, 0) := by decide +kernel
theorem aX5_bestTray_63 : i_at mX5_bestTray.2.2.2.2.2 63 = some (.iload 7, 2, 0, 0, 0, 0) := by decide +kernel
theorem aX5_bestTray_65 : i_at mX5_bestTray.2.2.2.2.2 65 = some (.iload 5, 2, 0, 0, 0, 0) := by decide +kernel
theorem aX5_bestTray_67 : i_at mX5_bestTray.2.2.2.2.2 67 = some (.if_icmp .le 11, 3, 78, 0, 0, 0) := by decide +kernel
theorem aX5_bestTray_70 : i_at mX5_bestTray.2.2.2.2.2 70 = some (.iload 7, 2, 0, 0, 0, 0) := by decide +kernel
theorem aX5_bestTray_72 : i_at mX5_bestTray.2.2.2.2.2 72 = some (.istore 5, 2, 0, 0, 0, 0) := by decide +kernel
theorem aX5_bestTray_74 : i_at mX5_bestTray.2.2.2.2.2 74 = some (.iload 6, 2, 0, 0, 0, 0) := by decide +kernel
theorem aX5_bestTray_76 : i_at mX5_bestTray.2.2.2.2.2 76 = some (.istore 4, 2, 0, 0, 0, 0) := by decide +kernel
theorem aX5_bestTray_78 : i_at mX5_bestTray.2.2.2.2.2 78 = some (.iinc 6 1, 3, 0, 0, 0, 0) := by decide +kernel
theorem aX5_bestTray_81 : i_at mX5_bestTray.2.2.2.2.2 81 = some (.goto (-72), 3, 9, 0, 0, 0) := by decide +kernel
theorem aX5_bestTray_84 : i_at mX5_bestTray.2.2.2.2.2 84 = some (.iload_n 3, 1, 0, 0, 0, 0) := by decide +kernel
theorem aX5_bestTray_85 : i_at mX5_bestTray.2.2.2.2.2 85 = some (.ifCond .eq 8, 3, 93, 0, 0, 0) := by decide +kernel
theorem aX5_bestTray_88 : i_at mX5_bestTray.2.2.2.2.2 88 = some (.iload 4, 2, 0, 0, 0, 0) := by decide +kernel
theorem aX5_bestTray_90 : i_at mX5_bestTray.2.2.2.2.2 90 = some (.goto 5, 3, 95, 0, 0, 0) := by decide +kernel
theorem aX5_bestTray_93 : i_at mX5_bestTray.2.2.2.2.2 93 = some (.iload 5, 2, 0, 0, 0, 0) := by decide +kernel
theorem aX5_bestTray_95 : i_at mX5_bestTray.2.2.2.2.2 95 = some (.ireturn, 1, 0, 0, 0, 0) := by decide +kernel
noncomputable def fX5_bestTray_J78 (sh : List kd) (p1 : Int32) (p2 : Int32) (p3 : Int32) (x3 : Int32) (r70 : Int32) (s71 : St) (k9 : Int32 → Int32 → Int32 → Value → St → Option (Int32 × St)) (x123 : Int32) (x124 : Int32) : Option (Int32 × St) := k9 x123 x124 (x3 + 1) (.int r70) s71
noncomputable def fX5_bestTray_L9 (sh : List kd) (p1 : Int32) (p2 : Int32) (p3 : Int32) (k84 : Int32 → Int32 → Int32 → Value → St → Option (Int32 × St)) : Nat → Int32 → Int32 → Int32 → Value → St → Option (Int32 × St)
  | 0, _, _, _, _, _ => none
  | n61 + 1, x1, x2, x3, x4, s5 => if (s5.1 20 3) ≤ x3 then k84 x1 x2 x3 x4 s5 else i_bd (fX5_begin sh s5) (fun r63 s64 => i_bd (fX5_goOn sh (s_F s64 135 2 x3) p2) (fun r66 s67 => if i_ok p1 6 then i_bd (fX6_rankOf sh s67 20 (s67.2.1 137 p1.toNatClampNeg)) (fun r70 s71 => if r70 ≤ x2 then fX5_bestTray_J78 sh p1 p2 p3 x3 r70 s71 (fX5_bestTray_L9 sh p1 p2 p3 k84 n61) x1 x2 else fX5_bestTray_J78 sh p1 p2 p3 x3 r70 s71 (fX5_bestTray_L9 sh p1 p2 p3 k84 n61) x3 r70) else none))
noncomputable def fX5_bestTray_X84 (sh : List kd) (p1 : Int32) (p2 : Int32) (p3 : Int32) (x56 : Int32) (x57 : Int32) (x58 : Int32) (x59 : Value) (s60 : St) : Option (Int32 × St) := some (((if p3 = 0 then x57 else x56) : Int32), s60)
noncomputable def fX5_bestTray (sh : List kd) (σ : St) (p1 : Int32) (p2 : Int32) (p3 : Int32) : Option (Int32 × St) := fX5_bestTray_L9 sh p1 p2 p3 (fun (x56 : Int32) (x57 : Int32) (x58 : Int32) (x59 : Value) (s60 : St) => fX5_bestTray_X84 sh p1 p2 p3 x56 x57 x58 x59 s60) i_F (-1) (-1) (-1) (.retAddr 0) σ
set_option maxRecDepth 20000 in
set_option maxHeartbeats 2000000 in
theorem tX5_bestTray_J78 {sh : List kd} {τ : St} {r : Int32} (hsh : cSh sh) {p1 : Int32} {p2 : Int32} {p3 : Int32} {x3 : Int32} {r70 : Int32} {s71 : St} {x123 : Int32} {x124 : Int32} {k9 : Int32 → Int32 → Int32 → Value → St → Option (Int32 × St)} (hk9 : ∀ (x1 : Int32) (x2 : Int32) (x3 : Int32) (x4 : Value) (s5 : St), k9 x1 x2 x3 x4 s5 = some (r, τ) → g_R sh 6 mX5_bestTray (some (.int r)) τ 9 [.ref 134, .int p1, .int p2, .int p3, .int x1, .int x2, .int x3, x4] [] (s5)) (hE : fX5_bestTray_J78 sh p1 p2 p3 x3 r70 s71 k9 x123 x124 = some (r, τ)) : g_R sh 6 mX5_bestTray (some (.int r)) τ 78 [.ref 134, .int p1, .int p2, .int p3, .int x123, .int x124, .int x3, .int r70] [] (s71) := by
  unfold fX5_bestTray_J78 at hE
  refine g_iinc (y := 1) (loc2 := [.ref 134, .int p1, .int p2, .int p3, .int x123, .int x124, .int (x3 + 1), .int r70]) aX5_bestTray_78 rfl rfl rfl ?_
  refine g_goto aX5_bestTray_81 ?_
  exact hk9 _ _ _ _ _ hE
set_option maxRecDepth 20000 in
set_option maxHeartbeats 2000000 in
theorem tX5_bestTray_L9 {sh : List kd} {τ : St} {r : Int32} (hsh : cSh sh) {p1 : Int32} {p2 : Int32} {p3 : Int32} {k84 : Int32 → Int32 → Int32 → Value → St → Option (Int32 × St)} (hk84 : ∀ (x56 : Int32) (x57 : Int32) (x58 : Int32) (x59 : Value) (s60 : St), k84 x56 x57 x58 x59 s60 = some (r, τ) → g_R sh 6 mX5_bestTray (some (.int r)) τ 84 [.ref 134, .int p1, .int p2, .int p3, .int x56, .int x57, .int x58, x59] [] (s60)) : ∀ (n0 : Nat) (x1 : Int32) (x2 : Int32) (x3 : Int32) (x4 : Value) (s5 : St), fX5_bestTray_L9 sh p1 p2 p3 k84 n0 x1 x2 x3 x4 s5 = some (r, τ) → g_R sh 6 mX5_bestTray (some (.int r)) τ 9 [.ref 134, .int p1, .int p2, .int p3, .int x1, .int x2, .int x3, x4] [] (s5) := by
  intro n0
  induction n0 with
  | zero => intro _ _ _ _ _ hE; cases hE
  | succ n61 ih =>
    intro x1 x2 x3 x4 s5 hE
    unfold fX5_bestTray_L9 at hE
    refine g_ldi aX5_bestTray_9 rfl ?_
    refine g_ldan aX5_bestTray_11 rfl ?_
    refine g_getR aX5_bestTray_12 (sC_134 hsh) rfl ?_
    refine g_getR aX5_bestTray_15 ((wShB_19 hsh).1) rfl ?_
    refine g_getI aX5_bestTray_18 ((rShB_20 hsh).1) rfl ?_
    by_cases hc62 : (s5.1 20 3) ≤ x3
    · rw [if_pos hc62] at hE
      refine g_ic_ge_t aX5_bestTray_21 hc62 ?_
      exact hk84 _ _ _ _ _ hE
    · rw [if_neg hc62] at hE
      refine g_ic_ge_f aX5_bestTray_21 hc62 ?_
      refine g_ldan aX5_bestTray_24 rfl ?_
      obtain ⟨r63, s64, h65, hE⟩ := i_bd_some hE
      refine g_calV (As := []) (rest := []) aX5_bestTray_25 (i_X_mono (by omega) (tX5_begin hsh h65)) (sC_134 hsh) (by decide +kernel) rfl rfl (Nat.le_of_ble_eq_true rfl) rfl ?_
      refine g_ldan aX5_bestTray_28 rfl ?_
      refine g_getR aX5_bestTray_29 (sC_134 hsh) rfl ?_
      refine g_ldi aX5_bestTray_32 rfl ?_
      refine g_putI aX5_bestTray_34 ((lShB_135 hsh).1) rfl rfl ?_
      refine g_ldan aX5_bestTray_37 rfl ?_
      refine g_ldin aX5_bestTray_38 rfl ?_
      obtain ⟨r66, s67, h68, hE⟩ := i_bd_some hE
      refine g_calV (As := [.int p2]) (rest := []) aX5_bestTray_39 (i_X_mono (by omega) (tX5_goOn hsh h68)) (sC_134 hsh) (by decide +kernel) rfl rfl (Nat.le_of_ble_eq_true rfl) rfl ?_
      refine g_ldan aX5_bestTray_42 rfl ?_
      refine g_getR aX5_bestTray_43 (sC_134 hsh) rfl ?_
      refine g_getR aX5_bestTray_46 ((wShB_19 hsh).1) rfl ?_
      refine g_ldan aX5_bestTray_49 rfl ?_
      refine g_getR aX5_bestTray_50 (sC_134 hsh) rfl ?_
      refine g_getR aX5_bestTray_53 ((lShB_135 hsh).1) rfl ?_
      refine g_ldin aX5_bestTray_56 rfl ?_
      obtain ⟨h69, hE⟩ := i_ifn hE
      refine g_ild aX5_bestTray_57 (sC_137 hsh) h69 ?_
      obtain ⟨r70, s71, h72, hE⟩ := i_bd_some hE
      refine g_calV (As := [.int (s67.2.1 137 p1.toNatClampNeg)]) (rest := []) aX5_bestTray_58 (i_X_mono (by omega) (tX6_rankOf hsh (rShB_20 hsh) h72)) ((rShB_20 hsh).1) (by decide +kernel) rfl rfl (Nat.le_of_ble_eq_true rfl) rfl ?_
      refine g_sti (loc2 := [.ref 134, .int p1, .int p2, .int p3, .int x1, .int x2, .int x3, .int r70]) aX5_bestTray_61 (Nat.le_of_ble_eq_true rfl) rfl ?_
      refine g_ldi aX5_bestTray_63 rfl ?_
      refine g_ldi aX5_bestTray_65 rfl ?_
      by_cases hc125 : r70 ≤ x2
      · rw [if_pos hc125] at hE
        refine g_ic_le_t aX5_bestTray_67 hc125 ?_
        exact tX5_bestTray_J78 hsh ih hE
      · rw [if_neg hc125] at hE
        refine g_ic_le_f aX5_bestTray_67 hc125 ?_
        refine g_ldi aX5_bestTray_70 rfl ?_
        refine g_sti (loc2 := [.ref 134, .int p1, .int p2, .int p3, .int x1, .int r70, .int x3, .int r70]) aX5_bestTray_72 (Nat.le_of_ble_eq_true rfl) rfl ?_
        refine g_ldi aX5_bestTray_74 rfl ?_
        refine g_sti (loc2 := [.ref 134, .int p1, .int p2, .int p3, .int x3, .int r70, .int x3, .int r70]) aX5_bestTray_76 (Nat.le_of_ble_eq_true rfl) rfl ?_
        exact tX5_bestTray_J78 hsh ih hE
set_option maxRecDepth 20000 in
set_option maxHeartbeats 2000000 in
theorem tX5_bestTray_X84 {sh : List kd} {τ : St} {r : Int32} (hsh : cSh sh) {p1 : Int32} {p2 : Int32} {p3 : Int32} {x56 : Int32} {x57 : Int32} {x58 : Int32} {x59 : Value} {s60 : St} (hE : fX5_bestTray_X84 sh p1 p2 p3 x56 x57 x58 x59 s60 = some (r, τ)) : g_R sh 6 mX5_bestTray (some (.int r)) τ 84 [.ref 134, .int p1, .int p2, .int p3, .int x56, .int x57, .int x58, x59] [] (s60) := by
  unfold fX5_bestTray_X84 at hE
  refine g_ldin aX5_bestTray_84 rfl ?_
  have hJ : g_R sh 6 mX5_bestTray (some (.int r)) τ 95 [.ref 134, .int p1, .int p2, .int p3, .int x56, .int x57, .int x58, x59] [.int ((if p3 = 0 then x57 else x56) : Int32)] (s60) := by
    obtain ⟨rfl, rfl⟩ := i_some_inj hE
    exact g_iret aX5_bestTray_95 rfl rfl
  clear hE
  by_cases hc125 : p3 = 0
  · (try rw [if_pos hc125] at hJ)
    refine g_if_eq_t aX5_bestTray_85 hc125 ?_
    refine g_ldi aX5_bestTray_93 rfl ?_
    exact hJ
  · (try rw [if_neg hc125] at hJ)
    refine g_if_eq_f aX5_bestTray_85 hc125 ?_
    refine g_ldi aX5_bestTray_88 rfl ?_
    refine g_goto aX5_bestTray_90 ?_
    exact hJ
set_option maxRecDepth 20000 in
set_option maxHeartbeats 2000000 in
theorem tX5_bestTray {sh : List kd} {σ τ : St} {r : Int32} (hsh : cSh sh) {p1 : Int32} {p2 : Int32} {p3 : Int32} (hE : fX5_bestTray sh σ p1 p2 p3 = some (r, τ)) : i_X 7 40 [.ref 134, .int p1, .int p2, .int p3] (s_h sh σ) 0 0 (some (.int r)) (s_h sh τ) := by
  refine g_X (M := mX5_bestTray) (loc := [.ref 134, .int p1, .int p2, .int p3, .retAddr 0, .retAddr 0, .retAddr 0, .retAddr 0]) rfl (Nat.le_of_ble_eq_true rfl) rfl ?_
  unfold fX5_bestTray at hE
  refine g_iconst (x := (-1)) aX5_bestTray_0 rfl ?_
  refine g_sti (loc2 := [.ref 134, .int p1, .int p2, .int p3, .int (-1), .retAddr 0, .retAddr 0, .retAddr 0]) aX5_bestTray_1 (Nat.le_of_ble_eq_true rfl) rfl ?_
  refine g_iconst (x := (-1)) aX5_bestTray_3 rfl ?_
  refine g_sti (loc2 := [.ref 134, .int p1, .int p2, .int p3, .int (-1), .int (-1), .retAddr 0, .retAddr 0]) aX5_bestTray_4 (Nat.le_of_ble_eq_true rfl) rfl ?_
  refine g_iconst (x := (-1)) aX5_bestTray_6 rfl ?_
  refine g_sti (loc2 := [.ref 134, .int p1, .int p2, .int p3, .int (-1), .int (-1), .int (-1), .retAddr 0]) aX5_bestTray_7 (Nat.le_of_ble_eq_true rfl) rfl ?_
  exact tX5_bestTray_L9 hsh (fun x56 x57 x58 x59 s60 hE => tX5_bestTray_X84 hsh hE) i_F _ _ _ _ _ hE
theorem aX5_timesHeld_0 : i_at mX5_timesHeld.2.2.2.2.2 0 = some (.aload_n 0, 1, 0, 0, 0, 0) := by decide +kernel
theorem aX5_timesHeld_1 : i_at mX5_timesHeld.2.2.2.2.2 1 = some (.invokevirtual 59, 3, 33, 0, 887, 0) := by decide +kernel
theorem aX5_timesHeld_4 : i_at mX5_timesHeld.2.2.2.2.2 4 = some (.aload_n 0, 1, 0, 0, 0, 0) := by decide +kernel
theorem aX5_timesHeld_5 : i_at mX5_timesHeld.2.2.2.2.2 5 = some (.iload_n 2, 1, 0, 0, 0, 0) := by decide +kernel
theorem aX5_timesHeld_6 : i_at mX5_timesHeld.2.2.2.2.2 6 = some (.invokevirtual 62, 3, 34, 1, 892, 0) := by decide +kernel
theorem aX5_timesHeld_9 : i_at mX5_timesHeld.2.2.2.2.2 9 = some (.aload_n 0, 1, 0, 0, 0, 0) := by decide +kernel
theorem aX5_timesHeld_10 : i_at mX5_timesHeld.2.2.2.2.2 10 = some (.getfield 12, 3, 4, 2, 402, 0) := by decide +kernel
theorem aX5_timesHeld_13 : i_at mX5_timesHeld.2.2.2.2.2 13 = some (.getfield 113, 3, 3, 7, 324, 0) := by decide +kernel
theorem aX5_timesHeld_16 : i_at mX5_timesHeld.2.2.2.2.2 16 = some (.iload_n 1, 1, 0, 0, 0, 0) := by decide +kernel
theorem aX5_timesHeld_17 : i_at mX5_timesHeld.2.2.2.2.2 17 = some (.iaload, 1, 0, 0, 0, 0) := by decide +kernel
theorem aX5_timesHeld_18 : i_at mX5_timesHeld.2.2.2.2.2 18 = some (.aload_n 0, 1, 0, 0, 0, 0) := by decide +kernel
theorem aX5_timesHeld_19 : i_at mX5_timesHeld.2.2.2.2.2 19 = some (.getfield 28, 3, 4, 0, 400, 0) := by decide +kernel
theorem aX5_timesHeld_22 : i_at mX5_timesHeld.2.2.2.2.2 22 = some (.getfield 36, 3, 9, 1, 350, 0) := by decide +kernel
theorem aX5_timesHeld_25 : i_at mX5_timesHeld.2.2.2.2.2 25 = some (.getfield 113, 3, 3, 7, 324, 0) := by decide +kernel
theorem aX5_timesHeld_28 : i_at mX5_timesHeld.2.2.2.2.2 28 = some (.iload_n 1, 1, 0, 0, 0, 0) := by decide +kernel
theorem aX5_timesHeld_29 : i_at mX5_timesHeld.2.2.2.2.2 29 = some (.iaload, 1, 0, 0, 0, 0) := by decide +kernel
theorem aX5_timesHeld_30 : i_at mX5_timesHeld.2.2.2.2.2 30 = some (.isub, 1, 0, 0, 0, 0) := by decide +kernel
theorem aX5_timesHeld_31 : i_at mX5_timesHeld.2.2.2.2.2 31 = some (.ireturn, 1, 0, 0, 0, 0) := by decide +kernel
noncomputable def fX5_timesHeld (sh : List kd) (σ : St) (p1 : Int32) (p2 : Int32) : Option (Int32 × St) := i_bd (fX5_begin sh σ) (fun r1 s2 => i_bd (fX5_goOn sh s2 p2) (fun r4 s5 => if i_ok p1 6 then if i_ok p1 6 then some (((s5.2.1 139 p1.toNatClampNeg) - (s5.2.1 30 p1.toNatClampNeg)), s5) else none else none))
set_option maxRecDepth 20000 in
set_option maxHeartbeats 2000000 in
theorem tX5_timesHeld {sh : List kd} {σ τ : St} {r : Int32} (hsh : cSh sh) {p1 : Int32} {p2 : Int32} (hE : fX5_timesHeld sh σ p1 p2 = some (r, τ)) : i_X 7 41 [.ref 134, .int p1, .int p2] (s_h sh σ) 0 0 (some (.int r)) (s_h sh τ) := by
  refine g_X (M := mX5_timesHeld) (loc := [.ref 134, .int p1, .int p2]) rfl (Nat.le_of_ble_eq_true rfl) rfl ?_
  unfold fX5_timesHeld at hE
  refine g_ldan aX5_timesHeld_0 rfl ?_
  obtain ⟨r1, s2, h3, hE⟩ := i_bd_some hE
  refine g_calV (As := []) (rest := []) aX5_timesHeld_1 (i_X_mono (by omega) (tX5_begin hsh h3)) (sC_134 hsh) (by decide +kernel) rfl rfl (Nat.le_of_ble_eq_true rfl) rfl ?_
  refine g_ldan aX5_timesHeld_4 rfl ?_
  refine g_ldin aX5_timesHeld_5 rfl ?_
  obtain ⟨r4, s5, h6, hE⟩ := i_bd_some hE
  refine g_calV (As := [.int p2]) (rest := []) aX5_timesHeld_6 (i_X_mono (by omega) (tX5_goOn hsh h6)) (sC_134 hsh) (by decide +kernel) rfl rfl (Nat.le_of_ble_eq_true rfl) rfl ?_
  refine g_ldan aX5_timesHeld_9 rfl ?_
  refine g_getR aX5_timesHeld_10 (sC_134 hsh) rfl ?_
  refine g_getR aX5_timesHeld_13 ((lShB_135 hsh).1) rfl ?_
  refine g_ldin aX5_timesHeld_16 rfl ?_
  obtain ⟨h7, hE⟩ := i_ifn hE
  refine g_ild aX5_timesHeld_17 (sC_139 hsh) h7 ?_
  refine g_ldan aX5_timesHeld_18 rfl ?_
  refine g_getR aX5_timesHeld_19 (sC_134 hsh) rfl ?_
  refine g_getR aX5_timesHeld_22 ((wShB_19 hsh).1) rfl ?_
  refine g_getR aX5_timesHeld_25 ((lShB_26 hsh).1) rfl ?_
  refine g_ldin aX5_timesHeld_28 rfl ?_
  obtain ⟨h8, hE⟩ := i_ifn hE
  refine g_ild aX5_timesHeld_29 (sC_30 hsh) h8 ?_
  refine g_isub aX5_timesHeld_30 ?_
  obtain ⟨rfl, rfl⟩ := i_some_inj hE
  exact g_iret aX5_timesHeld_31 rfl rfl
theorem aX5_neverHeld_0 : i_at mX5_neverHeld.2.2.2.2.2 0 = some (.aload_n 0, 1, 0, 0, 0, 0) := by decide +kernel
theorem aX5_neverHeld_1 : i_at mX5_neverHeld.2.2.2.2.2 1 = some (.invokevirtual 59, 3, 33, 0, 887, 0) := by decide +kernel
theorem aX5_neverHeld_4 : i_at mX5_neverHeld.2.2.2.2.2 4 = some (.aload_n 0, 1, 0, 0, 0, 0) := by decide +kernel
theorem aX5_neverHeld_5 : i_at mX5_neverHeld.2.2.2.2.2 5 = some (.iload_n 1, 1, 0, 0, 0, 0) := by decide +kernel
theorem aX5_neverHeld_6 : i_at mX5_neverHeld.2.2.2.2.2 6 = some (.invokevirtual 62, 3, 34, 1, 892, 0) := by decide +kernel
theorem aX5_neverHeld_9 : i_at mX5_neverHeld.2.2.2.2.2 9 = some (.iconst 0, 1, 0, 0, 0, 0) := by decide +kernel
theorem aX5_neverHeld_10 : i_at mX5_neverHeld.2.2.2.2.2 10 = some (.istore_n 2, 1, 0, 0, 0, 0) := by decide +kernel
theorem aX5_neverHeld_11 : i_at mX5_neverHeld.2.2.2.2.2 11 = some (.iconst 0, 1, 0, 0, 0, 0) := by decide +kernel
theorem aX5_neverHeld_12 : i_at mX5_neverHeld.2.2.2.2.2 12 = some (.istore_n 3, 1, 0, 0, 0, 0) := by decide +kernel
theorem aX5_neverHeld_13 : i_at mX5_neverHeld.2.2.2.2.2 13 = some (.iload_n 3, 1, 0, 0, 0, 0) := by decide +kernel
theorem aX5_neverHeld_14 : i_at mX5_neverHeld.2.2.2.2.2 14 = some (.aload_n 0, 1, 0, 0, 0, 0) := by decide +kernel
theorem aX5_neverHeld_15 : i_at mX5_neverHeld.2.2.2.2.2 15 = some (.getfield 28, 3, 4, 0, 400, 0) := by decide +kernel
theorem aX5_neverHeld_18 : i_at mX5_neverHeld.2.2.2.2.2 18 = some (.getfield 45, 3, 9, 0, 346, 0) := by decide +kernel
theorem aX5_neverHeld_21 : i_at mX5_neverHeld.2.2.2.2.2 21 = some (.getfield 102, 3, 5, 3, 168, 0) := by decide +kernel
theorem aX5_neverHeld_24 : i_at mX5_neverHeld.2.2.2.2.2 24 = some (.if_icmp .ge 39, 3, 63, 0, 0, 0) := by decide +kernel
theorem aX5_neverHeld_27 : i_at mX5_neverHeld.2.2.2.2.2 27 = some (.aload_n 0, 1, 0, 0, 0, 0) := by decide +kernel
theorem aX5_neverHeld_28 : i_at mX5_neverHeld.2.2.2.2.2 28 = some (.getfield 12, 3, 4, 2, 402, 0) := by decide +kernel
theorem aX5_neverHeld_31 : i_at mX5_neverHeld.2.2.2.2.2 31 = some (.getfield 113, 3, 3, 7, 324, 0) := by decide +kernel
theorem aX5_neverHeld_34 : i_at mX5_neverHeld.2.2.2.2.2 34 = some (.iload_n 3, 1, 0, 0, 0, 0) := by decide +kernel
theorem aX5_neverHeld_35 : i_at mX5_neverHeld.2.2.2.2.2 35 = some (.iaload, 1, 0, 0, 0, 0) := by decide +kernel
theorem aX5_neverHeld_36 : i_at mX5_neverHeld.2.2.2.2.2 36 = some (.aload_n 0, 1, 0, 0, 0, 0) := by decide +kernel
theorem aX5_neverHeld_37 : i_at mX5_neverHeld.2.2.2.2.2 37 = some (.getfield 28, 3, 4, 0, 400, 0) := by decide +kernel
theorem aX5_neverHeld_40 : i_at mX5_neverHeld.2.2.2.2.2 40 = some (.getfield 36, 3, 9, 1, 350, 0) := by decide +kernel
theorem aX5_neverHeld_43 : i_at mX5_neverHeld.2.2.2.2.2 43 = some (.getfield 113, 3, 3, 7, 324, 0) := by decide +kernel
theorem aX5_neverHeld_46 : i_at mX5_neverHeld.2.2.2.2.2 46 = some (.iload_n 3, 1, 0, 0, 0, 0) := by decide +kernel
theorem aX5_neverHeld_47 : i_at mX5_neverHeld.2.2.2.2.2 47 = some (.iaload, 1, 0, 0, 0, 0) := by decide +kernel
theorem aX5_neverHeld_48 : i_at mX5_neverHeld.2.2.2.2.2 48 = some (.if_icmp .ne 9, 3, 57, 0, 0, 0) := by decide +kernel
theorem aX5_neverHeld_51 : i_at mX5_neverHeld.2.2.2.2.2 51 = some (.iload_n 2, 1, 0, 0, 0, 0) := by decide +kernel
theorem aX5_neverHeld_52 : i_at mX5_neverHeld.2.2.2.2.2 52 = some (.iconst 1, 1, 0, 0, 0, 0) := by decide +kernel
theorem aX5_neverHeld_53 : i_at mX5_neverHeld.2.2.2.2.2 53 = some (.iload_n 3, 1, 0, 0, 0, 0) := by decide +kernel
theorem aX5_neverHeld_54 : i_at mX5_neverHeld.2.2.2.2.2 54 = some (.ishl, 1, 0, 0, 0, 0) := by decide +kernel
theorem aX5_neverHeld_55 : i_at mX5_neverHeld.2.2.2.2.2 55 = some (.ior, 1, 0, 0, 0, 0) := by decide +kernel
theorem aX5_neverHeld_56 : i_at mX5_neverHeld.2.2.2.2.2 56 = some (.istore_n 2, 1, 0, 0, 0, 0) := by decide +kernel
theorem aX5_neverHeld_57 : i_at mX5_neverHeld.2.2.2.2.2 57 = some (.iinc 3 1, 3, 0, 0, 0, 0) := by decide +kernel
theorem aX5_neverHeld_60 : i_at mX5_neverHeld.2.2.2.2.2 60 = some (.goto (-47), 3, 13, 0, 0, 0) := by decide +kernel
theorem aX5_neverHeld_63 : i_at mX5_neverHeld.2.2.2.2.2 63 = some (.iload_n 2, 1, 0, 0, 0, 0) := by decide +kernel
theorem aX5_neverHeld_64 : i_at mX5_neverHeld.2.2.2.2.2 64 = some (.ireturn, 1, 0, 0, 0, 0) := by decide +kernel
noncomputable def fX5_neverHeld_L13 (sh : List kd) (p1 : Int32) (s5 : St) : Nat → Int32 → Int32 → Option (Int32 × St)
  | 0, _, _ => none
  | n9 + 1, x7, x8 => if (s5.1 20 3) ≤ x8 then some (x7, s5) else if i_ok x8 6 then if i_ok x8 6 then (fX5_neverHeld_L13 sh p1 s5 n9 ((if ¬ (s5.2.1 139 x8.toNatClampNeg) = (s5.2.1 30 x8.toNatClampNeg) then x7 else (x7 ||| (1 <<< (x8 &&& 31)))) : Int32) (x8 + 1)) else none else none
noncomputable def fX5_neverHeld (sh : List kd) (σ : St) (p1 : Int32) : Option (Int32 × St) := i_bd (fX5_begin sh σ) (fun r1 s2 => i_bd (fX5_goOn sh s2 p1) (fun r4 s5 => fX5_neverHeld_L13 sh p1 s5 i_F 0 0))
set_option maxRecDepth 20000 in
set_option maxHeartbeats 2000000 in
theorem tX5_neverHeld_L13 {sh : List kd} {τ : St} {r : Int32} (hsh : cSh sh) {p1 : Int32} {s5 : St} : ∀ (n0 : Nat) (x7 : Int32) (x8 : Int32), fX5_neverHeld_L13 sh p1 s5 n0 x7 x8 = some (r, τ) → g_R sh 6 mX5_neverHeld (some (.int r)) τ 13 [.ref 134, .int p1, .int x7, .int x8] [] (s5) := by
  intro n0
  induction n0 with
  | zero => intro _ _ hE; cases hE
  | succ n9 ih =>
    intro x7 x8 hE
    unfold fX5_neverHeld_L13 at hE
    refine g_ldin aX5_neverHeld_13 rfl ?_
    refine g_ldan aX5_neverHeld_14 rfl ?_
    refine g_getR aX5_neverHeld_15 (sC_134 hsh) rfl ?_
    refine g_getR aX5_neverHeld_18 ((wShB_19 hsh).1) rfl ?_
    refine g_getI aX5_neverHeld_21 ((rShB_20 hsh).1) rfl ?_
    by_cases hc60 : (s5.1 20 3) ≤ x8
    · rw [if_pos hc60] at hE
      refine g_ic_ge_t aX5_neverHeld_24 hc60 ?_
      refine g_ldin aX5_neverHeld_63 rfl ?_
      obtain ⟨rfl, rfl⟩ := i_some_inj hE
      exact g_iret aX5_neverHeld_64 rfl rfl
    · rw [if_neg hc60] at hE
      refine g_ic_ge_f aX5_neverHeld_24 hc60 ?_
      refine g_ldan aX5_neverHeld_27 rfl ?_
      refine g_getR aX5_neverHeld_28 (sC_134 hsh) rfl ?_
      refine g_getR aX5_neverHeld_31 ((lShB_135 hsh).1) rfl ?_
      refine g_ldin aX5_neverHeld_34 rfl ?_
      obtain ⟨h61, hE⟩ := i_ifn hE
      refine g_ild aX5_neverHeld_35 (sC_139 hsh) h61 ?_
      refine g_ldan aX5_neverHeld_36 rfl ?_
      refine g_getR aX5_neverHeld_37 (sC_134 hsh) rfl ?_
      refine g_getR aX5_neverHeld_40 ((wShB_19 hsh).1) rfl ?_
      refine g_getR aX5_neverHeld_43 ((lShB_26 hsh).1) rfl ?_
      refine g_ldin aX5_neverHeld_46 rfl ?_
      obtain ⟨h62, hE⟩ := i_ifn hE
      refine g_ild aX5_neverHeld_47 (sC_30 hsh) h62 ?_
      have hJ : g_R sh 6 mX5_neverHeld (some (.int r)) τ 57 [.ref 134, .int p1, .int ((if ¬ (s5.2.1 139 x8.toNatClampNeg) = (s5.2.1 30 x8.toNatClampNeg) then x7 else (x7 ||| (1 <<< (x8 &&& 31)))) : Int32), .int x8] [] (s5) := by
        refine g_iinc (y := 1) (loc2 := [.ref 134, .int p1, .int ((if ¬ (s5.2.1 139 x8.toNatClampNeg) = (s5.2.1 30 x8.toNatClampNeg) then x7 else (x7 ||| (1 <<< (x8 &&& 31)))) : Int32), .int (x8 + 1)]) aX5_neverHeld_57 rfl rfl rfl ?_
        refine g_goto aX5_neverHeld_60 ?_
        exact ih _ _ hE
      clear hE
      by_cases hc62 : ¬ (s5.2.1 139 x8.toNatClampNeg) = (s5.2.1 30 x8.toNatClampNeg)
      · (try rw [if_pos hc62] at hJ)
        refine g_ic_ne_t aX5_neverHeld_48 hc62 ?_
        exact hJ
      · (try rw [if_neg hc62] at hJ)
        refine g_ic_ne_f aX5_neverHeld_48 hc62 ?_
        refine g_ldin aX5_neverHeld_51 rfl ?_
        refine g_iconst (x := 1) aX5_neverHeld_52 rfl ?_
        refine g_ldin aX5_neverHeld_53 rfl ?_
        refine g_ishl aX5_neverHeld_54 ?_
        refine g_ior aX5_neverHeld_55 ?_
        refine g_stin (loc2 := [.ref 134, .int p1, .int (x7 ||| (1 <<< (x8 &&& 31))), .int x8]) aX5_neverHeld_56 (Nat.le_of_ble_eq_true rfl) rfl ?_
        exact hJ
set_option maxRecDepth 20000 in
set_option maxHeartbeats 2000000 in
theorem tX5_neverHeld {sh : List kd} {σ τ : St} {r : Int32} (hsh : cSh sh) {p1 : Int32} (hE : fX5_neverHeld sh σ p1 = some (r, τ)) : i_X 7 42 [.ref 134, .int p1] (s_h sh σ) 0 0 (some (.int r)) (s_h sh τ) := by
  refine g_X (M := mX5_neverHeld) (loc := [.ref 134, .int p1, .retAddr 0, .retAddr 0]) rfl (Nat.le_of_ble_eq_true rfl) rfl ?_
  unfold fX5_neverHeld at hE
  refine g_ldan aX5_neverHeld_0 rfl ?_
  obtain ⟨r1, s2, h3, hE⟩ := i_bd_some hE
  refine g_calV (As := []) (rest := []) aX5_neverHeld_1 (i_X_mono (by omega) (tX5_begin hsh h3)) (sC_134 hsh) (by decide +kernel) rfl rfl (Nat.le_of_ble_eq_true rfl) rfl ?_
  refine g_ldan aX5_neverHeld_4 rfl ?_
  refine g_ldin aX5_neverHeld_5 rfl ?_
  obtain ⟨r4, s5, h6, hE⟩ := i_bd_some hE
  refine g_calV (As := [.int p1]) (rest := []) aX5_neverHeld_6 (i_X_mono (by omega) (tX5_goOn hsh h6)) (sC_134 hsh) (by decide +kernel) rfl rfl (Nat.le_of_ble_eq_true rfl) rfl ?_
  refine g_iconst (x := 0) aX5_neverHeld_9 rfl ?_
  refine g_stin (loc2 := [.ref 134, .int p1, .int 0, .retAddr 0]) aX5_neverHeld_10 (Nat.le_of_ble_eq_true rfl) rfl ?_
  refine g_iconst (x := 0) aX5_neverHeld_11 rfl ?_
  refine g_stin (loc2 := [.ref 134, .int p1, .int 0, .int 0]) aX5_neverHeld_12 (Nat.le_of_ble_eq_true rfl) rfl ?_
  exact tX5_neverHeld_L13 hsh i_F _ _ hE
theorem aX5_playAllTwos_0 : i_at mX5_playAllTwos.2.2.2.2.2 0 = some (.iconst 0, 1, 0, 0, 0, 0) := by decide +kernel
theorem aX5_playAllTwos_1 : i_at mX5_playAllTwos.2.2.2.2.2 1 = some (.istore 4, 2, 0, 0, 0, 0) := by decide +kernel
theorem aX5_playAllTwos_3 : i_at mX5_playAllTwos.2.2.2.2.2 3 = some (.iload 4, 2, 0, 0, 0, 0) := by decide +kernel
theorem aX5_playAllTwos_5 : i_at mX5_playAllTwos.2.2.2.2.2 5 = some (.bipush 25, 2, 0, 0, 0, 0) := by decide +kernel
theorem aX5_playAllTwos_7 : i_at mX5_playAllTwos.2.2.2.2.2 7 = some (.if_icmp .ge 114, 3, 121, 0, 0, 0) := by decide +kernel
theorem aX5_playAllTwos_10 : i_at mX5_playAllTwos.2.2.2.2.2 10 = some (.iload 4, 2, 0, 0, 0, 0) := by decide +kernel
theorem aX5_playAllTwos_12 : i_at mX5_playAllTwos.2.2.2.2.2 12 = some (.iconst 5, 1, 0, 0, 0, 0) := by decide +kernel
theorem aX5_playAllTwos_13 : i_at mX5_playAllTwos.2.2.2.2.2 13 = some (.idiv, 1, 0, 0, 0, 0) := by decide +kernel
theorem aX5_playAllTwos_14 : i_at mX5_playAllTwos.2.2.2.2.2 14 = some (.istore 5, 2, 0, 0, 0, 0) := by decide +kernel
theorem aX5_playAllTwos_16 : i_at mX5_playAllTwos.2.2.2.2.2 16 = some (.iload 4, 2, 0, 0, 0, 0) := by decide +kernel
theorem aX5_playAllTwos_18 : i_at mX5_playAllTwos.2.2.2.2.2 18 = some (.iconst 5, 1, 0, 0, 0, 0) := by decide +kernel
theorem aX5_playAllTwos_19 : i_at mX5_playAllTwos.2.2.2.2.2 19 = some (.irem, 1, 0, 0, 0, 0) := by decide +kernel
theorem aX5_playAllTwos_20 : i_at mX5_playAllTwos.2.2.2.2.2 20 = some (.istore 6, 2, 0, 0, 0, 0) := by decide +kernel
theorem aX5_playAllTwos_22 : i_at mX5_playAllTwos.2.2.2.2.2 22 = some (.aload_n 0, 1, 0, 0, 0, 0) := by decide +kernel
theorem aX5_playAllTwos_23 : i_at mX5_playAllTwos.2.2.2.2.2 23 = some (.invokevirtual 59, 3, 33, 0, 887, 0) := by decide +kernel
theorem aX5_playAllTwos_26 : i_at mX5_playAllTwos.2.2.2.2.2 26 = some (.aload_n 0, 1, 0, 0, 0, 0) := by decide +kernel
theorem aX5_playAllTwos_27 : i_at mX5_playAllTwos.2.2.2.2.2 27 = some (.getfield 12, 3, 4, 2, 402, 0) := by decide +kernel
theorem aX5_playAllTwos_30 : i_at mX5_playAllTwos.2.2.2.2.2 30 = some (.iload_n 1, 1, 0, 0, 0, 0) := by decide +kernel
theorem aX5_playAllTwos_31 : i_at mX5_playAllTwos.2.2.2.2.2 31 = some (.bipush 10, 2, 0, 0, 0, 0) := by decide +kernel
theorem aX5_playAllTwos_33 : i_at mX5_playAllTwos.2.2.2.2.2 33 = some (.iload 5, 2, 0, 0, 0, 0) := by decide +kernel
theorem aX5_playAllTwos_35 : i_at mX5_playAllTwos.2.2.2.2.2 35 = some (.imul, 1, 0, 0, 0, 0) := by decide +kernel
theorem aX5_playAllTwos_36 : i_at mX5_playAllTwos.2.2.2.2.2 36 = some (.invokevirtual 81, 3, 28, 2, 914, 0) := by decide +kernel
theorem aX5_playAllTwos_39 : i_at mX5_playAllTwos.2.2.2.2.2 39 = some (.aload_n 0, 1, 0, 0, 0, 0) := by decide +kernel
theorem aX5_playAllTwos_40 : i_at mX5_playAllTwos.2.2.2.2.2 40 = some (.getfield 12, 3, 4, 2, 402, 0) := by decide +kernel
theorem aX5_playAllTwos_43 : i_at mX5_playAllTwos.2.2.2.2.2 43 = some (.iload_n 2, 1, 0, 0, 0, 0) := by decide +kernel
theorem aX5_playAllTwos_44 : i_at mX5_playAllTwos.2.2.2.2.2 44 = some (.bipush 10, 2, 0, 0, 0, 0) := by decide +kernel
theorem aX5_playAllTwos_46 : i_at mX5_playAllTwos.2.2.2.2.2 46 = some (.iload 6, 2, 0, 0, 0, 0) := by decide +kernel
theorem aX5_playAllTwos_48 : i_at mX5_playAllTwos.2.2.2.2.2 48 = some (.imul, 1, 0, 0, 0, 0) := by decide +kernel
theorem aX5_playAllTwos_49 : i_at mX5_playAllTwos.2.2.2.2.2 49 = some (.invokevirtual 81, 3, 28, 2, 914, 0) := by decide +kernel
theorem aX5_playAllTwos_52 : i_at mX5_playAllTwos.2.2.2.2.2 52 = some (.aload_n 0, 1, 0, 0, 0, 0) := by decide +kernel
theorem aX5_playAllTwos_53 : i_at mX5_playAllTwos.2.2.2.2.2 53 = some (.iload_n 3, 1, 0, 0, 0, 0) := by decide +kernel
theorem aX5_playAllTwos_54 : i_at mX5_playAllTwos.2.2.2.2.2 54 = some (.invokevirtual 62, 3, 34, 1, 892, 0) := by decide +kernel
theorem aX5_playAllTwos_57 : i_at mX5_playAllTwos.2.2.2.2.2 57 = some (.aload_n 0, 1, 0, 0, 0, 0) := by decide +kernel
theorem aX5_playAllTwos_58 : i_at mX5_playAllTwos.2.2.2.2.2 58 = some (.getfield 22, 3, 4, 4, 404, 0) := by decide +kernel
theorem aX5_playAllTwos_61 : i_at mX5_playAllTwos.2.2.2.2.2 61 = some (.iload 4, 2, 0, 0, 0, 0) := by decide +kernel
theorem aX5_playAllTwos_63 : i_at mX5_playAllTwos.2.2.2.2.2 63 = some (.aload_n 0, 1, 0, 0, 0, 0) := by decide +kernel
theorem aX5_playAllTwos_64 : i_at mX5_playAllTwos.2.2.2.2.2 64 = some (.getfield 28, 3, 4, 0, 400, 0) := by decide +kernel
theorem aX5_playAllTwos_67 : i_at mX5_playAllTwos.2.2.2.2.2 67 = some (.getfield 45, 3, 9, 0, 346, 0) := by decide +kernel
theorem aX5_playAllTwos_70 : i_at mX5_playAllTwos.2.2.2.2.2 70 = some (.aload_n 0, 1, 0, 0, 0, 0) := by decide +kernel
theorem aX5_playAllTwos_71 : i_at mX5_playAllTwos.2.2.2.2.2 71 = some (.getfield 12, 3, 4, 2, 402, 0) := by decide +kernel
theorem aX5_playAllTwos_74 : i_at mX5_playAllTwos.2.2.2.2.2 74 = some (.getfield 69, 3, 3, 5, 316, 0) := by decide +kernel
theorem aX5_playAllTwos_77 : i_at mX5_playAllTwos.2.2.2.2.2 77 = some (.iload_n 1, 1, 0, 0, 0, 0) := by decide +kernel
theorem aX5_playAllTwos_78 : i_at mX5_playAllTwos.2.2.2.2.2 78 = some (.iaload, 1, 0, 0, 0, 0) := by decide +kernel
theorem aX5_playAllTwos_79 : i_at mX5_playAllTwos.2.2.2.2.2 79 = some (.invokevirtual 110, 3, 56, 1, 938, 0) := by decide +kernel
theorem aX5_playAllTwos_82 : i_at mX5_playAllTwos.2.2.2.2.2 82 = some (.iload 5, 2, 0, 0, 0, 0) := by decide +kernel
theorem aX5_playAllTwos_84 : i_at mX5_playAllTwos.2.2.2.2.2 84 = some (.isub, 1, 0, 0, 0, 0) := by decide +kernel
theorem aX5_playAllTwos_85 : i_at mX5_playAllTwos.2.2.2.2.2 85 = some (.iastore, 1, 0, 0, 0, 0) := by decide +kernel
theorem aX5_playAllTwos_86 : i_at mX5_playAllTwos.2.2.2.2.2 86 = some (.aload_n 0, 1, 0, 0, 0, 0) := by decide +kernel
theorem aX5_playAllTwos_87 : i_at mX5_playAllTwos.2.2.2.2.2 87 = some (.getfield 25, 3, 4, 5, 405, 0) := by decide +kernel
theorem aX5_playAllTwos_90 : i_at mX5_playAllTwos.2.2.2.2.2 90 = some (.iload 4, 2, 0, 0, 0, 0) := by decide +kernel
theorem aX5_playAllTwos_92 : i_at mX5_playAllTwos.2.2.2.2.2 92 = some (.aload_n 0, 1, 0, 0, 0, 0) := by decide +kernel
theorem aX5_playAllTwos_93 : i_at mX5_playAllTwos.2.2.2.2.2 93 = some (.getfield 28, 3, 4, 0, 400, 0) := by decide +kernel
theorem aX5_playAllTwos_96 : i_at mX5_playAllTwos.2.2.2.2.2 96 = some (.getfield 45, 3, 9, 0, 346, 0) := by decide +kernel
theorem aX5_playAllTwos_99 : i_at mX5_playAllTwos.2.2.2.2.2 99 = some (.aload_n 0, 1, 0, 0, 0, 0) := by decide +kernel
theorem aX5_playAllTwos_100 : i_at mX5_playAllTwos.2.2.2.2.2 100 = some (.getfield 12, 3, 4, 2, 402, 0) := by decide +kernel
theorem aX5_playAllTwos_103 : i_at mX5_playAllTwos.2.2.2.2.2 103 = some (.getfield 69, 3, 3, 5, 316, 0) := by decide +kernel
theorem aX5_playAllTwos_106 : i_at mX5_playAllTwos.2.2.2.2.2 106 = some (.iload_n 2, 1, 0, 0, 0, 0) := by decide +kernel
theorem aX5_playAllTwos_107 : i_at mX5_playAllTwos.2.2.2.2.2 107 = some (.iaload, 1, 0, 0, 0, 0) := by decide +kernel
theorem aX5_playAllTwos_108 : i_at mX5_playAllTwos.2.2.2.2.2 108 = some (.invokevirtual 110, 3, 56, 1, 938, 0) := by decide +kernel
theorem aX5_playAllTwos_111 : i_at mX5_playAllTwos.2.2.2.2.2 111 = some (.iload 6, 2, 0, 0, 0, 0) := by decide +kernel
theorem aX5_playAllTwos_113 : i_at mX5_playAllTwos.2.2.2.2.2 113 = some (.isub, 1, 0, 0, 0, 0) := by decide +kernel
theorem aX5_playAllTwos_114 : i_at mX5_playAllTwos.2.2.2.2.2 114 = some (.iastore, 1, 0, 0, 0, 0) := by decide +kernel
theorem aX5_playAllTwos_115 : i_at mX5_playAllTwos.2.2.2.2.2 115 = some (.iinc 4 1, 3, 0, 0, 0, 0) := by decide +kernel
theorem aX5_playAllTwos_118 : i_at mX5_playAllTwos.2.2.2.2.2 118 = some (.goto (-115), 3, 3, 0, 0, 0) := by decide +kernel
theorem aX5_playAllTwos_121 : i_at mX5_playAllTwos.2.2.2.2.2 121 = some (.return_, 1, 0, 0, 0, 0) := by decide +kernel
noncomputable def fX5_playAllTwos_L3 (sh : List kd) (p1 : Int32) (p2 : Int32) (p3 : Int32) : Nat → Int32 → Value → Value → St → Option (Unit × St)
  | 0, _, _, _, _ => none
  | n5 + 1, x1, x2, x3, s4 => if 25 ≤ x1 then some ((), s4) else i_bd (fX5_begin sh s4) (fun r57 s58 => i_bd (fX4_thank sh s58 135 p1 (10 * (x1 / 5))) (fun r60 s61 => i_bd (fX4_thank sh s61 135 p2 (10 * (x1 - x1 / 5 * 5))) (fun r63 s64 => i_bd (fX5_goOn sh s64 p3) (fun r66 s67 => if i_ok p1 6 then i_bd (fX6_rankOf sh s67 20 (s67.2.1 137 p1.toNatClampNeg)) (fun r70 s71 => if i_ok x1 25 then if i_ok p2 6 then i_bd (fX6_rankOf sh (s_A s71 141 x1.toNatClampNeg (r70 - (x1 / 5))) 20 ((s_A s71 141 x1.toNatClampNeg (r70 - (x1 / 5))).2.1 137 p2.toNatClampNeg)) (fun r75 s76 => if i_ok x1 25 then (fX5_playAllTwos_L3 sh p1 p2 p3 n5 (x1 + 1) (.int (x1 / 5)) (.int (x1 - x1 / 5 * 5)) (s_A s76 142 x1.toNatClampNeg (r75 - (x1 - x1 / 5 * 5)))) else none) else none else none) else none))))
noncomputable def fX5_playAllTwos (sh : List kd) (σ : St) (p1 : Int32) (p2 : Int32) (p3 : Int32) : Option (Unit × St) := fX5_playAllTwos_L3 sh p1 p2 p3 i_F 0 (.retAddr 0) (.retAddr 0) σ
set_option maxRecDepth 20000 in
set_option maxHeartbeats 2000000 in
theorem tX5_playAllTwos_L3 {sh : List kd} {τ : St} {r : Unit} (hsh : cSh sh) {p1 : Int32} {p2 : Int32} {p3 : Int32} : ∀ (n0 : Nat) (x1 : Int32) (x2 : Value) (x3 : Value) (s4 : St), fX5_playAllTwos_L3 sh p1 p2 p3 n0 x1 x2 x3 s4 = some (r, τ) → g_R sh 6 mX5_playAllTwos none τ 3 [.ref 134, .int p1, .int p2, .int p3, .int x1, x2, x3] [] (s4) := by
  intro n0
  induction n0 with
  | zero => intro _ _ _ _ hE; cases hE
  | succ n5 ih =>
    intro x1 x2 x3 s4 hE
    unfold fX5_playAllTwos_L3 at hE
    refine g_ldi aX5_playAllTwos_3 rfl ?_
    refine g_bipush (x := 25) aX5_playAllTwos_5 rfl ?_
    by_cases hc56 : 25 ≤ x1
    · rw [if_pos hc56] at hE
      refine g_ic_ge_t aX5_playAllTwos_7 hc56 ?_
      obtain ⟨rfl, rfl⟩ := i_some_inj hE
      exact g_vret aX5_playAllTwos_121 rfl
    · rw [if_neg hc56] at hE
      refine g_ic_ge_f aX5_playAllTwos_7 hc56 ?_
      refine g_ldi aX5_playAllTwos_10 rfl ?_
      refine g_iconst (x := 5) aX5_playAllTwos_12 rfl ?_
      refine g_idiv aX5_playAllTwos_13 (by decide) ?_
      refine g_sti (loc2 := [.ref 134, .int p1, .int p2, .int p3, .int x1, .int (x1 / 5), x3]) aX5_playAllTwos_14 (Nat.le_of_ble_eq_true rfl) rfl ?_
      refine g_ldi aX5_playAllTwos_16 rfl ?_
      refine g_iconst (x := 5) aX5_playAllTwos_18 rfl ?_
      refine g_irem aX5_playAllTwos_19 (by decide) ?_
      refine g_sti (loc2 := [.ref 134, .int p1, .int p2, .int p3, .int x1, .int (x1 / 5), .int (x1 - x1 / 5 * 5)]) aX5_playAllTwos_20 (Nat.le_of_ble_eq_true rfl) rfl ?_
      refine g_ldan aX5_playAllTwos_22 rfl ?_
      obtain ⟨r57, s58, h59, hE⟩ := i_bd_some hE
      refine g_calV (As := []) (rest := []) aX5_playAllTwos_23 (i_X_mono (by omega) (tX5_begin hsh h59)) (sC_134 hsh) (by decide +kernel) rfl rfl (Nat.le_of_ble_eq_true rfl) rfl ?_
      refine g_ldan aX5_playAllTwos_26 rfl ?_
      refine g_getR aX5_playAllTwos_27 (sC_134 hsh) rfl ?_
      refine g_ldin aX5_playAllTwos_30 rfl ?_
      refine g_bipush (x := 10) aX5_playAllTwos_31 rfl ?_
      refine g_ldi aX5_playAllTwos_33 rfl ?_
      refine g_imul aX5_playAllTwos_35 ?_
      obtain ⟨r60, s61, h62, hE⟩ := i_bd_some hE
      refine g_calV (As := [.int p1, .int (10 * (x1 / 5))]) (rest := []) aX5_playAllTwos_36 (i_X_mono (by omega) (tX4_thank hsh (lShB_135 hsh) h62)) ((lShB_135 hsh).1) (by decide +kernel) rfl rfl (Nat.le_of_ble_eq_true rfl) rfl ?_
      refine g_ldan aX5_playAllTwos_39 rfl ?_
      refine g_getR aX5_playAllTwos_40 (sC_134 hsh) rfl ?_
      refine g_ldin aX5_playAllTwos_43 rfl ?_
      refine g_bipush (x := 10) aX5_playAllTwos_44 rfl ?_
      refine g_ldi aX5_playAllTwos_46 rfl ?_
      refine g_imul aX5_playAllTwos_48 ?_
      obtain ⟨r63, s64, h65, hE⟩ := i_bd_some hE
      refine g_calV (As := [.int p2, .int (10 * (x1 - x1 / 5 * 5))]) (rest := []) aX5_playAllTwos_49 (i_X_mono (by omega) (tX4_thank hsh (lShB_135 hsh) h65)) ((lShB_135 hsh).1) (by decide +kernel) rfl rfl (Nat.le_of_ble_eq_true rfl) rfl ?_
      refine g_ldan aX5_playAllTwos_52 rfl ?_
      refine g_ldin aX5_playAllTwos_53 rfl ?_
      obtain ⟨r66, s67, h68, hE⟩ := i_bd_some hE
      refine g_calV (As := [.int p3]) (rest := []) aX5_playAllTwos_54 (i_X_mono (by omega) (tX5_goOn hsh h68)) (sC_134 hsh) (by decide +kernel) rfl rfl (Nat.le_of_ble_eq_true rfl) rfl ?_
      refine g_ldan aX5_playAllTwos_57 rfl ?_
      refine g_getR aX5_playAllTwos_58 (sC_134 hsh) rfl ?_
      refine g_ldi aX5_playAllTwos_61 rfl ?_
      refine g_ldan aX5_playAllTwos_63 rfl ?_
      refine g_getR aX5_playAllTwos_64 (sC_134 hsh) rfl ?_
      refine g_getR aX5_playAllTwos_67 ((wShB_19 hsh).1) rfl ?_
      refine g_ldan aX5_playAllTwos_70 rfl ?_
      refine g_getR aX5_playAllTwos_71 (sC_134 hsh) rfl ?_
      refine g_getR aX5_playAllTwos_74 ((lShB_135 hsh).1) rfl ?_
      refine g_ldin aX5_playAllTwos_77 rfl ?_
      obtain ⟨h69, hE⟩ := i_ifn hE
      refine g_ild aX5_playAllTwos_78 (sC_137 hsh) h69 ?_
      obtain ⟨r70, s71, h72, hE⟩ := i_bd_some hE
      refine g_calV (As := [.int (s67.2.1 137 p1.toNatClampNeg)]) (rest := [.int x1, .ref 141]) aX5_playAllTwos_79 (i_X_mono (by omega) (tX6_rankOf hsh (rShB_20 hsh) h72)) ((rShB_20 hsh).1) (by decide +kernel) rfl rfl (Nat.le_of_ble_eq_true rfl) rfl ?_
      refine g_ldi aX5_playAllTwos_82 rfl ?_
      refine g_isub aX5_playAllTwos_84 ?_
      obtain ⟨h73, hE⟩ := i_ifn hE
      refine g_ist aX5_playAllTwos_85 (sC_141 hsh) h73 ?_
      refine g_ldan aX5_playAllTwos_86 rfl ?_
      refine g_getR aX5_playAllTwos_87 (sC_134 hsh) rfl ?_
      refine g_ldi aX5_playAllTwos_90 rfl ?_
      refine g_ldan aX5_playAllTwos_92 rfl ?_
      refine g_getR aX5_playAllTwos_93 (sC_134 hsh) rfl ?_
      refine g_getR aX5_playAllTwos_96 ((wShB_19 hsh).1) rfl ?_
      refine g_ldan aX5_playAllTwos_99 rfl ?_
      refine g_getR aX5_playAllTwos_100 (sC_134 hsh) rfl ?_
      refine g_getR aX5_playAllTwos_103 ((lShB_135 hsh).1) rfl ?_
      refine g_ldin aX5_playAllTwos_106 rfl ?_
      obtain ⟨h74, hE⟩ := i_ifn hE
      refine g_ild aX5_playAllTwos_107 (sC_137 hsh) h74 ?_
      obtain ⟨r75, s76, h77, hE⟩ := i_bd_some hE
      refine g_calV (As := [.int ((s_A s71 141 x1.toNatClampNeg (r70 - (x1 / 5))).2.1 137 p2.toNatClampNeg)]) (rest := [.int x1, .ref 142]) aX5_playAllTwos_108 (i_X_mono (by omega) (tX6_rankOf hsh (rShB_20 hsh) h77)) ((rShB_20 hsh).1) (by decide +kernel) rfl rfl (Nat.le_of_ble_eq_true rfl) rfl ?_
      refine g_ldi aX5_playAllTwos_111 rfl ?_
      refine g_isub aX5_playAllTwos_113 ?_
      obtain ⟨h78, hE⟩ := i_ifn hE
      refine g_ist aX5_playAllTwos_114 (sC_142 hsh) h78 ?_
      refine g_iinc (y := 1) (loc2 := [.ref 134, .int p1, .int p2, .int p3, .int (x1 + 1), .int (x1 / 5), .int (x1 - x1 / 5 * 5)]) aX5_playAllTwos_115 rfl rfl rfl ?_
      refine g_goto aX5_playAllTwos_118 ?_
      exact ih _ _ _ _ hE
set_option maxRecDepth 20000 in
set_option maxHeartbeats 2000000 in
theorem tX5_playAllTwos {sh : List kd} {σ τ : St} {r : Unit} (hsh : cSh sh) {p1 : Int32} {p2 : Int32} {p3 : Int32} (hE : fX5_playAllTwos sh σ p1 p2 p3 = some (r, τ)) : i_X 7 43 [.ref 134, .int p1, .int p2, .int p3] (s_h sh σ) 0 0 none (s_h sh τ) := by
  refine g_X (M := mX5_playAllTwos) (loc := [.ref 134, .int p1, .int p2, .int p3, .retAddr 0, .retAddr 0, .retAddr 0]) rfl (Nat.le_of_ble_eq_true rfl) rfl ?_
  unfold fX5_playAllTwos at hE
  refine g_iconst (x := 0) aX5_playAllTwos_0 rfl ?_
  refine g_sti (loc2 := [.ref 134, .int p1, .int p2, .int p3, .int 0, .retAddr 0, .retAddr 0]) aX5_playAllTwos_1 (Nat.le_of_ble_eq_true rfl) rfl ?_
  exact tX5_playAllTwos_L3 hsh i_F _ _ _ _ hE
theorem aX5_drawnYears_0 : i_at mX5_drawnYears.2.2.2.2.2 0 = some (.aload_n 0, 1, 0, 0, 0, 0) := by decide +kernel
theorem aX5_drawnYears_1 : i_at mX5_drawnYears.2.2.2.2.2 1 = some (.getfield 28, 3, 4, 0, 400, 0) := by decide +kernel
theorem aX5_drawnYears_4 : i_at mX5_drawnYears.2.2.2.2.2 4 = some (.getfield 122, 3, 9, 9, 369, 0) := by decide +kernel
theorem aX5_drawnYears_7 : i_at mX5_drawnYears.2.2.2.2.2 7 = some (.istore 5, 2, 0, 0, 0, 0) := by decide +kernel
theorem aX5_drawnYears_9 : i_at mX5_drawnYears.2.2.2.2.2 9 = some (.iconst 0, 1, 0, 0, 0, 0) := by decide +kernel
theorem aX5_drawnYears_10 : i_at mX5_drawnYears.2.2.2.2.2 10 = some (.istore 6, 2, 0, 0, 0, 0) := by decide +kernel
theorem aX5_drawnYears_12 : i_at mX5_drawnYears.2.2.2.2.2 12 = some (.iconst 0, 1, 0, 0, 0, 0) := by decide +kernel
theorem aX5_drawnYears_13 : i_at mX5_drawnYears.2.2.2.2.2 13 = some (.istore 7, 2, 0, 0, 0, 0) := by decide +kernel
theorem aX5_drawnYears_15 : i_at mX5_drawnYears.2.2.2.2.2 15 = some (.iconst 0, 1, 0, 0, 0, 0) := by decide +kernel
theorem aX5_drawnYears_16 : i_at mX5_drawnYears.2.2.2.2.2 16 = some (.istore 8, 2, 0, 0, 0, 0) := by decide +kernel
theorem aX5_drawnYears_18 : i_at mX5_drawnYears.2.2.2.2.2 18 = some (.iload 8, 2, 0, 0, 0, 0) := by decide +kernel
theorem aX5_drawnYears_20 : i_at mX5_drawnYears.2.2.2.2.2 20 = some (.iload_n 1, 1, 0, 0, 0, 0) := by decide +kernel
theorem aX5_drawnYears_21 : i_at mX5_drawnYears.2.2.2.2.2 21 = some (.if_icmp .ge 187, 3, 208, 0, 0, 0) := by decide +kernel
theorem aX5_drawnYears_24 : i_at mX5_drawnYears.2.2.2.2.2 24 = some (.aload_n 0, 1, 0, 0, 0, 0) := by decide +kernel
theorem aX5_drawnYears_25 : i_at mX5_drawnYears.2.2.2.2.2 25 = some (.invokevirtual 59, 3, 33, 0, 887, 0) := by decide +kernel
theorem aX5_drawnYears_28 : i_at mX5_drawnYears.2.2.2.2.2 28 = some (.iconst 0, 1, 0, 0, 0, 0) := by decide +kernel
theorem aX5_drawnYears_29 : i_at mX5_drawnYears.2.2.2.2.2 29 = some (.istore 9, 2, 0, 0, 0, 0) := by decide +kernel
theorem aX5_drawnYears_31 : i_at mX5_drawnYears.2.2.2.2.2 31 = some (.iload 9, 2, 0, 0, 0, 0) := by decide +kernel
theorem aX5_drawnYears_33 : i_at mX5_drawnYears.2.2.2.2.2 33 = some (.iload_n 2, 1, 0, 0, 0, 0) := by decide +kernel
theorem aX5_drawnYears_34 : i_at mX5_drawnYears.2.2.2.2.2 34 = some (.if_icmp .ge 119, 3, 153, 0, 0, 0) := by decide +kernel
theorem aX5_drawnYears_37 : i_at mX5_drawnYears.2.2.2.2.2 37 = some (.iload 5, 2, 0, 0, 0, 0) := by decide +kernel
theorem aX5_drawnYears_39 : i_at mX5_drawnYears.2.2.2.2.2 39 = some (.invokestatic 125, 3, 49, 1, 1057, 0) := by decide +kernel
theorem aX5_drawnYears_42 : i_at mX5_drawnYears.2.2.2.2.2 42 = some (.istore 5, 2, 0, 0, 0, 0) := by decide +kernel
theorem aX5_drawnYears_44 : i_at mX5_drawnYears.2.2.2.2.2 44 = some (.iload 5, 2, 0, 0, 0, 0) := by decide +kernel
theorem aX5_drawnYears_46 : i_at mX5_drawnYears.2.2.2.2.2 46 = some (.ldc 128, 2, 0, 0, 1062, 65536) := by decide +kernel
theorem aX5_drawnYears_48 : i_at mX5_drawnYears.2.2.2.2.2 48 = some (.idiv, 1, 0, 0, 0, 0) := by decide +kernel
theorem aX5_drawnYears_49 : i_at mX5_drawnYears.2.2.2.2.2 49 = some (.bipush 100, 2, 0, 0, 0, 0) := by decide +kernel
theorem aX5_drawnYears_51 : i_at mX5_drawnYears.2.2.2.2.2 51 = some (.irem, 1, 0, 0, 0, 0) := by decide +kernel
theorem aX5_drawnYears_52 : i_at mX5_drawnYears.2.2.2.2.2 52 = some (.iload_n 3, 1, 0, 0, 0, 0) := by decide +kernel
theorem aX5_drawnYears_53 : i_at mX5_drawnYears.2.2.2.2.2 53 = some (.if_icmp .ge 46, 3, 99, 0, 0, 0) := by decide +kernel
theorem aX5_drawnYears_56 : i_at mX5_drawnYears.2.2.2.2.2 56 = some (.aload_n 0, 1, 0, 0, 0, 0) := by decide +kernel
theorem aX5_drawnYears_57 : i_at mX5_drawnYears.2.2.2.2.2 57 = some (.getfield 28, 3, 4, 0, 400, 0) := by decide +kernel
theorem aX5_drawnYears_60 : i_at mX5_drawnYears.2.2.2.2.2 60 = some (.getfield 45, 3, 9, 0, 346, 0) := by decide +kernel
theorem aX5_drawnYears_63 : i_at mX5_drawnYears.2.2.2.2.2 63 = some (.getfield 102, 3, 5, 3, 168, 0) := by decide +kernel
theorem aX5_drawnYears_66 : i_at mX5_drawnYears.2.2.2.2.2 66 = some (.ifCond .le 33, 3, 99, 0, 0, 0) := by decide +kernel
theorem aX5_drawnYears_69 : i_at mX5_drawnYears.2.2.2.2.2 69 = some (.iload 5, 2, 0, 0, 0, 0) := by decide +kernel
theorem aX5_drawnYears_71 : i_at mX5_drawnYears.2.2.2.2.2 71 = some (.invokestatic 125, 3, 49, 1, 1057, 0) := by decide +kernel
theorem aX5_drawnYears_74 : i_at mX5_drawnYears.2.2.2.2.2 74 = some (.istore 5, 2, 0, 0, 0, 0) := by decide +kernel
theorem aX5_drawnYears_76 : i_at mX5_drawnYears.2.2.2.2.2 76 = some (.aload_n 0, 1, 0, 0, 0, 0) := by decide +kernel
theorem aX5_drawnYears_77 : i_at mX5_drawnYears.2.2.2.2.2 77 = some (.getfield 12, 3, 4, 2, 402, 0) := by decide +kernel
theorem aX5_drawnYears_80 : i_at mX5_drawnYears.2.2.2.2.2 80 = some (.iload 5, 2, 0, 0, 0, 0) := by decide +kernel
theorem aX5_drawnYears_82 : i_at mX5_drawnYears.2.2.2.2.2 82 = some (.ldc 128, 2, 0, 0, 1062, 65536) := by decide +kernel
theorem aX5_drawnYears_84 : i_at mX5_drawnYears.2.2.2.2.2 84 = some (.idiv, 1, 0, 0, 0, 0) := by decide +kernel
theorem aX5_drawnYears_85 : i_at mX5_drawnYears.2.2.2.2.2 85 = some (.aload_n 0, 1, 0, 0, 0, 0) := by decide +kernel
theorem aX5_drawnYears_86 : i_at mX5_drawnYears.2.2.2.2.2 86 = some (.getfield 28, 3, 4, 0, 400, 0) := by decide +kernel
theorem aX5_drawnYears_89 : i_at mX5_drawnYears.2.2.2.2.2 89 = some (.getfield 45, 3, 9, 0, 346, 0) := by decide +kernel
theorem aX5_drawnYears_92 : i_at mX5_drawnYears.2.2.2.2.2 92 = some (.getfield 102, 3, 5, 3, 168, 0) := by decide +kernel
theorem aX5_drawnYears_95 : i_at mX5_drawnYears.2.2.2.2.2 95 = some (.irem, 1, 0, 0, 0, 0) := by decide +kernel
theorem aX5_drawnYears_96 : i_at mX5_drawnYears.2.2.2.2.2 96 = some (.putfield 107, 3, 3, 2, 303, 0) := by decide +kernel
theorem aX5_drawnYears_99 : i_at mX5_drawnYears.2.2.2.2.2 99 = some (.aload_n 0, 1, 0, 0, 0, 0) := by decide +kernel
theorem aX5_drawnYears_100 : i_at mX5_drawnYears.2.2.2.2.2 100 = some (.getfield 32, 3, 4, 1, 401, 0) := by decide +kernel
theorem aX5_drawnYears_103 : i_at mX5_drawnYears.2.2.2.2.2 103 = some (.aload_n 0, 1, 0, 0, 0, 0) := by decide +kernel
theorem aX5_drawnYears_104 : i_at mX5_drawnYears.2.2.2.2.2 104 = some (.getfield 12, 3, 4, 2, 402, 0) := by decide +kernel
theorem aX5_drawnYears_107 : i_at mX5_drawnYears.2.2.2.2.2 107 = some (.aload_n 0, 1, 0, 0, 0, 0) := by decide +kernel
theorem aX5_drawnYears_108 : i_at mX5_drawnYears.2.2.2.2.2 108 = some (.getfield 28, 3, 4, 0, 400, 0) := by decide +kernel
theorem aX5_drawnYears_111 : i_at mX5_drawnYears.2.2.2.2.2 111 = some (.getfield 45, 3, 9, 0, 346, 0) := by decide +kernel
theorem aX5_drawnYears_114 : i_at mX5_drawnYears.2.2.2.2.2 114 = some (.aload_n 0, 1, 0, 0, 0, 0) := by decide +kernel
theorem aX5_drawnYears_115 : i_at mX5_drawnYears.2.2.2.2.2 115 = some (.getfield 28, 3, 4, 0, 400, 0) := by decide +kernel
theorem aX5_drawnYears_118 : i_at mX5_drawnYears.2.2.2.2.2 118 = some (.getfield 49, 3, 9, 8, 366, 0) := by decide +kernel
theorem aX5_drawnYears_121 : i_at mX5_drawnYears.2.2.2.2.2 121 = some (.invokevirtual 53, 3, 2, 3, 896, 0) := by decide +kernel
theorem aX5_drawnYears_124 : i_at mX5_drawnYears.2.2.2.2.2 124 = some (.istore 10, 2, 0, 0, 0, 0) := by decide +kernel
theorem aX5_drawnYears_126 : i_at mX5_drawnYears.2.2.2.2.2 126 = some (.aload_n 0, 1, 0, 0, 0, 0) := by decide +kernel
theorem aX5_drawnYears_127 : i_at mX5_drawnYears.2.2.2.2.2 127 = some (.getfield 12, 3, 4, 2, 402, 0) := by decide +kernel
theorem aX5_drawnYears_130 : i_at mX5_drawnYears.2.2.2.2.2 130 = some (.getfield 78, 3, 3, 1, 299, 0) := by decide +kernel
theorem aX5_drawnYears_133 : i_at mX5_drawnYears.2.2.2.2.2 133 = some (.iconst (-1), 1, 0, 0, 0, 0) := by decide +kernel
theorem aX5_drawnYears_134 : i_at mX5_drawnYears.2.2.2.2.2 134 = some (.if_icmp .eq 13, 3, 147, 0, 0, 0) := by decide +kernel
theorem aX5_drawnYears_137 : i_at mX5_drawnYears.2.2.2.2.2 137 = some (.iload 6, 2, 0, 0, 0, 0) := by decide +kernel
theorem aX5_drawnYears_139 : i_at mX5_drawnYears.2.2.2.2.2 139 = some (.iload 10, 2, 0, 0, 0, 0) := by decide +kernel
theorem aX5_drawnYears_141 : i_at mX5_drawnYears.2.2.2.2.2 141 = some (.invokestatic 89, 3, 230, 1, 924, 0) := by decide +kernel
theorem aX5_drawnYears_144 : i_at mX5_drawnYears.2.2.2.2.2 144 = some (.iadd, 1, 0, 0, 0, 0) := by decide +kernel
theorem aX5_drawnYears_145 : i_at mX5_drawnYears.2.2.2.2.2 145 = some (.istore 6, 2, 0, 0, 0, 0) := by decide +kernel
theorem aX5_drawnYears_147 : i_at mX5_drawnYears.2.2.2.2.2 147 = some (.iinc 9 1, 3, 0, 0, 0, 0) := by decide +kernel
theorem aX5_drawnYears_150 : i_at mX5_drawnYears.2.2.2.2.2 150 = some (.goto (-119), 3, 31, 0, 0, 0) := by decide +kernel
theorem aX5_drawnYears_153 : i_at mX5_drawnYears.2.2.2.2.2 153 = some (.iconst 0, 1, 0, 0, 0, 0) := by decide +kernel
theorem aX5_drawnYears_154 : i_at mX5_drawnYears.2.2.2.2.2 154 = some (.istore 9, 2, 0, 0, 0, 0) := by decide +kernel
theorem aX5_drawnYears_156 : i_at mX5_drawnYears.2.2.2.2.2 156 = some (.iload 9, 2, 0, 0, 0, 0) := by decide +kernel
theorem aX5_drawnYears_158 : i_at mX5_drawnYears.2.2.2.2.2 158 = some (.aload_n 0, 1, 0, 0, 0, 0) := by decide +kernel
theorem aX5_drawnYears_159 : i_at mX5_drawnYears.2.2.2.2.2 159 = some (.getfield 28, 3, 4, 0, 400, 0) := by decide +kernel
theorem aX5_drawnYears_162 : i_at mX5_drawnYears.2.2.2.2.2 162 = some (.getfield 45, 3, 9, 0, 346, 0) := by decide +kernel
theorem aX5_drawnYears_165 : i_at mX5_drawnYears.2.2.2.2.2 165 = some (.getfield 129, 3, 5, 4, 173, 0) := by decide +kernel
theorem aX5_drawnYears_168 : i_at mX5_drawnYears.2.2.2.2.2 168 = some (.if_icmp .ge 34, 3, 202, 0, 0, 0) := by decide +kernel
theorem aX5_drawnYears_171 : i_at mX5_drawnYears.2.2.2.2.2 171 = some (.iload 7, 2, 0, 0, 0, 0) := by decide +kernel
theorem aX5_drawnYears_173 : i_at mX5_drawnYears.2.2.2.2.2 173 = some (.aload_n 0, 1, 0, 0, 0, 0) := by decide +kernel
theorem aX5_drawnYears_174 : i_at mX5_drawnYears.2.2.2.2.2 174 = some (.getfield 28, 3, 4, 0, 400, 0) := by decide +kernel
theorem aX5_drawnYears_177 : i_at mX5_drawnYears.2.2.2.2.2 177 = some (.getfield 45, 3, 9, 0, 346, 0) := by decide +kernel
theorem aX5_drawnYears_180 : i_at mX5_drawnYears.2.2.2.2.2 180 = some (.aload_n 0, 1, 0, 0, 0, 0) := by decide +kernel
theorem aX5_drawnYears_181 : i_at mX5_drawnYears.2.2.2.2.2 181 = some (.getfield 12, 3, 4, 2, 402, 0) := by decide +kernel
theorem aX5_drawnYears_184 : i_at mX5_drawnYears.2.2.2.2.2 184 = some (.getfield 69, 3, 3, 5, 316, 0) := by decide +kernel
theorem aX5_drawnYears_187 : i_at mX5_drawnYears.2.2.2.2.2 187 = some (.iload 9, 2, 0, 0, 0, 0) := by decide +kernel
theorem aX5_drawnYears_189 : i_at mX5_drawnYears.2.2.2.2.2 189 = some (.iaload, 1, 0, 0, 0, 0) := by decide +kernel
theorem aX5_drawnYears_190 : i_at mX5_drawnYears.2.2.2.2.2 190 = some (.invokevirtual 110, 3, 56, 1, 938, 0) := by decide +kernel
theorem aX5_drawnYears_193 : i_at mX5_drawnYears.2.2.2.2.2 193 = some (.iadd, 1, 0, 0, 0, 0) := by decide +kernel
theorem aX5_drawnYears_194 : i_at mX5_drawnYears.2.2.2.2.2 194 = some (.istore 7, 2, 0, 0, 0, 0) := by decide +kernel
theorem aX5_drawnYears_196 : i_at mX5_drawnYears.2.2.2.2.2 196 = some (.iinc 9 1, 3, 0, 0, 0, 0) := by decide +kernel
theorem aX5_drawnYears_199 : i_at mX5_drawnYears.2.2.2.2.2 199 = some (.goto (-43), 3, 156, 0, 0, 0) := by decide +kernel
theorem aX5_drawnYears_202 : i_at mX5_drawnYears.2.2.2.2.2 202 = some (.iinc 8 1, 3, 0, 0, 0, 0) := by decide +kernel
theorem aX5_drawnYears_205 : i_at mX5_drawnYears.2.2.2.2.2 205 = some (.goto (-187), 3, 18, 0, 0, 0) := by decide +kernel
theorem aX5_drawnYears_208 : i_at mX5_drawnYears.2.2.2.2.2 208 = some (.iload 4, 2, 0, 0, 0, 0) := by decide +kernel
theorem aX5_drawnYears_210 : i_at mX5_drawnYears.2.2.2.2.2 210 = some (.ifCond .eq 8, 3, 218, 0, 0, 0) := by decide +kernel
theorem aX5_drawnYears_213 : i_at mX5_drawnYears.2.2.2.2.2 213 = some (.iload 6, 2, 0, 0, 0, 0) := by decide +kernel
theorem aX5_drawnYears_215 : i_at mX5_drawnYears.2.2.2.2.2 215 = some (.goto 5, 3, 220, 0, 0, 0) := by decide +kernel
theorem aX5_drawnYears_218 : i_at mX5_drawnYears.2.2.2.2.2 218 = some (.iload 7, 2, 0, 0, 0, 0) := by decide +kernel
theorem aX5_drawnYears_220 : i_at mX5_drawnYears.2.2.2.2.2 220 = some (.ireturn, 1, 0, 0, 0, 0) := by decide +kernel
noncomputable def fX5_drawnYears_J147 (sh : List kd) (p1 : Int32) (p2 : Int32) (p3 : Int32) (p4 : Int32) (x3 : Int32) (x4 : Int32) (x72 : Int32) (x185 : Int32) (r187 : Int32) (k31 : Int32 → Int32 → Int32 → Value → St → Option (Int32 × St)) (x240 : Int32) (s241 : St) : Option (Int32 × St) := k31 x185 x240 (x72 + 1) (.int r187) s241
noncomputable def fX5_drawnYears_J99 (sh : List kd) (p1 : Int32) (p2 : Int32) (p3 : Int32) (p4 : Int32) (x3 : Int32) (x4 : Int32) (x71 : Int32) (x72 : Int32) (x73 : Value) (k31 : Int32 → Int32 → Int32 → Value → St → Option (Int32 × St)) (x185 : Int32) (s186 : St) : Option (Int32 × St) := i_bd (fX0_pass sh s186 135 20 (s186.1 19 8)) (fun r187 s188 => if (s188.1 135 1) = (-1) then fX5_drawnYears_J147 sh p1 p2 p3 p4 x3 x4 x72 x185 r187 k31 x71 s188 else i_bd (fJ6_bitCount_0f7a4 sh s188 r187) (fun r243 s244 => fX5_drawnYears_J147 sh p1 p2 p3 p4 x3 x4 x72 x185 r187 k31 (x71 + r243) s244))
noncomputable def fX5_drawnYears_L31 (sh : List kd) (p1 : Int32) (p2 : Int32) (p3 : Int32) (p4 : Int32) (x3 : Int32) (x4 : Int32) (k153 : Int32 → Int32 → Int32 → Value → St → Option (Int32 × St)) : Nat → Int32 → Int32 → Int32 → Value → St → Option (Int32 × St)
  | 0, _, _, _, _, _ => none
  | n130 + 1, x70, x71, x72, x73, s74 => if p2 ≤ x72 then k153 x70 x71 x72 x73 s74 else i_bd (fX5_nextDrawn sh s74 x70) (fun r132 s133 => if p3 ≤ ((r132 / 65536) - (r132 / 65536) / 100 * 100) then fX5_drawnYears_J99 sh p1 p2 p3 p4 x3 x4 x71 x72 x73 (fX5_drawnYears_L31 sh p1 p2 p3 p4 x3 x4 k153 n130) r132 s133 else if (s133.1 20 3) ≤ 0 then fX5_drawnYears_J99 sh p1 p2 p3 p4 x3 x4 x71 x72 x73 (fX5_drawnYears_L31 sh p1 p2 p3 p4 x3 x4 k153 n130) r132 s133 else i_bd (fX5_nextDrawn sh s133 r132) (fun r248 s249 => if (s249.1 20 3) = 0 then none else fX5_drawnYears_J99 sh p1 p2 p3 p4 x3 x4 x71 x72 x73 (fX5_drawnYears_L31 sh p1 p2 p3 p4 x3 x4 k153 n130) r248 (s_F s249 135 2 ((r248 / 65536) - (r248 / 65536) / (s249.1 20 3) * (s249.1 20 3)))))
noncomputable def fX5_drawnYears_L156 (sh : List kd) (p1 : Int32) (p2 : Int32) (p3 : Int32) (p4 : Int32) (x4 : Int32) (x125 : Int32) (x126 : Int32) (x128 : Value) (k202 : Int32 → Int32 → St → Option (Int32 × St)) : Nat → Int32 → Int32 → St → Option (Int32 × St)
  | 0, _, _, _ => none
  | n308 + 1, x252, x253, s254 => if (s254.1 20 4) ≤ x253 then k202 x252 x253 s254 else if i_ok x253 6 then i_bd (fX6_rankOf sh s254 20 (s254.2.1 137 x253.toNatClampNeg)) (fun r311 s312 => (fX5_drawnYears_L156 sh p1 p2 p3 p4 x4 x125 x126 x128 k202 n308 (x252 + r311) (x253 + 1) s312)) else none
noncomputable def fX5_drawnYears_X202 (sh : List kd) (p1 : Int32) (p2 : Int32) (p3 : Int32) (p4 : Int32) (x4 : Int32) (x125 : Int32) (x126 : Int32) (x128 : Value) (k18 : Int32 → Int32 → Int32 → Int32 → Value → Value → St → Option (Int32 × St)) (x305 : Int32) (x306 : Int32) (s307 : St) : Option (Int32 × St) := k18 x125 x126 x305 (x4 + 1) (.int x306) x128 s307
noncomputable def fX5_drawnYears_X153 (sh : List kd) (p1 : Int32) (p2 : Int32) (p3 : Int32) (p4 : Int32) (x3 : Int32) (x4 : Int32) (k18 : Int32 → Int32 → Int32 → Int32 → Value → Value → St → Option (Int32 × St)) (x125 : Int32) (x126 : Int32) (x127 : Int32) (x128 : Value) (s129 : St) : Option (Int32 × St) := fX5_drawnYears_L156 sh p1 p2 p3 p4 x4 x125 x126 x128 (fun (x305 : Int32) (x306 : Int32) (s307 : St) => fX5_drawnYears_X202 sh p1 p2 p3 p4 x4 x125 x126 x128 k18 x305 x306 s307) i_F x3 0 s129
noncomputable def fX5_drawnYears_L18 (sh : List kd) (p1 : Int32) (p2 : Int32) (p3 : Int32) (p4 : Int32) (k208 : Int32 → Int32 → Int32 → Int32 → Value → Value → St → Option (Int32 × St)) : Nat → Int32 → Int32 → Int32 → Int32 → Value → Value → St → Option (Int32 × St)
  | 0, _, _, _, _, _, _, _ => none
  | n65 + 1, x1, x2, x3, x4, x5, x6, s7 => if p1 ≤ x4 then k208 x1 x2 x3 x4 x5 x6 s7 else i_bd (fX5_begin sh s7) (fun r67 s68 => fX5_drawnYears_L31 sh p1 p2 p3 p4 x3 x4 (fun (x125 : Int32) (x126 : Int32) (x127 : Int32) (x128 : Value) (s129 : St) => fX5_drawnYears_X153 sh p1 p2 p3 p4 x3 x4 (fX5_drawnYears_L18 sh p1 p2 p3 p4 k208 n65) x125 x126 x127 x128 s129) i_F x1 x2 0 x6 s68)
noncomputable def fX5_drawnYears_X208 (sh : List kd) (p1 : Int32) (p2 : Int32) (p3 : Int32) (p4 : Int32) (x58 : Int32) (x59 : Int32) (x60 : Int32) (x61 : Int32) (x62 : Value) (x63 : Value) (s64 : St) : Option (Int32 × St) := some (((if p4 = 0 then x60 else x59) : Int32), s64)
noncomputable def fX5_drawnYears (sh : List kd) (σ : St) (p1 : Int32) (p2 : Int32) (p3 : Int32) (p4 : Int32) : Option (Int32 × St) := fX5_drawnYears_L18 sh p1 p2 p3 p4 (fun (x58 : Int32) (x59 : Int32) (x60 : Int32) (x61 : Int32) (x62 : Value) (x63 : Value) (s64 : St) => fX5_drawnYears_X208 sh p1 p2 p3 p4 x58 x59 x60 x61 x62 x63 s64) i_F (σ.1 19 9) 0 0 0 (.retAddr 0) (.retAddr 0) σ
set_option maxRecDepth 20000 in
set_option maxHeartbeats 2000000 in
theorem tX5_drawnYears_J147 {sh : List kd} {τ : St} {r : Int32} (hsh : cSh sh) {p1 : Int32} {p2 : Int32} {p3 : Int32} {p4 : Int32} {x3 : Int32} {x4 : Int32} {x72 : Int32} {x185 : Int32} {r187 : Int32} {x240 : Int32} {s241 : St} {k31 : Int32 → Int32 → Int32 → Value → St → Option (Int32 × St)} (hk31 : ∀ (x70 : Int32) (x71 : Int32) (x72 : Int32) (x73 : Value) (s74 : St), k31 x70 x71 x72 x73 s74 = some (r, τ) → g_R sh 5 mX5_drawnYears (some (.int r)) τ 31 [.ref 134, .int p1, .int p2, .int p3, .int p4, .int x70, .int x71, .int x3, .int x4, .int x72, x73] [] (s74)) (hE : fX5_drawnYears_J147 sh p1 p2 p3 p4 x3 x4 x72 x185 r187 k31 x240 s241 = some (r, τ)) : g_R sh 5 mX5_drawnYears (some (.int r)) τ 147 [.ref 134, .int p1, .int p2, .int p3, .int p4, .int x185, .int x240, .int x3, .int x4, .int x72, .int r187] [] (s241) := by
  unfold fX5_drawnYears_J147 at hE
  refine g_iinc (y := 1) (loc2 := [.ref 134, .int p1, .int p2, .int p3, .int p4, .int x185, .int x240, .int x3, .int x4, .int (x72 + 1), .int r187]) aX5_drawnYears_147 rfl rfl rfl ?_
  refine g_goto aX5_drawnYears_150 ?_
  exact hk31 _ _ _ _ _ hE
set_option maxRecDepth 20000 in
set_option maxHeartbeats 2000000 in
theorem tX5_drawnYears_J99 {sh : List kd} {τ : St} {r : Int32} (hsh : cSh sh) {p1 : Int32} {p2 : Int32} {p3 : Int32} {p4 : Int32} {x3 : Int32} {x4 : Int32} {x71 : Int32} {x72 : Int32} {x73 : Value} {x185 : Int32} {s186 : St} {k31 : Int32 → Int32 → Int32 → Value → St → Option (Int32 × St)} (hk31 : ∀ (x70 : Int32) (x71 : Int32) (x72 : Int32) (x73 : Value) (s74 : St), k31 x70 x71 x72 x73 s74 = some (r, τ) → g_R sh 5 mX5_drawnYears (some (.int r)) τ 31 [.ref 134, .int p1, .int p2, .int p3, .int p4, .int x70, .int x71, .int x3, .int x4, .int x72, x73] [] (s74)) (hE : fX5_drawnYears_J99 sh p1 p2 p3 p4 x3 x4 x71 x72 x73 k31 x185 s186 = some (r, τ)) : g_R sh 5 mX5_drawnYears (some (.int r)) τ 99 [.ref 134, .int p1, .int p2, .int p3, .int p4, .int x185, .int x71, .int x3, .int x4, .int x72, x73] [] (s186) := by
  unfold fX5_drawnYears_J99 at hE
  refine g_ldan aX5_drawnYears_99 rfl ?_
  refine g_getR aX5_drawnYears_100 (sC_134 hsh) rfl ?_
  refine g_ldan aX5_drawnYears_103 rfl ?_
  refine g_getR aX5_drawnYears_104 (sC_134 hsh) rfl ?_
  refine g_ldan aX5_drawnYears_107 rfl ?_
  refine g_getR aX5_drawnYears_108 (sC_134 hsh) rfl ?_
  refine g_getR aX5_drawnYears_111 ((wShB_19 hsh).1) rfl ?_
  refine g_ldan aX5_drawnYears_114 rfl ?_
  refine g_getR aX5_drawnYears_115 (sC_134 hsh) rfl ?_
  refine g_getI aX5_drawnYears_118 ((wShB_19 hsh).1) rfl ?_
  obtain ⟨r187, s188, h189, hE⟩ := i_bd_some hE
  refine g_calV (As := [.ref 135, .ref 20, .int (s186.1 19 8)]) (rest := []) aX5_drawnYears_121 (i_X_mono (by omega) (tX0_pass hsh (lShB_135 hsh) (rShB_20 hsh) h189)) (sC_16 hsh) (by decide +kernel) rfl rfl (Nat.le_of_ble_eq_true rfl) rfl ?_
  refine g_sti (loc2 := [.ref 134, .int p1, .int p2, .int p3, .int p4, .int x185, .int x71, .int x3, .int x4, .int x72, .int r187]) aX5_drawnYears_124 (Nat.le_of_ble_eq_true rfl) rfl ?_
  refine g_ldan aX5_drawnYears_126 rfl ?_
  refine g_getR aX5_drawnYears_127 (sC_134 hsh) rfl ?_
  refine g_getI aX5_drawnYears_130 ((lShB_135 hsh).1) rfl ?_
  refine g_iconst (x := (-1)) aX5_drawnYears_133 rfl ?_
  by_cases hc242 : (s188.1 135 1) = (-1)
  · rw [if_pos hc242] at hE
    refine g_ic_eq_t aX5_drawnYears_134 hc242 ?_
    exact tX5_drawnYears_J147 hsh hk31 hE
  · rw [if_neg hc242] at hE
    refine g_ic_eq_f aX5_drawnYears_134 hc242 ?_
    refine g_ldi aX5_drawnYears_137 rfl ?_
    refine g_ldi aX5_drawnYears_139 rfl ?_
    obtain ⟨r243, s244, h245, hE⟩ := i_bd_some hE
    refine g_calS (As := [.int r187]) (rest := [.int x71]) aX5_drawnYears_141 (i_X_mono (by omega) (tJ6_bitCount_0f7a4 hsh h245)) rfl rfl (Nat.le_of_ble_eq_true rfl) rfl ?_
    refine g_iadd aX5_drawnYears_144 ?_
    refine g_sti (loc2 := [.ref 134, .int p1, .int p2, .int p3, .int p4, .int x185, .int (x71 + r243), .int x3, .int x4, .int x72, .int r187]) aX5_drawnYears_145 (Nat.le_of_ble_eq_true rfl) rfl ?_
    exact tX5_drawnYears_J147 hsh hk31 hE
set_option maxRecDepth 20000 in
set_option maxHeartbeats 2000000 in
theorem tX5_drawnYears_L31 {sh : List kd} {τ : St} {r : Int32} (hsh : cSh sh) {p1 : Int32} {p2 : Int32} {p3 : Int32} {p4 : Int32} {x3 : Int32} {x4 : Int32} {k153 : Int32 → Int32 → Int32 → Value → St → Option (Int32 × St)} (hk153 : ∀ (x125 : Int32) (x126 : Int32) (x127 : Int32) (x128 : Value) (s129 : St), k153 x125 x126 x127 x128 s129 = some (r, τ) → g_R sh 5 mX5_drawnYears (some (.int r)) τ 153 [.ref 134, .int p1, .int p2, .int p3, .int p4, .int x125, .int x126, .int x3, .int x4, .int x127, x128] [] (s129)) : ∀ (n0 : Nat) (x70 : Int32) (x71 : Int32) (x72 : Int32) (x73 : Value) (s74 : St), fX5_drawnYears_L31 sh p1 p2 p3 p4 x3 x4 k153 n0 x70 x71 x72 x73 s74 = some (r, τ) → g_R sh 5 mX5_drawnYears (some (.int r)) τ 31 [.ref 134, .int p1, .int p2, .int p3, .int p4, .int x70, .int x71, .int x3, .int x4, .int x72, x73] [] (s74) := by
  intro n0
  induction n0 with
  | zero => intro _ _ _ _ _ hE; cases hE
  | succ n130 ih =>
    intro x70 x71 x72 x73 s74 hE
    unfold fX5_drawnYears_L31 at hE
    refine g_ldi aX5_drawnYears_31 rfl ?_
    refine g_ldin aX5_drawnYears_33 rfl ?_
    by_cases hc131 : p2 ≤ x72
    · rw [if_pos hc131] at hE
      refine g_ic_ge_t aX5_drawnYears_34 hc131 ?_
      exact hk153 _ _ _ _ _ hE
    · rw [if_neg hc131] at hE
      refine g_ic_ge_f aX5_drawnYears_34 hc131 ?_
      refine g_ldi aX5_drawnYears_37 rfl ?_
      obtain ⟨r132, s133, h134, hE⟩ := i_bd_some hE
      refine g_calS (As := [.int x70]) (rest := []) aX5_drawnYears_39 (i_X_mono (by omega) (tX5_nextDrawn hsh h134)) rfl rfl (Nat.le_of_ble_eq_true rfl) rfl ?_
      refine g_sti (loc2 := [.ref 134, .int p1, .int p2, .int p3, .int p4, .int r132, .int x71, .int x3, .int x4, .int x72, x73]) aX5_drawnYears_42 (Nat.le_of_ble_eq_true rfl) rfl ?_
      refine g_ldi aX5_drawnYears_44 rfl ?_
      refine g_ldcI (x := 65536) aX5_drawnYears_46 rfl rfl ?_
      refine g_idiv aX5_drawnYears_48 (by decide) ?_
      refine g_bipush (x := 100) aX5_drawnYears_49 rfl ?_
      refine g_irem aX5_drawnYears_51 (by decide) ?_
      refine g_ldin aX5_drawnYears_52 rfl ?_
      by_cases hc246 : p3 ≤ ((r132 / 65536) - (r132 / 65536) / 100 * 100)
      · rw [if_pos hc246] at hE
        refine g_ic_ge_t aX5_drawnYears_53 hc246 ?_
        exact tX5_drawnYears_J99 hsh ih hE
      · rw [if_neg hc246] at hE
        refine g_ic_ge_f aX5_drawnYears_53 hc246 ?_
        refine g_ldan aX5_drawnYears_56 rfl ?_
        refine g_getR aX5_drawnYears_57 (sC_134 hsh) rfl ?_
        refine g_getR aX5_drawnYears_60 ((wShB_19 hsh).1) rfl ?_
        refine g_getI aX5_drawnYears_63 ((rShB_20 hsh).1) rfl ?_
        by_cases hc247 : (s133.1 20 3) ≤ 0
        · rw [if_pos hc247] at hE
          refine g_if_le_t aX5_drawnYears_66 hc247 ?_
          exact tX5_drawnYears_J99 hsh ih hE
        · rw [if_neg hc247] at hE
          refine g_if_le_f aX5_drawnYears_66 hc247 ?_
          refine g_ldi aX5_drawnYears_69 rfl ?_
          obtain ⟨r248, s249, h250, hE⟩ := i_bd_some hE
          refine g_calS (As := [.int r132]) (rest := []) aX5_drawnYears_71 (i_X_mono (by omega) (tX5_nextDrawn hsh h250)) rfl rfl (Nat.le_of_ble_eq_true rfl) rfl ?_
          refine g_sti (loc2 := [.ref 134, .int p1, .int p2, .int p3, .int p4, .int r248, .int x71, .int x3, .int x4, .int x72, x73]) aX5_drawnYears_74 (Nat.le_of_ble_eq_true rfl) rfl ?_
          refine g_ldan aX5_drawnYears_76 rfl ?_
          refine g_getR aX5_drawnYears_77 (sC_134 hsh) rfl ?_
          refine g_ldi aX5_drawnYears_80 rfl ?_
          refine g_ldcI (x := 65536) aX5_drawnYears_82 rfl rfl ?_
          refine g_idiv aX5_drawnYears_84 (by decide) ?_
          refine g_ldan aX5_drawnYears_85 rfl ?_
          refine g_getR aX5_drawnYears_86 (sC_134 hsh) rfl ?_
          refine g_getR aX5_drawnYears_89 ((wShB_19 hsh).1) rfl ?_
          refine g_getI aX5_drawnYears_92 ((rShB_20 hsh).1) rfl ?_
          obtain ⟨h251, hE⟩ := i_nif hE
          refine g_irem aX5_drawnYears_95 h251 ?_
          refine g_putI aX5_drawnYears_96 ((lShB_135 hsh).1) rfl rfl ?_
          exact tX5_drawnYears_J99 hsh ih hE
set_option maxRecDepth 20000 in
set_option maxHeartbeats 2000000 in
theorem tX5_drawnYears_L156 {sh : List kd} {τ : St} {r : Int32} (hsh : cSh sh) {p1 : Int32} {p2 : Int32} {p3 : Int32} {p4 : Int32} {x4 : Int32} {x125 : Int32} {x126 : Int32} {x128 : Value} {k202 : Int32 → Int32 → St → Option (Int32 × St)} (hk202 : ∀ (x305 : Int32) (x306 : Int32) (s307 : St), k202 x305 x306 s307 = some (r, τ) → g_R sh 5 mX5_drawnYears (some (.int r)) τ 202 [.ref 134, .int p1, .int p2, .int p3, .int p4, .int x125, .int x126, .int x305, .int x4, .int x306, x128] [] (s307)) : ∀ (n0 : Nat) (x252 : Int32) (x253 : Int32) (s254 : St), fX5_drawnYears_L156 sh p1 p2 p3 p4 x4 x125 x126 x128 k202 n0 x252 x253 s254 = some (r, τ) → g_R sh 5 mX5_drawnYears (some (.int r)) τ 156 [.ref 134, .int p1, .int p2, .int p3, .int p4, .int x125, .int x126, .int x252, .int x4, .int x253, x128] [] (s254) := by
  intro n0
  induction n0 with
  | zero => intro _ _ _ hE; cases hE
  | succ n308 ih =>
    intro x252 x253 s254 hE
    unfold fX5_drawnYears_L156 at hE
    refine g_ldi aX5_drawnYears_156 rfl ?_
    refine g_ldan aX5_drawnYears_158 rfl ?_
    refine g_getR aX5_drawnYears_159 (sC_134 hsh) rfl ?_
    refine g_getR aX5_drawnYears_162 ((wShB_19 hsh).1) rfl ?_
    refine g_getI aX5_drawnYears_165 ((rShB_20 hsh).1) rfl ?_
    by_cases hc309 : (s254.1 20 4) ≤ x253
    · rw [if_pos hc309] at hE
      refine g_ic_ge_t aX5_drawnYears_168 hc309 ?_
      exact hk202 _ _ _ hE
    · rw [if_neg hc309] at hE
      refine g_ic_ge_f aX5_drawnYears_168 hc309 ?_
      refine g_ldi aX5_drawnYears_171 rfl ?_
      refine g_ldan aX5_drawnYears_173 rfl ?_
      refine g_getR aX5_drawnYears_174 (sC_134 hsh) rfl ?_
      refine g_getR aX5_drawnYears_177 ((wShB_19 hsh).1) rfl ?_
      refine g_ldan aX5_drawnYears_180 rfl ?_
      refine g_getR aX5_drawnYears_181 (sC_134 hsh) rfl ?_
      refine g_getR aX5_drawnYears_184 ((lShB_135 hsh).1) rfl ?_
      refine g_ldi aX5_drawnYears_187 rfl ?_
      obtain ⟨h310, hE⟩ := i_ifn hE
      refine g_ild aX5_drawnYears_189 (sC_137 hsh) h310 ?_
      obtain ⟨r311, s312, h313, hE⟩ := i_bd_some hE
      refine g_calV (As := [.int (s254.2.1 137 x253.toNatClampNeg)]) (rest := [.int x252]) aX5_drawnYears_190 (i_X_mono (by omega) (tX6_rankOf hsh (rShB_20 hsh) h313)) ((rShB_20 hsh).1) (by decide +kernel) rfl rfl (Nat.le_of_ble_eq_true rfl) rfl ?_
      refine g_iadd aX5_drawnYears_193 ?_
      refine g_sti (loc2 := [.ref 134, .int p1, .int p2, .int p3, .int p4, .int x125, .int x126, .int (x252 + r311), .int x4, .int x253, x128]) aX5_drawnYears_194 (Nat.le_of_ble_eq_true rfl) rfl ?_
      refine g_iinc (y := 1) (loc2 := [.ref 134, .int p1, .int p2, .int p3, .int p4, .int x125, .int x126, .int (x252 + r311), .int x4, .int (x253 + 1), x128]) aX5_drawnYears_196 rfl rfl rfl ?_
      refine g_goto aX5_drawnYears_199 ?_
      exact ih _ _ _ hE
set_option maxRecDepth 20000 in
set_option maxHeartbeats 2000000 in
theorem tX5_drawnYears_X202 {sh : List kd} {τ : St} {r : Int32} (hsh : cSh sh) {p1 : Int32} {p2 : Int32} {p3 : Int32} {p4 : Int32} {x4 : Int32} {x125 : Int32} {x126 : Int32} {x128 : Value} {x305 : Int32} {x306 : Int32} {s307 : St} {k18 : Int32 → Int32 → Int32 → Int32 → Value → Value → St → Option (Int32 × St)} (hk18 : ∀ (x1 : Int32) (x2 : Int32) (x3 : Int32) (x4 : Int32) (x5 : Value) (x6 : Value) (s7 : St), k18 x1 x2 x3 x4 x5 x6 s7 = some (r, τ) → g_R sh 5 mX5_drawnYears (some (.int r)) τ 18 [.ref 134, .int p1, .int p2, .int p3, .int p4, .int x1, .int x2, .int x3, .int x4, x5, x6] [] (s7)) (hE : fX5_drawnYears_X202 sh p1 p2 p3 p4 x4 x125 x126 x128 k18 x305 x306 s307 = some (r, τ)) : g_R sh 5 mX5_drawnYears (some (.int r)) τ 202 [.ref 134, .int p1, .int p2, .int p3, .int p4, .int x125, .int x126, .int x305, .int x4, .int x306, x128] [] (s307) := by
  unfold fX5_drawnYears_X202 at hE
  refine g_iinc (y := 1) (loc2 := [.ref 134, .int p1, .int p2, .int p3, .int p4, .int x125, .int x126, .int x305, .int (x4 + 1), .int x306, x128]) aX5_drawnYears_202 rfl rfl rfl ?_
  refine g_goto aX5_drawnYears_205 ?_
  exact hk18 _ _ _ _ _ _ _ hE
set_option maxRecDepth 20000 in
set_option maxHeartbeats 2000000 in
theorem tX5_drawnYears_X153 {sh : List kd} {τ : St} {r : Int32} (hsh : cSh sh) {p1 : Int32} {p2 : Int32} {p3 : Int32} {p4 : Int32} {x3 : Int32} {x4 : Int32} {x125 : Int32} {x126 : Int32} {x127 : Int32} {x128 : Value} {s129 : St} {k18 : Int32 → Int32 → Int32 → Int32 → Value → Value → St → Option (Int32 × St)} (hk18 : ∀ (x1 : Int32) (x2 : Int32) (x3 : Int32) (x4 : Int32) (x5 : Value) (x6 : Value) (s7 : St), k18 x1 x2 x3 x4 x5 x6 s7 = some (r, τ) → g_R sh 5 mX5_drawnYears (some (.int r)) τ 18 [.ref 134, .int p1, .int p2, .int p3, .int p4, .int x1, .int x2, .int x3, .int x4, x5, x6] [] (s7)) (hE : fX5_drawnYears_X153 sh p1 p2 p3 p4 x3 x4 k18 x125 x126 x127 x128 s129 = some (r, τ)) : g_R sh 5 mX5_drawnYears (some (.int r)) τ 153 [.ref 134, .int p1, .int p2, .int p3, .int p4, .int x125, .int x126, .int x3, .int x4, .int x127, x128] [] (s129) := by
  unfold fX5_drawnYears_X153 at hE
  refine g_iconst (x := 0) aX5_drawnYears_153 rfl ?_
  refine g_sti (loc2 := [.ref 134, .int p1, .int p2, .int p3, .int p4, .int x125, .int x126, .int x3, .int x4, .int 0, x128]) aX5_drawnYears_154 (Nat.le_of_ble_eq_true rfl) rfl ?_
  exact tX5_drawnYears_L156 hsh (fun x305 x306 s307 hE => tX5_drawnYears_X202 hsh hk18 hE) i_F _ _ _ hE
set_option maxRecDepth 20000 in
set_option maxHeartbeats 2000000 in
theorem tX5_drawnYears_L18 {sh : List kd} {τ : St} {r : Int32} (hsh : cSh sh) {p1 : Int32} {p2 : Int32} {p3 : Int32} {p4 : Int32} {k208 : Int32 → Int32 → Int32 → Int32 → Value → Value → St → Option (Int32 × St)} (hk208 : ∀ (x58 : Int32) (x59 : Int32) (x60 : Int32) (x61 : Int32) (x62 : Value) (x63 : Value) (s64 : St), k208 x58 x59 x60 x61 x62 x63 s64 = some (r, τ) → g_R sh 5 mX5_drawnYears (some (.int r)) τ 208 [.ref 134, .int p1, .int p2, .int p3, .int p4, .int x58, .int x59, .int x60, .int x61, x62, x63] [] (s64)) : ∀ (n0 : Nat) (x1 : Int32) (x2 : Int32) (x3 : Int32) (x4 : Int32) (x5 : Value) (x6 : Value) (s7 : St), fX5_drawnYears_L18 sh p1 p2 p3 p4 k208 n0 x1 x2 x3 x4 x5 x6 s7 = some (r, τ) → g_R sh 5 mX5_drawnYears (some (.int r)) τ 18 [.ref 134, .int p1, .int p2, .int p3, .int p4, .int x1, .int x2, .int x3, .int x4, x5, x6] [] (s7) := by
  intro n0
  induction n0 with
  | zero => intro _ _ _ _ _ _ _ hE; cases hE
  | succ n65 ih =>
    intro x1 x2 x3 x4 x5 x6 s7 hE
    unfold fX5_drawnYears_L18 at hE
    refine g_ldi aX5_drawnYears_18 rfl ?_
    refine g_ldin aX5_drawnYears_20 rfl ?_
    by_cases hc66 : p1 ≤ x4
    · rw [if_pos hc66] at hE
      refine g_ic_ge_t aX5_drawnYears_21 hc66 ?_
      exact hk208 _ _ _ _ _ _ _ hE
    · rw [if_neg hc66] at hE
      refine g_ic_ge_f aX5_drawnYears_21 hc66 ?_
      refine g_ldan aX5_drawnYears_24 rfl ?_
      obtain ⟨r67, s68, h69, hE⟩ := i_bd_some hE
      refine g_calV (As := []) (rest := []) aX5_drawnYears_25 (i_X_mono (by omega) (tX5_begin hsh h69)) (sC_134 hsh) (by decide +kernel) rfl rfl (Nat.le_of_ble_eq_true rfl) rfl ?_
      refine g_iconst (x := 0) aX5_drawnYears_28 rfl ?_
      refine g_sti (loc2 := [.ref 134, .int p1, .int p2, .int p3, .int p4, .int x1, .int x2, .int x3, .int x4, .int 0, x6]) aX5_drawnYears_29 (Nat.le_of_ble_eq_true rfl) rfl ?_
      exact tX5_drawnYears_L31 hsh (fun x125 x126 x127 x128 s129 hE => tX5_drawnYears_X153 hsh ih hE) i_F _ _ _ _ _ hE
set_option maxRecDepth 20000 in
set_option maxHeartbeats 2000000 in
theorem tX5_drawnYears_X208 {sh : List kd} {τ : St} {r : Int32} (hsh : cSh sh) {p1 : Int32} {p2 : Int32} {p3 : Int32} {p4 : Int32} {x58 : Int32} {x59 : Int32} {x60 : Int32} {x61 : Int32} {x62 : Value} {x63 : Value} {s64 : St} (hE : fX5_drawnYears_X208 sh p1 p2 p3 p4 x58 x59 x60 x61 x62 x63 s64 = some (r, τ)) : g_R sh 5 mX5_drawnYears (some (.int r)) τ 208 [.ref 134, .int p1, .int p2, .int p3, .int p4, .int x58, .int x59, .int x60, .int x61, x62, x63] [] (s64) := by
  unfold fX5_drawnYears_X208 at hE
  refine g_ldi aX5_drawnYears_208 rfl ?_
  have hJ : g_R sh 5 mX5_drawnYears (some (.int r)) τ 220 [.ref 134, .int p1, .int p2, .int p3, .int p4, .int x58, .int x59, .int x60, .int x61, x62, x63] [.int ((if p4 = 0 then x60 else x59) : Int32)] (s64) := by
    obtain ⟨rfl, rfl⟩ := i_some_inj hE
    exact g_iret aX5_drawnYears_220 rfl rfl
  clear hE
  by_cases hc313 : p4 = 0
  · (try rw [if_pos hc313] at hJ)
    refine g_if_eq_t aX5_drawnYears_210 hc313 ?_
    refine g_ldi aX5_drawnYears_218 rfl ?_
    exact hJ
  · (try rw [if_neg hc313] at hJ)
    refine g_if_eq_f aX5_drawnYears_210 hc313 ?_
    refine g_ldi aX5_drawnYears_213 rfl ?_
    refine g_goto aX5_drawnYears_215 ?_
    exact hJ
set_option maxRecDepth 20000 in
set_option maxHeartbeats 2000000 in
theorem tX5_drawnYears {sh : List kd} {σ τ : St} {r : Int32} (hsh : cSh sh) {p1 : Int32} {p2 : Int32} {p3 : Int32} {p4 : Int32} (hE : fX5_drawnYears sh σ p1 p2 p3 p4 = some (r, τ)) : i_X 6 48 [.ref 134, .int p1, .int p2, .int p3, .int p4] (s_h sh σ) 0 0 (some (.int r)) (s_h sh τ) := by
  refine g_X (M := mX5_drawnYears) (loc := [.ref 134, .int p1, .int p2, .int p3, .int p4, .retAddr 0, .retAddr 0, .retAddr 0, .retAddr 0, .retAddr 0, .retAddr 0]) rfl (Nat.le_of_ble_eq_true rfl) rfl ?_
  unfold fX5_drawnYears at hE
  refine g_ldan aX5_drawnYears_0 rfl ?_
  refine g_getR aX5_drawnYears_1 (sC_134 hsh) rfl ?_
  refine g_getI aX5_drawnYears_4 ((wShB_19 hsh).1) rfl ?_
  refine g_sti (loc2 := [.ref 134, .int p1, .int p2, .int p3, .int p4, .int (σ.1 19 9), .retAddr 0, .retAddr 0, .retAddr 0, .retAddr 0, .retAddr 0]) aX5_drawnYears_7 (Nat.le_of_ble_eq_true rfl) rfl ?_
  refine g_iconst (x := 0) aX5_drawnYears_9 rfl ?_
  refine g_sti (loc2 := [.ref 134, .int p1, .int p2, .int p3, .int p4, .int (σ.1 19 9), .int 0, .retAddr 0, .retAddr 0, .retAddr 0, .retAddr 0]) aX5_drawnYears_10 (Nat.le_of_ble_eq_true rfl) rfl ?_
  refine g_iconst (x := 0) aX5_drawnYears_12 rfl ?_
  refine g_sti (loc2 := [.ref 134, .int p1, .int p2, .int p3, .int p4, .int (σ.1 19 9), .int 0, .int 0, .retAddr 0, .retAddr 0, .retAddr 0]) aX5_drawnYears_13 (Nat.le_of_ble_eq_true rfl) rfl ?_
  refine g_iconst (x := 0) aX5_drawnYears_15 rfl ?_
  refine g_sti (loc2 := [.ref 134, .int p1, .int p2, .int p3, .int p4, .int (σ.1 19 9), .int 0, .int 0, .int 0, .retAddr 0, .retAddr 0]) aX5_drawnYears_16 (Nat.le_of_ble_eq_true rfl) rfl ?_
  exact tX5_drawnYears_L18 hsh (fun x58 x59 x60 x61 x62 x63 s64 hE => tX5_drawnYears_X208 hsh hE) i_F _ _ _ _ _ _ _ hE
