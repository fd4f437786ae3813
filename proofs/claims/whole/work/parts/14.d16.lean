/-! X8_readSum X11_court X11_hour X11_ahead X11_dubbed X11_least X11_lay X11_held X11_rests X11_years X3_hear X5_fewestGloves X11_spare X11_ruled -/
theorem aX8_readSum_0 : i_at mX8_readSum.2.2.2.2.2 0 = some (.iconst (-1), 1, 0, 0, 0, 0) := by decide +kernel
theorem aX8_readSum_1 : i_at mX8_readSum.2.2.2.2.2 1 = some (.istore_n 1, 1, 0, 0, 0, 0) := by decide +kernel
theorem aX8_readSum_2 : i_at mX8_readSum.2.2.2.2.2 2 = some (.aload_n 0, 1, 0, 0, 0, 0) := by decide +kernel
theorem aX8_readSum_3 : i_at mX8_readSum.2.2.2.2.2 3 = some (.invokevirtual 125, 3, 71, 0, 665, 0) := by decide +kernel
theorem aX8_readSum_6 : i_at mX8_readSum.2.2.2.2.2 6 = some (.iconst 0, 1, 0, 0, 0, 0) := by decide +kernel
theorem aX8_readSum_7 : i_at mX8_readSum.2.2.2.2.2 7 = some (.istore_n 2, 1, 0, 0, 0, 0) := by decide +kernel
theorem aX8_readSum_8 : i_at mX8_readSum.2.2.2.2.2 8 = some (.iload_n 2, 1, 0, 0, 0, 0) := by decide +kernel
theorem aX8_readSum_9 : i_at mX8_readSum.2.2.2.2.2 9 = some (.sipush 400, 3, 0, 0, 0, 0) := by decide +kernel
theorem aX8_readSum_12 : i_at mX8_readSum.2.2.2.2.2 12 = some (.if_icmp .ge 145, 3, 157, 0, 0, 0) := by decide +kernel
theorem aX8_readSum_15 : i_at mX8_readSum.2.2.2.2.2 15 = some (.aload_n 0, 1, 0, 0, 0, 0) := by decide +kernel
theorem aX8_readSum_16 : i_at mX8_readSum.2.2.2.2.2 16 = some (.getfield 24, 3, 7, 0, 234, 0) := by decide +kernel
theorem aX8_readSum_19 : i_at mX8_readSum.2.2.2.2.2 19 = some (.getfield 65, 3, 8, 3, 135, 0) := by decide +kernel
theorem aX8_readSum_22 : i_at mX8_readSum.2.2.2.2.2 22 = some (.ifCond .ne 135, 3, 157, 0, 0, 0) := by decide +kernel
theorem aX8_readSum_25 : i_at mX8_readSum.2.2.2.2.2 25 = some (.aload_n 0, 1, 0, 0, 0, 0) := by decide +kernel
theorem aX8_readSum_26 : i_at mX8_readSum.2.2.2.2.2 26 = some (.getfield 24, 3, 7, 0, 234, 0) := by decide +kernel
theorem aX8_readSum_29 : i_at mX8_readSum.2.2.2.2.2 29 = some (.invokevirtual 68, 3, 78, 0, 669, 0) := by decide +kernel
theorem aX8_readSum_32 : i_at mX8_readSum.2.2.2.2.2 32 = some (.istore_n 3, 1, 0, 0, 0, 0) := by decide +kernel
theorem aX8_readSum_33 : i_at mX8_readSum.2.2.2.2.2 33 = some (.iload_n 3, 1, 0, 0, 0, 0) := by decide +kernel
theorem aX8_readSum_34 : i_at mX8_readSum.2.2.2.2.2 34 = some (.bipush 42, 2, 0, 0, 0, 0) := by decide +kernel
theorem aX8_readSum_36 : i_at mX8_readSum.2.2.2.2.2 36 = some (.if_icmp .eq 15, 3, 51, 0, 0, 0) := by decide +kernel
theorem aX8_readSum_39 : i_at mX8_readSum.2.2.2.2.2 39 = some (.iload_n 3, 1, 0, 0, 0, 0) := by decide +kernel
theorem aX8_readSum_40 : i_at mX8_readSum.2.2.2.2.2 40 = some (.bipush 47, 2, 0, 0, 0, 0) := by decide +kernel
theorem aX8_readSum_42 : i_at mX8_readSum.2.2.2.2.2 42 = some (.if_icmp .eq 9, 3, 51, 0, 0, 0) := by decide +kernel
theorem aX8_readSum_45 : i_at mX8_readSum.2.2.2.2.2 45 = some (.iload_n 3, 1, 0, 0, 0, 0) := by decide +kernel
theorem aX8_readSum_46 : i_at mX8_readSum.2.2.2.2.2 46 = some (.bipush 37, 2, 0, 0, 0, 0) := by decide +kernel
theorem aX8_readSum_48 : i_at mX8_readSum.2.2.2.2.2 48 = some (.if_icmp .ne 51, 3, 99, 0, 0, 0) := by decide +kernel
theorem aX8_readSum_51 : i_at mX8_readSum.2.2.2.2.2 51 = some (.aload_n 0, 1, 0, 0, 0, 0) := by decide +kernel
theorem aX8_readSum_52 : i_at mX8_readSum.2.2.2.2.2 52 = some (.getfield 24, 3, 7, 0, 234, 0) := by decide +kernel
theorem aX8_readSum_55 : i_at mX8_readSum.2.2.2.2.2 55 = some (.dup, 1, 0, 0, 0, 0) := by decide +kernel
theorem aX8_readSum_56 : i_at mX8_readSum.2.2.2.2.2 56 = some (.getfield 76, 3, 8, 2, 132, 0) := by decide +kernel
theorem aX8_readSum_59 : i_at mX8_readSum.2.2.2.2.2 59 = some (.iconst 1, 1, 0, 0, 0, 0) := by decide +kernel
theorem aX8_readSum_60 : i_at mX8_readSum.2.2.2.2.2 60 = some (.iadd, 1, 0, 0, 0, 0) := by decide +kernel
theorem aX8_readSum_61 : i_at mX8_readSum.2.2.2.2.2 61 = some (.putfield 76, 3, 8, 2, 132, 0) := by decide +kernel
theorem aX8_readSum_64 : i_at mX8_readSum.2.2.2.2.2 64 = some (.aload_n 0, 1, 0, 0, 0, 0) := by decide +kernel
theorem aX8_readSum_65 : i_at mX8_readSum.2.2.2.2.2 65 = some (.invokevirtual 125, 3, 71, 0, 665, 0) := by decide +kernel
theorem aX8_readSum_68 : i_at mX8_readSum.2.2.2.2.2 68 = some (.aload_n 0, 1, 0, 0, 0, 0) := by decide +kernel
theorem aX8_readSum_69 : i_at mX8_readSum.2.2.2.2.2 69 = some (.iload_n 3, 1, 0, 0, 0, 0) := by decide +kernel
theorem aX8_readSum_70 : i_at mX8_readSum.2.2.2.2.2 70 = some (.bipush 42, 2, 0, 0, 0, 0) := by decide +kernel
theorem aX8_readSum_72 : i_at mX8_readSum.2.2.2.2.2 72 = some (.if_icmp .ne 7, 3, 79, 0, 0, 0) := by decide +kernel
theorem aX8_readSum_75 : i_at mX8_readSum.2.2.2.2.2 75 = some (.iconst 5, 1, 0, 0, 0, 0) := by decide +kernel
theorem aX8_readSum_76 : i_at mX8_readSum.2.2.2.2.2 76 = some (.goto 16, 3, 92, 0, 0, 0) := by decide +kernel
theorem aX8_readSum_79 : i_at mX8_readSum.2.2.2.2.2 79 = some (.iload_n 3, 1, 0, 0, 0, 0) := by decide +kernel
theorem aX8_readSum_80 : i_at mX8_readSum.2.2.2.2.2 80 = some (.bipush 47, 2, 0, 0, 0, 0) := by decide +kernel
theorem aX8_readSum_82 : i_at mX8_readSum.2.2.2.2.2 82 = some (.if_icmp .ne 8, 3, 90, 0, 0, 0) := by decide +kernel
theorem aX8_readSum_85 : i_at mX8_readSum.2.2.2.2.2 85 = some (.bipush 6, 2, 0, 0, 0, 0) := by decide +kernel
theorem aX8_readSum_87 : i_at mX8_readSum.2.2.2.2.2 87 = some (.goto 5, 3, 92, 0, 0, 0) := by decide +kernel
theorem aX8_readSum_90 : i_at mX8_readSum.2.2.2.2.2 90 = some (.bipush 7, 2, 0, 0, 0, 0) := by decide +kernel
theorem aX8_readSum_92 : i_at mX8_readSum.2.2.2.2.2 92 = some (.iconst 0, 1, 0, 0, 0, 0) := by decide +kernel
theorem aX8_readSum_93 : i_at mX8_readSum.2.2.2.2.2 93 = some (.invokevirtual 108, 3, 73, 2, 677, 0) := by decide +kernel
theorem aX8_readSum_96 : i_at mX8_readSum.2.2.2.2.2 96 = some (.goto 55, 3, 151, 0, 0, 0) := by decide +kernel
theorem aX8_readSum_99 : i_at mX8_readSum.2.2.2.2.2 99 = some (.iload_n 3, 1, 0, 0, 0, 0) := by decide +kernel
theorem aX8_readSum_100 : i_at mX8_readSum.2.2.2.2.2 100 = some (.bipush 43, 2, 0, 0, 0, 0) := by decide +kernel
theorem aX8_readSum_102 : i_at mX8_readSum.2.2.2.2.2 102 = some (.if_icmp .eq 9, 3, 111, 0, 0, 0) := by decide +kernel
theorem aX8_readSum_105 : i_at mX8_readSum.2.2.2.2.2 105 = some (.iload_n 3, 1, 0, 0, 0, 0) := by decide +kernel
theorem aX8_readSum_106 : i_at mX8_readSum.2.2.2.2.2 106 = some (.bipush 45, 2, 0, 0, 0, 0) := by decide +kernel
theorem aX8_readSum_108 : i_at mX8_readSum.2.2.2.2.2 108 = some (.if_icmp .ne 49, 3, 157, 0, 0, 0) := by decide +kernel
theorem aX8_readSum_111 : i_at mX8_readSum.2.2.2.2.2 111 = some (.iload_n 1, 1, 0, 0, 0, 0) := by decide +kernel
theorem aX8_readSum_112 : i_at mX8_readSum.2.2.2.2.2 112 = some (.iconst (-1), 1, 0, 0, 0, 0) := by decide +kernel
theorem aX8_readSum_113 : i_at mX8_readSum.2.2.2.2.2 113 = some (.if_icmp .eq 9, 3, 122, 0, 0, 0) := by decide +kernel
theorem aX8_readSum_116 : i_at mX8_readSum.2.2.2.2.2 116 = some (.aload_n 0, 1, 0, 0, 0, 0) := by decide +kernel
theorem aX8_readSum_117 : i_at mX8_readSum.2.2.2.2.2 117 = some (.iload_n 1, 1, 0, 0, 0, 0) := by decide +kernel
theorem aX8_readSum_118 : i_at mX8_readSum.2.2.2.2.2 118 = some (.iconst 0, 1, 0, 0, 0, 0) := by decide +kernel
theorem aX8_readSum_119 : i_at mX8_readSum.2.2.2.2.2 119 = some (.invokevirtual 108, 3, 73, 2, 677, 0) := by decide +kernel
theorem aX8_readSum_122 : i_at mX8_readSum.2.2.2.2.2 122 = some (.iload_n 3, 1, 0, 0, 0, 0) := by decide +kernel
theorem aX8_readSum_123 : i_at mX8_readSum.2.2.2.2.2 123 = some (.bipush 43, 2, 0, 0, 0, 0) := by decide +kernel
theorem aX8_readSum_125 : i_at mX8_readSum.2.2.2.2.2 125 = some (.if_icmp .ne 7, 3, 132, 0, 0, 0) := by decide +kernel
theorem aX8_readSum_128 : i_at mX8_readSum.2.2.2.2.2 128 = some (.iconst 3, 1, 0, 0, 0, 0) := by decide +kernel
theorem aX8_readSum_129 : i_at mX8_readSum.2.2.2.2.2 129 = some (.goto 4, 3, 133, 0, 0, 0) := by decide +kernel
theorem aX8_readSum_132 : i_at mX8_readSum.2.2.2.2.2 132 = some (.iconst 4, 1, 0, 0, 0, 0) := by decide +kernel
theorem aX8_readSum_133 : i_at mX8_readSum.2.2.2.2.2 133 = some (.istore_n 1, 1, 0, 0, 0, 0) := by decide +kernel
theorem aX8_readSum_134 : i_at mX8_readSum.2.2.2.2.2 134 = some (.aload_n 0, 1, 0, 0, 0, 0) := by decide +kernel
theorem aX8_readSum_135 : i_at mX8_readSum.2.2.2.2.2 135 = some (.getfield 24, 3, 7, 0, 234, 0) := by decide +kernel
theorem aX8_readSum_138 : i_at mX8_readSum.2.2.2.2.2 138 = some (.dup, 1, 0, 0, 0, 0) := by decide +kernel
theorem aX8_readSum_139 : i_at mX8_readSum.2.2.2.2.2 139 = some (.getfield 76, 3, 8, 2, 132, 0) := by decide +kernel
theorem aX8_readSum_142 : i_at mX8_readSum.2.2.2.2.2 142 = some (.iconst 1, 1, 0, 0, 0, 0) := by decide +kernel
theorem aX8_readSum_143 : i_at mX8_readSum.2.2.2.2.2 143 = some (.iadd, 1, 0, 0, 0, 0) := by decide +kernel
theorem aX8_readSum_144 : i_at mX8_readSum.2.2.2.2.2 144 = some (.putfield 76, 3, 8, 2, 132, 0) := by decide +kernel
theorem aX8_readSum_147 : i_at mX8_readSum.2.2.2.2.2 147 = some (.aload_n 0, 1, 0, 0, 0, 0) := by decide +kernel
theorem aX8_readSum_148 : i_at mX8_readSum.2.2.2.2.2 148 = some (.invokevirtual 125, 3, 71, 0, 665, 0) := by decide +kernel
theorem aX8_readSum_151 : i_at mX8_readSum.2.2.2.2.2 151 = some (.iinc 2 1, 3, 0, 0, 0, 0) := by decide +kernel
theorem aX8_readSum_154 : i_at mX8_readSum.2.2.2.2.2 154 = some (.goto (-146), 3, 8, 0, 0, 0) := by decide +kernel
theorem aX8_readSum_157 : i_at mX8_readSum.2.2.2.2.2 157 = some (.iload_n 1, 1, 0, 0, 0, 0) := by decide +kernel
theorem aX8_readSum_158 : i_at mX8_readSum.2.2.2.2.2 158 = some (.iconst (-1), 1, 0, 0, 0, 0) := by decide +kernel
theorem aX8_readSum_159 : i_at mX8_readSum.2.2.2.2.2 159 = some (.if_icmp .eq 9, 3, 168, 0, 0, 0) := by decide +kernel
theorem aX8_readSum_162 : i_at mX8_readSum.2.2.2.2.2 162 = some (.aload_n 0, 1, 0, 0, 0, 0) := by decide +kernel
theorem aX8_readSum_163 : i_at mX8_readSum.2.2.2.2.2 163 = some (.iload_n 1, 1, 0, 0, 0, 0) := by decide +kernel
theorem aX8_readSum_164 : i_at mX8_readSum.2.2.2.2.2 164 = some (.iconst 0, 1, 0, 0, 0, 0) := by decide +kernel
theorem aX8_readSum_165 : i_at mX8_readSum.2.2.2.2.2 165 = some (.invokevirtual 108, 3, 73, 2, 677, 0) := by decide +kernel
theorem aX8_readSum_168 : i_at mX8_readSum.2.2.2.2.2 168 = some (.return_, 1, 0, 0, 0, 0) := by decide +kernel
noncomputable def fX8_readSum_J122 (sh : List kd) (x4 : Int32) (x5 : Int32) (r65 : Int32) (k8 : Int32 → Int32 → Value → St → Option (Unit × St)) (s138 : St) : Option (Unit × St) := i_bd (fX8_readValue sh (s_F s138 1 2 ((s138.1 1 2) + 1))) (fun r139 s140 => k8 ((if ¬ r65 = 43 then 4 else 3) : Int32) (x5 + 1) (.int r65) s140)
noncomputable def fX8_readSum_J122_198 (sh : List kd) (x4 : Int32) (x5 : Int32) (r65 : Int32) (k8 : Int32 → Int32 → Value → St → Option (Unit × St)) (s198 : St) : Option (Unit × St) := i_bd (fX8_readValue sh (s_F s198 1 2 ((s198.1 1 2) + 1))) (fun r199 s200 => k8 ((if ¬ r65 = 43 then 4 else 3) : Int32) (x5 + 1) (.int r65) s200)
noncomputable def fX8_readSum_L8 (sh : List kd) (k157 : Int32 → Int32 → Value → St → Option (Unit × St)) : Nat → Int32 → Int32 → Value → St → Option (Unit × St)
  | 0, _, _, _, _ => none
  | n62 + 1, x4, x5, x6, s7 => if 400 ≤ x5 then k157 x4 x5 x6 s7 else if ¬ (s7.1 1 3) = 0 then k157 x4 x5 x6 s7 else i_bd (fX9_sign sh s7) (fun r65 s66 => if r65 = 42 then i_bd (fX8_readValue sh (s_F s66 1 2 ((s66.1 1 2) + 1))) (fun r69 s70 => i_bd (fX8_write sh s70 ((if ¬ r65 = 42 then (if ¬ r65 = 47 then 7 else 6) else 5) : Int32) 0) (fun r72 s73 => (fX8_readSum_L8 sh k157 n62 x4 (x5 + 1) (.int r65) s73))) else if r65 = 47 then i_bd (fX8_readValue sh (s_F s66 1 2 ((s66.1 1 2) + 1))) (fun r78 s79 => i_bd (fX8_write sh s79 ((if ¬ r65 = 42 then (if ¬ r65 = 47 then 7 else 6) else 5) : Int32) 0) (fun r81 s82 => (fX8_readSum_L8 sh k157 n62 x4 (x5 + 1) (.int r65) s82))) else if ¬ r65 = 37 then if r65 = 43 then if x4 = (-1) then fX8_readSum_J122 sh x4 x5 r65 (fX8_readSum_L8 sh k157 n62) s66 else i_bd (fX8_write sh s66 x4 0) (fun r144 s145 => fX8_readSum_J122 sh x4 x5 r65 (fX8_readSum_L8 sh k157 n62) s145) else if ¬ r65 = 45 then k157 x4 x5 (.int r65) s66 else if x4 = (-1) then fX8_readSum_J122_198 sh x4 x5 r65 (fX8_readSum_L8 sh k157 n62) s66 else i_bd (fX8_write sh s66 x4 0) (fun r204 s205 => fX8_readSum_J122_198 sh x4 x5 r65 (fX8_readSum_L8 sh k157 n62) s205) else i_bd (fX8_readValue sh (s_F s66 1 2 ((s66.1 1 2) + 1))) (fun r207 s208 => i_bd (fX8_write sh s208 ((if ¬ r65 = 42 then (if ¬ r65 = 47 then 7 else 6) else 5) : Int32) 0) (fun r210 s211 => (fX8_readSum_L8 sh k157 n62 x4 (x5 + 1) (.int r65) s211))))
noncomputable def fX8_readSum_J168 (sh : List kd) (x58 : Int32) (x59 : Int32) (x60 : Value) (s265 : St) : Option (Unit × St) := some ((), s265)
noncomputable def fX8_readSum_X157 (sh : List kd) (x58 : Int32) (x59 : Int32) (x60 : Value) (s61 : St) : Option (Unit × St) := if x58 = (-1) then fX8_readSum_J168 sh x58 x59 x60 s61 else i_bd (fX8_write sh s61 x58 0) (fun r267 s268 => fX8_readSum_J168 sh x58 x59 x60 s268)
noncomputable def fX8_readSum (sh : List kd) (σ : St) : Option (Unit × St) := i_bd (fX8_readValue sh σ) (fun r1 s2 => fX8_readSum_L8 sh (fun (x58 : Int32) (x59 : Int32) (x60 : Value) (s61 : St) => fX8_readSum_X157 sh x58 x59 x60 s61) i_F (-1) 0 (.retAddr 0) s2)
set_option maxRecDepth 20000 in
set_option maxHeartbeats 2000000 in
theorem tX8_readSum_J122 {sh : List kd} {τ : St} {r : Unit} (hsh : cSh sh) {x4 : Int32} {x5 : Int32} {r65 : Int32} {s138 : St} {k8 : Int32 → Int32 → Value → St → Option (Unit × St)} (hk8 : ∀ (x4 : Int32) (x5 : Int32) (x6 : Value) (s7 : St), k8 x4 x5 x6 s7 = some (r, τ) → g_R sh 3 mX8_readSum none τ 8 [.ref 10, .int x4, .int x5, x6] [] (s7)) (hE : fX8_readSum_J122 sh x4 x5 r65 k8 s138 = some (r, τ)) : g_R sh 3 mX8_readSum none τ 122 [.ref 10, .int x4, .int x5, .int r65] [] (s138) := by
  unfold fX8_readSum_J122 at hE
  refine g_ldin aX8_readSum_122 rfl ?_
  refine g_bipush (x := 43) aX8_readSum_123 rfl ?_
  have hJ : g_R sh 3 mX8_readSum none τ 133 [.ref 10, .int x4, .int x5, .int r65] [.int ((if ¬ r65 = 43 then 4 else 3) : Int32)] (s138) := by
    refine g_stin (loc2 := [.ref 10, .int ((if ¬ r65 = 43 then 4 else 3) : Int32), .int x5, .int r65]) aX8_readSum_133 (Nat.le_of_ble_eq_true rfl) rfl ?_
    refine g_ldan aX8_readSum_134 rfl ?_
    refine g_getR aX8_readSum_135 (sC_10 hsh) rfl ?_
    refine g_dupa aX8_readSum_138 ?_
    refine g_getI aX8_readSum_139 (sC_1 hsh) rfl ?_
    refine g_iconst (x := 1) aX8_readSum_142 rfl ?_
    refine g_iadd aX8_readSum_143 ?_
    refine g_putI aX8_readSum_144 (sC_1 hsh) rfl rfl ?_
    refine g_ldan aX8_readSum_147 rfl ?_
    obtain ⟨r139, s140, h141, hE⟩ := i_bd_some hE
    refine g_calV (As := []) (rest := []) aX8_readSum_148 (i_X_mono (by omega) (tX8_readValue hsh h141)) (sC_10 hsh) (by decide +kernel) rfl rfl (Nat.le_of_ble_eq_true rfl) rfl ?_
    refine g_iinc (y := 1) (loc2 := [.ref 10, .int ((if ¬ r65 = 43 then 4 else 3) : Int32), .int (x5 + 1), .int r65]) aX8_readSum_151 rfl rfl rfl ?_
    refine g_goto aX8_readSum_154 ?_
    exact hk8 _ _ _ _ hE
  clear hE
  by_cases hc141 : ¬ r65 = 43
  · (try rw [if_pos hc141] at hJ)
    refine g_ic_ne_t aX8_readSum_125 hc141 ?_
    refine g_iconst (x := 4) aX8_readSum_132 rfl ?_
    exact hJ
  · (try rw [if_neg hc141] at hJ)
    refine g_ic_ne_f aX8_readSum_125 hc141 ?_
    refine g_iconst (x := 3) aX8_readSum_128 rfl ?_
    refine g_goto aX8_readSum_129 ?_
    exact hJ
set_option maxRecDepth 20000 in
set_option maxHeartbeats 2000000 in
theorem tX8_readSum_J122_198 {sh : List kd} {τ : St} {r : Unit} (hsh : cSh sh) {x4 : Int32} {x5 : Int32} {r65 : Int32} {s198 : St} {k8 : Int32 → Int32 → Value → St → Option (Unit × St)} (hk8 : ∀ (x4 : Int32) (x5 : Int32) (x6 : Value) (s7 : St), k8 x4 x5 x6 s7 = some (r, τ) → g_R sh 3 mX8_readSum none τ 8 [.ref 10, .int x4, .int x5, x6] [] (s7)) (hE : fX8_readSum_J122_198 sh x4 x5 r65 k8 s198 = some (r, τ)) : g_R sh 3 mX8_readSum none τ 122 [.ref 10, .int x4, .int x5, .int r65] [] (s198) := by
  unfold fX8_readSum_J122_198 at hE
  refine g_ldin aX8_readSum_122 rfl ?_
  refine g_bipush (x := 43) aX8_readSum_123 rfl ?_
  have hJ : g_R sh 3 mX8_readSum none τ 133 [.ref 10, .int x4, .int x5, .int r65] [.int ((if ¬ r65 = 43 then 4 else 3) : Int32)] (s198) := by
    refine g_stin (loc2 := [.ref 10, .int ((if ¬ r65 = 43 then 4 else 3) : Int32), .int x5, .int r65]) aX8_readSum_133 (Nat.le_of_ble_eq_true rfl) rfl ?_
    refine g_ldan aX8_readSum_134 rfl ?_
    refine g_getR aX8_readSum_135 (sC_10 hsh) rfl ?_
    refine g_dupa aX8_readSum_138 ?_
    refine g_getI aX8_readSum_139 (sC_1 hsh) rfl ?_
    refine g_iconst (x := 1) aX8_readSum_142 rfl ?_
    refine g_iadd aX8_readSum_143 ?_
    refine g_putI aX8_readSum_144 (sC_1 hsh) rfl rfl ?_
    refine g_ldan aX8_readSum_147 rfl ?_
    obtain ⟨r199, s200, h201, hE⟩ := i_bd_some hE
    refine g_calV (As := []) (rest := []) aX8_readSum_148 (i_X_mono (by omega) (tX8_readValue hsh h201)) (sC_10 hsh) (by decide +kernel) rfl rfl (Nat.le_of_ble_eq_true rfl) rfl ?_
    refine g_iinc (y := 1) (loc2 := [.ref 10, .int ((if ¬ r65 = 43 then 4 else 3) : Int32), .int (x5 + 1), .int r65]) aX8_readSum_151 rfl rfl rfl ?_
    refine g_goto aX8_readSum_154 ?_
    exact hk8 _ _ _ _ hE
  clear hE
  by_cases hc201 : ¬ r65 = 43
  · (try rw [if_pos hc201] at hJ)
    refine g_ic_ne_t aX8_readSum_125 hc201 ?_
    refine g_iconst (x := 4) aX8_readSum_132 rfl ?_
    exact hJ
  · (try rw [if_neg hc201] at hJ)
    refine g_ic_ne_f aX8_readSum_125 hc201 ?_
    refine g_iconst (x := 3) aX8_readSum_128 rfl ?_
    refine g_goto aX8_readSum_129 ?_
    exact hJ
set_option maxRecDepth 20000 in
set_option maxHeartbeats 2000000 in
theorem tX8_readSum_L8 {sh : List kd} {τ : St} {r : Unit} (hsh : cSh sh) {k157 : Int32 → Int32 → Value → St → Option (Unit × St)} (hk157 : ∀ (x58 : Int32) (x59 : Int32) (x60 : Value) (s61 : St), k157 x58 x59 x60 s61 = some (r, τ) → g_R sh 3 mX8_readSum none τ 157 [.ref 10, .int x58, .int x59, x60] [] (s61)) : ∀ (n0 : Nat) (x4 : Int32) (x5 : Int32) (x6 : Value) (s7 : St), fX8_readSum_L8 sh k157 n0 x4 x5 x6 s7 = some (r, τ) → g_R sh 3 mX8_readSum none τ 8 [.ref 10, .int x4, .int x5, x6] [] (s7) := by
  intro n0
  induction n0 with
  | zero => intro _ _ _ _ hE; cases hE
  | succ n62 ih =>
    intro x4 x5 x6 s7 hE
    unfold fX8_readSum_L8 at hE
    refine g_ldin aX8_readSum_8 rfl ?_
    refine g_sipush (x := 400) aX8_readSum_9 rfl ?_
    by_cases hc63 : 400 ≤ x5
    · rw [if_pos hc63] at hE
      refine g_ic_ge_t aX8_readSum_12 hc63 ?_
      exact hk157 _ _ _ _ hE
    · rw [if_neg hc63] at hE
      refine g_ic_ge_f aX8_readSum_12 hc63 ?_
      refine g_ldan aX8_readSum_15 rfl ?_
      refine g_getR aX8_readSum_16 (sC_10 hsh) rfl ?_
      refine g_getI aX8_readSum_19 (sC_1 hsh) rfl ?_
      by_cases hc64 : ¬ (s7.1 1 3) = 0
      · rw [if_pos hc64] at hE
        refine g_if_ne_t aX8_readSum_22 hc64 ?_
        exact hk157 _ _ _ _ hE
      · rw [if_neg hc64] at hE
        refine g_if_ne_f aX8_readSum_22 hc64 ?_
        refine g_ldan aX8_readSum_25 rfl ?_
        refine g_getR aX8_readSum_26 (sC_10 hsh) rfl ?_
        obtain ⟨r65, s66, h67, hE⟩ := i_bd_some hE
        refine g_calV (As := []) (rest := []) aX8_readSum_29 (i_X_mono (by omega) (tX9_sign hsh h67)) (sC_1 hsh) (by decide +kernel) rfl rfl (Nat.le_of_ble_eq_true rfl) rfl ?_
        refine g_stin (loc2 := [.ref 10, .int x4, .int x5, .int r65]) aX8_readSum_32 (Nat.le_of_ble_eq_true rfl) rfl ?_
        refine g_ldin aX8_readSum_33 rfl ?_
        refine g_bipush (x := 42) aX8_readSum_34 rfl ?_
        by_cases hc68 : r65 = 42
        · rw [if_pos hc68] at hE
          refine g_ic_eq_t aX8_readSum_36 hc68 ?_
          refine g_ldan aX8_readSum_51 rfl ?_
          refine g_getR aX8_readSum_52 (sC_10 hsh) rfl ?_
          refine g_dupa aX8_readSum_55 ?_
          refine g_getI aX8_readSum_56 (sC_1 hsh) rfl ?_
          refine g_iconst (x := 1) aX8_readSum_59 rfl ?_
          refine g_iadd aX8_readSum_60 ?_
          refine g_putI aX8_readSum_61 (sC_1 hsh) rfl rfl ?_
          refine g_ldan aX8_readSum_64 rfl ?_
          obtain ⟨r69, s70, h71, hE⟩ := i_bd_some hE
          refine g_calV (As := []) (rest := []) aX8_readSum_65 (i_X_mono (by omega) (tX8_readValue hsh h71)) (sC_10 hsh) (by decide +kernel) rfl rfl (Nat.le_of_ble_eq_true rfl) rfl ?_
          refine g_ldan aX8_readSum_68 rfl ?_
          refine g_ldin aX8_readSum_69 rfl ?_
          refine g_bipush (x := 42) aX8_readSum_70 rfl ?_
          have hJ : g_R sh 3 mX8_readSum none τ 92 [.ref 10, .int x4, .int x5, .int r65] [.int ((if ¬ r65 = 42 then (if ¬ r65 = 47 then 7 else 6) else 5) : Int32), .ref 10] (s70) := by
            refine g_iconst (x := 0) aX8_readSum_92 rfl ?_
            obtain ⟨r72, s73, h74, hE⟩ := i_bd_some hE
            refine g_calV (As := [.int ((if ¬ r65 = 42 then (if ¬ r65 = 47 then 7 else 6) else 5) : Int32), .int 0]) (rest := []) aX8_readSum_93 (i_X_mono (by omega) (tX8_write hsh h74)) (sC_10 hsh) (by decide +kernel) rfl rfl (Nat.le_of_ble_eq_true rfl) rfl ?_
            refine g_goto aX8_readSum_96 ?_
            refine g_iinc (y := 1) (loc2 := [.ref 10, .int x4, .int (x5 + 1), .int r65]) aX8_readSum_151 rfl rfl rfl ?_
            refine g_goto aX8_readSum_154 ?_
            exact ih _ _ _ _ hE
          clear hE
          by_cases hc74 : ¬ r65 = 42
          · (try rw [if_pos hc74] at hJ)
            refine g_ic_ne_t aX8_readSum_72 hc74 ?_
            refine g_ldin aX8_readSum_79 rfl ?_
            refine g_bipush (x := 47) aX8_readSum_80 rfl ?_
            by_cases hc75 : ¬ r65 = 47
            · (try rw [if_pos hc75] at hJ)
              refine g_ic_ne_t aX8_readSum_82 hc75 ?_
              refine g_bipush (x := 7) aX8_readSum_90 rfl ?_
              exact hJ
            · (try rw [if_neg hc75] at hJ)
              refine g_ic_ne_f aX8_readSum_82 hc75 ?_
              refine g_bipush (x := 6) aX8_readSum_85 rfl ?_
              refine g_goto aX8_readSum_87 ?_
              exact hJ
          · (try rw [if_neg hc74] at hJ)
            refine g_ic_ne_f aX8_readSum_72 hc74 ?_
            refine g_iconst (x := 5) aX8_readSum_75 rfl ?_
            refine g_goto aX8_readSum_76 ?_
            exact hJ
        · rw [if_neg hc68] at hE
          refine g_ic_eq_f aX8_readSum_36 hc68 ?_
          refine g_ldin aX8_readSum_39 rfl ?_
          refine g_bipush (x := 47) aX8_readSum_40 rfl ?_
          by_cases hc77 : r65 = 47
          · rw [if_pos hc77] at hE
            refine g_ic_eq_t aX8_readSum_42 hc77 ?_
            refine g_ldan aX8_readSum_51 rfl ?_
            refine g_getR aX8_readSum_52 (sC_10 hsh) rfl ?_
            refine g_dupa aX8_readSum_55 ?_
            refine g_getI aX8_readSum_56 (sC_1 hsh) rfl ?_
            refine g_iconst (x := 1) aX8_readSum_59 rfl ?_
            refine g_iadd aX8_readSum_60 ?_
            refine g_putI aX8_readSum_61 (sC_1 hsh) rfl rfl ?_
            refine g_ldan aX8_readSum_64 rfl ?_
            obtain ⟨r78, s79, h80, hE⟩ := i_bd_some hE
            refine g_calV (As := []) (rest := []) aX8_readSum_65 (i_X_mono (by omega) (tX8_readValue hsh h80)) (sC_10 hsh) (by decide +kernel) rfl rfl (Nat.le_of_ble_eq_true rfl) rfl ?_
            refine g_ldan aX8_readSum_68 rfl ?_
            refine g_ldin aX8_readSum_69 rfl ?_
            refine g_bipush (x := 42) aX8_readSum_70 rfl ?_
            have hJ : g_R sh 3 mX8_readSum none τ 92 [.ref 10, .int x4, .int x5, .int r65] [.int ((if ¬ r65 = 42 then (if ¬ r65 = 47 then 7 else 6) else 5) : Int32), .ref 10] (s79) := by
              refine g_iconst (x := 0) aX8_readSum_92 rfl ?_
              obtain ⟨r81, s82, h83, hE⟩ := i_bd_some hE
              refine g_calV (As := [.int ((if ¬ r65 = 42 then (if ¬ r65 = 47 then 7 else 6) else 5) : Int32), .int 0]) (rest := []) aX8_readSum_93 (i_X_mono (by omega) (tX8_write hsh h83)) (sC_10 hsh) (by decide +kernel) rfl rfl (Nat.le_of_ble_eq_true rfl) rfl ?_
              refine g_goto aX8_readSum_96 ?_
              refine g_iinc (y := 1) (loc2 := [.ref 10, .int x4, .int (x5 + 1), .int r65]) aX8_readSum_151 rfl rfl rfl ?_
              refine g_goto aX8_readSum_154 ?_
              exact ih _ _ _ _ hE
            clear hE
            by_cases hc83 : ¬ r65 = 42
            · (try rw [if_pos hc83] at hJ)
              refine g_ic_ne_t aX8_readSum_72 hc83 ?_
              refine g_ldin aX8_readSum_79 rfl ?_
              refine g_bipush (x := 47) aX8_readSum_80 rfl ?_
              by_cases hc84 : ¬ r65 = 47
              · (try rw [if_pos hc84] at hJ)
                refine g_ic_ne_t aX8_readSum_82 hc84 ?_
                refine g_bipush (x := 7) aX8_readSum_90 rfl ?_
                exact hJ
              · (try rw [if_neg hc84] at hJ)
                refine g_ic_ne_f aX8_readSum_82 hc84 ?_
                refine g_bipush (x := 6) aX8_readSum_85 rfl ?_
                refine g_goto aX8_readSum_87 ?_
                exact hJ
            · (try rw [if_neg hc83] at hJ)
              refine g_ic_ne_f aX8_readSum_72 hc83 ?_
              refine g_iconst (x := 5) aX8_readSum_75 rfl ?_
              refine g_goto aX8_readSum_76 ?_
              exact hJ
          · rw [if_neg hc77] at hE
            refine g_ic_eq_f aX8_readSum_42 hc77 ?_
            refine g_ldin aX8_readSum_45 rfl ?_
            refine g_bipush (x := 37) aX8_readSum_46 rfl ?_
            by_cases hc86 : ¬ r65 = 37
            · rw [if_pos hc86] at hE
              refine g_ic_ne_t aX8_readSum_48 hc86 ?_
              refine g_ldin aX8_readSum_99 rfl ?_
              refine g_bipush (x := 43) aX8_readSum_100 rfl ?_
              by_cases hc87 : r65 = 43
              · rw [if_pos hc87] at hE
                refine g_ic_eq_t aX8_readSum_102 hc87 ?_
                refine g_ldin aX8_readSum_111 rfl ?_
                refine g_iconst (x := (-1)) aX8_readSum_112 rfl ?_
                by_cases hc143 : x4 = (-1)
                · rw [if_pos hc143] at hE
                  refine g_ic_eq_t aX8_readSum_113 hc143 ?_
                  exact tX8_readSum_J122 hsh ih hE
                · rw [if_neg hc143] at hE
                  refine g_ic_eq_f aX8_readSum_113 hc143 ?_
                  refine g_ldan aX8_readSum_116 rfl ?_
                  refine g_ldin aX8_readSum_117 rfl ?_
                  refine g_iconst (x := 0) aX8_readSum_118 rfl ?_
                  obtain ⟨r144, s145, h146, hE⟩ := i_bd_some hE
                  refine g_calV (As := [.int x4, .int 0]) (rest := []) aX8_readSum_119 (i_X_mono (by omega) (tX8_write hsh h146)) (sC_10 hsh) (by decide +kernel) rfl rfl (Nat.le_of_ble_eq_true rfl) rfl ?_
                  exact tX8_readSum_J122 hsh ih hE
              · rw [if_neg hc87] at hE
                refine g_ic_eq_f aX8_readSum_102 hc87 ?_
                refine g_ldin aX8_readSum_105 rfl ?_
                refine g_bipush (x := 45) aX8_readSum_106 rfl ?_
                by_cases hc147 : ¬ r65 = 45
                · rw [if_pos hc147] at hE
                  refine g_ic_ne_t aX8_readSum_108 hc147 ?_
                  exact hk157 _ _ _ _ hE
                · rw [if_neg hc147] at hE
                  refine g_ic_ne_f aX8_readSum_108 hc147 ?_
                  refine g_ldin aX8_readSum_111 rfl ?_
                  refine g_iconst (x := (-1)) aX8_readSum_112 rfl ?_
                  by_cases hc203 : x4 = (-1)
                  · rw [if_pos hc203] at hE
                    refine g_ic_eq_t aX8_readSum_113 hc203 ?_
                    exact tX8_readSum_J122_198 hsh ih hE
                  · rw [if_neg hc203] at hE
                    refine g_ic_eq_f aX8_readSum_113 hc203 ?_
                    refine g_ldan aX8_readSum_116 rfl ?_
                    refine g_ldin aX8_readSum_117 rfl ?_
                    refine g_iconst (x := 0) aX8_readSum_118 rfl ?_
                    obtain ⟨r204, s205, h206, hE⟩ := i_bd_some hE
                    refine g_calV (As := [.int x4, .int 0]) (rest := []) aX8_readSum_119 (i_X_mono (by omega) (tX8_write hsh h206)) (sC_10 hsh) (by decide +kernel) rfl rfl (Nat.le_of_ble_eq_true rfl) rfl ?_
                    exact tX8_readSum_J122_198 hsh ih hE
            · rw [if_neg hc86] at hE
              refine g_ic_ne_f aX8_readSum_48 hc86 ?_
              refine g_ldan aX8_readSum_51 rfl ?_
              refine g_getR aX8_readSum_52 (sC_10 hsh) rfl ?_
              refine g_dupa aX8_readSum_55 ?_
              refine g_getI aX8_readSum_56 (sC_1 hsh) rfl ?_
              refine g_iconst (x := 1) aX8_readSum_59 rfl ?_
              refine g_iadd aX8_readSum_60 ?_
              refine g_putI aX8_readSum_61 (sC_1 hsh) rfl rfl ?_
              refine g_ldan aX8_readSum_64 rfl ?_
              obtain ⟨r207, s208, h209, hE⟩ := i_bd_some hE
              refine g_calV (As := []) (rest := []) aX8_readSum_65 (i_X_mono (by omega) (tX8_readValue hsh h209)) (sC_10 hsh) (by decide +kernel) rfl rfl (Nat.le_of_ble_eq_true rfl) rfl ?_
              refine g_ldan aX8_readSum_68 rfl ?_
              refine g_ldin aX8_readSum_69 rfl ?_
              refine g_bipush (x := 42) aX8_readSum_70 rfl ?_
              have hJ : g_R sh 3 mX8_readSum none τ 92 [.ref 10, .int x4, .int x5, .int r65] [.int ((if ¬ r65 = 42 then (if ¬ r65 = 47 then 7 else 6) else 5) : Int32), .ref 10] (s208) := by
                refine g_iconst (x := 0) aX8_readSum_92 rfl ?_
                obtain ⟨r210, s211, h212, hE⟩ := i_bd_some hE
                refine g_calV (As := [.int ((if ¬ r65 = 42 then (if ¬ r65 = 47 then 7 else 6) else 5) : Int32), .int 0]) (rest := []) aX8_readSum_93 (i_X_mono (by omega) (tX8_write hsh h212)) (sC_10 hsh) (by decide +kernel) rfl rfl (Nat.le_of_ble_eq_true rfl) rfl ?_
                refine g_goto aX8_readSum_96 ?_
                refine g_iinc (y := 1) (loc2 := [.ref 10, .int x4, .int (x5 + 1), .int r65]) aX8_readSum_151 rfl rfl rfl ?_
                refine g_goto aX8_readSum_154 ?_
                exact ih _ _ _ _ hE
              clear hE
              by_cases hc212 : ¬ r65 = 42
              · (try rw [if_pos hc212] at hJ)
                refine g_ic_ne_t aX8_readSum_72 hc212 ?_
                refine g_ldin aX8_readSum_79 rfl ?_
                refine g_bipush (x := 47) aX8_readSum_80 rfl ?_
                by_cases hc213 : ¬ r65 = 47
                · (try rw [if_pos hc213] at hJ)
                  refine g_ic_ne_t aX8_readSum_82 hc213 ?_
                  refine g_bipush (x := 7) aX8_readSum_90 rfl ?_
                  exact hJ
                · (try rw [if_neg hc213] at hJ)
                  refine g_ic_ne_f aX8_readSum_82 hc213 ?_
                  refine g_bipush (x := 6) aX8_readSum_85 rfl ?_
                  refine g_goto aX8_readSum_87 ?_
                  exact hJ
              · (try rw [if_neg hc212] at hJ)
                refine g_ic_ne_f aX8_readSum_72 hc212 ?_
                refine g_iconst (x := 5) aX8_readSum_75 rfl ?_
                refine g_goto aX8_readSum_76 ?_
                exact hJ
set_option maxRecDepth 20000 in
set_option maxHeartbeats 2000000 in
theorem tX8_readSum_J168 {sh : List kd} {τ : St} {r : Unit} (hsh : cSh sh) {x58 : Int32} {x59 : Int32} {x60 : Value} {s265 : St} (hE : fX8_readSum_J168 sh x58 x59 x60 s265 = some (r, τ)) : g_R sh 3 mX8_readSum none τ 168 [.ref 10, .int x58, .int x59, x60] [] (s265) := by
  unfold fX8_readSum_J168 at hE
  obtain ⟨rfl, rfl⟩ := i_some_inj hE
  exact g_vret aX8_readSum_168 rfl
set_option maxRecDepth 20000 in
set_option maxHeartbeats 2000000 in
theorem tX8_readSum_X157 {sh : List kd} {τ : St} {r : Unit} (hsh : cSh sh) {x58 : Int32} {x59 : Int32} {x60 : Value} {s61 : St} (hE : fX8_readSum_X157 sh x58 x59 x60 s61 = some (r, τ)) : g_R sh 3 mX8_readSum none τ 157 [.ref 10, .int x58, .int x59, x60] [] (s61) := by
  unfold fX8_readSum_X157 at hE
  refine g_ldin aX8_readSum_157 rfl ?_
  refine g_iconst (x := (-1)) aX8_readSum_158 rfl ?_
  by_cases hc266 : x58 = (-1)
  · rw [if_pos hc266] at hE
    refine g_ic_eq_t aX8_readSum_159 hc266 ?_
    exact tX8_readSum_J168 hsh hE
  · rw [if_neg hc266] at hE
    refine g_ic_eq_f aX8_readSum_159 hc266 ?_
    refine g_ldan aX8_readSum_162 rfl ?_
    refine g_ldin aX8_readSum_163 rfl ?_
    refine g_iconst (x := 0) aX8_readSum_164 rfl ?_
    obtain ⟨r267, s268, h269, hE⟩ := i_bd_some hE
    refine g_calV (As := [.int x58, .int 0]) (rest := []) aX8_readSum_165 (i_X_mono (by omega) (tX8_write hsh h269)) (sC_10 hsh) (by decide +kernel) rfl rfl (Nat.le_of_ble_eq_true rfl) rfl ?_
    exact tX8_readSum_J168 hsh hE
set_option maxRecDepth 20000 in
set_option maxHeartbeats 2000000 in
theorem tX8_readSum {sh : List kd} {σ τ : St} {r : Unit} (hsh : cSh sh) (hE : fX8_readSum sh σ = some (r, τ)) : i_X 4 70 [.ref 10] (s_h sh σ) 0 0 none (s_h sh τ) := by
  refine g_X (M := mX8_readSum) (loc := [.ref 10, .retAddr 0, .retAddr 0, .retAddr 0]) rfl (Nat.le_of_ble_eq_true rfl) rfl ?_
  unfold fX8_readSum at hE
  refine g_iconst (x := (-1)) aX8_readSum_0 rfl ?_
  refine g_stin (loc2 := [.ref 10, .int (-1), .retAddr 0, .retAddr 0]) aX8_readSum_1 (Nat.le_of_ble_eq_true rfl) rfl ?_
  refine g_ldan aX8_readSum_2 rfl ?_
  obtain ⟨r1, s2, h3, hE⟩ := i_bd_some hE
  refine g_calV (As := []) (rest := []) aX8_readSum_3 (i_X_mono (by omega) (tX8_readValue hsh h3)) (sC_10 hsh) (by decide +kernel) rfl rfl (Nat.le_of_ble_eq_true rfl) rfl ?_
  refine g_iconst (x := 0) aX8_readSum_6 rfl ?_
  refine g_stin (loc2 := [.ref 10, .int (-1), .int 0, .retAddr 0]) aX8_readSum_7 (Nat.le_of_ble_eq_true rfl) rfl ?_
  exact tX8_readSum_L8 hsh (fun x58 x59 x60 s61 hE => tX8_readSum_X157 hsh hE) i_F _ _ _ _ hE
theorem aX11_court_0 : i_at mX11_court.2.2.2.2.2 0 = some (.aload_n 0, 1, 0, 0, 0, 0) := by decide +kernel
theorem aX11_court_1 : i_at mX11_court.2.2.2.2.2 1 = some (.getfield 28, 3, 10, 2, 456, 0) := by decide +kernel
theorem aX11_court_4 : i_at mX11_court.2.2.2.2.2 4 = some (.invokevirtual 91, 3, 6, 0, 504, 0) := by decide +kernel
theorem aX11_court_7 : i_at mX11_court.2.2.2.2.2 7 = some (.istore_n 1, 1, 0, 0, 0, 0) := by decide +kernel
theorem aX11_court_8 : i_at mX11_court.2.2.2.2.2 8 = some (.aload_n 0, 1, 0, 0, 0, 0) := by decide +kernel
theorem aX11_court_9 : i_at mX11_court.2.2.2.2.2 9 = some (.getfield 10, 3, 10, 0, 454, 0) := by decide +kernel
theorem aX11_court_12 : i_at mX11_court.2.2.2.2.2 12 = some (.iconst 0, 1, 0, 0, 0, 0) := by decide +kernel
theorem aX11_court_13 : i_at mX11_court.2.2.2.2.2 13 = some (.putfield 83, 3, 8, 1, 128, 0) := by decide +kernel
theorem aX11_court_16 : i_at mX11_court.2.2.2.2.2 16 = some (.iload_n 1, 1, 0, 0, 0, 0) := by decide +kernel
theorem aX11_court_17 : i_at mX11_court.2.2.2.2.2 17 = some (.ifCond .eq 8, 3, 25, 0, 0, 0) := by decide +kernel
theorem aX11_court_20 : i_at mX11_court.2.2.2.2.2 20 = some (.bipush (-2), 2, 0, 0, 0, 0) := by decide +kernel
theorem aX11_court_22 : i_at mX11_court.2.2.2.2.2 22 = some (.iload_n 1, 1, 0, 0, 0, 0) := by decide +kernel
theorem aX11_court_23 : i_at mX11_court.2.2.2.2.2 23 = some (.isub, 1, 0, 0, 0, 0) := by decide +kernel
theorem aX11_court_24 : i_at mX11_court.2.2.2.2.2 24 = some (.ireturn, 1, 0, 0, 0, 0) := by decide +kernel
theorem aX11_court_25 : i_at mX11_court.2.2.2.2.2 25 = some (.aload_n 0, 1, 0, 0, 0, 0) := by decide +kernel
theorem aX11_court_26 : i_at mX11_court.2.2.2.2.2 26 = some (.getfield 59, 3, 10, 6, 460, 0) := by decide +kernel
theorem aX11_court_29 : i_at mX11_court.2.2.2.2.2 29 = some (.getfield 95, 3, 9, 0, 347, 0) := by decide +kernel
theorem aX11_court_32 : i_at mX11_court.2.2.2.2.2 32 = some (.aload_n 0, 1, 0, 0, 0, 0) := by decide +kernel
theorem aX11_court_33 : i_at mX11_court.2.2.2.2.2 33 = some (.getfield 19, 3, 10, 1, 455, 0) := by decide +kernel
theorem aX11_court_36 : i_at mX11_court.2.2.2.2.2 36 = some (.invokevirtual 98, 3, 52, 1, 630, 0) := by decide +kernel
theorem aX11_court_39 : i_at mX11_court.2.2.2.2.2 39 = some (.aload_n 0, 1, 0, 0, 0, 0) := by decide +kernel
theorem aX11_court_40 : i_at mX11_court.2.2.2.2.2 40 = some (.getfield 59, 3, 10, 6, 460, 0) := by decide +kernel
theorem aX11_court_43 : i_at mX11_court.2.2.2.2.2 43 = some (.getfield 102, 3, 9, 1, 351, 0) := by decide +kernel
theorem aX11_court_46 : i_at mX11_court.2.2.2.2.2 46 = some (.aload_n 0, 1, 0, 0, 0, 0) := by decide +kernel
theorem aX11_court_47 : i_at mX11_court.2.2.2.2.2 47 = some (.getfield 19, 3, 10, 1, 455, 0) := by decide +kernel
theorem aX11_court_50 : i_at mX11_court.2.2.2.2.2 50 = some (.invokevirtual 106, 3, 26, 1, 637, 0) := by decide +kernel
theorem aX11_court_53 : i_at mX11_court.2.2.2.2.2 53 = some (.aload_n 0, 1, 0, 0, 0, 0) := by decide +kernel
theorem aX11_court_54 : i_at mX11_court.2.2.2.2.2 54 = some (.getfield 59, 3, 10, 6, 460, 0) := by decide +kernel
theorem aX11_court_57 : i_at mX11_court.2.2.2.2.2 57 = some (.iconst 0, 1, 0, 0, 0, 0) := by decide +kernel
theorem aX11_court_58 : i_at mX11_court.2.2.2.2.2 58 = some (.putfield 111, 3, 9, 7, 363, 0) := by decide +kernel
theorem aX11_court_61 : i_at mX11_court.2.2.2.2.2 61 = some (.aload_n 0, 1, 0, 0, 0, 0) := by decide +kernel
theorem aX11_court_62 : i_at mX11_court.2.2.2.2.2 62 = some (.getfield 59, 3, 10, 6, 460, 0) := by decide +kernel
theorem aX11_court_65 : i_at mX11_court.2.2.2.2.2 65 = some (.iconst 0, 1, 0, 0, 0, 0) := by decide +kernel
theorem aX11_court_66 : i_at mX11_court.2.2.2.2.2 66 = some (.putfield 114, 3, 9, 4, 355, 0) := by decide +kernel
theorem aX11_court_69 : i_at mX11_court.2.2.2.2.2 69 = some (.aload_n 0, 1, 0, 0, 0, 0) := by decide +kernel
theorem aX11_court_70 : i_at mX11_court.2.2.2.2.2 70 = some (.getfield 59, 3, 10, 6, 460, 0) := by decide +kernel
theorem aX11_court_73 : i_at mX11_court.2.2.2.2.2 73 = some (.getfield 95, 3, 9, 0, 347, 0) := by decide +kernel
theorem aX11_court_76 : i_at mX11_court.2.2.2.2.2 76 = some (.getfield 117, 3, 5, 3, 167, 0) := by decide +kernel
theorem aX11_court_79 : i_at mX11_court.2.2.2.2.2 79 = some (.ireturn, 1, 0, 0, 0, 0) := by decide +kernel
noncomputable def fX11_court (sh : List kd) (σ : St) : Option (Int32 × St) := i_bd (fX1_read sh σ) (fun r1 s2 => if r1 = 0 then i_bd (fX6_copyFrom sh (s_F s2 1 1 0) 20 3) (fun r5 s6 => i_bd (fX4_begin sh s6 26 3) (fun r8 s9 => some (((s_F (s_F s9 19 7 0) 19 4 0).1 20 3), s_F (s_F s9 19 7 0) 19 4 0))) else some (((-2) - r1), s_F s2 1 1 0))
set_option maxRecDepth 20000 in
set_option maxHeartbeats 2000000 in
theorem tX11_court {sh : List kd} {σ τ : St} {r : Int32} (hsh : cSh sh) (hE : fX11_court sh σ = some (r, τ)) : i_X 6 93 [.ref 0] (s_h sh σ) 0 0 (some (.int r)) (s_h sh τ) := by
  refine g_X (M := mX11_court) (loc := [.ref 0, .retAddr 0]) rfl (Nat.le_of_ble_eq_true rfl) rfl ?_
  unfold fX11_court at hE
  refine g_ldan aX11_court_0 rfl ?_
  refine g_getR aX11_court_1 (sC_0 hsh) rfl ?_
  obtain ⟨r1, s2, h3, hE⟩ := i_bd_some hE
  refine g_calV (As := []) (rest := []) aX11_court_4 (i_X_mono (by omega) (tX1_read hsh h3)) (sC_9 hsh) (by decide +kernel) rfl rfl (Nat.le_of_ble_eq_true rfl) rfl ?_
  refine g_stin (loc2 := [.ref 0, .int r1]) aX11_court_7 (Nat.le_of_ble_eq_true rfl) rfl ?_
  refine g_ldan aX11_court_8 rfl ?_
  refine g_getR aX11_court_9 (sC_0 hsh) rfl ?_
  refine g_iconst (x := 0) aX11_court_12 rfl ?_
  refine g_putI aX11_court_13 (sC_1 hsh) rfl rfl ?_
  refine g_ldin aX11_court_16 rfl ?_
  by_cases hc4 : r1 = 0
  · rw [if_pos hc4] at hE
    refine g_if_eq_t aX11_court_17 hc4 ?_
    refine g_ldan aX11_court_25 rfl ?_
    refine g_getR aX11_court_26 (sC_0 hsh) rfl ?_
    refine g_getR aX11_court_29 ((wShB_19 hsh).1) rfl ?_
    refine g_ldan aX11_court_32 rfl ?_
    refine g_getR aX11_court_33 (sC_0 hsh) rfl ?_
    obtain ⟨r5, s6, h7, hE⟩ := i_bd_some hE
    refine g_calV (As := [.ref 3]) (rest := []) aX11_court_36 (i_X_mono (by omega) (tX6_copyFrom hsh (rShB_20 hsh) (rShB_3 hsh) h7)) ((rShB_20 hsh).1) (by decide +kernel) rfl rfl (Nat.le_of_ble_eq_true rfl) rfl ?_
    refine g_ldan aX11_court_39 rfl ?_
    refine g_getR aX11_court_40 (sC_0 hsh) rfl ?_
    refine g_getR aX11_court_43 ((wShB_19 hsh).1) rfl ?_
    refine g_ldan aX11_court_46 rfl ?_
    refine g_getR aX11_court_47 (sC_0 hsh) rfl ?_
    obtain ⟨r8, s9, h10, hE⟩ := i_bd_some hE
    refine g_calV (As := [.ref 3]) (rest := []) aX11_court_50 (i_X_mono (by omega) (tX4_begin hsh (lShB_26 hsh) (rShB_3 hsh) h10)) ((lShB_26 hsh).1) (by decide +kernel) rfl rfl (Nat.le_of_ble_eq_true rfl) rfl ?_
    refine g_ldan aX11_court_53 rfl ?_
    refine g_getR aX11_court_54 (sC_0 hsh) rfl ?_
    refine g_iconst (x := 0) aX11_court_57 rfl ?_
    refine g_putI aX11_court_58 ((wShB_19 hsh).1) rfl rfl ?_
    refine g_ldan aX11_court_61 rfl ?_
    refine g_getR aX11_court_62 (sC_0 hsh) rfl ?_
    refine g_iconst (x := 0) aX11_court_65 rfl ?_
    refine g_putI aX11_court_66 ((wShB_19 hsh).1) rfl rfl ?_
    refine g_ldan aX11_court_69 rfl ?_
    refine g_getR aX11_court_70 (sC_0 hsh) rfl ?_
    refine g_getR aX11_court_73 ((wShB_19 hsh).1) rfl ?_
    refine g_getI aX11_court_76 ((rShB_20 hsh).1) rfl ?_
    obtain ⟨rfl, rfl⟩ := i_some_inj hE
    exact g_iret aX11_court_79 rfl rfl
  · rw [if_neg hc4] at hE
    refine g_if_eq_f aX11_court_17 hc4 ?_
    refine g_bipush (x := (-2)) aX11_court_20 rfl ?_
    refine g_ldin aX11_court_22 rfl ?_
    refine g_isub aX11_court_23 ?_
    obtain ⟨rfl, rfl⟩ := i_some_inj hE
    exact g_iret aX11_court_24 rfl rfl
theorem aX11_hour_0 : i_at mX11_hour.2.2.2.2.2 0 = some (.aload_n 0, 1, 0, 0, 0, 0) := by decide +kernel
theorem aX11_hour_1 : i_at mX11_hour.2.2.2.2.2 1 = some (.getfield 59, 3, 10, 6, 460, 0) := by decide +kernel
theorem aX11_hour_4 : i_at mX11_hour.2.2.2.2.2 4 = some (.getfield 95, 3, 9, 0, 347, 0) := by decide +kernel
theorem aX11_hour_7 : i_at mX11_hour.2.2.2.2.2 7 = some (.getfield 173, 3, 5, 0, 155, 0) := by decide +kernel
theorem aX11_hour_10 : i_at mX11_hour.2.2.2.2.2 10 = some (.ifCond .eq 19, 3, 29, 0, 0, 0) := by decide +kernel
theorem aX11_hour_13 : i_at mX11_hour.2.2.2.2.2 13 = some (.aload_n 0, 1, 0, 0, 0, 0) := by decide +kernel
theorem aX11_hour_14 : i_at mX11_hour.2.2.2.2.2 14 = some (.getfield 59, 3, 10, 6, 460, 0) := by decide +kernel
theorem aX11_hour_17 : i_at mX11_hour.2.2.2.2.2 17 = some (.getfield 102, 3, 9, 1, 351, 0) := by decide +kernel
theorem aX11_hour_20 : i_at mX11_hour.2.2.2.2.2 20 = some (.getfield 177, 3, 3, 0, 295, 0) := by decide +kernel
theorem aX11_hour_23 : i_at mX11_hour.2.2.2.2.2 23 = some (.sipush 999, 3, 0, 0, 0, 0) := by decide +kernel
theorem aX11_hour_26 : i_at mX11_hour.2.2.2.2.2 26 = some (.if_icmp .lt 5, 3, 31, 0, 0, 0) := by decide +kernel
theorem aX11_hour_29 : i_at mX11_hour.2.2.2.2.2 29 = some (.iconst (-1), 1, 0, 0, 0, 0) := by decide +kernel
theorem aX11_hour_30 : i_at mX11_hour.2.2.2.2.2 30 = some (.ireturn, 1, 0, 0, 0, 0) := by decide +kernel
theorem aX11_hour_31 : i_at mX11_hour.2.2.2.2.2 31 = some (.aload_n 0, 1, 0, 0, 0, 0) := by decide +kernel
theorem aX11_hour_32 : i_at mX11_hour.2.2.2.2.2 32 = some (.getfield 59, 3, 10, 6, 460, 0) := by decide +kernel
theorem aX11_hour_35 : i_at mX11_hour.2.2.2.2.2 35 = some (.invokevirtual 180, 3, 87, 0, 785, 0) := by decide +kernel
theorem aX11_hour_38 : i_at mX11_hour.2.2.2.2.2 38 = some (.aload_n 0, 1, 0, 0, 0, 0) := by decide +kernel
theorem aX11_hour_39 : i_at mX11_hour.2.2.2.2.2 39 = some (.getfield 52, 3, 10, 5, 459, 0) := by decide +kernel
theorem aX11_hour_42 : i_at mX11_hour.2.2.2.2.2 42 = some (.aload_n 0, 1, 0, 0, 0, 0) := by decide +kernel
theorem aX11_hour_43 : i_at mX11_hour.2.2.2.2.2 43 = some (.getfield 59, 3, 10, 6, 460, 0) := by decide +kernel
theorem aX11_hour_46 : i_at mX11_hour.2.2.2.2.2 46 = some (.getfield 102, 3, 9, 1, 351, 0) := by decide +kernel
theorem aX11_hour_49 : i_at mX11_hour.2.2.2.2.2 49 = some (.aload_n 0, 1, 0, 0, 0, 0) := by decide +kernel
theorem aX11_hour_50 : i_at mX11_hour.2.2.2.2.2 50 = some (.getfield 59, 3, 10, 6, 460, 0) := by decide +kernel
theorem aX11_hour_53 : i_at mX11_hour.2.2.2.2.2 53 = some (.getfield 95, 3, 9, 0, 347, 0) := by decide +kernel
theorem aX11_hour_56 : i_at mX11_hour.2.2.2.2.2 56 = some (.aload_n 0, 1, 0, 0, 0, 0) := by decide +kernel
theorem aX11_hour_57 : i_at mX11_hour.2.2.2.2.2 57 = some (.getfield 59, 3, 10, 6, 460, 0) := by decide +kernel
theorem aX11_hour_60 : i_at mX11_hour.2.2.2.2.2 60 = some (.getfield 128, 3, 9, 8, 367, 0) := by decide +kernel
theorem aX11_hour_63 : i_at mX11_hour.2.2.2.2.2 63 = some (.invokevirtual 183, 3, 2, 3, 793, 0) := by decide +kernel
theorem aX11_hour_66 : i_at mX11_hour.2.2.2.2.2 66 = some (.ireturn, 1, 0, 0, 0, 0) := by decide +kernel
noncomputable def fX11_hour (sh : List kd) (σ : St) : Option (Int32 × St) := if (σ.1 20 0) = 0 then some ((-1), σ) else if (σ.1 26 0) < 999 then i_bd (fX10_remember sh σ 19) (fun r3 s4 => i_bd (fX0_pass sh s4 26 20 (s4.1 19 8)) (fun r6 s7 => some (r6, s7))) else some ((-1), σ)
set_option maxRecDepth 20000 in
set_option maxHeartbeats 2000000 in
theorem tX11_hour {sh : List kd} {σ τ : St} {r : Int32} (hsh : cSh sh) (hE : fX11_hour sh σ = some (r, τ)) : i_X 6 99 [.ref 0] (s_h sh σ) 0 0 (some (.int r)) (s_h sh τ) := by
  refine g_X (M := mX11_hour) (loc := [.ref 0]) rfl (Nat.le_of_ble_eq_true rfl) rfl ?_
  unfold fX11_hour at hE
  refine g_ldan aX11_hour_0 rfl ?_
  refine g_getR aX11_hour_1 (sC_0 hsh) rfl ?_
  refine g_getR aX11_hour_4 ((wShB_19 hsh).1) rfl ?_
  refine g_getI aX11_hour_7 ((rShB_20 hsh).1) rfl ?_
  by_cases hc1 : (σ.1 20 0) = 0
  · rw [if_pos hc1] at hE
    refine g_if_eq_t aX11_hour_10 hc1 ?_
    refine g_iconst (x := (-1)) aX11_hour_29 rfl ?_
    obtain ⟨rfl, rfl⟩ := i_some_inj hE
    exact g_iret aX11_hour_30 rfl rfl
  · rw [if_neg hc1] at hE
    refine g_if_eq_f aX11_hour_10 hc1 ?_
    refine g_ldan aX11_hour_13 rfl ?_
    refine g_getR aX11_hour_14 (sC_0 hsh) rfl ?_
    refine g_getR aX11_hour_17 ((wShB_19 hsh).1) rfl ?_
    refine g_getI aX11_hour_20 ((lShB_26 hsh).1) rfl ?_
    refine g_sipush (x := 999) aX11_hour_23 rfl ?_
    by_cases hc2 : (σ.1 26 0) < 999
    · rw [if_pos hc2] at hE
      refine g_ic_lt_t aX11_hour_26 hc2 ?_
      refine g_ldan aX11_hour_31 rfl ?_
      refine g_getR aX11_hour_32 (sC_0 hsh) rfl ?_
      obtain ⟨r3, s4, h5, hE⟩ := i_bd_some hE
      refine g_calV (As := []) (rest := []) aX11_hour_35 (i_X_mono (by omega) (tX10_remember hsh (wShB_19 hsh) h5)) ((wShB_19 hsh).1) (by decide +kernel) rfl rfl (Nat.le_of_ble_eq_true rfl) rfl ?_
      refine g_ldan aX11_hour_38 rfl ?_
      refine g_getR aX11_hour_39 (sC_0 hsh) rfl ?_
      refine g_ldan aX11_hour_42 rfl ?_
      refine g_getR aX11_hour_43 (sC_0 hsh) rfl ?_
      refine g_getR aX11_hour_46 ((wShB_19 hsh).1) rfl ?_
      refine g_ldan aX11_hour_49 rfl ?_
      refine g_getR aX11_hour_50 (sC_0 hsh) rfl ?_
      refine g_getR aX11_hour_53 ((wShB_19 hsh).1) rfl ?_
      refine g_ldan aX11_hour_56 rfl ?_
      refine g_getR aX11_hour_57 (sC_0 hsh) rfl ?_
      refine g_getI aX11_hour_60 ((wShB_19 hsh).1) rfl ?_
      obtain ⟨r6, s7, h8, hE⟩ := i_bd_some hE
      refine g_calV (As := [.ref 26, .ref 20, .int (s4.1 19 8)]) (rest := []) aX11_hour_63 (i_X_mono (by omega) (tX0_pass hsh (lShB_26 hsh) (rShB_20 hsh) h8)) (sC_16 hsh) (by decide +kernel) rfl rfl (Nat.le_of_ble_eq_true rfl) rfl ?_
      obtain ⟨rfl, rfl⟩ := i_some_inj hE
      exact g_iret aX11_hour_66 rfl rfl
    · rw [if_neg hc2] at hE
      refine g_ic_lt_f aX11_hour_26 hc2 ?_
      refine g_iconst (x := (-1)) aX11_hour_29 rfl ?_
      obtain ⟨rfl, rfl⟩ := i_some_inj hE
      exact g_iret aX11_hour_30 rfl rfl
theorem aX11_ahead_0 : i_at mX11_ahead.2.2.2.2.2 0 = some (.aload_n 0, 1, 0, 0, 0, 0) := by decide +kernel
theorem aX11_ahead_1 : i_at mX11_ahead.2.2.2.2.2 1 = some (.getfield 59, 3, 10, 6, 460, 0) := by decide +kernel
theorem aX11_ahead_4 : i_at mX11_ahead.2.2.2.2.2 4 = some (.getfield 95, 3, 9, 0, 347, 0) := by decide +kernel
theorem aX11_ahead_7 : i_at mX11_ahead.2.2.2.2.2 7 = some (.getfield 173, 3, 5, 0, 155, 0) := by decide +kernel
theorem aX11_ahead_10 : i_at mX11_ahead.2.2.2.2.2 10 = some (.ifCond .eq 22, 3, 32, 0, 0, 0) := by decide +kernel
theorem aX11_ahead_13 : i_at mX11_ahead.2.2.2.2.2 13 = some (.iload_n 2, 1, 0, 0, 0, 0) := by decide +kernel
theorem aX11_ahead_14 : i_at mX11_ahead.2.2.2.2.2 14 = some (.iconst 0, 1, 0, 0, 0, 0) := by decide +kernel
theorem aX11_ahead_15 : i_at mX11_ahead.2.2.2.2.2 15 = some (.bipush 100, 2, 0, 0, 0, 0) := by decide +kernel
theorem aX11_ahead_17 : i_at mX11_ahead.2.2.2.2.2 17 = some (.invokestatic 187, 3, 125, 3, 847, 0) := by decide +kernel
theorem aX11_ahead_20 : i_at mX11_ahead.2.2.2.2.2 20 = some (.ifCond .eq 12, 3, 32, 0, 0, 0) := by decide +kernel
theorem aX11_ahead_23 : i_at mX11_ahead.2.2.2.2.2 23 = some (.iload_n 3, 1, 0, 0, 0, 0) := by decide +kernel
theorem aX11_ahead_24 : i_at mX11_ahead.2.2.2.2.2 24 = some (.iconst 0, 1, 0, 0, 0, 0) := by decide +kernel
theorem aX11_ahead_25 : i_at mX11_ahead.2.2.2.2.2 25 = some (.iconst 2, 1, 0, 0, 0, 0) := by decide +kernel
theorem aX11_ahead_26 : i_at mX11_ahead.2.2.2.2.2 26 = some (.invokestatic 187, 3, 125, 3, 847, 0) := by decide +kernel
theorem aX11_ahead_29 : i_at mX11_ahead.2.2.2.2.2 29 = some (.ifCond .ne 6, 3, 35, 0, 0, 0) := by decide +kernel
theorem aX11_ahead_32 : i_at mX11_ahead.2.2.2.2.2 32 = some (.bipush (-2), 2, 0, 0, 0, 0) := by decide +kernel
theorem aX11_ahead_34 : i_at mX11_ahead.2.2.2.2.2 34 = some (.ireturn, 1, 0, 0, 0, 0) := by decide +kernel
theorem aX11_ahead_35 : i_at mX11_ahead.2.2.2.2.2 35 = some (.iload_n 3, 1, 0, 0, 0, 0) := by decide +kernel
theorem aX11_ahead_36 : i_at mX11_ahead.2.2.2.2.2 36 = some (.ifCond .le 20, 3, 56, 0, 0, 0) := by decide +kernel
theorem aX11_ahead_39 : i_at mX11_ahead.2.2.2.2.2 39 = some (.aload_n 0, 1, 0, 0, 0, 0) := by decide +kernel
theorem aX11_ahead_40 : i_at mX11_ahead.2.2.2.2.2 40 = some (.getfield 59, 3, 10, 6, 460, 0) := by decide +kernel
theorem aX11_ahead_43 : i_at mX11_ahead.2.2.2.2.2 43 = some (.getfield 95, 3, 9, 0, 347, 0) := by decide +kernel
theorem aX11_ahead_46 : i_at mX11_ahead.2.2.2.2.2 46 = some (.iload_n 1, 1, 0, 0, 0, 0) := by decide +kernel
theorem aX11_ahead_47 : i_at mX11_ahead.2.2.2.2.2 47 = some (.invokevirtual 155, 3, 54, 1, 773, 0) := by decide +kernel
theorem aX11_ahead_50 : i_at mX11_ahead.2.2.2.2.2 50 = some (.ifCond .ne 6, 3, 56, 0, 0, 0) := by decide +kernel
theorem aX11_ahead_53 : i_at mX11_ahead.2.2.2.2.2 53 = some (.bipush (-2), 2, 0, 0, 0, 0) := by decide +kernel
theorem aX11_ahead_55 : i_at mX11_ahead.2.2.2.2.2 55 = some (.ireturn, 1, 0, 0, 0, 0) := by decide +kernel
theorem aX11_ahead_56 : i_at mX11_ahead.2.2.2.2.2 56 = some (.aload_n 0, 1, 0, 0, 0, 0) := by decide +kernel
theorem aX11_ahead_57 : i_at mX11_ahead.2.2.2.2.2 57 = some (.getfield 68, 3, 10, 7, 461, 0) := by decide +kernel
theorem aX11_ahead_60 : i_at mX11_ahead.2.2.2.2.2 60 = some (.iload_n 1, 1, 0, 0, 0, 0) := by decide +kernel
theorem aX11_ahead_61 : i_at mX11_ahead.2.2.2.2.2 61 = some (.iload_n 2, 1, 0, 0, 0, 0) := by decide +kernel
theorem aX11_ahead_62 : i_at mX11_ahead.2.2.2.2.2 62 = some (.iload_n 3, 1, 0, 0, 0, 0) := by decide +kernel
theorem aX11_ahead_63 : i_at mX11_ahead.2.2.2.2.2 63 = some (.invokevirtual 208, 3, 35, 3, 883, 0) := by decide +kernel
theorem aX11_ahead_66 : i_at mX11_ahead.2.2.2.2.2 66 = some (.ireturn, 1, 0, 0, 0, 0) := by decide +kernel
noncomputable def fX11_ahead (sh : List kd) (σ : St) (p1 : Int32) (p2 : Int32) (p3 : Int32) : Option (Int32 × St) := if (σ.1 20 0) = 0 then some ((-2), σ) else i_bd (fX11_isWithin sh σ p2 0 100) (fun r2 s3 => if r2 = 0 then some ((-2), s3) else i_bd (fX11_isWithin sh s3 p3 0 2) (fun r6 s7 => if ¬ r6 = 0 then if p3 ≤ 0 then i_bd (fX5_after sh s7 p1 p2 p3) (fun r11 s12 => some (r11, s12)) else i_bd (fX6_hasPerson sh s7 20 p1) (fun r14 s15 => if ¬ r14 = 0 then i_bd (fX5_after sh s15 p1 p2 p3) (fun r18 s19 => some (r18, s19)) else some ((-2), s15)) else some ((-2), s7)))
set_option maxRecDepth 20000 in
set_option maxHeartbeats 2000000 in
theorem tX11_ahead {sh : List kd} {σ τ : St} {r : Int32} (hsh : cSh sh) {p1 : Int32} {p2 : Int32} {p3 : Int32} (hE : fX11_ahead sh σ p1 p2 p3 = some (r, τ)) : i_X 8 106 [.ref 0, .int p1, .int p2, .int p3] (s_h sh σ) 0 0 (some (.int r)) (s_h sh τ) := by
  refine g_X (M := mX11_ahead) (loc := [.ref 0, .int p1, .int p2, .int p3]) rfl (Nat.le_of_ble_eq_true rfl) rfl ?_
  unfold fX11_ahead at hE
  refine g_ldan aX11_ahead_0 rfl ?_
  refine g_getR aX11_ahead_1 (sC_0 hsh) rfl ?_
  refine g_getR aX11_ahead_4 ((wShB_19 hsh).1) rfl ?_
  refine g_getI aX11_ahead_7 ((rShB_20 hsh).1) rfl ?_
  by_cases hc1 : (σ.1 20 0) = 0
  · rw [if_pos hc1] at hE
    refine g_if_eq_t aX11_ahead_10 hc1 ?_
    refine g_bipush (x := (-2)) aX11_ahead_32 rfl ?_
    obtain ⟨rfl, rfl⟩ := i_some_inj hE
    exact g_iret aX11_ahead_34 rfl rfl
  · rw [if_neg hc1] at hE
    refine g_if_eq_f aX11_ahead_10 hc1 ?_
    refine g_ldin aX11_ahead_13 rfl ?_
    refine g_iconst (x := 0) aX11_ahead_14 rfl ?_
    refine g_bipush (x := 100) aX11_ahead_15 rfl ?_
    obtain ⟨r2, s3, h4, hE⟩ := i_bd_some hE
    refine g_calS (As := [.int p2, .int 0, .int 100]) (rest := []) aX11_ahead_17 (i_X_mono (by omega) (tX11_isWithin hsh h4)) rfl rfl (Nat.le_of_ble_eq_true rfl) rfl ?_
    by_cases hc5 : r2 = 0
    · rw [if_pos hc5] at hE
      refine g_if_eq_t aX11_ahead_20 hc5 ?_
      refine g_bipush (x := (-2)) aX11_ahead_32 rfl ?_
      obtain ⟨rfl, rfl⟩ := i_some_inj hE
      exact g_iret aX11_ahead_34 rfl rfl
    · rw [if_neg hc5] at hE
      refine g_if_eq_f aX11_ahead_20 hc5 ?_
      refine g_ldin aX11_ahead_23 rfl ?_
      refine g_iconst (x := 0) aX11_ahead_24 rfl ?_
      refine g_iconst (x := 2) aX11_ahead_25 rfl ?_
      obtain ⟨r6, s7, h8, hE⟩ := i_bd_some hE
      refine g_calS (As := [.int p3, .int 0, .int 2]) (rest := []) aX11_ahead_26 (i_X_mono (by omega) (tX11_isWithin hsh h8)) rfl rfl (Nat.le_of_ble_eq_true rfl) rfl ?_
      by_cases hc9 : ¬ r6 = 0
      · rw [if_pos hc9] at hE
        refine g_if_ne_t aX11_ahead_29 hc9 ?_
        refine g_ldin aX11_ahead_35 rfl ?_
        by_cases hc10 : p3 ≤ 0
        · rw [if_pos hc10] at hE
          refine g_if_le_t aX11_ahead_36 hc10 ?_
          refine g_ldan aX11_ahead_56 rfl ?_
          refine g_getR aX11_ahead_57 (sC_0 hsh) rfl ?_
          refine g_ldin aX11_ahead_60 rfl ?_
          refine g_ldin aX11_ahead_61 rfl ?_
          refine g_ldin aX11_ahead_62 rfl ?_
          obtain ⟨r11, s12, h13, hE⟩ := i_bd_some hE
          refine g_calV (As := [.int p1, .int p2, .int p3]) (rest := []) aX11_ahead_63 (i_X_mono (by omega) (tX5_after hsh h13)) (sC_134 hsh) (by decide +kernel) rfl rfl (Nat.le_of_ble_eq_true rfl) rfl ?_
          obtain ⟨rfl, rfl⟩ := i_some_inj hE
          exact g_iret aX11_ahead_66 rfl rfl
        · rw [if_neg hc10] at hE
          refine g_if_le_f aX11_ahead_36 hc10 ?_
          refine g_ldan aX11_ahead_39 rfl ?_
          refine g_getR aX11_ahead_40 (sC_0 hsh) rfl ?_
          refine g_getR aX11_ahead_43 ((wShB_19 hsh).1) rfl ?_
          refine g_ldin aX11_ahead_46 rfl ?_
          obtain ⟨r14, s15, h16, hE⟩ := i_bd_some hE
          refine g_calV (As := [.int p1]) (rest := []) aX11_ahead_47 (i_X_mono (by omega) (tX6_hasPerson hsh (rShB_20 hsh) h16)) ((rShB_20 hsh).1) (by decide +kernel) rfl rfl (Nat.le_of_ble_eq_true rfl) rfl ?_
          by_cases hc17 : ¬ r14 = 0
          · rw [if_pos hc17] at hE
            refine g_if_ne_t aX11_ahead_50 hc17 ?_
            refine g_ldan aX11_ahead_56 rfl ?_
            refine g_getR aX11_ahead_57 (sC_0 hsh) rfl ?_
            refine g_ldin aX11_ahead_60 rfl ?_
            refine g_ldin aX11_ahead_61 rfl ?_
            refine g_ldin aX11_ahead_62 rfl ?_
            obtain ⟨r18, s19, h20, hE⟩ := i_bd_some hE
            refine g_calV (As := [.int p1, .int p2, .int p3]) (rest := []) aX11_ahead_63 (i_X_mono (by omega) (tX5_after hsh h20)) (sC_134 hsh) (by decide +kernel) rfl rfl (Nat.le_of_ble_eq_true rfl) rfl ?_
            obtain ⟨rfl, rfl⟩ := i_some_inj hE
            exact g_iret aX11_ahead_66 rfl rfl
          · rw [if_neg hc17] at hE
            refine g_if_ne_f aX11_ahead_50 hc17 ?_
            refine g_bipush (x := (-2)) aX11_ahead_53 rfl ?_
            obtain ⟨rfl, rfl⟩ := i_some_inj hE
            exact g_iret aX11_ahead_55 rfl rfl
      · rw [if_neg hc9] at hE
        refine g_if_ne_f aX11_ahead_29 hc9 ?_
        refine g_bipush (x := (-2)) aX11_ahead_32 rfl ?_
        obtain ⟨rfl, rfl⟩ := i_some_inj hE
        exact g_iret aX11_ahead_34 rfl rfl
theorem aX11_dubbed_0 : i_at mX11_dubbed.2.2.2.2.2 0 = some (.aload_n 0, 1, 0, 0, 0, 0) := by decide +kernel
theorem aX11_dubbed_1 : i_at mX11_dubbed.2.2.2.2.2 1 = some (.getfield 59, 3, 10, 6, 460, 0) := by decide +kernel
theorem aX11_dubbed_4 : i_at mX11_dubbed.2.2.2.2.2 4 = some (.getfield 95, 3, 9, 0, 347, 0) := by decide +kernel
theorem aX11_dubbed_7 : i_at mX11_dubbed.2.2.2.2.2 7 = some (.iload_n 1, 1, 0, 0, 0, 0) := by decide +kernel
theorem aX11_dubbed_8 : i_at mX11_dubbed.2.2.2.2.2 8 = some (.invokevirtual 155, 3, 54, 1, 773, 0) := by decide +kernel
theorem aX11_dubbed_11 : i_at mX11_dubbed.2.2.2.2.2 11 = some (.ifCond .eq 12, 3, 23, 0, 0, 0) := by decide +kernel
theorem aX11_dubbed_14 : i_at mX11_dubbed.2.2.2.2.2 14 = some (.iload_n 2, 1, 0, 0, 0, 0) := by decide +kernel
theorem aX11_dubbed_15 : i_at mX11_dubbed.2.2.2.2.2 15 = some (.iconst 0, 1, 0, 0, 0, 0) := by decide +kernel
theorem aX11_dubbed_16 : i_at mX11_dubbed.2.2.2.2.2 16 = some (.iconst 1, 1, 0, 0, 0, 0) := by decide +kernel
theorem aX11_dubbed_17 : i_at mX11_dubbed.2.2.2.2.2 17 = some (.invokestatic 187, 3, 125, 3, 847, 0) := by decide +kernel
theorem aX11_dubbed_20 : i_at mX11_dubbed.2.2.2.2.2 20 = some (.ifCond .ne 6, 3, 26, 0, 0, 0) := by decide +kernel
theorem aX11_dubbed_23 : i_at mX11_dubbed.2.2.2.2.2 23 = some (.bipush (-3), 2, 0, 0, 0, 0) := by decide +kernel
theorem aX11_dubbed_25 : i_at mX11_dubbed.2.2.2.2.2 25 = some (.ireturn, 1, 0, 0, 0, 0) := by decide +kernel
theorem aX11_dubbed_26 : i_at mX11_dubbed.2.2.2.2.2 26 = some (.aload_n 0, 1, 0, 0, 0, 0) := by decide +kernel
theorem aX11_dubbed_27 : i_at mX11_dubbed.2.2.2.2.2 27 = some (.getfield 68, 3, 10, 7, 461, 0) := by decide +kernel
theorem aX11_dubbed_30 : i_at mX11_dubbed.2.2.2.2.2 30 = some (.iload_n 1, 1, 0, 0, 0, 0) := by decide +kernel
theorem aX11_dubbed_31 : i_at mX11_dubbed.2.2.2.2.2 31 = some (.iload_n 2, 1, 0, 0, 0, 0) := by decide +kernel
theorem aX11_dubbed_32 : i_at mX11_dubbed.2.2.2.2.2 32 = some (.ifCond .ne 7, 3, 39, 0, 0, 0) := by decide +kernel
theorem aX11_dubbed_35 : i_at mX11_dubbed.2.2.2.2.2 35 = some (.iconst 1, 1, 0, 0, 0, 0) := by decide +kernel
theorem aX11_dubbed_36 : i_at mX11_dubbed.2.2.2.2.2 36 = some (.goto 4, 3, 40, 0, 0, 0) := by decide +kernel
theorem aX11_dubbed_39 : i_at mX11_dubbed.2.2.2.2.2 39 = some (.iconst 0, 1, 0, 0, 0, 0) := by decide +kernel
theorem aX11_dubbed_40 : i_at mX11_dubbed.2.2.2.2.2 40 = some (.invokevirtual 212, 3, 36, 2, 902, 0) := by decide +kernel
theorem aX11_dubbed_43 : i_at mX11_dubbed.2.2.2.2.2 43 = some (.ireturn, 1, 0, 0, 0, 0) := by decide +kernel
noncomputable def fX11_dubbed (sh : List kd) (σ : St) (p1 : Int32) (p2 : Int32) : Option (Int32 × St) := i_bd (fX6_hasPerson sh σ 20 p1) (fun r1 s2 => if r1 = 0 then some ((-3), s2) else i_bd (fX11_isWithin sh s2 p2 0 1) (fun r5 s6 => if ¬ r5 = 0 then i_bd (fX5_firstDubbing sh s6 p1 ((if ¬ p2 = 0 then 0 else 1) : Int32)) (fun r9 s10 => some (r9, s10)) else some ((-3), s6)))
set_option maxRecDepth 20000 in
set_option maxHeartbeats 2000000 in
theorem tX11_dubbed {sh : List kd} {σ τ : St} {r : Int32} (hsh : cSh sh) {p1 : Int32} {p2 : Int32} (hE : fX11_dubbed sh σ p1 p2 = some (r, τ)) : i_X 7 107 [.ref 0, .int p1, .int p2] (s_h sh σ) 0 0 (some (.int r)) (s_h sh τ) := by
  refine g_X (M := mX11_dubbed) (loc := [.ref 0, .int p1, .int p2]) rfl (Nat.le_of_ble_eq_true rfl) rfl ?_
  unfold fX11_dubbed at hE
  refine g_ldan aX11_dubbed_0 rfl ?_
  refine g_getR aX11_dubbed_1 (sC_0 hsh) rfl ?_
  refine g_getR aX11_dubbed_4 ((wShB_19 hsh).1) rfl ?_
  refine g_ldin aX11_dubbed_7 rfl ?_
  obtain ⟨r1, s2, h3, hE⟩ := i_bd_some hE
  refine g_calV (As := [.int p1]) (rest := []) aX11_dubbed_8 (i_X_mono (by omega) (tX6_hasPerson hsh (rShB_20 hsh) h3)) ((rShB_20 hsh).1) (by decide +kernel) rfl rfl (Nat.le_of_ble_eq_true rfl) rfl ?_
  by_cases hc4 : r1 = 0
  · rw [if_pos hc4] at hE
    refine g_if_eq_t aX11_dubbed_11 hc4 ?_
    refine g_bipush (x := (-3)) aX11_dubbed_23 rfl ?_
    obtain ⟨rfl, rfl⟩ := i_some_inj hE
    exact g_iret aX11_dubbed_25 rfl rfl
  · rw [if_neg hc4] at hE
    refine g_if_eq_f aX11_dubbed_11 hc4 ?_
    refine g_ldin aX11_dubbed_14 rfl ?_
    refine g_iconst (x := 0) aX11_dubbed_15 rfl ?_
    refine g_iconst (x := 1) aX11_dubbed_16 rfl ?_
    obtain ⟨r5, s6, h7, hE⟩ := i_bd_some hE
    refine g_calS (As := [.int p2, .int 0, .int 1]) (rest := []) aX11_dubbed_17 (i_X_mono (by omega) (tX11_isWithin hsh h7)) rfl rfl (Nat.le_of_ble_eq_true rfl) rfl ?_
    by_cases hc8 : ¬ r5 = 0
    · rw [if_pos hc8] at hE
      refine g_if_ne_t aX11_dubbed_20 hc8 ?_
      refine g_ldan aX11_dubbed_26 rfl ?_
      refine g_getR aX11_dubbed_27 (sC_0 hsh) rfl ?_
      refine g_ldin aX11_dubbed_30 rfl ?_
      refine g_ldin aX11_dubbed_31 rfl ?_
      have hJ : g_R sh 6 mX11_dubbed (some (.int r)) τ 40 [.ref 0, .int p1, .int p2] [.int ((if ¬ p2 = 0 then 0 else 1) : Int32), .int p1, .ref 134] (s6) := by
        obtain ⟨r9, s10, h11, hE⟩ := i_bd_some hE
        refine g_calV (As := [.int p1, .int ((if ¬ p2 = 0 then 0 else 1) : Int32)]) (rest := []) aX11_dubbed_40 (i_X_mono (by omega) (tX5_firstDubbing hsh h11)) (sC_134 hsh) (by decide +kernel) rfl rfl (Nat.le_of_ble_eq_true rfl) rfl ?_
        obtain ⟨rfl, rfl⟩ := i_some_inj hE
        exact g_iret aX11_dubbed_43 rfl rfl
      clear hE
      by_cases hc11 : ¬ p2 = 0
      · (try rw [if_pos hc11] at hJ)
        refine g_if_ne_t aX11_dubbed_32 hc11 ?_
        refine g_iconst (x := 0) aX11_dubbed_39 rfl ?_
        exact hJ
      · (try rw [if_neg hc11] at hJ)
        refine g_if_ne_f aX11_dubbed_32 hc11 ?_
        refine g_iconst (x := 1) aX11_dubbed_35 rfl ?_
        refine g_goto aX11_dubbed_36 ?_
        exact hJ
    · rw [if_neg hc8] at hE
      refine g_if_ne_f aX11_dubbed_20 hc8 ?_
      refine g_bipush (x := (-3)) aX11_dubbed_23 rfl ?_
      obtain ⟨rfl, rfl⟩ := i_some_inj hE
      exact g_iret aX11_dubbed_25 rfl rfl
theorem aX11_least_0 : i_at mX11_least.2.2.2.2.2 0 = some (.aload_n 0, 1, 0, 0, 0, 0) := by decide +kernel
theorem aX11_least_1 : i_at mX11_least.2.2.2.2.2 1 = some (.getfield 59, 3, 10, 6, 460, 0) := by decide +kernel
theorem aX11_least_4 : i_at mX11_least.2.2.2.2.2 4 = some (.getfield 95, 3, 9, 0, 347, 0) := by decide +kernel
theorem aX11_least_7 : i_at mX11_least.2.2.2.2.2 7 = some (.iload_n 1, 1, 0, 0, 0, 0) := by decide +kernel
theorem aX11_least_8 : i_at mX11_least.2.2.2.2.2 8 = some (.invokevirtual 155, 3, 54, 1, 773, 0) := by decide +kernel
theorem aX11_least_11 : i_at mX11_least.2.2.2.2.2 11 = some (.ifCond .eq 27, 3, 38, 0, 0, 0) := by decide +kernel
theorem aX11_least_14 : i_at mX11_least.2.2.2.2.2 14 = some (.aload_n 0, 1, 0, 0, 0, 0) := by decide +kernel
theorem aX11_least_15 : i_at mX11_least.2.2.2.2.2 15 = some (.getfield 59, 3, 10, 6, 460, 0) := by decide +kernel
theorem aX11_least_18 : i_at mX11_least.2.2.2.2.2 18 = some (.getfield 95, 3, 9, 0, 347, 0) := by decide +kernel
theorem aX11_least_21 : i_at mX11_least.2.2.2.2.2 21 = some (.iload_n 2, 1, 0, 0, 0, 0) := by decide +kernel
theorem aX11_least_22 : i_at mX11_least.2.2.2.2.2 22 = some (.invokevirtual 131, 3, 53, 1, 757, 0) := by decide +kernel
theorem aX11_least_25 : i_at mX11_least.2.2.2.2.2 25 = some (.ifCond .eq 13, 3, 38, 0, 0, 0) := by decide +kernel
theorem aX11_least_28 : i_at mX11_least.2.2.2.2.2 28 = some (.iload_n 3, 1, 0, 0, 0, 0) := by decide +kernel
theorem aX11_least_29 : i_at mX11_least.2.2.2.2.2 29 = some (.iconst 1, 1, 0, 0, 0, 0) := by decide +kernel
theorem aX11_least_30 : i_at mX11_least.2.2.2.2.2 30 = some (.bipush 60, 2, 0, 0, 0, 0) := by decide +kernel
theorem aX11_least_32 : i_at mX11_least.2.2.2.2.2 32 = some (.invokestatic 187, 3, 125, 3, 847, 0) := by decide +kernel
theorem aX11_least_35 : i_at mX11_least.2.2.2.2.2 35 = some (.ifCond .ne 5, 3, 40, 0, 0, 0) := by decide +kernel
theorem aX11_least_38 : i_at mX11_least.2.2.2.2.2 38 = some (.iconst (-1), 1, 0, 0, 0, 0) := by decide +kernel
theorem aX11_least_39 : i_at mX11_least.2.2.2.2.2 39 = some (.ireturn, 1, 0, 0, 0, 0) := by decide +kernel
theorem aX11_least_40 : i_at mX11_least.2.2.2.2.2 40 = some (.aload_n 0, 1, 0, 0, 0, 0) := by decide +kernel
theorem aX11_least_41 : i_at mX11_least.2.2.2.2.2 41 = some (.getfield 68, 3, 10, 7, 461, 0) := by decide +kernel
theorem aX11_least_44 : i_at mX11_least.2.2.2.2.2 44 = some (.iload_n 1, 1, 0, 0, 0, 0) := by decide +kernel
theorem aX11_least_45 : i_at mX11_least.2.2.2.2.2 45 = some (.iload_n 2, 1, 0, 0, 0, 0) := by decide +kernel
theorem aX11_least_46 : i_at mX11_least.2.2.2.2.2 46 = some (.iload_n 3, 1, 0, 0, 0, 0) := by decide +kernel
theorem aX11_least_47 : i_at mX11_least.2.2.2.2.2 47 = some (.invokevirtual 216, 3, 37, 3, 910, 0) := by decide +kernel
theorem aX11_least_50 : i_at mX11_least.2.2.2.2.2 50 = some (.ireturn, 1, 0, 0, 0, 0) := by decide +kernel
noncomputable def fX11_least (sh : List kd) (σ : St) (p1 : Int32) (p2 : Int32) (p3 : Int32) : Option (Int32 × St) := i_bd (fX6_hasPerson sh σ 20 p1) (fun r1 s2 => if r1 = 0 then some ((-1), s2) else i_bd (fX6_hasThing sh s2 20 p2) (fun r5 s6 => if r5 = 0 then some ((-1), s6) else i_bd (fX11_isWithin sh s6 p3 1 60) (fun r9 s10 => if ¬ r9 = 0 then i_bd (fX5_leastDeed sh s10 p1 p2 p3) (fun r13 s14 => some (r13, s14)) else some ((-1), s10))))
set_option maxRecDepth 20000 in
set_option maxHeartbeats 2000000 in
theorem tX11_least {sh : List kd} {σ τ : St} {r : Int32} (hsh : cSh sh) {p1 : Int32} {p2 : Int32} {p3 : Int32} (hE : fX11_least sh σ p1 p2 p3 = some (r, τ)) : i_X 7 108 [.ref 0, .int p1, .int p2, .int p3] (s_h sh σ) 0 0 (some (.int r)) (s_h sh τ) := by
  refine g_X (M := mX11_least) (loc := [.ref 0, .int p1, .int p2, .int p3]) rfl (Nat.le_of_ble_eq_true rfl) rfl ?_
  unfold fX11_least at hE
  refine g_ldan aX11_least_0 rfl ?_
  refine g_getR aX11_least_1 (sC_0 hsh) rfl ?_
  refine g_getR aX11_least_4 ((wShB_19 hsh).1) rfl ?_
  refine g_ldin aX11_least_7 rfl ?_
  obtain ⟨r1, s2, h3, hE⟩ := i_bd_some hE
  refine g_calV (As := [.int p1]) (rest := []) aX11_least_8 (i_X_mono (by omega) (tX6_hasPerson hsh (rShB_20 hsh) h3)) ((rShB_20 hsh).1) (by decide +kernel) rfl rfl (Nat.le_of_ble_eq_true rfl) rfl ?_
  by_cases hc4 : r1 = 0
  · rw [if_pos hc4] at hE
    refine g_if_eq_t aX11_least_11 hc4 ?_
    refine g_iconst (x := (-1)) aX11_least_38 rfl ?_
    obtain ⟨rfl, rfl⟩ := i_some_inj hE
    exact g_iret aX11_least_39 rfl rfl
  · rw [if_neg hc4] at hE
    refine g_if_eq_f aX11_least_11 hc4 ?_
    refine g_ldan aX11_least_14 rfl ?_
    refine g_getR aX11_least_15 (sC_0 hsh) rfl ?_
    refine g_getR aX11_least_18 ((wShB_19 hsh).1) rfl ?_
    refine g_ldin aX11_least_21 rfl ?_
    obtain ⟨r5, s6, h7, hE⟩ := i_bd_some hE
    refine g_calV (As := [.int p2]) (rest := []) aX11_least_22 (i_X_mono (by omega) (tX6_hasThing hsh (rShB_20 hsh) h7)) ((rShB_20 hsh).1) (by decide +kernel) rfl rfl (Nat.le_of_ble_eq_true rfl) rfl ?_
    by_cases hc8 : r5 = 0
    · rw [if_pos hc8] at hE
      refine g_if_eq_t aX11_least_25 hc8 ?_
      refine g_iconst (x := (-1)) aX11_least_38 rfl ?_
      obtain ⟨rfl, rfl⟩ := i_some_inj hE
      exact g_iret aX11_least_39 rfl rfl
    · rw [if_neg hc8] at hE
      refine g_if_eq_f aX11_least_25 hc8 ?_
      refine g_ldin aX11_least_28 rfl ?_
      refine g_iconst (x := 1) aX11_least_29 rfl ?_
      refine g_bipush (x := 60) aX11_least_30 rfl ?_
      obtain ⟨r9, s10, h11, hE⟩ := i_bd_some hE
      refine g_calS (As := [.int p3, .int 1, .int 60]) (rest := []) aX11_least_32 (i_X_mono (by omega) (tX11_isWithin hsh h11)) rfl rfl (Nat.le_of_ble_eq_true rfl) rfl ?_
      by_cases hc12 : ¬ r9 = 0
      · rw [if_pos hc12] at hE
        refine g_if_ne_t aX11_least_35 hc12 ?_
        refine g_ldan aX11_least_40 rfl ?_
        refine g_getR aX11_least_41 (sC_0 hsh) rfl ?_
        refine g_ldin aX11_least_44 rfl ?_
        refine g_ldin aX11_least_45 rfl ?_
        refine g_ldin aX11_least_46 rfl ?_
        obtain ⟨r13, s14, h15, hE⟩ := i_bd_some hE
        refine g_calV (As := [.int p1, .int p2, .int p3]) (rest := []) aX11_least_47 (i_X_mono (by omega) (tX5_leastDeed hsh h15)) (sC_134 hsh) (by decide +kernel) rfl rfl (Nat.le_of_ble_eq_true rfl) rfl ?_
        obtain ⟨rfl, rfl⟩ := i_some_inj hE
        exact g_iret aX11_least_50 rfl rfl
      · rw [if_neg hc12] at hE
        refine g_if_ne_f aX11_least_35 hc12 ?_
        refine g_iconst (x := (-1)) aX11_least_38 rfl ?_
        obtain ⟨rfl, rfl⟩ := i_some_inj hE
        exact g_iret aX11_least_39 rfl rfl
theorem aX11_lay_0 : i_at mX11_lay.2.2.2.2.2 0 = some (.aload_n 0, 1, 0, 0, 0, 0) := by decide +kernel
theorem aX11_lay_1 : i_at mX11_lay.2.2.2.2.2 1 = some (.getfield 59, 3, 10, 6, 460, 0) := by decide +kernel
theorem aX11_lay_4 : i_at mX11_lay.2.2.2.2.2 4 = some (.getfield 95, 3, 9, 0, 347, 0) := by decide +kernel
theorem aX11_lay_7 : i_at mX11_lay.2.2.2.2.2 7 = some (.iload_n 1, 1, 0, 0, 0, 0) := by decide +kernel
theorem aX11_lay_8 : i_at mX11_lay.2.2.2.2.2 8 = some (.invokevirtual 155, 3, 54, 1, 773, 0) := by decide +kernel
theorem aX11_lay_11 : i_at mX11_lay.2.2.2.2.2 11 = some (.ifCond .eq 22, 3, 33, 0, 0, 0) := by decide +kernel
theorem aX11_lay_14 : i_at mX11_lay.2.2.2.2.2 14 = some (.iload_n 2, 1, 0, 0, 0, 0) := by decide +kernel
theorem aX11_lay_15 : i_at mX11_lay.2.2.2.2.2 15 = some (.iconst 1, 1, 0, 0, 0, 0) := by decide +kernel
theorem aX11_lay_16 : i_at mX11_lay.2.2.2.2.2 16 = some (.bipush 60, 2, 0, 0, 0, 0) := by decide +kernel
theorem aX11_lay_18 : i_at mX11_lay.2.2.2.2.2 18 = some (.invokestatic 187, 3, 125, 3, 847, 0) := by decide +kernel
theorem aX11_lay_21 : i_at mX11_lay.2.2.2.2.2 21 = some (.ifCond .eq 12, 3, 33, 0, 0, 0) := by decide +kernel
theorem aX11_lay_24 : i_at mX11_lay.2.2.2.2.2 24 = some (.iload_n 3, 1, 0, 0, 0, 0) := by decide +kernel
theorem aX11_lay_25 : i_at mX11_lay.2.2.2.2.2 25 = some (.iconst 0, 1, 0, 0, 0, 0) := by decide +kernel
theorem aX11_lay_26 : i_at mX11_lay.2.2.2.2.2 26 = some (.iconst 1, 1, 0, 0, 0, 0) := by decide +kernel
theorem aX11_lay_27 : i_at mX11_lay.2.2.2.2.2 27 = some (.invokestatic 187, 3, 125, 3, 847, 0) := by decide +kernel
theorem aX11_lay_30 : i_at mX11_lay.2.2.2.2.2 30 = some (.ifCond .ne 6, 3, 36, 0, 0, 0) := by decide +kernel
theorem aX11_lay_33 : i_at mX11_lay.2.2.2.2.2 33 = some (.bipush (-2), 2, 0, 0, 0, 0) := by decide +kernel
theorem aX11_lay_35 : i_at mX11_lay.2.2.2.2.2 35 = some (.ireturn, 1, 0, 0, 0, 0) := by decide +kernel
theorem aX11_lay_36 : i_at mX11_lay.2.2.2.2.2 36 = some (.aload_n 0, 1, 0, 0, 0, 0) := by decide +kernel
theorem aX11_lay_37 : i_at mX11_lay.2.2.2.2.2 37 = some (.getfield 68, 3, 10, 7, 461, 0) := by decide +kernel
theorem aX11_lay_40 : i_at mX11_lay.2.2.2.2.2 40 = some (.iload_n 1, 1, 0, 0, 0, 0) := by decide +kernel
theorem aX11_lay_41 : i_at mX11_lay.2.2.2.2.2 41 = some (.iload_n 2, 1, 0, 0, 0, 0) := by decide +kernel
theorem aX11_lay_42 : i_at mX11_lay.2.2.2.2.2 42 = some (.iload_n 3, 1, 0, 0, 0, 0) := by decide +kernel
theorem aX11_lay_43 : i_at mX11_lay.2.2.2.2.2 43 = some (.ifCond .ne 7, 3, 50, 0, 0, 0) := by decide +kernel
theorem aX11_lay_46 : i_at mX11_lay.2.2.2.2.2 46 = some (.iconst 1, 1, 0, 0, 0, 0) := by decide +kernel
theorem aX11_lay_47 : i_at mX11_lay.2.2.2.2.2 47 = some (.goto 4, 3, 51, 0, 0, 0) := by decide +kernel
theorem aX11_lay_50 : i_at mX11_lay.2.2.2.2.2 50 = some (.iconst 0, 1, 0, 0, 0, 0) := by decide +kernel
theorem aX11_lay_51 : i_at mX11_lay.2.2.2.2.2 51 = some (.invokevirtual 228, 3, 40, 3, 934, 0) := by decide +kernel
theorem aX11_lay_54 : i_at mX11_lay.2.2.2.2.2 54 = some (.ireturn, 1, 0, 0, 0, 0) := by decide +kernel
noncomputable def fX11_lay (sh : List kd) (σ : St) (p1 : Int32) (p2 : Int32) (p3 : Int32) : Option (Int32 × St) := i_bd (fX6_hasPerson sh σ 20 p1) (fun r1 s2 => if r1 = 0 then some ((-2), s2) else i_bd (fX11_isWithin sh s2 p2 1 60) (fun r5 s6 => if r5 = 0 then some ((-2), s6) else i_bd (fX11_isWithin sh s6 p3 0 1) (fun r9 s10 => if ¬ r9 = 0 then i_bd (fX5_bestTray sh s10 p1 p2 ((if ¬ p3 = 0 then 0 else 1) : Int32)) (fun r13 s14 => some (r13, s14)) else some ((-2), s10))))
set_option maxRecDepth 20000 in
set_option maxHeartbeats 2000000 in
theorem tX11_lay {sh : List kd} {σ τ : St} {r : Int32} (hsh : cSh sh) {p1 : Int32} {p2 : Int32} {p3 : Int32} (hE : fX11_lay sh σ p1 p2 p3 = some (r, τ)) : i_X 8 110 [.ref 0, .int p1, .int p2, .int p3] (s_h sh σ) 0 0 (some (.int r)) (s_h sh τ) := by
  refine g_X (M := mX11_lay) (loc := [.ref 0, .int p1, .int p2, .int p3]) rfl (Nat.le_of_ble_eq_true rfl) rfl ?_
  unfold fX11_lay at hE
  refine g_ldan aX11_lay_0 rfl ?_
  refine g_getR aX11_lay_1 (sC_0 hsh) rfl ?_
  refine g_getR aX11_lay_4 ((wShB_19 hsh).1) rfl ?_
  refine g_ldin aX11_lay_7 rfl ?_
  obtain ⟨r1, s2, h3, hE⟩ := i_bd_some hE
  refine g_calV (As := [.int p1]) (rest := []) aX11_lay_8 (i_X_mono (by omega) (tX6_hasPerson hsh (rShB_20 hsh) h3)) ((rShB_20 hsh).1) (by decide +kernel) rfl rfl (Nat.le_of_ble_eq_true rfl) rfl ?_
  by_cases hc4 : r1 = 0
  · rw [if_pos hc4] at hE
    refine g_if_eq_t aX11_lay_11 hc4 ?_
    refine g_bipush (x := (-2)) aX11_lay_33 rfl ?_
    obtain ⟨rfl, rfl⟩ := i_some_inj hE
    exact g_iret aX11_lay_35 rfl rfl
  · rw [if_neg hc4] at hE
    refine g_if_eq_f aX11_lay_11 hc4 ?_
    refine g_ldin aX11_lay_14 rfl ?_
    refine g_iconst (x := 1) aX11_lay_15 rfl ?_
    refine g_bipush (x := 60) aX11_lay_16 rfl ?_
    obtain ⟨r5, s6, h7, hE⟩ := i_bd_some hE
    refine g_calS (As := [.int p2, .int 1, .int 60]) (rest := []) aX11_lay_18 (i_X_mono (by omega) (tX11_isWithin hsh h7)) rfl rfl (Nat.le_of_ble_eq_true rfl) rfl ?_
    by_cases hc8 : r5 = 0
    · rw [if_pos hc8] at hE
      refine g_if_eq_t aX11_lay_21 hc8 ?_
      refine g_bipush (x := (-2)) aX11_lay_33 rfl ?_
      obtain ⟨rfl, rfl⟩ := i_some_inj hE
      exact g_iret aX11_lay_35 rfl rfl
    · rw [if_neg hc8] at hE
      refine g_if_eq_f aX11_lay_21 hc8 ?_
      refine g_ldin aX11_lay_24 rfl ?_
      refine g_iconst (x := 0) aX11_lay_25 rfl ?_
      refine g_iconst (x := 1) aX11_lay_26 rfl ?_
      obtain ⟨r9, s10, h11, hE⟩ := i_bd_some hE
      refine g_calS (As := [.int p3, .int 0, .int 1]) (rest := []) aX11_lay_27 (i_X_mono (by omega) (tX11_isWithin hsh h11)) rfl rfl (Nat.le_of_ble_eq_true rfl) rfl ?_
      by_cases hc12 : ¬ r9 = 0
      · rw [if_pos hc12] at hE
        refine g_if_ne_t aX11_lay_30 hc12 ?_
        refine g_ldan aX11_lay_36 rfl ?_
        refine g_getR aX11_lay_37 (sC_0 hsh) rfl ?_
        refine g_ldin aX11_lay_40 rfl ?_
        refine g_ldin aX11_lay_41 rfl ?_
        refine g_ldin aX11_lay_42 rfl ?_
        have hJ : g_R sh 7 mX11_lay (some (.int r)) τ 51 [.ref 0, .int p1, .int p2, .int p3] [.int ((if ¬ p3 = 0 then 0 else 1) : Int32), .int p2, .int p1, .ref 134] (s10) := by
          obtain ⟨r13, s14, h15, hE⟩ := i_bd_some hE
          refine g_calV (As := [.int p1, .int p2, .int ((if ¬ p3 = 0 then 0 else 1) : Int32)]) (rest := []) aX11_lay_51 (i_X_mono (by omega) (tX5_bestTray hsh h15)) (sC_134 hsh) (by decide +kernel) rfl rfl (Nat.le_of_ble_eq_true rfl) rfl ?_
          obtain ⟨rfl, rfl⟩ := i_some_inj hE
          exact g_iret aX11_lay_54 rfl rfl
        clear hE
        by_cases hc15 : ¬ p3 = 0
        · (try rw [if_pos hc15] at hJ)
          refine g_if_ne_t aX11_lay_43 hc15 ?_
          refine g_iconst (x := 0) aX11_lay_50 rfl ?_
          exact hJ
        · (try rw [if_neg hc15] at hJ)
          refine g_if_ne_f aX11_lay_43 hc15 ?_
          refine g_iconst (x := 1) aX11_lay_46 rfl ?_
          refine g_goto aX11_lay_47 ?_
          exact hJ
      · rw [if_neg hc12] at hE
        refine g_if_ne_f aX11_lay_30 hc12 ?_
        refine g_bipush (x := (-2)) aX11_lay_33 rfl ?_
        obtain ⟨rfl, rfl⟩ := i_some_inj hE
        exact g_iret aX11_lay_35 rfl rfl
theorem aX11_held_0 : i_at mX11_held.2.2.2.2.2 0 = some (.aload_n 0, 1, 0, 0, 0, 0) := by decide +kernel
theorem aX11_held_1 : i_at mX11_held.2.2.2.2.2 1 = some (.getfield 59, 3, 10, 6, 460, 0) := by decide +kernel
theorem aX11_held_4 : i_at mX11_held.2.2.2.2.2 4 = some (.getfield 95, 3, 9, 0, 347, 0) := by decide +kernel
theorem aX11_held_7 : i_at mX11_held.2.2.2.2.2 7 = some (.getfield 173, 3, 5, 0, 155, 0) := by decide +kernel
theorem aX11_held_10 : i_at mX11_held.2.2.2.2.2 10 = some (.ifCond .eq 13, 3, 23, 0, 0, 0) := by decide +kernel
theorem aX11_held_13 : i_at mX11_held.2.2.2.2.2 13 = some (.iload_n 1, 1, 0, 0, 0, 0) := by decide +kernel
theorem aX11_held_14 : i_at mX11_held.2.2.2.2.2 14 = some (.iconst 1, 1, 0, 0, 0, 0) := by decide +kernel
theorem aX11_held_15 : i_at mX11_held.2.2.2.2.2 15 = some (.bipush 100, 2, 0, 0, 0, 0) := by decide +kernel
theorem aX11_held_17 : i_at mX11_held.2.2.2.2.2 17 = some (.invokestatic 187, 3, 125, 3, 847, 0) := by decide +kernel
theorem aX11_held_20 : i_at mX11_held.2.2.2.2.2 20 = some (.ifCond .ne 5, 3, 25, 0, 0, 0) := by decide +kernel
theorem aX11_held_23 : i_at mX11_held.2.2.2.2.2 23 = some (.iconst (-1), 1, 0, 0, 0, 0) := by decide +kernel
theorem aX11_held_24 : i_at mX11_held.2.2.2.2.2 24 = some (.ireturn, 1, 0, 0, 0, 0) := by decide +kernel
theorem aX11_held_25 : i_at mX11_held.2.2.2.2.2 25 = some (.iload_n 2, 1, 0, 0, 0, 0) := by decide +kernel
theorem aX11_held_26 : i_at mX11_held.2.2.2.2.2 26 = some (.bipush 6, 2, 0, 0, 0, 0) := by decide +kernel
theorem aX11_held_28 : i_at mX11_held.2.2.2.2.2 28 = some (.if_icmp .ne 12, 3, 40, 0, 0, 0) := by decide +kernel
theorem aX11_held_31 : i_at mX11_held.2.2.2.2.2 31 = some (.aload_n 0, 1, 0, 0, 0, 0) := by decide +kernel
theorem aX11_held_32 : i_at mX11_held.2.2.2.2.2 32 = some (.getfield 68, 3, 10, 7, 461, 0) := by decide +kernel
theorem aX11_held_35 : i_at mX11_held.2.2.2.2.2 35 = some (.iload_n 1, 1, 0, 0, 0, 0) := by decide +kernel
theorem aX11_held_36 : i_at mX11_held.2.2.2.2.2 36 = some (.invokevirtual 232, 3, 42, 1, 943, 0) := by decide +kernel
theorem aX11_held_39 : i_at mX11_held.2.2.2.2.2 39 = some (.ireturn, 1, 0, 0, 0, 0) := by decide +kernel
theorem aX11_held_40 : i_at mX11_held.2.2.2.2.2 40 = some (.aload_n 0, 1, 0, 0, 0, 0) := by decide +kernel
theorem aX11_held_41 : i_at mX11_held.2.2.2.2.2 41 = some (.getfield 59, 3, 10, 6, 460, 0) := by decide +kernel
theorem aX11_held_44 : i_at mX11_held.2.2.2.2.2 44 = some (.getfield 95, 3, 9, 0, 347, 0) := by decide +kernel
theorem aX11_held_47 : i_at mX11_held.2.2.2.2.2 47 = some (.iload_n 2, 1, 0, 0, 0, 0) := by decide +kernel
theorem aX11_held_48 : i_at mX11_held.2.2.2.2.2 48 = some (.invokevirtual 131, 3, 53, 1, 757, 0) := by decide +kernel
theorem aX11_held_51 : i_at mX11_held.2.2.2.2.2 51 = some (.ifCond .eq 15, 3, 66, 0, 0, 0) := by decide +kernel
theorem aX11_held_54 : i_at mX11_held.2.2.2.2.2 54 = some (.aload_n 0, 1, 0, 0, 0, 0) := by decide +kernel
theorem aX11_held_55 : i_at mX11_held.2.2.2.2.2 55 = some (.getfield 68, 3, 10, 7, 461, 0) := by decide +kernel
theorem aX11_held_58 : i_at mX11_held.2.2.2.2.2 58 = some (.iload_n 2, 1, 0, 0, 0, 0) := by decide +kernel
theorem aX11_held_59 : i_at mX11_held.2.2.2.2.2 59 = some (.iload_n 1, 1, 0, 0, 0, 0) := by decide +kernel
theorem aX11_held_60 : i_at mX11_held.2.2.2.2.2 60 = some (.invokevirtual 235, 3, 41, 2, 947, 0) := by decide +kernel
theorem aX11_held_63 : i_at mX11_held.2.2.2.2.2 63 = some (.goto 4, 3, 67, 0, 0, 0) := by decide +kernel
theorem aX11_held_66 : i_at mX11_held.2.2.2.2.2 66 = some (.iconst (-1), 1, 0, 0, 0, 0) := by decide +kernel
theorem aX11_held_67 : i_at mX11_held.2.2.2.2.2 67 = some (.ireturn, 1, 0, 0, 0, 0) := by decide +kernel
noncomputable def fX11_held_J67 (sh : List kd) (p1 : Int32) (p2 : Int32) (x60 : Int32) (s61 : St) : Option (Int32 × St) := some (x60, s61)
noncomputable def fX11_held (sh : List kd) (σ : St) (p1 : Int32) (p2 : Int32) : Option (Int32 × St) := if (σ.1 20 0) = 0 then some ((-1), σ) else i_bd (fX11_isWithin sh σ p1 1 100) (fun r2 s3 => if ¬ r2 = 0 then if ¬ p2 = 6 then i_bd (fX6_hasThing sh s3 20 p2) (fun r7 s8 => if r7 = 0 then fX11_held_J67 sh p1 p2 (-1) s8 else i_bd (fX5_timesHeld sh s8 p2 p1) (fun r63 s64 => fX11_held_J67 sh p1 p2 r63 s64)) else i_bd (fX5_neverHeld sh s3 p1) (fun r66 s67 => some (r66, s67)) else some ((-1), s3))
set_option maxRecDepth 20000 in
set_option maxHeartbeats 2000000 in
theorem tX11_held_J67 {sh : List kd} {τ : St} {r : Int32} (hsh : cSh sh) {p1 : Int32} {p2 : Int32} {x60 : Int32} {s61 : St} (hE : fX11_held_J67 sh p1 p2 x60 s61 = some (r, τ)) : g_R sh 7 mX11_held (some (.int r)) τ 67 [.ref 0, .int p1, .int p2] [.int x60] (s61) := by
  unfold fX11_held_J67 at hE
  obtain ⟨rfl, rfl⟩ := i_some_inj hE
  exact g_iret aX11_held_67 rfl rfl
set_option maxRecDepth 20000 in
set_option maxHeartbeats 2000000 in
theorem tX11_held {sh : List kd} {σ τ : St} {r : Int32} (hsh : cSh sh) {p1 : Int32} {p2 : Int32} (hE : fX11_held sh σ p1 p2 = some (r, τ)) : i_X 8 111 [.ref 0, .int p1, .int p2] (s_h sh σ) 0 0 (some (.int r)) (s_h sh τ) := by
  refine g_X (M := mX11_held) (loc := [.ref 0, .int p1, .int p2]) rfl (Nat.le_of_ble_eq_true rfl) rfl ?_
  unfold fX11_held at hE
  refine g_ldan aX11_held_0 rfl ?_
  refine g_getR aX11_held_1 (sC_0 hsh) rfl ?_
  refine g_getR aX11_held_4 ((wShB_19 hsh).1) rfl ?_
  refine g_getI aX11_held_7 ((rShB_20 hsh).1) rfl ?_
  by_cases hc1 : (σ.1 20 0) = 0
  · rw [if_pos hc1] at hE
    refine g_if_eq_t aX11_held_10 hc1 ?_
    refine g_iconst (x := (-1)) aX11_held_23 rfl ?_
    obtain ⟨rfl, rfl⟩ := i_some_inj hE
    exact g_iret aX11_held_24 rfl rfl
  · rw [if_neg hc1] at hE
    refine g_if_eq_f aX11_held_10 hc1 ?_
    refine g_ldin aX11_held_13 rfl ?_
    refine g_iconst (x := 1) aX11_held_14 rfl ?_
    refine g_bipush (x := 100) aX11_held_15 rfl ?_
    obtain ⟨r2, s3, h4, hE⟩ := i_bd_some hE
    refine g_calS (As := [.int p1, .int 1, .int 100]) (rest := []) aX11_held_17 (i_X_mono (by omega) (tX11_isWithin hsh h4)) rfl rfl (Nat.le_of_ble_eq_true rfl) rfl ?_
    by_cases hc5 : ¬ r2 = 0
    · rw [if_pos hc5] at hE
      refine g_if_ne_t aX11_held_20 hc5 ?_
      refine g_ldin aX11_held_25 rfl ?_
      refine g_bipush (x := 6) aX11_held_26 rfl ?_
      by_cases hc6 : ¬ p2 = 6
      · rw [if_pos hc6] at hE
        refine g_ic_ne_t aX11_held_28 hc6 ?_
        refine g_ldan aX11_held_40 rfl ?_
        refine g_getR aX11_held_41 (sC_0 hsh) rfl ?_
        refine g_getR aX11_held_44 ((wShB_19 hsh).1) rfl ?_
        refine g_ldin aX11_held_47 rfl ?_
        obtain ⟨r7, s8, h9, hE⟩ := i_bd_some hE
        refine g_calV (As := [.int p2]) (rest := []) aX11_held_48 (i_X_mono (by omega) (tX6_hasThing hsh (rShB_20 hsh) h9)) ((rShB_20 hsh).1) (by decide +kernel) rfl rfl (Nat.le_of_ble_eq_true rfl) rfl ?_
        by_cases hc62 : r7 = 0
        · rw [if_pos hc62] at hE
          refine g_if_eq_t aX11_held_51 hc62 ?_
          refine g_iconst (x := (-1)) aX11_held_66 rfl ?_
          exact tX11_held_J67 hsh hE
        · rw [if_neg hc62] at hE
          refine g_if_eq_f aX11_held_51 hc62 ?_
          refine g_ldan aX11_held_54 rfl ?_
          refine g_getR aX11_held_55 (sC_0 hsh) rfl ?_
          refine g_ldin aX11_held_58 rfl ?_
          refine g_ldin aX11_held_59 rfl ?_
          obtain ⟨r63, s64, h65, hE⟩ := i_bd_some hE
          refine g_calV (As := [.int p2, .int p1]) (rest := []) aX11_held_60 (i_X_mono (by omega) (tX5_timesHeld hsh h65)) (sC_134 hsh) (by decide +kernel) rfl rfl (Nat.le_of_ble_eq_true rfl) rfl ?_
          refine g_goto aX11_held_63 ?_
          exact tX11_held_J67 hsh hE
      · rw [if_neg hc6] at hE
        refine g_ic_ne_f aX11_held_28 hc6 ?_
        refine g_ldan aX11_held_31 rfl ?_
        refine g_getR aX11_held_32 (sC_0 hsh) rfl ?_
        refine g_ldin aX11_held_35 rfl ?_
        obtain ⟨r66, s67, h68, hE⟩ := i_bd_some hE
        refine g_calV (As := [.int p1]) (rest := []) aX11_held_36 (i_X_mono (by omega) (tX5_neverHeld hsh h68)) (sC_134 hsh) (by decide +kernel) rfl rfl (Nat.le_of_ble_eq_true rfl) rfl ?_
        obtain ⟨rfl, rfl⟩ := i_some_inj hE
        exact g_iret aX11_held_39 rfl rfl
    · rw [if_neg hc5] at hE
      refine g_if_ne_f aX11_held_20 hc5 ?_
      refine g_iconst (x := (-1)) aX11_held_23 rfl ?_
      obtain ⟨rfl, rfl⟩ := i_some_inj hE
      exact g_iret aX11_held_24 rfl rfl
theorem aX11_rests_0 : i_at mX11_rests.2.2.2.2.2 0 = some (.aload_n 0, 1, 0, 0, 0, 0) := by decide +kernel
theorem aX11_rests_1 : i_at mX11_rests.2.2.2.2.2 1 = some (.getfield 59, 3, 10, 6, 460, 0) := by decide +kernel
theorem aX11_rests_4 : i_at mX11_rests.2.2.2.2.2 4 = some (.getfield 95, 3, 9, 0, 347, 0) := by decide +kernel
theorem aX11_rests_7 : i_at mX11_rests.2.2.2.2.2 7 = some (.iload_n 1, 1, 0, 0, 0, 0) := by decide +kernel
theorem aX11_rests_8 : i_at mX11_rests.2.2.2.2.2 8 = some (.invokevirtual 155, 3, 54, 1, 773, 0) := by decide +kernel
theorem aX11_rests_11 : i_at mX11_rests.2.2.2.2.2 11 = some (.ifCond .eq 42, 3, 53, 0, 0, 0) := by decide +kernel
theorem aX11_rests_14 : i_at mX11_rests.2.2.2.2.2 14 = some (.aload_n 0, 1, 0, 0, 0, 0) := by decide +kernel
theorem aX11_rests_15 : i_at mX11_rests.2.2.2.2.2 15 = some (.getfield 59, 3, 10, 6, 460, 0) := by decide +kernel
theorem aX11_rests_18 : i_at mX11_rests.2.2.2.2.2 18 = some (.getfield 95, 3, 9, 0, 347, 0) := by decide +kernel
theorem aX11_rests_21 : i_at mX11_rests.2.2.2.2.2 21 = some (.iload_n 2, 1, 0, 0, 0, 0) := by decide +kernel
theorem aX11_rests_22 : i_at mX11_rests.2.2.2.2.2 22 = some (.invokevirtual 155, 3, 54, 1, 773, 0) := by decide +kernel
theorem aX11_rests_25 : i_at mX11_rests.2.2.2.2.2 25 = some (.ifCond .eq 28, 3, 53, 0, 0, 0) := by decide +kernel
theorem aX11_rests_28 : i_at mX11_rests.2.2.2.2.2 28 = some (.iload_n 1, 1, 0, 0, 0, 0) := by decide +kernel
theorem aX11_rests_29 : i_at mX11_rests.2.2.2.2.2 29 = some (.iload_n 2, 1, 0, 0, 0, 0) := by decide +kernel
theorem aX11_rests_30 : i_at mX11_rests.2.2.2.2.2 30 = some (.if_icmp .eq 23, 3, 53, 0, 0, 0) := by decide +kernel
theorem aX11_rests_33 : i_at mX11_rests.2.2.2.2.2 33 = some (.iload_n 3, 1, 0, 0, 0, 0) := by decide +kernel
theorem aX11_rests_34 : i_at mX11_rests.2.2.2.2.2 34 = some (.iconst 1, 1, 0, 0, 0, 0) := by decide +kernel
theorem aX11_rests_35 : i_at mX11_rests.2.2.2.2.2 35 = some (.bipush 20, 2, 0, 0, 0, 0) := by decide +kernel
theorem aX11_rests_37 : i_at mX11_rests.2.2.2.2.2 37 = some (.invokestatic 187, 3, 125, 3, 847, 0) := by decide +kernel
theorem aX11_rests_40 : i_at mX11_rests.2.2.2.2.2 40 = some (.ifCond .eq 13, 3, 53, 0, 0, 0) := by decide +kernel
theorem aX11_rests_43 : i_at mX11_rests.2.2.2.2.2 43 = some (.iload 4, 2, 0, 0, 0, 0) := by decide +kernel
theorem aX11_rests_45 : i_at mX11_rests.2.2.2.2.2 45 = some (.iconst 0, 1, 0, 0, 0, 0) := by decide +kernel
theorem aX11_rests_46 : i_at mX11_rests.2.2.2.2.2 46 = some (.iconst 2, 1, 0, 0, 0, 0) := by decide +kernel
theorem aX11_rests_47 : i_at mX11_rests.2.2.2.2.2 47 = some (.invokestatic 187, 3, 125, 3, 847, 0) := by decide +kernel
theorem aX11_rests_50 : i_at mX11_rests.2.2.2.2.2 50 = some (.ifCond .ne 5, 3, 55, 0, 0, 0) := by decide +kernel
theorem aX11_rests_53 : i_at mX11_rests.2.2.2.2.2 53 = some (.iconst (-1), 1, 0, 0, 0, 0) := by decide +kernel
theorem aX11_rests_54 : i_at mX11_rests.2.2.2.2.2 54 = some (.ireturn, 1, 0, 0, 0, 0) := by decide +kernel
theorem aX11_rests_55 : i_at mX11_rests.2.2.2.2.2 55 = some (.aload_n 0, 1, 0, 0, 0, 0) := by decide +kernel
theorem aX11_rests_56 : i_at mX11_rests.2.2.2.2.2 56 = some (.getfield 68, 3, 10, 7, 461, 0) := by decide +kernel
theorem aX11_rests_59 : i_at mX11_rests.2.2.2.2.2 59 = some (.iload_n 1, 1, 0, 0, 0, 0) := by decide +kernel
theorem aX11_rests_60 : i_at mX11_rests.2.2.2.2.2 60 = some (.iload_n 2, 1, 0, 0, 0, 0) := by decide +kernel
theorem aX11_rests_61 : i_at mX11_rests.2.2.2.2.2 61 = some (.iload_n 3, 1, 0, 0, 0, 0) := by decide +kernel
theorem aX11_rests_62 : i_at mX11_rests.2.2.2.2.2 62 = some (.invokevirtual 252, 3, 43, 3, 981, 0) := by decide +kernel
theorem aX11_rests_65 : i_at mX11_rests.2.2.2.2.2 65 = some (.aload_n 0, 1, 0, 0, 0, 0) := by decide +kernel
theorem aX11_rests_66 : i_at mX11_rests.2.2.2.2.2 66 = some (.getfield 68, 3, 10, 7, 461, 0) := by decide +kernel
theorem aX11_rests_69 : i_at mX11_rests.2.2.2.2.2 69 = some (.iload 4, 2, 0, 0, 0, 0) := by decide +kernel
theorem aX11_rests_71 : i_at mX11_rests.2.2.2.2.2 71 = some (.invokevirtual 256, 3, 44, 1, 985, 0) := by decide +kernel
theorem aX11_rests_74 : i_at mX11_rests.2.2.2.2.2 74 = some (.ireturn, 1, 0, 0, 0, 0) := by decide +kernel
noncomputable def fX11_rests (sh : List kd) (σ : St) (p1 : Int32) (p2 : Int32) (p3 : Int32) (p4 : Int32) : Option (Int32 × St) := i_bd (fX6_hasPerson sh σ 20 p1) (fun r1 s2 => if r1 = 0 then some ((-1), s2) else i_bd (fX6_hasPerson sh s2 20 p2) (fun r5 s6 => if r5 = 0 then some ((-1), s6) else if p1 = p2 then some ((-1), s6) else i_bd (fX11_isWithin sh s6 p3 1 20) (fun r10 s11 => if r10 = 0 then some ((-1), s11) else i_bd (fX11_isWithin sh s11 p4 0 2) (fun r14 s15 => if ¬ r14 = 0 then i_bd (fX5_playAllTwos sh s15 p1 p2 p3) (fun r18 s19 => i_bd (fX5_restOfTwos sh s19 p4) (fun r21 s22 => some (r21, s22))) else some ((-1), s15)))))
set_option maxRecDepth 20000 in
set_option maxHeartbeats 2000000 in
theorem tX11_rests {sh : List kd} {σ τ : St} {r : Int32} (hsh : cSh sh) {p1 : Int32} {p2 : Int32} {p3 : Int32} {p4 : Int32} (hE : fX11_rests sh σ p1 p2 p3 p4 = some (r, τ)) : i_X 8 115 [.ref 0, .int p1, .int p2, .int p3, .int p4] (s_h sh σ) 0 0 (some (.int r)) (s_h sh τ) := by
  refine g_X (M := mX11_rests) (loc := [.ref 0, .int p1, .int p2, .int p3, .int p4]) rfl (Nat.le_of_ble_eq_true rfl) rfl ?_
  unfold fX11_rests at hE
  refine g_ldan aX11_rests_0 rfl ?_
  refine g_getR aX11_rests_1 (sC_0 hsh) rfl ?_
  refine g_getR aX11_rests_4 ((wShB_19 hsh).1) rfl ?_
  refine g_ldin aX11_rests_7 rfl ?_
  obtain ⟨r1, s2, h3, hE⟩ := i_bd_some hE
  refine g_calV (As := [.int p1]) (rest := []) aX11_rests_8 (i_X_mono (by omega) (tX6_hasPerson hsh (rShB_20 hsh) h3)) ((rShB_20 hsh).1) (by decide +kernel) rfl rfl (Nat.le_of_ble_eq_true rfl) rfl ?_
  by_cases hc4 : r1 = 0
  · rw [if_pos hc4] at hE
    refine g_if_eq_t aX11_rests_11 hc4 ?_
    refine g_iconst (x := (-1)) aX11_rests_53 rfl ?_
    obtain ⟨rfl, rfl⟩ := i_some_inj hE
    exact g_iret aX11_rests_54 rfl rfl
  · rw [if_neg hc4] at hE
    refine g_if_eq_f aX11_rests_11 hc4 ?_
    refine g_ldan aX11_rests_14 rfl ?_
    refine g_getR aX11_rests_15 (sC_0 hsh) rfl ?_
    refine g_getR aX11_rests_18 ((wShB_19 hsh).1) rfl ?_
    refine g_ldin aX11_rests_21 rfl ?_
    obtain ⟨r5, s6, h7, hE⟩ := i_bd_some hE
    refine g_calV (As := [.int p2]) (rest := []) aX11_rests_22 (i_X_mono (by omega) (tX6_hasPerson hsh (rShB_20 hsh) h7)) ((rShB_20 hsh).1) (by decide +kernel) rfl rfl (Nat.le_of_ble_eq_true rfl) rfl ?_
    by_cases hc8 : r5 = 0
    · rw [if_pos hc8] at hE
      refine g_if_eq_t aX11_rests_25 hc8 ?_
      refine g_iconst (x := (-1)) aX11_rests_53 rfl ?_
      obtain ⟨rfl, rfl⟩ := i_some_inj hE
      exact g_iret aX11_rests_54 rfl rfl
    · rw [if_neg hc8] at hE
      refine g_if_eq_f aX11_rests_25 hc8 ?_
      refine g_ldin aX11_rests_28 rfl ?_
      refine g_ldin aX11_rests_29 rfl ?_
      by_cases hc9 : p1 = p2
      · rw [if_pos hc9] at hE
        refine g_ic_eq_t aX11_rests_30 hc9 ?_
        refine g_iconst (x := (-1)) aX11_rests_53 rfl ?_
        obtain ⟨rfl, rfl⟩ := i_some_inj hE
        exact g_iret aX11_rests_54 rfl rfl
      · rw [if_neg hc9] at hE
        refine g_ic_eq_f aX11_rests_30 hc9 ?_
        refine g_ldin aX11_rests_33 rfl ?_
        refine g_iconst (x := 1) aX11_rests_34 rfl ?_
        refine g_bipush (x := 20) aX11_rests_35 rfl ?_
        obtain ⟨r10, s11, h12, hE⟩ := i_bd_some hE
        refine g_calS (As := [.int p3, .int 1, .int 20]) (rest := []) aX11_rests_37 (i_X_mono (by omega) (tX11_isWithin hsh h12)) rfl rfl (Nat.le_of_ble_eq_true rfl) rfl ?_
        by_cases hc13 : r10 = 0
        · rw [if_pos hc13] at hE
          refine g_if_eq_t aX11_rests_40 hc13 ?_
          refine g_iconst (x := (-1)) aX11_rests_53 rfl ?_
          obtain ⟨rfl, rfl⟩ := i_some_inj hE
          exact g_iret aX11_rests_54 rfl rfl
        · rw [if_neg hc13] at hE
          refine g_if_eq_f aX11_rests_40 hc13 ?_
          refine g_ldi aX11_rests_43 rfl ?_
          refine g_iconst (x := 0) aX11_rests_45 rfl ?_
          refine g_iconst (x := 2) aX11_rests_46 rfl ?_
          obtain ⟨r14, s15, h16, hE⟩ := i_bd_some hE
          refine g_calS (As := [.int p4, .int 0, .int 2]) (rest := []) aX11_rests_47 (i_X_mono (by omega) (tX11_isWithin hsh h16)) rfl rfl (Nat.le_of_ble_eq_true rfl) rfl ?_
          by_cases hc17 : ¬ r14 = 0
          · rw [if_pos hc17] at hE
            refine g_if_ne_t aX11_rests_50 hc17 ?_
            refine g_ldan aX11_rests_55 rfl ?_
            refine g_getR aX11_rests_56 (sC_0 hsh) rfl ?_
            refine g_ldin aX11_rests_59 rfl ?_
            refine g_ldin aX11_rests_60 rfl ?_
            refine g_ldin aX11_rests_61 rfl ?_
            obtain ⟨r18, s19, h20, hE⟩ := i_bd_some hE
            refine g_calV (As := [.int p1, .int p2, .int p3]) (rest := []) aX11_rests_62 (i_X_mono (by omega) (tX5_playAllTwos hsh h20)) (sC_134 hsh) (by decide +kernel) rfl rfl (Nat.le_of_ble_eq_true rfl) rfl ?_
            refine g_ldan aX11_rests_65 rfl ?_
            refine g_getR aX11_rests_66 (sC_0 hsh) rfl ?_
            refine g_ldi aX11_rests_69 rfl ?_
            obtain ⟨r21, s22, h23, hE⟩ := i_bd_some hE
            refine g_calV (As := [.int p4]) (rest := []) aX11_rests_71 (i_X_mono (by omega) (tX5_restOfTwos hsh h23)) (sC_134 hsh) (by decide +kernel) rfl rfl (Nat.le_of_ble_eq_true rfl) rfl ?_
            obtain ⟨rfl, rfl⟩ := i_some_inj hE
            exact g_iret aX11_rests_74 rfl rfl
          · rw [if_neg hc17] at hE
            refine g_if_ne_f aX11_rests_50 hc17 ?_
            refine g_iconst (x := (-1)) aX11_rests_53 rfl ?_
            obtain ⟨rfl, rfl⟩ := i_some_inj hE
            exact g_iret aX11_rests_54 rfl rfl
theorem aX11_years_0 : i_at mX11_years.2.2.2.2.2 0 = some (.aload_n 0, 1, 0, 0, 0, 0) := by decide +kernel
theorem aX11_years_1 : i_at mX11_years.2.2.2.2.2 1 = some (.getfield 59, 3, 10, 6, 460, 0) := by decide +kernel
theorem aX11_years_4 : i_at mX11_years.2.2.2.2.2 4 = some (.getfield 95, 3, 9, 0, 347, 0) := by decide +kernel
theorem aX11_years_7 : i_at mX11_years.2.2.2.2.2 7 = some (.getfield 173, 3, 5, 0, 155, 0) := by decide +kernel
theorem aX11_years_10 : i_at mX11_years.2.2.2.2.2 10 = some (.ifCond .eq 43, 3, 53, 0, 0, 0) := by decide +kernel
theorem aX11_years_13 : i_at mX11_years.2.2.2.2.2 13 = some (.iload_n 1, 1, 0, 0, 0, 0) := by decide +kernel
theorem aX11_years_14 : i_at mX11_years.2.2.2.2.2 14 = some (.iconst 1, 1, 0, 0, 0, 0) := by decide +kernel
theorem aX11_years_15 : i_at mX11_years.2.2.2.2.2 15 = some (.bipush 10, 2, 0, 0, 0, 0) := by decide +kernel
theorem aX11_years_17 : i_at mX11_years.2.2.2.2.2 17 = some (.invokestatic 187, 3, 125, 3, 847, 0) := by decide +kernel
theorem aX11_years_20 : i_at mX11_years.2.2.2.2.2 20 = some (.ifCond .eq 33, 3, 53, 0, 0, 0) := by decide +kernel
theorem aX11_years_23 : i_at mX11_years.2.2.2.2.2 23 = some (.iload_n 2, 1, 0, 0, 0, 0) := by decide +kernel
theorem aX11_years_24 : i_at mX11_years.2.2.2.2.2 24 = some (.iconst 1, 1, 0, 0, 0, 0) := by decide +kernel
theorem aX11_years_25 : i_at mX11_years.2.2.2.2.2 25 = some (.bipush 60, 2, 0, 0, 0, 0) := by decide +kernel
theorem aX11_years_27 : i_at mX11_years.2.2.2.2.2 27 = some (.invokestatic 187, 3, 125, 3, 847, 0) := by decide +kernel
theorem aX11_years_30 : i_at mX11_years.2.2.2.2.2 30 = some (.ifCond .eq 23, 3, 53, 0, 0, 0) := by decide +kernel
theorem aX11_years_33 : i_at mX11_years.2.2.2.2.2 33 = some (.iload_n 3, 1, 0, 0, 0, 0) := by decide +kernel
theorem aX11_years_34 : i_at mX11_years.2.2.2.2.2 34 = some (.iconst 0, 1, 0, 0, 0, 0) := by decide +kernel
theorem aX11_years_35 : i_at mX11_years.2.2.2.2.2 35 = some (.bipush 100, 2, 0, 0, 0, 0) := by decide +kernel
theorem aX11_years_37 : i_at mX11_years.2.2.2.2.2 37 = some (.invokestatic 187, 3, 125, 3, 847, 0) := by decide +kernel
theorem aX11_years_40 : i_at mX11_years.2.2.2.2.2 40 = some (.ifCond .eq 13, 3, 53, 0, 0, 0) := by decide +kernel
theorem aX11_years_43 : i_at mX11_years.2.2.2.2.2 43 = some (.iload 4, 2, 0, 0, 0, 0) := by decide +kernel
theorem aX11_years_45 : i_at mX11_years.2.2.2.2.2 45 = some (.iconst 0, 1, 0, 0, 0, 0) := by decide +kernel
theorem aX11_years_46 : i_at mX11_years.2.2.2.2.2 46 = some (.iconst 1, 1, 0, 0, 0, 0) := by decide +kernel
theorem aX11_years_47 : i_at mX11_years.2.2.2.2.2 47 = some (.invokestatic 187, 3, 125, 3, 847, 0) := by decide +kernel
theorem aX11_years_50 : i_at mX11_years.2.2.2.2.2 50 = some (.ifCond .ne 5, 3, 55, 0, 0, 0) := by decide +kernel
theorem aX11_years_53 : i_at mX11_years.2.2.2.2.2 53 = some (.iconst (-1), 1, 0, 0, 0, 0) := by decide +kernel
theorem aX11_years_54 : i_at mX11_years.2.2.2.2.2 54 = some (.ireturn, 1, 0, 0, 0, 0) := by decide +kernel
theorem aX11_years_55 : i_at mX11_years.2.2.2.2.2 55 = some (.aload_n 0, 1, 0, 0, 0, 0) := by decide +kernel
theorem aX11_years_56 : i_at mX11_years.2.2.2.2.2 56 = some (.getfield 68, 3, 10, 7, 461, 0) := by decide +kernel
theorem aX11_years_59 : i_at mX11_years.2.2.2.2.2 59 = some (.iload_n 1, 1, 0, 0, 0, 0) := by decide +kernel
theorem aX11_years_60 : i_at mX11_years.2.2.2.2.2 60 = some (.iload_n 2, 1, 0, 0, 0, 0) := by decide +kernel
theorem aX11_years_61 : i_at mX11_years.2.2.2.2.2 61 = some (.iload_n 3, 1, 0, 0, 0, 0) := by decide +kernel
theorem aX11_years_62 : i_at mX11_years.2.2.2.2.2 62 = some (.iload 4, 2, 0, 0, 0, 0) := by decide +kernel
theorem aX11_years_64 : i_at mX11_years.2.2.2.2.2 64 = some (.ifCond .ne 7, 3, 71, 0, 0, 0) := by decide +kernel
theorem aX11_years_67 : i_at mX11_years.2.2.2.2.2 67 = some (.iconst 1, 1, 0, 0, 0, 0) := by decide +kernel
theorem aX11_years_68 : i_at mX11_years.2.2.2.2.2 68 = some (.goto 4, 3, 72, 0, 0, 0) := by decide +kernel
theorem aX11_years_71 : i_at mX11_years.2.2.2.2.2 71 = some (.iconst 0, 1, 0, 0, 0, 0) := by decide +kernel
theorem aX11_years_72 : i_at mX11_years.2.2.2.2.2 72 = some (.invokevirtual 284, 3, 48, 4, 1053, 0) := by decide +kernel
theorem aX11_years_75 : i_at mX11_years.2.2.2.2.2 75 = some (.ireturn, 1, 0, 0, 0, 0) := by decide +kernel
noncomputable def fX11_years (sh : List kd) (σ : St) (p1 : Int32) (p2 : Int32) (p3 : Int32) (p4 : Int32) : Option (Int32 × St) := if (σ.1 20 0) = 0 then some ((-1), σ) else i_bd (fX11_isWithin sh σ p1 1 10) (fun r2 s3 => if r2 = 0 then some ((-1), s3) else i_bd (fX11_isWithin sh s3 p2 1 60) (fun r6 s7 => if r6 = 0 then some ((-1), s7) else i_bd (fX11_isWithin sh s7 p3 0 100) (fun r10 s11 => if r10 = 0 then some ((-1), s11) else i_bd (fX11_isWithin sh s11 p4 0 1) (fun r14 s15 => if ¬ r14 = 0 then i_bd (fX5_drawnYears sh s15 p1 p2 p3 ((if ¬ p4 = 0 then 0 else 1) : Int32)) (fun r18 s19 => some (r18, s19)) else some ((-1), s15)))))
set_option maxRecDepth 20000 in
set_option maxHeartbeats 2000000 in
theorem tX11_years {sh : List kd} {σ τ : St} {r : Int32} (hsh : cSh sh) {p1 : Int32} {p2 : Int32} {p3 : Int32} {p4 : Int32} (hE : fX11_years sh σ p1 p2 p3 p4 = some (r, τ)) : i_X 7 121 [.ref 0, .int p1, .int p2, .int p3, .int p4] (s_h sh σ) 0 0 (some (.int r)) (s_h sh τ) := by
  refine g_X (M := mX11_years) (loc := [.ref 0, .int p1, .int p2, .int p3, .int p4]) rfl (Nat.le_of_ble_eq_true rfl) rfl ?_
  unfold fX11_years at hE
  refine g_ldan aX11_years_0 rfl ?_
  refine g_getR aX11_years_1 (sC_0 hsh) rfl ?_
  refine g_getR aX11_years_4 ((wShB_19 hsh).1) rfl ?_
  refine g_getI aX11_years_7 ((rShB_20 hsh).1) rfl ?_
  by_cases hc1 : (σ.1 20 0) = 0
  · rw [if_pos hc1] at hE
    refine g_if_eq_t aX11_years_10 hc1 ?_
    refine g_iconst (x := (-1)) aX11_years_53 rfl ?_
    obtain ⟨rfl, rfl⟩ := i_some_inj hE
    exact g_iret aX11_years_54 rfl rfl
  · rw [if_neg hc1] at hE
    refine g_if_eq_f aX11_years_10 hc1 ?_
    refine g_ldin aX11_years_13 rfl ?_
    refine g_iconst (x := 1) aX11_years_14 rfl ?_
    refine g_bipush (x := 10) aX11_years_15 rfl ?_
    obtain ⟨r2, s3, h4, hE⟩ := i_bd_some hE
    refine g_calS (As := [.int p1, .int 1, .int 10]) (rest := []) aX11_years_17 (i_X_mono (by omega) (tX11_isWithin hsh h4)) rfl rfl (Nat.le_of_ble_eq_true rfl) rfl ?_
    by_cases hc5 : r2 = 0
    · rw [if_pos hc5] at hE
      refine g_if_eq_t aX11_years_20 hc5 ?_
      refine g_iconst (x := (-1)) aX11_years_53 rfl ?_
      obtain ⟨rfl, rfl⟩ := i_some_inj hE
      exact g_iret aX11_years_54 rfl rfl
    · rw [if_neg hc5] at hE
      refine g_if_eq_f aX11_years_20 hc5 ?_
      refine g_ldin aX11_years_23 rfl ?_
      refine g_iconst (x := 1) aX11_years_24 rfl ?_
      refine g_bipush (x := 60) aX11_years_25 rfl ?_
      obtain ⟨r6, s7, h8, hE⟩ := i_bd_some hE
      refine g_calS (As := [.int p2, .int 1, .int 60]) (rest := []) aX11_years_27 (i_X_mono (by omega) (tX11_isWithin hsh h8)) rfl rfl (Nat.le_of_ble_eq_true rfl) rfl ?_
      by_cases hc9 : r6 = 0
      · rw [if_pos hc9] at hE
        refine g_if_eq_t aX11_years_30 hc9 ?_
        refine g_iconst (x := (-1)) aX11_years_53 rfl ?_
        obtain ⟨rfl, rfl⟩ := i_some_inj hE
        exact g_iret aX11_years_54 rfl rfl
      · rw [if_neg hc9] at hE
        refine g_if_eq_f aX11_years_30 hc9 ?_
        refine g_ldin aX11_years_33 rfl ?_
        refine g_iconst (x := 0) aX11_years_34 rfl ?_
        refine g_bipush (x := 100) aX11_years_35 rfl ?_
        obtain ⟨r10, s11, h12, hE⟩ := i_bd_some hE
        refine g_calS (As := [.int p3, .int 0, .int 100]) (rest := []) aX11_years_37 (i_X_mono (by omega) (tX11_isWithin hsh h12)) rfl rfl (Nat.le_of_ble_eq_true rfl) rfl ?_
        by_cases hc13 : r10 = 0
        · rw [if_pos hc13] at hE
          refine g_if_eq_t aX11_years_40 hc13 ?_
          refine g_iconst (x := (-1)) aX11_years_53 rfl ?_
          obtain ⟨rfl, rfl⟩ := i_some_inj hE
          exact g_iret aX11_years_54 rfl rfl
        · rw [if_neg hc13] at hE
          refine g_if_eq_f aX11_years_40 hc13 ?_
          refine g_ldi aX11_years_43 rfl ?_
          refine g_iconst (x := 0) aX11_years_45 rfl ?_
          refine g_iconst (x := 1) aX11_years_46 rfl ?_
          obtain ⟨r14, s15, h16, hE⟩ := i_bd_some hE
          refine g_calS (As := [.int p4, .int 0, .int 1]) (rest := []) aX11_years_47 (i_X_mono (by omega) (tX11_isWithin hsh h16)) rfl rfl (Nat.le_of_ble_eq_true rfl) rfl ?_
          by_cases hc17 : ¬ r14 = 0
          · rw [if_pos hc17] at hE
            refine g_if_ne_t aX11_years_50 hc17 ?_
            refine g_ldan aX11_years_55 rfl ?_
            refine g_getR aX11_years_56 (sC_0 hsh) rfl ?_
            refine g_ldin aX11_years_59 rfl ?_
            refine g_ldin aX11_years_60 rfl ?_
            refine g_ldin aX11_years_61 rfl ?_
            refine g_ldi aX11_years_62 rfl ?_
            have hJ : g_R sh 6 mX11_years (some (.int r)) τ 72 [.ref 0, .int p1, .int p2, .int p3, .int p4] [.int ((if ¬ p4 = 0 then 0 else 1) : Int32), .int p3, .int p2, .int p1, .ref 134] (s15) := by
              obtain ⟨r18, s19, h20, hE⟩ := i_bd_some hE
              refine g_calV (As := [.int p1, .int p2, .int p3, .int ((if ¬ p4 = 0 then 0 else 1) : Int32)]) (rest := []) aX11_years_72 (i_X_mono (by omega) (tX5_drawnYears hsh h20)) (sC_134 hsh) (by decide +kernel) rfl rfl (Nat.le_of_ble_eq_true rfl) rfl ?_
              obtain ⟨rfl, rfl⟩ := i_some_inj hE
              exact g_iret aX11_years_75 rfl rfl
            clear hE
            by_cases hc20 : ¬ p4 = 0
            · (try rw [if_pos hc20] at hJ)
              refine g_if_ne_t aX11_years_64 hc20 ?_
              refine g_iconst (x := 0) aX11_years_71 rfl ?_
              exact hJ
            · (try rw [if_neg hc20] at hJ)
              refine g_if_ne_f aX11_years_64 hc20 ?_
              refine g_iconst (x := 1) aX11_years_67 rfl ?_
              refine g_goto aX11_years_68 ?_
              exact hJ
          · rw [if_neg hc17] at hE
            refine g_if_ne_f aX11_years_50 hc17 ?_
            refine g_iconst (x := (-1)) aX11_years_53 rfl ?_
            obtain ⟨rfl, rfl⟩ := i_some_inj hE
            exact g_iret aX11_years_54 rfl rfl
theorem aX3_hear_0 : i_at mX3_hear.2.2.2.2.2 0 = some (.aload_n 0, 1, 0, 0, 0, 0) := by decide +kernel
theorem aX3_hear_1 : i_at mX3_hear.2.2.2.2.2 1 = some (.iconst 0, 1, 0, 0, 0, 0) := by decide +kernel
theorem aX3_hear_2 : i_at mX3_hear.2.2.2.2.2 2 = some (.putfield 39, 3, 2, 6, 435, 0) := by decide +kernel
theorem aX3_hear_5 : i_at mX3_hear.2.2.2.2.2 5 = some (.iconst 0, 1, 0, 0, 0, 0) := by decide +kernel
theorem aX3_hear_6 : i_at mX3_hear.2.2.2.2.2 6 = some (.istore_n 2, 1, 0, 0, 0, 0) := by decide +kernel
theorem aX3_hear_7 : i_at mX3_hear.2.2.2.2.2 7 = some (.iload_n 2, 1, 0, 0, 0, 0) := by decide +kernel
theorem aX3_hear_8 : i_at mX3_hear.2.2.2.2.2 8 = some (.bipush 7, 2, 0, 0, 0, 0) := by decide +kernel
theorem aX3_hear_10 : i_at mX3_hear.2.2.2.2.2 10 = some (.if_icmp .ge 56, 3, 66, 0, 0, 0) := by decide +kernel
theorem aX3_hear_13 : i_at mX3_hear.2.2.2.2.2 13 = some (.aload_n 0, 1, 0, 0, 0, 0) := by decide +kernel
theorem aX3_hear_14 : i_at mX3_hear.2.2.2.2.2 14 = some (.getfield 23, 3, 2, 4, 433, 0) := by decide +kernel
theorem aX3_hear_17 : i_at mX3_hear.2.2.2.2.2 17 = some (.iload_n 2, 1, 0, 0, 0, 0) := by decide +kernel
theorem aX3_hear_18 : i_at mX3_hear.2.2.2.2.2 18 = some (.iconst 0, 1, 0, 0, 0, 0) := by decide +kernel
theorem aX3_hear_19 : i_at mX3_hear.2.2.2.2.2 19 = some (.bastore, 1, 0, 0, 0, 0) := by decide +kernel
theorem aX3_hear_20 : i_at mX3_hear.2.2.2.2.2 20 = some (.iload_n 2, 1, 0, 0, 0, 0) := by decide +kernel
theorem aX3_hear_21 : i_at mX3_hear.2.2.2.2.2 21 = some (.iload_n 1, 1, 0, 0, 0, 0) := by decide +kernel
theorem aX3_hear_22 : i_at mX3_hear.2.2.2.2.2 22 = some (.if_icmp .gt 19, 3, 41, 0, 0, 0) := by decide +kernel
theorem aX3_hear_25 : i_at mX3_hear.2.2.2.2.2 25 = some (.aload_n 0, 1, 0, 0, 0, 0) := by decide +kernel
theorem aX3_hear_26 : i_at mX3_hear.2.2.2.2.2 26 = some (.iload_n 2, 1, 0, 0, 0, 0) := by decide +kernel
theorem aX3_hear_27 : i_at mX3_hear.2.2.2.2.2 27 = some (.invokevirtual 43, 3, 20, 1, 1017, 0) := by decide +kernel
theorem aX3_hear_30 : i_at mX3_hear.2.2.2.2.2 30 = some (.aload_n 0, 1, 0, 0, 0, 0) := by decide +kernel
theorem aX3_hear_31 : i_at mX3_hear.2.2.2.2.2 31 = some (.getfield 23, 3, 2, 4, 433, 0) := by decide +kernel
theorem aX3_hear_34 : i_at mX3_hear.2.2.2.2.2 34 = some (.iload_n 2, 1, 0, 0, 0, 0) := by decide +kernel
theorem aX3_hear_35 : i_at mX3_hear.2.2.2.2.2 35 = some (.aload_n 0, 1, 0, 0, 0, 0) := by decide +kernel
theorem aX3_hear_36 : i_at mX3_hear.2.2.2.2.2 36 = some (.iload_n 2, 1, 0, 0, 0, 0) := by decide +kernel
theorem aX3_hear_37 : i_at mX3_hear.2.2.2.2.2 37 = some (.invokevirtual 47, 3, 21, 1, 1023, 0) := by decide +kernel
theorem aX3_hear_40 : i_at mX3_hear.2.2.2.2.2 40 = some (.bastore, 1, 0, 0, 0, 0) := by decide +kernel
theorem aX3_hear_41 : i_at mX3_hear.2.2.2.2.2 41 = some (.aload_n 0, 1, 0, 0, 0, 0) := by decide +kernel
theorem aX3_hear_42 : i_at mX3_hear.2.2.2.2.2 42 = some (.getfield 23, 3, 2, 4, 433, 0) := by decide +kernel
theorem aX3_hear_45 : i_at mX3_hear.2.2.2.2.2 45 = some (.iload_n 2, 1, 0, 0, 0, 0) := by decide +kernel
theorem aX3_hear_46 : i_at mX3_hear.2.2.2.2.2 46 = some (.baload, 1, 0, 0, 0, 0) := by decide +kernel
theorem aX3_hear_47 : i_at mX3_hear.2.2.2.2.2 47 = some (.ifCond .eq 13, 3, 60, 0, 0, 0) := by decide +kernel
theorem aX3_hear_50 : i_at mX3_hear.2.2.2.2.2 50 = some (.aload_n 0, 1, 0, 0, 0, 0) := by decide +kernel
theorem aX3_hear_51 : i_at mX3_hear.2.2.2.2.2 51 = some (.dup, 1, 0, 0, 0, 0) := by decide +kernel
theorem aX3_hear_52 : i_at mX3_hear.2.2.2.2.2 52 = some (.getfield 39, 3, 2, 6, 435, 0) := by decide +kernel
theorem aX3_hear_55 : i_at mX3_hear.2.2.2.2.2 55 = some (.iconst 1, 1, 0, 0, 0, 0) := by decide +kernel
theorem aX3_hear_56 : i_at mX3_hear.2.2.2.2.2 56 = some (.iadd, 1, 0, 0, 0, 0) := by decide +kernel
theorem aX3_hear_57 : i_at mX3_hear.2.2.2.2.2 57 = some (.putfield 39, 3, 2, 6, 435, 0) := by decide +kernel
theorem aX3_hear_60 : i_at mX3_hear.2.2.2.2.2 60 = some (.iinc 2 1, 3, 0, 0, 0, 0) := by decide +kernel
theorem aX3_hear_63 : i_at mX3_hear.2.2.2.2.2 63 = some (.goto (-56), 3, 7, 0, 0, 0) := by decide +kernel
theorem aX3_hear_66 : i_at mX3_hear.2.2.2.2.2 66 = some (.return_, 1, 0, 0, 0, 0) := by decide +kernel
noncomputable def fX3_hear_J60 (sh : List kd) (p1 : Int32) (x1 : Int32) (k7 : Int32 → St → Option (Unit × St)) (s158 : St) : Option (Unit × St) := k7 (x1 + 1) s158
noncomputable def fX3_hear_J41 (sh : List kd) (p1 : Int32) (x1 : Int32) (k7 : Int32 → St → Option (Unit × St)) (s106 : St) : Option (Unit × St) := if i_ok x1 7 then if (s106.2.1 157 x1.toNatClampNeg) = 0 then fX3_hear_J60 sh p1 x1 k7 s106 else fX3_hear_J60 sh p1 x1 k7 (s_F s106 143 6 ((s106.1 143 6) + 1)) else none
noncomputable def fX3_hear_L7 (sh : List kd) (p1 : Int32) : Nat → Int32 → St → Option (Unit × St)
  | 0, _, _ => none
  | n3 + 1, x1, s2 => if 7 ≤ x1 then some ((), s2) else if i_ok x1 7 then if p1 < x1 then fX3_hear_J41 sh p1 x1 (fX3_hear_L7 sh p1 n3) (s_A s2 157 x1.toNatClampNeg (vp_nar .boolean 0)) else i_bd (fX3_playFromBegin sh (s_A s2 157 x1.toNatClampNeg (vp_nar .boolean 0)) x1) (fun r161 s162 => i_bd (fX3_areNotesSo sh s162 x1) (fun r164 s165 => if i_ok x1 7 then fX3_hear_J41 sh p1 x1 (fX3_hear_L7 sh p1 n3) (s_A s165 157 x1.toNatClampNeg (vp_nar .boolean r164)) else none)) else none
noncomputable def fX3_hear (sh : List kd) (σ : St) (p1 : Int32) : Option (Unit × St) := fX3_hear_L7 sh p1 i_F 0 (s_F σ 143 6 0)
set_option maxRecDepth 20000 in
set_option maxHeartbeats 2000000 in
theorem tX3_hear_J60 {sh : List kd} {τ : St} {r : Unit} (hsh : cSh sh) {p1 : Int32} {x1 : Int32} {s158 : St} {k7 : Int32 → St → Option (Unit × St)} (hk7 : ∀ (x1 : Int32) (s2 : St), k7 x1 s2 = some (r, τ) → g_R sh 6 mX3_hear none τ 7 [.ref 143, .int p1, .int x1] [] (s2)) (hE : fX3_hear_J60 sh p1 x1 k7 s158 = some (r, τ)) : g_R sh 6 mX3_hear none τ 60 [.ref 143, .int p1, .int x1] [] (s158) := by
  unfold fX3_hear_J60 at hE
  refine g_iinc (y := 1) (loc2 := [.ref 143, .int p1, .int (x1 + 1)]) aX3_hear_60 rfl rfl rfl ?_
  refine g_goto aX3_hear_63 ?_
  exact hk7 _ _ hE
set_option maxRecDepth 20000 in
set_option maxHeartbeats 2000000 in
theorem tX3_hear_J41 {sh : List kd} {τ : St} {r : Unit} (hsh : cSh sh) {p1 : Int32} {x1 : Int32} {s106 : St} {k7 : Int32 → St → Option (Unit × St)} (hk7 : ∀ (x1 : Int32) (s2 : St), k7 x1 s2 = some (r, τ) → g_R sh 6 mX3_hear none τ 7 [.ref 143, .int p1, .int x1] [] (s2)) (hE : fX3_hear_J41 sh p1 x1 k7 s106 = some (r, τ)) : g_R sh 6 mX3_hear none τ 41 [.ref 143, .int p1, .int x1] [] (s106) := by
  unfold fX3_hear_J41 at hE
  refine g_ldan aX3_hear_41 rfl ?_
  refine g_getR aX3_hear_42 (sC_143 hsh) rfl ?_
  refine g_ldin aX3_hear_45 rfl ?_
  obtain ⟨h107, hE⟩ := i_ifn hE
  refine g_zld aX3_hear_46 (sC_157 hsh) h107 ?_
  by_cases hc159 : (s106.2.1 157 x1.toNatClampNeg) = 0
  · rw [if_pos hc159] at hE
    refine g_if_eq_t aX3_hear_47 hc159 ?_
    exact tX3_hear_J60 hsh hk7 hE
  · rw [if_neg hc159] at hE
    refine g_if_eq_f aX3_hear_47 hc159 ?_
    refine g_ldan aX3_hear_50 rfl ?_
    refine g_dupa aX3_hear_51 ?_
    refine g_getI aX3_hear_52 (sC_143 hsh) rfl ?_
    refine g_iconst (x := 1) aX3_hear_55 rfl ?_
    refine g_iadd aX3_hear_56 ?_
    refine g_putI aX3_hear_57 (sC_143 hsh) rfl rfl ?_
    exact tX3_hear_J60 hsh hk7 hE
set_option maxRecDepth 20000 in
set_option maxHeartbeats 2000000 in
theorem tX3_hear_L7 {sh : List kd} {τ : St} {r : Unit} (hsh : cSh sh) {p1 : Int32} : ∀ (n0 : Nat) (x1 : Int32) (s2 : St), fX3_hear_L7 sh p1 n0 x1 s2 = some (r, τ) → g_R sh 6 mX3_hear none τ 7 [.ref 143, .int p1, .int x1] [] (s2) := by
  intro n0
  induction n0 with
  | zero => intro _ _ hE; cases hE
  | succ n3 ih =>
    intro x1 s2 hE
    unfold fX3_hear_L7 at hE
    refine g_ldin aX3_hear_7 rfl ?_
    refine g_bipush (x := 7) aX3_hear_8 rfl ?_
    by_cases hc54 : 7 ≤ x1
    · rw [if_pos hc54] at hE
      refine g_ic_ge_t aX3_hear_10 hc54 ?_
      obtain ⟨rfl, rfl⟩ := i_some_inj hE
      exact g_vret aX3_hear_66 rfl
    · rw [if_neg hc54] at hE
      refine g_ic_ge_f aX3_hear_10 hc54 ?_
      refine g_ldan aX3_hear_13 rfl ?_
      refine g_getR aX3_hear_14 (sC_143 hsh) rfl ?_
      refine g_ldin aX3_hear_17 rfl ?_
      refine g_iconst (x := 0) aX3_hear_18 rfl ?_
      obtain ⟨h55, hE⟩ := i_ifn hE
      refine g_zst aX3_hear_19 (sC_157 hsh) h55 ?_
      refine g_ldin aX3_hear_20 rfl ?_
      refine g_ldin aX3_hear_21 rfl ?_
      by_cases hc160 : p1 < x1
      · rw [if_pos hc160] at hE
        refine g_ic_gt_t aX3_hear_22 hc160 ?_
        exact tX3_hear_J41 hsh ih hE
      · rw [if_neg hc160] at hE
        refine g_ic_gt_f aX3_hear_22 hc160 ?_
        refine g_ldan aX3_hear_25 rfl ?_
        refine g_ldin aX3_hear_26 rfl ?_
        obtain ⟨r161, s162, h163, hE⟩ := i_bd_some hE
        refine g_calV (As := [.int x1]) (rest := []) aX3_hear_27 (i_X_mono (by omega) (tX3_playFromBegin hsh h163)) (sC_143 hsh) (by decide +kernel) rfl rfl (Nat.le_of_ble_eq_true rfl) rfl ?_
        refine g_ldan aX3_hear_30 rfl ?_
        refine g_getR aX3_hear_31 (sC_143 hsh) rfl ?_
        refine g_ldin aX3_hear_34 rfl ?_
        refine g_ldan aX3_hear_35 rfl ?_
        refine g_ldin aX3_hear_36 rfl ?_
        obtain ⟨r164, s165, h166, hE⟩ := i_bd_some hE
        refine g_calV (As := [.int x1]) (rest := [.int x1, .ref 157]) aX3_hear_37 (i_X_mono (by omega) (tX3_areNotesSo hsh h166)) (sC_143 hsh) (by decide +kernel) rfl rfl (Nat.le_of_ble_eq_true rfl) rfl ?_
        obtain ⟨h167, hE⟩ := i_ifn hE
        refine g_zst aX3_hear_40 (sC_157 hsh) h167 ?_
        exact tX3_hear_J41 hsh ih hE
set_option maxRecDepth 20000 in
set_option maxHeartbeats 2000000 in
theorem tX3_hear {sh : List kd} {σ τ : St} {r : Unit} (hsh : cSh sh) {p1 : Int32} (hE : fX3_hear sh σ p1 = some (r, τ)) : i_X 7 19 [.ref 143, .int p1] (s_h sh σ) 0 0 none (s_h sh τ) := by
  refine g_X (M := mX3_hear) (loc := [.ref 143, .int p1, .retAddr 0]) rfl (Nat.le_of_ble_eq_true rfl) rfl ?_
  unfold fX3_hear at hE
  refine g_ldan aX3_hear_0 rfl ?_
  refine g_iconst (x := 0) aX3_hear_1 rfl ?_
  refine g_putI aX3_hear_2 (sC_143 hsh) rfl rfl ?_
  refine g_iconst (x := 0) aX3_hear_5 rfl ?_
  refine g_stin (loc2 := [.ref 143, .int p1, .int 0]) aX3_hear_6 (Nat.le_of_ble_eq_true rfl) rfl ?_
  exact tX3_hear_L7 hsh i_F _ _ hE
theorem aX5_fewestGloves_0 : i_at mX5_fewestGloves.2.2.2.2.2 0 = some (.iconst 1, 1, 0, 0, 0, 0) := by decide +kernel
theorem aX5_fewestGloves_1 : i_at mX5_fewestGloves.2.2.2.2.2 1 = some (.iload_n 2, 1, 0, 0, 0, 0) := by decide +kernel
theorem aX5_fewestGloves_2 : i_at mX5_fewestGloves.2.2.2.2.2 2 = some (.ishl, 1, 0, 0, 0, 0) := by decide +kernel
theorem aX5_fewestGloves_3 : i_at mX5_fewestGloves.2.2.2.2.2 3 = some (.iconst 1, 1, 0, 0, 0, 0) := by decide +kernel
theorem aX5_fewestGloves_4 : i_at mX5_fewestGloves.2.2.2.2.2 4 = some (.isub, 1, 0, 0, 0, 0) := by decide +kernel
theorem aX5_fewestGloves_5 : i_at mX5_fewestGloves.2.2.2.2.2 5 = some (.istore_n 3, 1, 0, 0, 0, 0) := by decide +kernel
theorem aX5_fewestGloves_6 : i_at mX5_fewestGloves.2.2.2.2.2 6 = some (.iconst 0, 1, 0, 0, 0, 0) := by decide +kernel
theorem aX5_fewestGloves_7 : i_at mX5_fewestGloves.2.2.2.2.2 7 = some (.istore 4, 2, 0, 0, 0, 0) := by decide +kernel
theorem aX5_fewestGloves_9 : i_at mX5_fewestGloves.2.2.2.2.2 9 = some (.iload 4, 2, 0, 0, 0, 0) := by decide +kernel
theorem aX5_fewestGloves_11 : i_at mX5_fewestGloves.2.2.2.2.2 11 = some (.iconst 1, 1, 0, 0, 0, 0) := by decide +kernel
theorem aX5_fewestGloves_12 : i_at mX5_fewestGloves.2.2.2.2.2 12 = some (.iload_n 2, 1, 0, 0, 0, 0) := by decide +kernel
theorem aX5_fewestGloves_13 : i_at mX5_fewestGloves.2.2.2.2.2 13 = some (.ishl, 1, 0, 0, 0, 0) := by decide +kernel
theorem aX5_fewestGloves_14 : i_at mX5_fewestGloves.2.2.2.2.2 14 = some (.if_icmp .ge 35, 3, 49, 0, 0, 0) := by decide +kernel
theorem aX5_fewestGloves_17 : i_at mX5_fewestGloves.2.2.2.2.2 17 = some (.iload 4, 2, 0, 0, 0, 0) := by decide +kernel
theorem aX5_fewestGloves_19 : i_at mX5_fewestGloves.2.2.2.2.2 19 = some (.invokestatic 89, 3, 230, 1, 924, 0) := by decide +kernel
theorem aX5_fewestGloves_22 : i_at mX5_fewestGloves.2.2.2.2.2 22 = some (.iload_n 3, 1, 0, 0, 0, 0) := by decide +kernel
theorem aX5_fewestGloves_23 : i_at mX5_fewestGloves.2.2.2.2.2 23 = some (.invokestatic 89, 3, 230, 1, 924, 0) := by decide +kernel
theorem aX5_fewestGloves_26 : i_at mX5_fewestGloves.2.2.2.2.2 26 = some (.if_icmp .ge 17, 3, 43, 0, 0, 0) := by decide +kernel
theorem aX5_fewestGloves_29 : i_at mX5_fewestGloves.2.2.2.2.2 29 = some (.aload_n 0, 1, 0, 0, 0, 0) := by decide +kernel
theorem aX5_fewestGloves_30 : i_at mX5_fewestGloves.2.2.2.2.2 30 = some (.iload_n 1, 1, 0, 0, 0, 0) := by decide +kernel
theorem aX5_fewestGloves_31 : i_at mX5_fewestGloves.2.2.2.2.2 31 = some (.iload_n 2, 1, 0, 0, 0, 0) := by decide +kernel
theorem aX5_fewestGloves_32 : i_at mX5_fewestGloves.2.2.2.2.2 32 = some (.iload 4, 2, 0, 0, 0, 0) := by decide +kernel
theorem aX5_fewestGloves_34 : i_at mX5_fewestGloves.2.2.2.2.2 34 = some (.invokevirtual 95, 3, 39, 3, 925, 0) := by decide +kernel
theorem aX5_fewestGloves_37 : i_at mX5_fewestGloves.2.2.2.2.2 37 = some (.ifCond .eq 6, 3, 43, 0, 0, 0) := by decide +kernel
theorem aX5_fewestGloves_40 : i_at mX5_fewestGloves.2.2.2.2.2 40 = some (.iload 4, 2, 0, 0, 0, 0) := by decide +kernel
theorem aX5_fewestGloves_42 : i_at mX5_fewestGloves.2.2.2.2.2 42 = some (.istore_n 3, 1, 0, 0, 0, 0) := by decide +kernel
theorem aX5_fewestGloves_43 : i_at mX5_fewestGloves.2.2.2.2.2 43 = some (.iinc 4 1, 3, 0, 0, 0, 0) := by decide +kernel
theorem aX5_fewestGloves_46 : i_at mX5_fewestGloves.2.2.2.2.2 46 = some (.goto (-37), 3, 9, 0, 0, 0) := by decide +kernel
theorem aX5_fewestGloves_49 : i_at mX5_fewestGloves.2.2.2.2.2 49 = some (.iload_n 3, 1, 0, 0, 0, 0) := by decide +kernel
theorem aX5_fewestGloves_50 : i_at mX5_fewestGloves.2.2.2.2.2 50 = some (.ireturn, 1, 0, 0, 0, 0) := by decide +kernel
noncomputable def fX5_fewestGloves_J43 (sh : List kd) (p1 : Int32) (p2 : Int32) (x2 : Int32) (k9 : Int32 → Int32 → St → Option (Int32 × St)) (x112 : Int32) (s113 : St) : Option (Int32 × St) := k9 x112 (x2 + 1) s113
noncomputable def fX5_fewestGloves_L9 (sh : List kd) (p1 : Int32) (p2 : Int32) : Nat → Int32 → Int32 → St → Option (Int32 × St)
  | 0, _, _, _ => none
  | n4 + 1, x1, x2, s3 => if (1 <<< (p2 &&& 31)) ≤ x2 then some (x1, s3) else i_bd (fJ6_bitCount_0f7a4 sh s3 x2) (fun r56 s57 => i_bd (fJ6_bitCount_0f7a4 sh s57 x1) (fun r59 s60 => if r59 ≤ r56 then fX5_fewestGloves_J43 sh p1 p2 x2 (fX5_fewestGloves_L9 sh p1 p2 n4) x1 s60 else i_bd (fX5_isSpared sh s60 p1 p2 x2) (fun r115 s116 => fX5_fewestGloves_J43 sh p1 p2 x2 (fX5_fewestGloves_L9 sh p1 p2 n4) ((if r115 = 0 then x1 else x2) : Int32) s116)))
noncomputable def fX5_fewestGloves (sh : List kd) (σ : St) (p1 : Int32) (p2 : Int32) : Option (Int32 × St) := fX5_fewestGloves_L9 sh p1 p2 i_F ((1 <<< (p2 &&& 31)) - 1) 0 σ
set_option maxRecDepth 20000 in
set_option maxHeartbeats 2000000 in
theorem tX5_fewestGloves_J43 {sh : List kd} {τ : St} {r : Int32} (hsh : cSh sh) {p1 : Int32} {p2 : Int32} {x2 : Int32} {x112 : Int32} {s113 : St} {k9 : Int32 → Int32 → St → Option (Int32 × St)} (hk9 : ∀ (x1 : Int32) (x2 : Int32) (s3 : St), k9 x1 x2 s3 = some (r, τ) → g_R sh 6 mX5_fewestGloves (some (.int r)) τ 9 [.ref 134, .int p1, .int p2, .int x1, .int x2] [] (s3)) (hE : fX5_fewestGloves_J43 sh p1 p2 x2 k9 x112 s113 = some (r, τ)) : g_R sh 6 mX5_fewestGloves (some (.int r)) τ 43 [.ref 134, .int p1, .int p2, .int x112, .int x2] [] (s113) := by
  unfold fX5_fewestGloves_J43 at hE
  refine g_iinc (y := 1) (loc2 := [.ref 134, .int p1, .int p2, .int x112, .int (x2 + 1)]) aX5_fewestGloves_43 rfl rfl rfl ?_
  refine g_goto aX5_fewestGloves_46 ?_
  exact hk9 _ _ _ hE
set_option maxRecDepth 20000 in
set_option maxHeartbeats 2000000 in
theorem tX5_fewestGloves_L9 {sh : List kd} {τ : St} {r : Int32} (hsh : cSh sh) {p1 : Int32} {p2 : Int32} : ∀ (n0 : Nat) (x1 : Int32) (x2 : Int32) (s3 : St), fX5_fewestGloves_L9 sh p1 p2 n0 x1 x2 s3 = some (r, τ) → g_R sh 6 mX5_fewestGloves (some (.int r)) τ 9 [.ref 134, .int p1, .int p2, .int x1, .int x2] [] (s3) := by
  intro n0
  induction n0 with
  | zero => intro _ _ _ hE; cases hE
  | succ n4 ih =>
    intro x1 x2 s3 hE
    unfold fX5_fewestGloves_L9 at hE
    refine g_ldi aX5_fewestGloves_9 rfl ?_
    refine g_iconst (x := 1) aX5_fewestGloves_11 rfl ?_
    refine g_ldin aX5_fewestGloves_12 rfl ?_
    refine g_ishl aX5_fewestGloves_13 ?_
    by_cases hc55 : (1 <<< (p2 &&& 31)) ≤ x2
    · rw [if_pos hc55] at hE
      refine g_ic_ge_t aX5_fewestGloves_14 hc55 ?_
      refine g_ldin aX5_fewestGloves_49 rfl ?_
      obtain ⟨rfl, rfl⟩ := i_some_inj hE
      exact g_iret aX5_fewestGloves_50 rfl rfl
    · rw [if_neg hc55] at hE
      refine g_ic_ge_f aX5_fewestGloves_14 hc55 ?_
      refine g_ldi aX5_fewestGloves_17 rfl ?_
      obtain ⟨r56, s57, h58, hE⟩ := i_bd_some hE
      refine g_calS (As := [.int x2]) (rest := []) aX5_fewestGloves_19 (i_X_mono (by omega) (tJ6_bitCount_0f7a4 hsh h58)) rfl rfl (Nat.le_of_ble_eq_true rfl) rfl ?_
      refine g_ldin aX5_fewestGloves_22 rfl ?_
      obtain ⟨r59, s60, h61, hE⟩ := i_bd_some hE
      refine g_calS (As := [.int x1]) (rest := [.int r56]) aX5_fewestGloves_23 (i_X_mono (by omega) (tJ6_bitCount_0f7a4 hsh h61)) rfl rfl (Nat.le_of_ble_eq_true rfl) rfl ?_
      by_cases hc114 : r59 ≤ r56
      · rw [if_pos hc114] at hE
        refine g_ic_ge_t aX5_fewestGloves_26 hc114 ?_
        exact tX5_fewestGloves_J43 hsh ih hE
      · rw [if_neg hc114] at hE
        refine g_ic_ge_f aX5_fewestGloves_26 hc114 ?_
        refine g_ldan aX5_fewestGloves_29 rfl ?_
        refine g_ldin aX5_fewestGloves_30 rfl ?_
        refine g_ldin aX5_fewestGloves_31 rfl ?_
        refine g_ldi aX5_fewestGloves_32 rfl ?_
        obtain ⟨r115, s116, h117, hE⟩ := i_bd_some hE
        refine g_calV (As := [.int p1, .int p2, .int x2]) (rest := []) aX5_fewestGloves_34 (i_X_mono (by omega) (tX5_isSpared hsh h117)) (sC_134 hsh) (by decide +kernel) rfl rfl (Nat.le_of_ble_eq_true rfl) rfl ?_
        have hJ : g_R sh 6 mX5_fewestGloves (some (.int r)) τ 43 [.ref 134, .int p1, .int p2, .int ((if r115 = 0 then x1 else x2) : Int32), .int x2] [] (s116) := by
          exact tX5_fewestGloves_J43 hsh ih hE
        clear hE
        by_cases hc117 : r115 = 0
        · (try rw [if_pos hc117] at hJ)
          refine g_if_eq_t aX5_fewestGloves_37 hc117 ?_
          exact hJ
        · (try rw [if_neg hc117] at hJ)
          refine g_if_eq_f aX5_fewestGloves_37 hc117 ?_
          refine g_ldi aX5_fewestGloves_40 rfl ?_
          refine g_stin (loc2 := [.ref 134, .int p1, .int p2, .int x2, .int x2]) aX5_fewestGloves_42 (Nat.le_of_ble_eq_true rfl) rfl ?_
          exact hJ
set_option maxRecDepth 20000 in
set_option maxHeartbeats 2000000 in
theorem tX5_fewestGloves {sh : List kd} {σ τ : St} {r : Int32} (hsh : cSh sh) {p1 : Int32} {p2 : Int32} (hE : fX5_fewestGloves sh σ p1 p2 = some (r, τ)) : i_X 7 38 [.ref 134, .int p1, .int p2] (s_h sh σ) 0 0 (some (.int r)) (s_h sh τ) := by
  refine g_X (M := mX5_fewestGloves) (loc := [.ref 134, .int p1, .int p2, .retAddr 0, .retAddr 0]) rfl (Nat.le_of_ble_eq_true rfl) rfl ?_
  unfold fX5_fewestGloves at hE
  refine g_iconst (x := 1) aX5_fewestGloves_0 rfl ?_
  refine g_ldin aX5_fewestGloves_1 rfl ?_
  refine g_ishl aX5_fewestGloves_2 ?_
  refine g_iconst (x := 1) aX5_fewestGloves_3 rfl ?_
  refine g_isub aX5_fewestGloves_4 ?_
  refine g_stin (loc2 := [.ref 134, .int p1, .int p2, .int ((1 <<< (p2 &&& 31)) - 1), .retAddr 0]) aX5_fewestGloves_5 (Nat.le_of_ble_eq_true rfl) rfl ?_
  refine g_iconst (x := 0) aX5_fewestGloves_6 rfl ?_
  refine g_sti (loc2 := [.ref 134, .int p1, .int p2, .int ((1 <<< (p2 &&& 31)) - 1), .int 0]) aX5_fewestGloves_7 (Nat.le_of_ble_eq_true rfl) rfl ?_
  exact tX5_fewestGloves_L9 hsh i_F _ _ _ hE
theorem aX11_spare_0 : i_at mX11_spare.2.2.2.2.2 0 = some (.aload_n 0, 1, 0, 0, 0, 0) := by decide +kernel
theorem aX11_spare_1 : i_at mX11_spare.2.2.2.2.2 1 = some (.getfield 59, 3, 10, 6, 460, 0) := by decide +kernel
theorem aX11_spare_4 : i_at mX11_spare.2.2.2.2.2 4 = some (.getfield 95, 3, 9, 0, 347, 0) := by decide +kernel
theorem aX11_spare_7 : i_at mX11_spare.2.2.2.2.2 7 = some (.iload_n 1, 1, 0, 0, 0, 0) := by decide +kernel
theorem aX11_spare_8 : i_at mX11_spare.2.2.2.2.2 8 = some (.invokevirtual 131, 3, 53, 1, 757, 0) := by decide +kernel
theorem aX11_spare_11 : i_at mX11_spare.2.2.2.2.2 11 = some (.ifCond .eq 22, 3, 33, 0, 0, 0) := by decide +kernel
theorem aX11_spare_14 : i_at mX11_spare.2.2.2.2.2 14 = some (.iload_n 2, 1, 0, 0, 0, 0) := by decide +kernel
theorem aX11_spare_15 : i_at mX11_spare.2.2.2.2.2 15 = some (.iconst 1, 1, 0, 0, 0, 0) := by decide +kernel
theorem aX11_spare_16 : i_at mX11_spare.2.2.2.2.2 16 = some (.bipush 8, 2, 0, 0, 0, 0) := by decide +kernel
theorem aX11_spare_18 : i_at mX11_spare.2.2.2.2.2 18 = some (.invokestatic 187, 3, 125, 3, 847, 0) := by decide +kernel
theorem aX11_spare_21 : i_at mX11_spare.2.2.2.2.2 21 = some (.ifCond .eq 12, 3, 33, 0, 0, 0) := by decide +kernel
theorem aX11_spare_24 : i_at mX11_spare.2.2.2.2.2 24 = some (.iload_n 3, 1, 0, 0, 0, 0) := by decide +kernel
theorem aX11_spare_25 : i_at mX11_spare.2.2.2.2.2 25 = some (.iconst 0, 1, 0, 0, 0, 0) := by decide +kernel
theorem aX11_spare_26 : i_at mX11_spare.2.2.2.2.2 26 = some (.iconst 1, 1, 0, 0, 0, 0) := by decide +kernel
theorem aX11_spare_27 : i_at mX11_spare.2.2.2.2.2 27 = some (.invokestatic 187, 3, 125, 3, 847, 0) := by decide +kernel
theorem aX11_spare_30 : i_at mX11_spare.2.2.2.2.2 30 = some (.ifCond .ne 5, 3, 35, 0, 0, 0) := by decide +kernel
theorem aX11_spare_33 : i_at mX11_spare.2.2.2.2.2 33 = some (.iconst (-1), 1, 0, 0, 0, 0) := by decide +kernel
theorem aX11_spare_34 : i_at mX11_spare.2.2.2.2.2 34 = some (.ireturn, 1, 0, 0, 0, 0) := by decide +kernel
theorem aX11_spare_35 : i_at mX11_spare.2.2.2.2.2 35 = some (.aload_n 0, 1, 0, 0, 0, 0) := by decide +kernel
theorem aX11_spare_36 : i_at mX11_spare.2.2.2.2.2 36 = some (.getfield 68, 3, 10, 7, 461, 0) := by decide +kernel
theorem aX11_spare_39 : i_at mX11_spare.2.2.2.2.2 39 = some (.iload_n 1, 1, 0, 0, 0, 0) := by decide +kernel
theorem aX11_spare_40 : i_at mX11_spare.2.2.2.2.2 40 = some (.iload_n 2, 1, 0, 0, 0, 0) := by decide +kernel
theorem aX11_spare_41 : i_at mX11_spare.2.2.2.2.2 41 = some (.invokevirtual 219, 3, 38, 2, 920, 0) := by decide +kernel
theorem aX11_spare_44 : i_at mX11_spare.2.2.2.2.2 44 = some (.istore 4, 2, 0, 0, 0, 0) := by decide +kernel
theorem aX11_spare_46 : i_at mX11_spare.2.2.2.2.2 46 = some (.iload_n 3, 1, 0, 0, 0, 0) := by decide +kernel
theorem aX11_spare_47 : i_at mX11_spare.2.2.2.2.2 47 = some (.ifCond .ne 11, 3, 58, 0, 0, 0) := by decide +kernel
theorem aX11_spare_50 : i_at mX11_spare.2.2.2.2.2 50 = some (.iload 4, 2, 0, 0, 0, 0) := by decide +kernel
theorem aX11_spare_52 : i_at mX11_spare.2.2.2.2.2 52 = some (.invokestatic 223, 3, 230, 1, 929, 0) := by decide +kernel
theorem aX11_spare_55 : i_at mX11_spare.2.2.2.2.2 55 = some (.goto 5, 3, 60, 0, 0, 0) := by decide +kernel
theorem aX11_spare_58 : i_at mX11_spare.2.2.2.2.2 58 = some (.iload 4, 2, 0, 0, 0, 0) := by decide +kernel
theorem aX11_spare_60 : i_at mX11_spare.2.2.2.2.2 60 = some (.ireturn, 1, 0, 0, 0, 0) := by decide +kernel
noncomputable def fX11_spare_J60 (sh : List kd) (p1 : Int32) (p2 : Int32) (p3 : Int32) (r13 : Int32) (x66 : Int32) (s67 : St) : Option (Int32 × St) := some (x66, s67)
noncomputable def fX11_spare (sh : List kd) (σ : St) (p1 : Int32) (p2 : Int32) (p3 : Int32) : Option (Int32 × St) := i_bd (fX6_hasThing sh σ 20 p1) (fun r1 s2 => if r1 = 0 then some ((-1), s2) else i_bd (fX11_isWithin sh s2 p2 1 8) (fun r5 s6 => if r5 = 0 then some ((-1), s6) else i_bd (fX11_isWithin sh s6 p3 0 1) (fun r9 s10 => if ¬ r9 = 0 then i_bd (fX5_fewestGloves sh s10 p1 p2) (fun r13 s14 => if ¬ p3 = 0 then fX11_spare_J60 sh p1 p2 p3 r13 r13 s14 else i_bd (fJ6_bitCount_0f7a4 sh s14 r13) (fun r69 s70 => fX11_spare_J60 sh p1 p2 p3 r13 r69 s70)) else some ((-1), s10))))
set_option maxRecDepth 20000 in
set_option maxHeartbeats 2000000 in
theorem tX11_spare_J60 {sh : List kd} {τ : St} {r : Int32} (hsh : cSh sh) {p1 : Int32} {p2 : Int32} {p3 : Int32} {r13 : Int32} {x66 : Int32} {s67 : St} (hE : fX11_spare_J60 sh p1 p2 p3 r13 x66 s67 = some (r, τ)) : g_R sh 7 mX11_spare (some (.int r)) τ 60 [.ref 0, .int p1, .int p2, .int p3, .int r13] [.int x66] (s67) := by
  unfold fX11_spare_J60 at hE
  obtain ⟨rfl, rfl⟩ := i_some_inj hE
  exact g_iret aX11_spare_60 rfl rfl
set_option maxRecDepth 20000 in
set_option maxHeartbeats 2000000 in
theorem tX11_spare {sh : List kd} {σ τ : St} {r : Int32} (hsh : cSh sh) {p1 : Int32} {p2 : Int32} {p3 : Int32} (hE : fX11_spare sh σ p1 p2 p3 = some (r, τ)) : i_X 8 109 [.ref 0, .int p1, .int p2, .int p3] (s_h sh σ) 0 0 (some (.int r)) (s_h sh τ) := by
  refine g_X (M := mX11_spare) (loc := [.ref 0, .int p1, .int p2, .int p3, .retAddr 0]) rfl (Nat.le_of_ble_eq_true rfl) rfl ?_
  unfold fX11_spare at hE
  refine g_ldan aX11_spare_0 rfl ?_
  refine g_getR aX11_spare_1 (sC_0 hsh) rfl ?_
  refine g_getR aX11_spare_4 ((wShB_19 hsh).1) rfl ?_
  refine g_ldin aX11_spare_7 rfl ?_
  obtain ⟨r1, s2, h3, hE⟩ := i_bd_some hE
  refine g_calV (As := [.int p1]) (rest := []) aX11_spare_8 (i_X_mono (by omega) (tX6_hasThing hsh (rShB_20 hsh) h3)) ((rShB_20 hsh).1) (by decide +kernel) rfl rfl (Nat.le_of_ble_eq_true rfl) rfl ?_
  by_cases hc4 : r1 = 0
  · rw [if_pos hc4] at hE
    refine g_if_eq_t aX11_spare_11 hc4 ?_
    refine g_iconst (x := (-1)) aX11_spare_33 rfl ?_
    obtain ⟨rfl, rfl⟩ := i_some_inj hE
    exact g_iret aX11_spare_34 rfl rfl
  · rw [if_neg hc4] at hE
    refine g_if_eq_f aX11_spare_11 hc4 ?_
    refine g_ldin aX11_spare_14 rfl ?_
    refine g_iconst (x := 1) aX11_spare_15 rfl ?_
    refine g_bipush (x := 8) aX11_spare_16 rfl ?_
    obtain ⟨r5, s6, h7, hE⟩ := i_bd_some hE
    refine g_calS (As := [.int p2, .int 1, .int 8]) (rest := []) aX11_spare_18 (i_X_mono (by omega) (tX11_isWithin hsh h7)) rfl rfl (Nat.le_of_ble_eq_true rfl) rfl ?_
    by_cases hc8 : r5 = 0
    · rw [if_pos hc8] at hE
      refine g_if_eq_t aX11_spare_21 hc8 ?_
      refine g_iconst (x := (-1)) aX11_spare_33 rfl ?_
      obtain ⟨rfl, rfl⟩ := i_some_inj hE
      exact g_iret aX11_spare_34 rfl rfl
    · rw [if_neg hc8] at hE
      refine g_if_eq_f aX11_spare_21 hc8 ?_
      refine g_ldin aX11_spare_24 rfl ?_
      refine g_iconst (x := 0) aX11_spare_25 rfl ?_
      refine g_iconst (x := 1) aX11_spare_26 rfl ?_
      obtain ⟨r9, s10, h11, hE⟩ := i_bd_some hE
      refine g_calS (As := [.int p3, .int 0, .int 1]) (rest := []) aX11_spare_27 (i_X_mono (by omega) (tX11_isWithin hsh h11)) rfl rfl (Nat.le_of_ble_eq_true rfl) rfl ?_
      by_cases hc12 : ¬ r9 = 0
      · rw [if_pos hc12] at hE
        refine g_if_ne_t aX11_spare_30 hc12 ?_
        refine g_ldan aX11_spare_35 rfl ?_
        refine g_getR aX11_spare_36 (sC_0 hsh) rfl ?_
        refine g_ldin aX11_spare_39 rfl ?_
        refine g_ldin aX11_spare_40 rfl ?_
        obtain ⟨r13, s14, h15, hE⟩ := i_bd_some hE
        refine g_calV (As := [.int p1, .int p2]) (rest := []) aX11_spare_41 (i_X_mono (by omega) (tX5_fewestGloves hsh h15)) (sC_134 hsh) (by decide +kernel) rfl rfl (Nat.le_of_ble_eq_true rfl) rfl ?_
        refine g_sti (loc2 := [.ref 0, .int p1, .int p2, .int p3, .int r13]) aX11_spare_44 (Nat.le_of_ble_eq_true rfl) rfl ?_
        refine g_ldin aX11_spare_46 rfl ?_
        by_cases hc68 : ¬ p3 = 0
        · rw [if_pos hc68] at hE
          refine g_if_ne_t aX11_spare_47 hc68 ?_
          refine g_ldi aX11_spare_58 rfl ?_
          exact tX11_spare_J60 hsh hE
        · rw [if_neg hc68] at hE
          refine g_if_ne_f aX11_spare_47 hc68 ?_
          refine g_ldi aX11_spare_50 rfl ?_
          obtain ⟨r69, s70, h71, hE⟩ := i_bd_some hE
          refine g_calS (As := [.int r13]) (rest := []) aX11_spare_52 (i_X_mono (by omega) (tJ6_bitCount_0f7a4 hsh h71)) rfl rfl (Nat.le_of_ble_eq_true rfl) rfl ?_
          refine g_goto aX11_spare_55 ?_
          exact tX11_spare_J60 hsh hE
      · rw [if_neg hc12] at hE
        refine g_if_ne_f aX11_spare_30 hc12 ?_
        refine g_iconst (x := (-1)) aX11_spare_33 rfl ?_
        obtain ⟨rfl, rfl⟩ := i_some_inj hE
        exact g_iret aX11_spare_34 rfl rfl
theorem aX11_ruled_0 : i_at mX11_ruled.2.2.2.2.2 0 = some (.aload_n 0, 1, 0, 0, 0, 0) := by decide +kernel
theorem aX11_ruled_1 : i_at mX11_ruled.2.2.2.2.2 1 = some (.getfield 59, 3, 10, 6, 460, 0) := by decide +kernel
theorem aX11_ruled_4 : i_at mX11_ruled.2.2.2.2.2 4 = some (.getfield 95, 3, 9, 0, 347, 0) := by decide +kernel
theorem aX11_ruled_7 : i_at mX11_ruled.2.2.2.2.2 7 = some (.getfield 173, 3, 5, 0, 155, 0) := by decide +kernel
theorem aX11_ruled_10 : i_at mX11_ruled.2.2.2.2.2 10 = some (.ifCond .eq 12, 3, 22, 0, 0, 0) := by decide +kernel
theorem aX11_ruled_13 : i_at mX11_ruled.2.2.2.2.2 13 = some (.iload_n 1, 1, 0, 0, 0, 0) := by decide +kernel
theorem aX11_ruled_14 : i_at mX11_ruled.2.2.2.2.2 14 = some (.iconst 0, 1, 0, 0, 0, 0) := by decide +kernel
theorem aX11_ruled_15 : i_at mX11_ruled.2.2.2.2.2 15 = some (.iconst 1, 1, 0, 0, 0, 0) := by decide +kernel
theorem aX11_ruled_16 : i_at mX11_ruled.2.2.2.2.2 16 = some (.invokestatic 187, 3, 125, 3, 847, 0) := by decide +kernel
theorem aX11_ruled_19 : i_at mX11_ruled.2.2.2.2.2 19 = some (.ifCond .ne 6, 3, 25, 0, 0, 0) := by decide +kernel
theorem aX11_ruled_22 : i_at mX11_ruled.2.2.2.2.2 22 = some (.bipush (-3), 2, 0, 0, 0, 0) := by decide +kernel
theorem aX11_ruled_24 : i_at mX11_ruled.2.2.2.2.2 24 = some (.ireturn, 1, 0, 0, 0, 0) := by decide +kernel
theorem aX11_ruled_25 : i_at mX11_ruled.2.2.2.2.2 25 = some (.aload_n 0, 1, 0, 0, 0, 0) := by decide +kernel
theorem aX11_ruled_26 : i_at mX11_ruled.2.2.2.2.2 26 = some (.getfield 75, 3, 10, 8, 462, 0) := by decide +kernel
theorem aX11_ruled_29 : i_at mX11_ruled.2.2.2.2.2 29 = some (.aload_n 0, 1, 0, 0, 0, 0) := by decide +kernel
theorem aX11_ruled_30 : i_at mX11_ruled.2.2.2.2.2 30 = some (.getfield 120, 3, 10, 10, 464, 0) := by decide +kernel
theorem aX11_ruled_33 : i_at mX11_ruled.2.2.2.2.2 33 = some (.invokevirtual 269, 3, 19, 1, 1013, 0) := by decide +kernel
theorem aX11_ruled_36 : i_at mX11_ruled.2.2.2.2.2 36 = some (.iload_n 1, 1, 0, 0, 0, 0) := by decide +kernel
theorem aX11_ruled_37 : i_at mX11_ruled.2.2.2.2.2 37 = some (.ifCond .ne 13, 3, 50, 0, 0, 0) := by decide +kernel
theorem aX11_ruled_40 : i_at mX11_ruled.2.2.2.2.2 40 = some (.aload_n 0, 1, 0, 0, 0, 0) := by decide +kernel
theorem aX11_ruled_41 : i_at mX11_ruled.2.2.2.2.2 41 = some (.getfield 75, 3, 10, 8, 462, 0) := by decide +kernel
theorem aX11_ruled_44 : i_at mX11_ruled.2.2.2.2.2 44 = some (.getfield 272, 3, 2, 6, 436, 0) := by decide +kernel
theorem aX11_ruled_47 : i_at mX11_ruled.2.2.2.2.2 47 = some (.goto 10, 3, 57, 0, 0, 0) := by decide +kernel
theorem aX11_ruled_50 : i_at mX11_ruled.2.2.2.2.2 50 = some (.aload_n 0, 1, 0, 0, 0, 0) := by decide +kernel
theorem aX11_ruled_51 : i_at mX11_ruled.2.2.2.2.2 51 = some (.getfield 75, 3, 10, 8, 462, 0) := by decide +kernel
theorem aX11_ruled_54 : i_at mX11_ruled.2.2.2.2.2 54 = some (.invokevirtual 275, 3, 22, 0, 1027, 0) := by decide +kernel
theorem aX11_ruled_57 : i_at mX11_ruled.2.2.2.2.2 57 = some (.ireturn, 1, 0, 0, 0, 0) := by decide +kernel
noncomputable def fX11_ruled_J57 (sh : List kd) (p1 : Int32) (x59 : Int32) (s60 : St) : Option (Int32 × St) := some (x59, s60)
noncomputable def fX11_ruled (sh : List kd) (σ : St) (p1 : Int32) : Option (Int32 × St) := if (σ.1 20 0) = 0 then some ((-3), σ) else i_bd (fX11_isWithin sh σ p1 0 1) (fun r2 s3 => if ¬ r2 = 0 then i_bd (fX3_hear sh s3 (s3.1 0 10)) (fun r6 s7 => if ¬ p1 = 0 then i_bd (fX3_first sh s7) (fun r62 s63 => fX11_ruled_J57 sh p1 r62 s63) else fX11_ruled_J57 sh p1 (s7.1 143 6) s7) else some ((-3), s3))
set_option maxRecDepth 20000 in
set_option maxHeartbeats 2000000 in
theorem tX11_ruled_J57 {sh : List kd} {τ : St} {r : Int32} (hsh : cSh sh) {p1 : Int32} {x59 : Int32} {s60 : St} (hE : fX11_ruled_J57 sh p1 x59 s60 = some (r, τ)) : g_R sh 7 mX11_ruled (some (.int r)) τ 57 [.ref 0, .int p1] [.int x59] (s60) := by
  unfold fX11_ruled_J57 at hE
  obtain ⟨rfl, rfl⟩ := i_some_inj hE
  exact g_iret aX11_ruled_57 rfl rfl
set_option maxRecDepth 20000 in
set_option maxHeartbeats 2000000 in
theorem tX11_ruled {sh : List kd} {σ τ : St} {r : Int32} (hsh : cSh sh) {p1 : Int32} (hE : fX11_ruled sh σ p1 = some (r, τ)) : i_X 8 118 [.ref 0, .int p1] (s_h sh σ) 0 0 (some (.int r)) (s_h sh τ) := by
  refine g_X (M := mX11_ruled) (loc := [.ref 0, .int p1]) rfl (Nat.le_of_ble_eq_true rfl) rfl ?_
  unfold fX11_ruled at hE
  refine g_ldan aX11_ruled_0 rfl ?_
  refine g_getR aX11_ruled_1 (sC_0 hsh) rfl ?_
  refine g_getR aX11_ruled_4 ((wShB_19 hsh).1) rfl ?_
  refine g_getI aX11_ruled_7 ((rShB_20 hsh).1) rfl ?_
  by_cases hc1 : (σ.1 20 0) = 0
  · rw [if_pos hc1] at hE
    refine g_if_eq_t aX11_ruled_10 hc1 ?_
    refine g_bipush (x := (-3)) aX11_ruled_22 rfl ?_
    obtain ⟨rfl, rfl⟩ := i_some_inj hE
    exact g_iret aX11_ruled_24 rfl rfl
  · rw [if_neg hc1] at hE
    refine g_if_eq_f aX11_ruled_10 hc1 ?_
    refine g_ldin aX11_ruled_13 rfl ?_
    refine g_iconst (x := 0) aX11_ruled_14 rfl ?_
    refine g_iconst (x := 1) aX11_ruled_15 rfl ?_
    obtain ⟨r2, s3, h4, hE⟩ := i_bd_some hE
    refine g_calS (As := [.int p1, .int 0, .int 1]) (rest := []) aX11_ruled_16 (i_X_mono (by omega) (tX11_isWithin hsh h4)) rfl rfl (Nat.le_of_ble_eq_true rfl) rfl ?_
    by_cases hc5 : ¬ r2 = 0
    · rw [if_pos hc5] at hE
      refine g_if_ne_t aX11_ruled_19 hc5 ?_
      refine g_ldan aX11_ruled_25 rfl ?_
      refine g_getR aX11_ruled_26 (sC_0 hsh) rfl ?_
      refine g_ldan aX11_ruled_29 rfl ?_
      refine g_getI aX11_ruled_30 (sC_0 hsh) rfl ?_
      obtain ⟨r6, s7, h8, hE⟩ := i_bd_some hE
      refine g_calV (As := [.int (s3.1 0 10)]) (rest := []) aX11_ruled_33 (i_X_mono (by omega) (tX3_hear hsh h8)) (sC_143 hsh) (by decide +kernel) rfl rfl (Nat.le_of_ble_eq_true rfl) rfl ?_
      refine g_ldin aX11_ruled_36 rfl ?_
      by_cases hc61 : ¬ p1 = 0
      · rw [if_pos hc61] at hE
        refine g_if_ne_t aX11_ruled_37 hc61 ?_
        refine g_ldan aX11_ruled_50 rfl ?_
        refine g_getR aX11_ruled_51 (sC_0 hsh) rfl ?_
        obtain ⟨r62, s63, h64, hE⟩ := i_bd_some hE
        refine g_calV (As := []) (rest := []) aX11_ruled_54 (i_X_mono (by omega) (tX3_first hsh h64)) (sC_143 hsh) (by decide +kernel) rfl rfl (Nat.le_of_ble_eq_true rfl) rfl ?_
        exact tX11_ruled_J57 hsh hE
      · rw [if_neg hc61] at hE
        refine g_if_ne_f aX11_ruled_37 hc61 ?_
        refine g_ldan aX11_ruled_40 rfl ?_
        refine g_getR aX11_ruled_41 (sC_0 hsh) rfl ?_
        refine g_getI aX11_ruled_44 (sC_143 hsh) rfl ?_
        refine g_goto aX11_ruled_47 ?_
        exact tX11_ruled_J57 hsh hE
    · rw [if_neg hc5] at hE
      refine g_if_ne_f aX11_ruled_19 hc5 ?_
      refine g_bipush (x := (-3)) aX11_ruled_22 rfl ?_
      obtain ⟨rfl, rfl⟩ := i_some_inj hE
      exact g_iret aX11_ruled_24 rfl rfl
