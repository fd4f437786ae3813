/-! X1_readClause X3_bestHour X7_worth X8_openClause X8_readComparing X8_readValue X9_takeWord X0_hand -/
theorem aX1_readClause_0 : i_at mX1_readClause.2.2.2.2.2 0 = some (.aload_n 0, 1, 0, 0, 0, 0) := by decide +kernel
theorem aX1_readClause_1 : i_at mX1_readClause.2.2.2.2.2 1 = some (.getfield 9, 3, 1, 0, 221, 0) := by decide +kernel
theorem aX1_readClause_4 : i_at mX1_readClause.2.2.2.2.2 4 = some (.ldc 52, 2, 1, 0, 0, 0) := by decide +kernel
theorem aX1_readClause_6 : i_at mX1_readClause.2.2.2.2.2 6 = some (.invokevirtual 54, 3, 81, 1, 524, 0) := by decide +kernel
theorem aX1_readClause_9 : i_at mX1_readClause.2.2.2.2.2 9 = some (.istore_n 2, 1, 0, 0, 0, 0) := by decide +kernel
theorem aX1_readClause_10 : i_at mX1_readClause.2.2.2.2.2 10 = some (.iload_n 2, 1, 0, 0, 0, 0) := by decide +kernel
theorem aX1_readClause_11 : i_at mX1_readClause.2.2.2.2.2 11 = some (.iconst (-1), 1, 0, 0, 0, 0) := by decide +kernel
theorem aX1_readClause_12 : i_at mX1_readClause.2.2.2.2.2 12 = some (.if_icmp .ne 19, 3, 31, 0, 0, 0) := by decide +kernel
theorem aX1_readClause_15 : i_at mX1_readClause.2.2.2.2.2 15 = some (.aload_n 0, 1, 0, 0, 0, 0) := by decide +kernel
theorem aX1_readClause_16 : i_at mX1_readClause.2.2.2.2.2 16 = some (.getfield 9, 3, 1, 0, 221, 0) := by decide +kernel
theorem aX1_readClause_19 : i_at mX1_readClause.2.2.2.2.2 19 = some (.aload_n 0, 1, 0, 0, 0, 0) := by decide +kernel
theorem aX1_readClause_20 : i_at mX1_readClause.2.2.2.2.2 20 = some (.getfield 9, 3, 1, 0, 221, 0) := by decide +kernel
theorem aX1_readClause_23 : i_at mX1_readClause.2.2.2.2.2 23 = some (.getfield 45, 3, 8, 2, 131, 0) := by decide +kernel
theorem aX1_readClause_26 : i_at mX1_readClause.2.2.2.2.2 26 = some (.iconst 0, 1, 0, 0, 0, 0) := by decide +kernel
theorem aX1_readClause_27 : i_at mX1_readClause.2.2.2.2.2 27 = some (.invokevirtual 48, 3, 77, 2, 588, 0) := by decide +kernel
theorem aX1_readClause_30 : i_at mX1_readClause.2.2.2.2.2 30 = some (.return_, 1, 0, 0, 0, 0) := by decide +kernel
theorem aX1_readClause_31 : i_at mX1_readClause.2.2.2.2.2 31 = some (.aload_n 0, 1, 0, 0, 0, 0) := by decide +kernel
theorem aX1_readClause_32 : i_at mX1_readClause.2.2.2.2.2 32 = some (.iload_n 2, 1, 0, 0, 0, 0) := by decide +kernel
theorem aX1_readClause_33 : i_at mX1_readClause.2.2.2.2.2 33 = some (.iload_n 1, 1, 0, 0, 0, 0) := by decide +kernel
theorem aX1_readClause_34 : i_at mX1_readClause.2.2.2.2.2 34 = some (.invokevirtual 58, 3, 8, 2, 592, 0) := by decide +kernel
theorem aX1_readClause_37 : i_at mX1_readClause.2.2.2.2.2 37 = some (.ifCond .eq 19, 3, 56, 0, 0, 0) := by decide +kernel
theorem aX1_readClause_40 : i_at mX1_readClause.2.2.2.2.2 40 = some (.aload_n 0, 1, 0, 0, 0, 0) := by decide +kernel
theorem aX1_readClause_41 : i_at mX1_readClause.2.2.2.2.2 41 = some (.getfield 9, 3, 1, 0, 221, 0) := by decide +kernel
theorem aX1_readClause_44 : i_at mX1_readClause.2.2.2.2.2 44 = some (.aload_n 0, 1, 0, 0, 0, 0) := by decide +kernel
theorem aX1_readClause_45 : i_at mX1_readClause.2.2.2.2.2 45 = some (.getfield 9, 3, 1, 0, 221, 0) := by decide +kernel
theorem aX1_readClause_48 : i_at mX1_readClause.2.2.2.2.2 48 = some (.getfield 45, 3, 8, 2, 131, 0) := by decide +kernel
theorem aX1_readClause_51 : i_at mX1_readClause.2.2.2.2.2 51 = some (.iconst 4, 1, 0, 0, 0, 0) := by decide +kernel
theorem aX1_readClause_52 : i_at mX1_readClause.2.2.2.2.2 52 = some (.invokevirtual 48, 3, 77, 2, 588, 0) := by decide +kernel
theorem aX1_readClause_55 : i_at mX1_readClause.2.2.2.2.2 55 = some (.return_, 1, 0, 0, 0, 0) := by decide +kernel
theorem aX1_readClause_56 : i_at mX1_readClause.2.2.2.2.2 56 = some (.aload_n 0, 1, 0, 0, 0, 0) := by decide +kernel
theorem aX1_readClause_57 : i_at mX1_readClause.2.2.2.2.2 57 = some (.getfield 9, 3, 1, 0, 221, 0) := by decide +kernel
theorem aX1_readClause_60 : i_at mX1_readClause.2.2.2.2.2 60 = some (.invokevirtual 62, 3, 83, 0, 596, 0) := by decide +kernel
theorem aX1_readClause_63 : i_at mX1_readClause.2.2.2.2.2 63 = some (.iload_n 2, 1, 0, 0, 0, 0) := by decide +kernel
theorem aX1_readClause_64 : i_at mX1_readClause.2.2.2.2.2 64 = some (.tableswitch 60 0 3 #[32, 39, 46, 53], 32, 0, 0, 0, 0) := by decide +kernel
theorem aX1_readClause_96 : i_at mX1_readClause.2.2.2.2.2 96 = some (.aload_n 0, 1, 0, 0, 0, 0) := by decide +kernel
theorem aX1_readClause_97 : i_at mX1_readClause.2.2.2.2.2 97 = some (.invokevirtual 65, 3, 9, 0, 600, 0) := by decide +kernel
theorem aX1_readClause_100 : i_at mX1_readClause.2.2.2.2.2 100 = some (.goto 28, 3, 128, 0, 0, 0) := by decide +kernel
theorem aX1_readClause_103 : i_at mX1_readClause.2.2.2.2.2 103 = some (.aload_n 0, 1, 0, 0, 0, 0) := by decide +kernel
theorem aX1_readClause_104 : i_at mX1_readClause.2.2.2.2.2 104 = some (.invokevirtual 68, 3, 10, 0, 609, 0) := by decide +kernel
theorem aX1_readClause_107 : i_at mX1_readClause.2.2.2.2.2 107 = some (.goto 21, 3, 128, 0, 0, 0) := by decide +kernel
theorem aX1_readClause_110 : i_at mX1_readClause.2.2.2.2.2 110 = some (.aload_n 0, 1, 0, 0, 0, 0) := by decide +kernel
theorem aX1_readClause_111 : i_at mX1_readClause.2.2.2.2.2 111 = some (.invokevirtual 71, 3, 11, 0, 613, 0) := by decide +kernel
theorem aX1_readClause_114 : i_at mX1_readClause.2.2.2.2.2 114 = some (.goto 14, 3, 128, 0, 0, 0) := by decide +kernel
theorem aX1_readClause_117 : i_at mX1_readClause.2.2.2.2.2 117 = some (.aload_n 0, 1, 0, 0, 0, 0) := by decide +kernel
theorem aX1_readClause_118 : i_at mX1_readClause.2.2.2.2.2 118 = some (.invokevirtual 74, 3, 12, 0, 617, 0) := by decide +kernel
theorem aX1_readClause_121 : i_at mX1_readClause.2.2.2.2.2 121 = some (.goto 7, 3, 128, 0, 0, 0) := by decide +kernel
theorem aX1_readClause_124 : i_at mX1_readClause.2.2.2.2.2 124 = some (.aload_n 0, 1, 0, 0, 0, 0) := by decide +kernel
theorem aX1_readClause_125 : i_at mX1_readClause.2.2.2.2.2 125 = some (.invokevirtual 77, 3, 13, 0, 621, 0) := by decide +kernel
theorem aX1_readClause_128 : i_at mX1_readClause.2.2.2.2.2 128 = some (.return_, 1, 0, 0, 0, 0) := by decide +kernel
noncomputable def fX1_readClause_J128 (sh : List kd) (p1 : Int32) (r1 : Int32) (s62 : St) : Option (Unit × St) := some ((), s62)
noncomputable def fX1_readClause (sh : List kd) (σ : St) (p1 : Int32) : Option (Unit × St) := i_bd (fX9_wordIn sh σ 0) (fun r1 s2 => if ¬ r1 = (-1) then i_bd (fX1_isOutOfPlace sh s2 r1 p1) (fun r5 s6 => if r5 = 0 then i_bd (fX9_skipWord sh s6) (fun r9 s10 => if r1 = 0 then i_bd (fX1_readCourt sh s10) (fun r64 s65 => fX1_readClause_J128 sh p1 r1 s65) else if r1 = 1 then i_bd (fX1_readThing sh s10) (fun r68 s69 => fX1_readClause_J128 sh p1 r1 s69) else if r1 = 2 then i_bd (fX1_readHolds sh s10) (fun r72 s73 => fX1_readClause_J128 sh p1 r1 s73) else if r1 = 3 then i_bd (fX1_readPerson sh s10) (fun r76 s77 => fX1_readClause_J128 sh p1 r1 s77) else i_bd (fX1_readQuarrel sh s10) (fun r79 s80 => fX1_readClause_J128 sh p1 r1 s80)) else i_bd (fX9_refuse sh s6 (s6.1 1 2) 4) (fun r83 s84 => some ((), s84))) else i_bd (fX9_refuse sh s2 (s2.1 1 2) 0) (fun r86 s87 => some ((), s87)))
set_option maxRecDepth 20000 in
set_option maxHeartbeats 2000000 in
theorem tX1_readClause_J128 {sh : List kd} {τ : St} {r : Unit} (hsh : cSh sh) {p1 : Int32} {r1 : Int32} {s62 : St} (hE : fX1_readClause_J128 sh p1 r1 s62 = some (r, τ)) : g_R sh 3 mX1_readClause none τ 128 [.ref 9, .int p1, .int r1] [] (s62) := by
  unfold fX1_readClause_J128 at hE
  cases hE
  exact g_vret aX1_readClause_128 rfl
set_option maxRecDepth 20000 in
set_option maxHeartbeats 2000000 in
theorem tX1_readClause {sh : List kd} {σ τ : St} {r : Unit} (hsh : cSh sh) {p1 : Int32} (hE : fX1_readClause sh σ p1 = some (r, τ)) : i_X 4 7 [.ref 9, .int p1] (s_h sh σ) 0 0 none (s_h sh τ) := by
  refine g_X (M := mX1_readClause) (loc := [.ref 9, .int p1, .retAddr 0]) rfl (Nat.le_of_ble_eq_true rfl) rfl ?_
  unfold fX1_readClause at hE
  refine g_ldan aX1_readClause_0 rfl ?_
  refine g_getR aX1_readClause_1 (sC_9 hsh) rfl ?_
  refine g_ldcS aX1_readClause_4 rfl ?_
  obtain ⟨r1, s2, h3, hE⟩ := i_bd_some hE
  refine g_calV (As := [.ref (i_SB + 0)]) (rest := []) aX1_readClause_6 (i_X_mono (by omega) (tX9_wordIn hsh h3)) (sC_1 hsh) (by decide +kernel) rfl rfl (Nat.le_of_ble_eq_true rfl) rfl ?_
  refine g_stin (loc2 := [.ref 9, .int p1, .int r1]) aX1_readClause_9 (Nat.le_of_ble_eq_true rfl) rfl ?_
  refine g_ldin aX1_readClause_10 rfl ?_
  refine g_iconst (x := (-1)) aX1_readClause_11 rfl ?_
  by_cases hc4 : ¬ r1 = (-1)
  · rw [if_pos hc4] at hE
    refine g_ic_ne_t aX1_readClause_12 hc4 ?_
    refine g_ldan aX1_readClause_31 rfl ?_
    refine g_ldin aX1_readClause_32 rfl ?_
    refine g_ldin aX1_readClause_33 rfl ?_
    obtain ⟨r5, s6, h7, hE⟩ := i_bd_some hE
    refine g_calV (As := [.int r1, .int p1]) (rest := []) aX1_readClause_34 (i_X_mono (by omega) (tX1_isOutOfPlace hsh h7)) (sC_9 hsh) (by decide +kernel) rfl rfl (Nat.le_of_ble_eq_true rfl) rfl ?_
    by_cases hc8 : r5 = 0
    · rw [if_pos hc8] at hE
      refine g_if_eq_t aX1_readClause_37 hc8 ?_
      refine g_ldan aX1_readClause_56 rfl ?_
      refine g_getR aX1_readClause_57 (sC_9 hsh) rfl ?_
      obtain ⟨r9, s10, h11, hE⟩ := i_bd_some hE
      refine g_calV (As := []) (rest := []) aX1_readClause_60 (i_X_mono (by omega) (tX9_skipWord hsh h11)) (sC_1 hsh) (by decide +kernel) rfl rfl (Nat.le_of_ble_eq_true rfl) rfl ?_
      refine g_ldin aX1_readClause_63 rfl ?_
      by_cases hc63 : r1 = 0
      · rw [if_pos hc63] at hE
        refine g_tabIn (i := 0) aX1_readClause_64 (by rw [hc63]; decide) (by decide) rfl rfl ?_
        refine g_ldan aX1_readClause_96 rfl ?_
        obtain ⟨r64, s65, h66, hE⟩ := i_bd_some hE
        refine g_calV (As := []) (rest := []) aX1_readClause_97 (i_X_mono (by omega) (tX1_readCourt hsh h66)) (sC_9 hsh) (by decide +kernel) rfl rfl (Nat.le_of_ble_eq_true rfl) rfl ?_
        refine g_goto aX1_readClause_100 ?_
        exact tX1_readClause_J128 hsh hE
      · rw [if_neg hc63] at hE
        by_cases hc67 : r1 = 1
        · rw [if_pos hc67] at hE
          refine g_tabIn (i := 1) aX1_readClause_64 (by rw [hc67]; decide) (by decide) rfl rfl ?_
          refine g_ldan aX1_readClause_103 rfl ?_
          obtain ⟨r68, s69, h70, hE⟩ := i_bd_some hE
          refine g_calV (As := []) (rest := []) aX1_readClause_104 (i_X_mono (by omega) (tX1_readThing hsh h70)) (sC_9 hsh) (by decide +kernel) rfl rfl (Nat.le_of_ble_eq_true rfl) rfl ?_
          refine g_goto aX1_readClause_107 ?_
          exact tX1_readClause_J128 hsh hE
        · rw [if_neg hc67] at hE
          by_cases hc71 : r1 = 2
          · rw [if_pos hc71] at hE
            refine g_tabIn (i := 2) aX1_readClause_64 (by rw [hc71]; decide) (by decide) rfl rfl ?_
            refine g_ldan aX1_readClause_110 rfl ?_
            obtain ⟨r72, s73, h74, hE⟩ := i_bd_some hE
            refine g_calV (As := []) (rest := []) aX1_readClause_111 (i_X_mono (by omega) (tX1_readHolds hsh h74)) (sC_9 hsh) (by decide +kernel) rfl rfl (Nat.le_of_ble_eq_true rfl) rfl ?_
            refine g_goto aX1_readClause_114 ?_
            exact tX1_readClause_J128 hsh hE
          · rw [if_neg hc71] at hE
            by_cases hc75 : r1 = 3
            · rw [if_pos hc75] at hE
              refine g_tabIn (i := 3) aX1_readClause_64 (by rw [hc75]; decide) (by decide) rfl rfl ?_
              refine g_ldan aX1_readClause_117 rfl ?_
              obtain ⟨r76, s77, h78, hE⟩ := i_bd_some hE
              refine g_calV (As := []) (rest := []) aX1_readClause_118 (i_X_mono (by omega) (tX1_readPerson hsh h78)) (sC_9 hsh) (by decide +kernel) rfl rfl (Nat.le_of_ble_eq_true rfl) rfl ?_
              refine g_goto aX1_readClause_121 ?_
              exact tX1_readClause_J128 hsh hE
            · rw [if_neg hc75] at hE
              have hto82 : r1.toInt < ((0 : Nat) : Int) ∨ ((3 : Nat) : Int) < r1.toInt := by
                refine i_tabo (x := r1) 0 3 (by decide) (fun k k1 k2 => ?_)
                rcases (show k = 0 ∨ k = 1 ∨ k = 2 ∨ k = 3 by omega) with rfl | rfl | rfl | rfl
                · exact fun hz => hc63 hz
                · exact fun hz => hc67 hz
                · exact fun hz => hc71 hz
                · exact fun hz => hc75 hz
              refine g_tabOut aX1_readClause_64 hto82 rfl ?_
              refine g_ldan aX1_readClause_124 rfl ?_
              obtain ⟨r79, s80, h81, hE⟩ := i_bd_some hE
              refine g_calV (As := []) (rest := []) aX1_readClause_125 (i_X_mono (by omega) (tX1_readQuarrel hsh h81)) (sC_9 hsh) (by decide +kernel) rfl rfl (Nat.le_of_ble_eq_true rfl) rfl ?_
              exact tX1_readClause_J128 hsh hE
    · rw [if_neg hc8] at hE
      refine g_if_eq_f aX1_readClause_37 hc8 ?_
      refine g_ldan aX1_readClause_40 rfl ?_
      refine g_getR aX1_readClause_41 (sC_9 hsh) rfl ?_
      refine g_ldan aX1_readClause_44 rfl ?_
      refine g_getR aX1_readClause_45 (sC_9 hsh) rfl ?_
      refine g_getI aX1_readClause_48 (sC_1 hsh) rfl ?_
      refine g_iconst (x := 4) aX1_readClause_51 rfl ?_
      obtain ⟨r83, s84, h85, hE⟩ := i_bd_some hE
      refine g_calV (As := [.int (s6.1 1 2), .int 4]) (rest := []) aX1_readClause_52 (i_X_mono (by omega) (tX9_refuse hsh h85)) (sC_1 hsh) (by decide +kernel) rfl rfl (Nat.le_of_ble_eq_true rfl) rfl ?_
      cases hE
      exact g_vret aX1_readClause_55 rfl
  · rw [if_neg hc4] at hE
    refine g_ic_ne_f aX1_readClause_12 hc4 ?_
    refine g_ldan aX1_readClause_15 rfl ?_
    refine g_getR aX1_readClause_16 (sC_9 hsh) rfl ?_
    refine g_ldan aX1_readClause_19 rfl ?_
    refine g_getR aX1_readClause_20 (sC_9 hsh) rfl ?_
    refine g_getI aX1_readClause_23 (sC_1 hsh) rfl ?_
    refine g_iconst (x := 0) aX1_readClause_26 rfl ?_
    obtain ⟨r86, s87, h88, hE⟩ := i_bd_some hE
    refine g_calV (As := [.int (s2.1 1 2), .int 0]) (rest := []) aX1_readClause_27 (i_X_mono (by omega) (tX9_refuse hsh h88)) (sC_1 hsh) (by decide +kernel) rfl rfl (Nat.le_of_ble_eq_true rfl) rfl ?_
    cases hE
    exact g_vret aX1_readClause_30 rfl
theorem aX3_bestHour_0 : i_at mX3_bestHour.2.2.2.2.2 0 = some (.aload_n 0, 1, 0, 0, 0, 0) := by decide +kernel
theorem aX3_bestHour_1 : i_at mX3_bestHour.2.2.2.2.2 1 = some (.getfield 39, 3, 2, 6, 435, 0) := by decide +kernel
theorem aX3_bestHour_4 : i_at mX3_bestHour.2.2.2.2.2 4 = some (.ifCond .ne 6, 3, 10, 0, 0, 0) := by decide +kernel
theorem aX3_bestHour_7 : i_at mX3_bestHour.2.2.2.2.2 7 = some (.bipush (-2), 2, 0, 0, 0, 0) := by decide +kernel
theorem aX3_bestHour_9 : i_at mX3_bestHour.2.2.2.2.2 9 = some (.ireturn, 1, 0, 0, 0, 0) := by decide +kernel
theorem aX3_bestHour_10 : i_at mX3_bestHour.2.2.2.2.2 10 = some (.iconst 0, 1, 0, 0, 0, 0) := by decide +kernel
theorem aX3_bestHour_11 : i_at mX3_bestHour.2.2.2.2.2 11 = some (.istore_n 2, 1, 0, 0, 0, 0) := by decide +kernel
theorem aX3_bestHour_12 : i_at mX3_bestHour.2.2.2.2.2 12 = some (.bipush 8, 2, 0, 0, 0, 0) := by decide +kernel
theorem aX3_bestHour_14 : i_at mX3_bestHour.2.2.2.2.2 14 = some (.istore_n 3, 1, 0, 0, 0, 0) := by decide +kernel
theorem aX3_bestHour_15 : i_at mX3_bestHour.2.2.2.2.2 15 = some (.iconst 0, 1, 0, 0, 0, 0) := by decide +kernel
theorem aX3_bestHour_16 : i_at mX3_bestHour.2.2.2.2.2 16 = some (.istore 4, 2, 0, 0, 0, 0) := by decide +kernel
theorem aX3_bestHour_18 : i_at mX3_bestHour.2.2.2.2.2 18 = some (.iload 4, 2, 0, 0, 0, 0) := by decide +kernel
theorem aX3_bestHour_20 : i_at mX3_bestHour.2.2.2.2.2 20 = some (.bipush 60, 2, 0, 0, 0, 0) := by decide +kernel
theorem aX3_bestHour_22 : i_at mX3_bestHour.2.2.2.2.2 22 = some (.if_icmp .gt 29, 3, 51, 0, 0, 0) := by decide +kernel
theorem aX3_bestHour_25 : i_at mX3_bestHour.2.2.2.2.2 25 = some (.aload_n 0, 1, 0, 0, 0, 0) := by decide +kernel
theorem aX3_bestHour_26 : i_at mX3_bestHour.2.2.2.2.2 26 = some (.iload 4, 2, 0, 0, 0, 0) := by decide +kernel
theorem aX3_bestHour_28 : i_at mX3_bestHour.2.2.2.2.2 28 = some (.invokevirtual 79, 3, 24, 1, 1039, 0) := by decide +kernel
theorem aX3_bestHour_31 : i_at mX3_bestHour.2.2.2.2.2 31 = some (.istore 5, 2, 0, 0, 0, 0) := by decide +kernel
theorem aX3_bestHour_33 : i_at mX3_bestHour.2.2.2.2.2 33 = some (.iload 5, 2, 0, 0, 0, 0) := by decide +kernel
theorem aX3_bestHour_35 : i_at mX3_bestHour.2.2.2.2.2 35 = some (.iload_n 3, 1, 0, 0, 0, 0) := by decide +kernel
theorem aX3_bestHour_36 : i_at mX3_bestHour.2.2.2.2.2 36 = some (.if_icmp .ge 9, 3, 45, 0, 0, 0) := by decide +kernel
theorem aX3_bestHour_39 : i_at mX3_bestHour.2.2.2.2.2 39 = some (.iload 5, 2, 0, 0, 0, 0) := by decide +kernel
theorem aX3_bestHour_41 : i_at mX3_bestHour.2.2.2.2.2 41 = some (.istore_n 3, 1, 0, 0, 0, 0) := by decide +kernel
theorem aX3_bestHour_42 : i_at mX3_bestHour.2.2.2.2.2 42 = some (.iload 4, 2, 0, 0, 0, 0) := by decide +kernel
theorem aX3_bestHour_44 : i_at mX3_bestHour.2.2.2.2.2 44 = some (.istore_n 2, 1, 0, 0, 0, 0) := by decide +kernel
theorem aX3_bestHour_45 : i_at mX3_bestHour.2.2.2.2.2 45 = some (.iinc 4 1, 3, 0, 0, 0, 0) := by decide +kernel
theorem aX3_bestHour_48 : i_at mX3_bestHour.2.2.2.2.2 48 = some (.goto (-30), 3, 18, 0, 0, 0) := by decide +kernel
theorem aX3_bestHour_51 : i_at mX3_bestHour.2.2.2.2.2 51 = some (.iload_n 1, 1, 0, 0, 0, 0) := by decide +kernel
theorem aX3_bestHour_52 : i_at mX3_bestHour.2.2.2.2.2 52 = some (.ifCond .eq 7, 3, 59, 0, 0, 0) := by decide +kernel
theorem aX3_bestHour_55 : i_at mX3_bestHour.2.2.2.2.2 55 = some (.iload_n 2, 1, 0, 0, 0, 0) := by decide +kernel
theorem aX3_bestHour_56 : i_at mX3_bestHour.2.2.2.2.2 56 = some (.goto 4, 3, 60, 0, 0, 0) := by decide +kernel
theorem aX3_bestHour_59 : i_at mX3_bestHour.2.2.2.2.2 59 = some (.iload_n 3, 1, 0, 0, 0, 0) := by decide +kernel
theorem aX3_bestHour_60 : i_at mX3_bestHour.2.2.2.2.2 60 = some (.ireturn, 1, 0, 0, 0, 0) := by decide +kernel
noncomputable def fX3_bestHour_J45 (sh : List kd) (p1 : Int32) (x4 : Int32) (r64 : Int32) (s65 : St) (k18 : Int32 → Int32 → Int32 → Value → St → Option (Int32 × St)) (x117 : Int32) (x118 : Int32) : Option (Int32 × St) := k18 x117 x118 (x4 + 1) (.int r64) s65
noncomputable def fX3_bestHour_L18 (sh : List kd) (p1 : Int32) (k51 : Int32 → Int32 → Int32 → Value → St → Option (Int32 × St)) : Nat → Int32 → Int32 → Int32 → Value → St → Option (Int32 × St)
  | 0, _, _, _, _, _ => none
  | n62 + 1, x2, x3, x4, x5, s6 => if 60 < x4 then k51 x2 x3 x4 x5 s6 else i_bd (fX3_mostAlike sh s6 x4) (fun r64 s65 => if x3 ≤ r64 then fX3_bestHour_J45 sh p1 x4 r64 s65 (fX3_bestHour_L18 sh p1 k51 n62) x2 x3 else fX3_bestHour_J45 sh p1 x4 r64 s65 (fX3_bestHour_L18 sh p1 k51 n62) x4 r64)
noncomputable def fX3_bestHour_X51 (sh : List kd) (p1 : Int32) (x57 : Int32) (x58 : Int32) (x59 : Int32) (x60 : Value) (s61 : St) : Option (Int32 × St) := some (((if p1 = 0 then x58 else x57) : Int32), s61)
noncomputable def fX3_bestHour (sh : List kd) (σ : St) (p1 : Int32) : Option (Int32 × St) := if ¬ (σ.1 143 6) = 0 then fX3_bestHour_L18 sh p1 (fun (x57 : Int32) (x58 : Int32) (x59 : Int32) (x60 : Value) (s61 : St) => fX3_bestHour_X51 sh p1 x57 x58 x59 x60 s61) i_F 0 8 0 (.retAddr 0) σ else some ((-2), σ)
set_option maxRecDepth 20000 in
set_option maxHeartbeats 2000000 in
theorem tX3_bestHour_J45 {sh : List kd} {τ : St} {r : Int32} (hsh : cSh sh) {p1 : Int32} {x4 : Int32} {r64 : Int32} {s65 : St} {x117 : Int32} {x118 : Int32} {k18 : Int32 → Int32 → Int32 → Value → St → Option (Int32 × St)} (hk18 : ∀ (x2 : Int32) (x3 : Int32) (x4 : Int32) (x5 : Value) (s6 : St), k18 x2 x3 x4 x5 s6 = some (r, τ) → g_R sh 2 mX3_bestHour (some (.int r)) τ 18 [.ref 143, .int p1, .int x2, .int x3, .int x4, x5] [] (s6)) (hE : fX3_bestHour_J45 sh p1 x4 r64 s65 k18 x117 x118 = some (r, τ)) : g_R sh 2 mX3_bestHour (some (.int r)) τ 45 [.ref 143, .int p1, .int x117, .int x118, .int x4, .int r64] [] (s65) := by
  unfold fX3_bestHour_J45 at hE
  refine g_iinc (y := 1) (loc2 := [.ref 143, .int p1, .int x117, .int x118, .int (x4 + 1), .int r64]) aX3_bestHour_45 rfl rfl rfl ?_
  refine g_goto aX3_bestHour_48 ?_
  exact hk18 _ _ _ _ _ hE
set_option maxRecDepth 20000 in
set_option maxHeartbeats 2000000 in
theorem tX3_bestHour_L18 {sh : List kd} {τ : St} {r : Int32} (hsh : cSh sh) {p1 : Int32} {k51 : Int32 → Int32 → Int32 → Value → St → Option (Int32 × St)} (hk51 : ∀ (x57 : Int32) (x58 : Int32) (x59 : Int32) (x60 : Value) (s61 : St), k51 x57 x58 x59 x60 s61 = some (r, τ) → g_R sh 2 mX3_bestHour (some (.int r)) τ 51 [.ref 143, .int p1, .int x57, .int x58, .int x59, x60] [] (s61)) : ∀ (n0 : Nat) (x2 : Int32) (x3 : Int32) (x4 : Int32) (x5 : Value) (s6 : St), fX3_bestHour_L18 sh p1 k51 n0 x2 x3 x4 x5 s6 = some (r, τ) → g_R sh 2 mX3_bestHour (some (.int r)) τ 18 [.ref 143, .int p1, .int x2, .int x3, .int x4, x5] [] (s6) := by
  intro n0
  induction n0 with
  | zero => intro _ _ _ _ _ hE; cases hE
  | succ n62 ih =>
    intro x2 x3 x4 x5 s6 hE
    unfold fX3_bestHour_L18 at hE
    refine g_ldi aX3_bestHour_18 rfl ?_
    refine g_bipush (x := 60) aX3_bestHour_20 rfl ?_
    by_cases hc63 : 60 < x4
    · rw [if_pos hc63] at hE
      refine g_ic_gt_t aX3_bestHour_22 hc63 ?_
      exact hk51 _ _ _ _ _ hE
    · rw [if_neg hc63] at hE
      refine g_ic_gt_f aX3_bestHour_22 hc63 ?_
      refine g_ldan aX3_bestHour_25 rfl ?_
      refine g_ldi aX3_bestHour_26 rfl ?_
      obtain ⟨r64, s65, h66, hE⟩ := i_bd_some hE
      refine g_calV (As := [.int x4]) (rest := []) aX3_bestHour_28 (i_X_mono (by omega) (tX3_mostAlike hsh h66)) (sC_143 hsh) (by decide +kernel) rfl rfl (Nat.le_of_ble_eq_true rfl) rfl ?_
      refine g_sti (loc2 := [.ref 143, .int p1, .int x2, .int x3, .int x4, .int r64]) aX3_bestHour_31 (Nat.le_of_ble_eq_true rfl) rfl ?_
      refine g_ldi aX3_bestHour_33 rfl ?_
      refine g_ldin aX3_bestHour_35 rfl ?_
      by_cases hc119 : x3 ≤ r64
      · rw [if_pos hc119] at hE
        refine g_ic_ge_t aX3_bestHour_36 hc119 ?_
        exact tX3_bestHour_J45 hsh ih hE
      · rw [if_neg hc119] at hE
        refine g_ic_ge_f aX3_bestHour_36 hc119 ?_
        refine g_ldi aX3_bestHour_39 rfl ?_
        refine g_stin (loc2 := [.ref 143, .int p1, .int x2, .int r64, .int x4, .int r64]) aX3_bestHour_41 (Nat.le_of_ble_eq_true rfl) rfl ?_
        refine g_ldi aX3_bestHour_42 rfl ?_
        refine g_stin (loc2 := [.ref 143, .int p1, .int x4, .int r64, .int x4, .int r64]) aX3_bestHour_44 (Nat.le_of_ble_eq_true rfl) rfl ?_
        exact tX3_bestHour_J45 hsh ih hE
set_option maxRecDepth 20000 in
set_option maxHeartbeats 2000000 in
theorem tX3_bestHour_X51 {sh : List kd} {τ : St} {r : Int32} (hsh : cSh sh) {p1 : Int32} {x57 : Int32} {x58 : Int32} {x59 : Int32} {x60 : Value} {s61 : St} (hE : fX3_bestHour_X51 sh p1 x57 x58 x59 x60 s61 = some (r, τ)) : g_R sh 2 mX3_bestHour (some (.int r)) τ 51 [.ref 143, .int p1, .int x57, .int x58, .int x59, x60] [] (s61) := by
  unfold fX3_bestHour_X51 at hE
  refine g_ldin aX3_bestHour_51 rfl ?_
  have hJ : g_R sh 2 mX3_bestHour (some (.int r)) τ 60 [.ref 143, .int p1, .int x57, .int x58, .int x59, x60] [.int ((if p1 = 0 then x58 else x57) : Int32)] (s61) := by
    cases hE
    exact g_iret aX3_bestHour_60 rfl rfl
  clear hE
  by_cases hc119 : p1 = 0
  · (try rw [if_pos hc119] at hJ)
    refine g_if_eq_t aX3_bestHour_52 hc119 ?_
    refine g_ldin aX3_bestHour_59 rfl ?_
    exact hJ
  · (try rw [if_neg hc119] at hJ)
    refine g_if_eq_f aX3_bestHour_52 hc119 ?_
    refine g_ldin aX3_bestHour_55 rfl ?_
    refine g_goto aX3_bestHour_56 ?_
    exact hJ
set_option maxRecDepth 20000 in
set_option maxHeartbeats 2000000 in
theorem tX3_bestHour {sh : List kd} {σ τ : St} {r : Int32} (hsh : cSh sh) {p1 : Int32} (hE : fX3_bestHour sh σ p1 = some (r, τ)) : i_X 3 23 [.ref 143, .int p1] (s_h sh σ) 0 0 (some (.int r)) (s_h sh τ) := by
  refine g_X (M := mX3_bestHour) (loc := [.ref 143, .int p1, .retAddr 0, .retAddr 0, .retAddr 0, .retAddr 0]) rfl (Nat.le_of_ble_eq_true rfl) rfl ?_
  unfold fX3_bestHour at hE
  refine g_ldan aX3_bestHour_0 rfl ?_
  refine g_getI aX3_bestHour_1 (sC_143 hsh) rfl ?_
  by_cases hc1 : ¬ (σ.1 143 6) = 0
  · rw [if_pos hc1] at hE
    refine g_if_ne_t aX3_bestHour_4 hc1 ?_
    refine g_iconst (x := 0) aX3_bestHour_10 rfl ?_
    refine g_stin (loc2 := [.ref 143, .int p1, .int 0, .retAddr 0, .retAddr 0, .retAddr 0]) aX3_bestHour_11 (Nat.le_of_ble_eq_true rfl) rfl ?_
    refine g_bipush (x := 8) aX3_bestHour_12 rfl ?_
    refine g_stin (loc2 := [.ref 143, .int p1, .int 0, .int 8, .retAddr 0, .retAddr 0]) aX3_bestHour_14 (Nat.le_of_ble_eq_true rfl) rfl ?_
    refine g_iconst (x := 0) aX3_bestHour_15 rfl ?_
    refine g_sti (loc2 := [.ref 143, .int p1, .int 0, .int 8, .int 0, .retAddr 0]) aX3_bestHour_16 (Nat.le_of_ble_eq_true rfl) rfl ?_
    exact tX3_bestHour_L18 hsh (fun x57 x58 x59 x60 s61 hE => tX3_bestHour_X51 hsh hE) i_F _ _ _ _ _ hE
  · rw [if_neg hc1] at hE
    refine g_if_ne_f aX3_bestHour_4 hc1 ?_
    refine g_bipush (x := (-2)) aX3_bestHour_7 rfl ?_
    cases hE
    exact g_iret aX3_bestHour_9 rfl rfl
theorem aX7_worth_0 : i_at mX7_worth.2.2.2.2.2 0 = some (.iconst 0, 1, 0, 0, 0, 0) := by decide +kernel
theorem aX7_worth_1 : i_at mX7_worth.2.2.2.2.2 1 = some (.istore_n 3, 1, 0, 0, 0, 0) := by decide +kernel
theorem aX7_worth_2 : i_at mX7_worth.2.2.2.2.2 2 = some (.iconst 0, 1, 0, 0, 0, 0) := by decide +kernel
theorem aX7_worth_3 : i_at mX7_worth.2.2.2.2.2 3 = some (.istore 4, 2, 0, 0, 0, 0) := by decide +kernel
theorem aX7_worth_5 : i_at mX7_worth.2.2.2.2.2 5 = some (.iload 4, 2, 0, 0, 0, 0) := by decide +kernel
theorem aX7_worth_7 : i_at mX7_worth.2.2.2.2.2 7 = some (.aload_n 0, 1, 0, 0, 0, 0) := by decide +kernel
theorem aX7_worth_8 : i_at mX7_worth.2.2.2.2.2 8 = some (.getfield 16, 3, 6, 2, 738, 0) := by decide +kernel
theorem aX7_worth_11 : i_at mX7_worth.2.2.2.2.2 11 = some (.arraylength, 1, 0, 0, 0, 0) := by decide +kernel
theorem aX7_worth_12 : i_at mX7_worth.2.2.2.2.2 12 = some (.if_icmp .ge 96, 3, 108, 0, 0, 0) := by decide +kernel
theorem aX7_worth_15 : i_at mX7_worth.2.2.2.2.2 15 = some (.iload 4, 2, 0, 0, 0, 0) := by decide +kernel
theorem aX7_worth_17 : i_at mX7_worth.2.2.2.2.2 17 = some (.aload_n 0, 1, 0, 0, 0, 0) := by decide +kernel
theorem aX7_worth_18 : i_at mX7_worth.2.2.2.2.2 18 = some (.getfield 19, 3, 6, 3, 739, 0) := by decide +kernel
theorem aX7_worth_21 : i_at mX7_worth.2.2.2.2.2 21 = some (.arraylength, 1, 0, 0, 0, 0) := by decide +kernel
theorem aX7_worth_22 : i_at mX7_worth.2.2.2.2.2 22 = some (.if_icmp .ge 86, 3, 108, 0, 0, 0) := by decide +kernel
theorem aX7_worth_25 : i_at mX7_worth.2.2.2.2.2 25 = some (.aload_n 0, 1, 0, 0, 0, 0) := by decide +kernel
theorem aX7_worth_26 : i_at mX7_worth.2.2.2.2.2 26 = some (.getfield 19, 3, 6, 3, 739, 0) := by decide +kernel
theorem aX7_worth_29 : i_at mX7_worth.2.2.2.2.2 29 = some (.iload 4, 2, 0, 0, 0, 0) := by decide +kernel
theorem aX7_worth_31 : i_at mX7_worth.2.2.2.2.2 31 = some (.iaload, 1, 0, 0, 0, 0) := by decide +kernel
theorem aX7_worth_32 : i_at mX7_worth.2.2.2.2.2 32 = some (.aload_n 0, 1, 0, 0, 0, 0) := by decide +kernel
theorem aX7_worth_33 : i_at mX7_worth.2.2.2.2.2 33 = some (.getfield 16, 3, 6, 2, 738, 0) := by decide +kernel
theorem aX7_worth_36 : i_at mX7_worth.2.2.2.2.2 36 = some (.iload 4, 2, 0, 0, 0, 0) := by decide +kernel
theorem aX7_worth_38 : i_at mX7_worth.2.2.2.2.2 38 = some (.iaload, 1, 0, 0, 0, 0) := by decide +kernel
theorem aX7_worth_39 : i_at mX7_worth.2.2.2.2.2 39 = some (.if_icmp .le 7, 3, 46, 0, 0, 0) := by decide +kernel
theorem aX7_worth_42 : i_at mX7_worth.2.2.2.2.2 42 = some (.iconst 1, 1, 0, 0, 0, 0) := by decide +kernel
theorem aX7_worth_43 : i_at mX7_worth.2.2.2.2.2 43 = some (.goto 4, 3, 47, 0, 0, 0) := by decide +kernel
theorem aX7_worth_46 : i_at mX7_worth.2.2.2.2.2 46 = some (.iconst 0, 1, 0, 0, 0, 0) := by decide +kernel
theorem aX7_worth_47 : i_at mX7_worth.2.2.2.2.2 47 = some (.istore 5, 2, 0, 0, 0, 0) := by decide +kernel
theorem aX7_worth_49 : i_at mX7_worth.2.2.2.2.2 49 = some (.iload 5, 2, 0, 0, 0, 0) := by decide +kernel
theorem aX7_worth_51 : i_at mX7_worth.2.2.2.2.2 51 = some (.ifCond .eq 28, 3, 79, 0, 0, 0) := by decide +kernel
theorem aX7_worth_54 : i_at mX7_worth.2.2.2.2.2 54 = some (.aload_n 0, 1, 0, 0, 0, 0) := by decide +kernel
theorem aX7_worth_55 : i_at mX7_worth.2.2.2.2.2 55 = some (.aload_n 0, 1, 0, 0, 0, 0) := by decide +kernel
theorem aX7_worth_56 : i_at mX7_worth.2.2.2.2.2 56 = some (.getfield 16, 3, 6, 2, 738, 0) := by decide +kernel
theorem aX7_worth_59 : i_at mX7_worth.2.2.2.2.2 59 = some (.iload 4, 2, 0, 0, 0, 0) := by decide +kernel
theorem aX7_worth_61 : i_at mX7_worth.2.2.2.2.2 61 = some (.iaload, 1, 0, 0, 0, 0) := by decide +kernel
theorem aX7_worth_62 : i_at mX7_worth.2.2.2.2.2 62 = some (.aload_n 0, 1, 0, 0, 0, 0) := by decide +kernel
theorem aX7_worth_63 : i_at mX7_worth.2.2.2.2.2 63 = some (.getfield 19, 3, 6, 3, 739, 0) := by decide +kernel
theorem aX7_worth_66 : i_at mX7_worth.2.2.2.2.2 66 = some (.iload 4, 2, 0, 0, 0, 0) := by decide +kernel
theorem aX7_worth_68 : i_at mX7_worth.2.2.2.2.2 68 = some (.iaload, 1, 0, 0, 0, 0) := by decide +kernel
theorem aX7_worth_69 : i_at mX7_worth.2.2.2.2.2 69 = some (.aload_n 1, 1, 0, 0, 0, 0) := by decide +kernel
theorem aX7_worth_70 : i_at mX7_worth.2.2.2.2.2 70 = some (.aload_n 2, 1, 0, 0, 0, 0) := by decide +kernel
theorem aX7_worth_71 : i_at mX7_worth.2.2.2.2.2 71 = some (.invokevirtual 22, 3, 59, 4, 831, 0) := by decide +kernel
theorem aX7_worth_74 : i_at mX7_worth.2.2.2.2.2 74 = some (.lconst 0, 1, 0, 0, 0, 0) := by decide +kernel
theorem aX7_worth_75 : i_at mX7_worth.2.2.2.2.2 75 = some (.lcmp, 1, 0, 0, 0, 0) := by decide +kernel
theorem aX7_worth_76 : i_at mX7_worth.2.2.2.2.2 76 = some (.ifCond .eq 18, 3, 94, 0, 0, 0) := by decide +kernel
theorem aX7_worth_79 : i_at mX7_worth.2.2.2.2.2 79 = some (.aload_n 0, 1, 0, 0, 0, 0) := by decide +kernel
theorem aX7_worth_80 : i_at mX7_worth.2.2.2.2.2 80 = some (.iload_n 3, 1, 0, 0, 0, 0) := by decide +kernel
theorem aX7_worth_81 : i_at mX7_worth.2.2.2.2.2 81 = some (.aload_n 0, 1, 0, 0, 0, 0) := by decide +kernel
theorem aX7_worth_82 : i_at mX7_worth.2.2.2.2.2 82 = some (.getfield 16, 3, 6, 2, 738, 0) := by decide +kernel
theorem aX7_worth_85 : i_at mX7_worth.2.2.2.2.2 85 = some (.iload 4, 2, 0, 0, 0, 0) := by decide +kernel
theorem aX7_worth_87 : i_at mX7_worth.2.2.2.2.2 87 = some (.iaload, 1, 0, 0, 0, 0) := by decide +kernel
theorem aX7_worth_88 : i_at mX7_worth.2.2.2.2.2 88 = some (.aload_n 1, 1, 0, 0, 0, 0) := by decide +kernel
theorem aX7_worth_89 : i_at mX7_worth.2.2.2.2.2 89 = some (.aload_n 2, 1, 0, 0, 0, 0) := by decide +kernel
theorem aX7_worth_90 : i_at mX7_worth.2.2.2.2.2 90 = some (.invokevirtual 22, 3, 59, 4, 831, 0) := by decide +kernel
theorem aX7_worth_93 : i_at mX7_worth.2.2.2.2.2 93 = some (.lreturn, 1, 0, 0, 0, 0) := by decide +kernel
theorem aX7_worth_94 : i_at mX7_worth.2.2.2.2.2 94 = some (.aload_n 0, 1, 0, 0, 0, 0) := by decide +kernel
theorem aX7_worth_95 : i_at mX7_worth.2.2.2.2.2 95 = some (.getfield 19, 3, 6, 3, 739, 0) := by decide +kernel
theorem aX7_worth_98 : i_at mX7_worth.2.2.2.2.2 98 = some (.iload 4, 2, 0, 0, 0, 0) := by decide +kernel
theorem aX7_worth_100 : i_at mX7_worth.2.2.2.2.2 100 = some (.iaload, 1, 0, 0, 0, 0) := by decide +kernel
theorem aX7_worth_101 : i_at mX7_worth.2.2.2.2.2 101 = some (.istore_n 3, 1, 0, 0, 0, 0) := by decide +kernel
theorem aX7_worth_102 : i_at mX7_worth.2.2.2.2.2 102 = some (.iinc 4 1, 3, 0, 0, 0, 0) := by decide +kernel
theorem aX7_worth_105 : i_at mX7_worth.2.2.2.2.2 105 = some (.goto (-100), 3, 5, 0, 0, 0) := by decide +kernel
theorem aX7_worth_108 : i_at mX7_worth.2.2.2.2.2 108 = some (.lconst 0, 1, 0, 0, 0, 0) := by decide +kernel
theorem aX7_worth_109 : i_at mX7_worth.2.2.2.2.2 109 = some (.lreturn, 1, 0, 0, 0, 0) := by decide +kernel
noncomputable def fX7_worth_L5 (sh : List kd) (p0 : Nat) (p1 : Nat) (p2 : Nat) (k79 : Int32 → Int32 → Int32 → St → Option (Int64 × St)) : Nat → Int32 → Int32 → Value → St → Option (Int64 × St)
  | 0, _, _, _, _ => none
  | n59 + 1, x1, x2, x3, s4 => i_al sh .int (p0 + 3) (fun n60 => if (Int32.ofNat n60) ≤ x2 then some (0, s4) else i_al sh .int (p0 + 4) (fun n63 => if (Int32.ofNat n63) ≤ x2 then some (0, s4) else i_al sh .int (p0 + 4) (fun n66 => if i_ok x2 n66 then i_al sh .int (p0 + 3) (fun n69 => if i_ok x2 n69 then if ((if (s4.2.1 (p0 + 4) x2.toNatClampNeg) ≤ (s4.2.1 (p0 + 3) x2.toNatClampNeg) then 0 else 1) : Int32) = 0 then k79 x1 x2 ((if (s4.2.1 (p0 + 4) x2.toNatClampNeg) ≤ (s4.2.1 (p0 + 3) x2.toNatClampNeg) then 0 else 1) : Int32) s4 else i_al sh .int (p0 + 3) (fun n73 => if i_ok x2 n73 then i_al sh .int (p0 + 4) (fun n76 => if i_ok x2 n76 then i_bd (fX7_outcome sh s4 p0 (s4.2.1 (p0 + 3) x2.toNatClampNeg) (s4.2.1 (p0 + 4) x2.toNatClampNeg) p1 p2) (fun r79 s80 => if (lg_cmp r79 0) = 0 then i_al sh .int (p0 + 4) (fun n83 => if i_ok x2 n83 then (fX7_worth_L5 sh p0 p1 p2 k79 n59 (s80.2.1 (p0 + 4) x2.toNatClampNeg) (x2 + 1) (.int ((if (s4.2.1 (p0 + 4) x2.toNatClampNeg) ≤ (s4.2.1 (p0 + 3) x2.toNatClampNeg) then 0 else 1) : Int32)) s80) else none) else k79 x1 x2 ((if (s4.2.1 (p0 + 4) x2.toNatClampNeg) ≤ (s4.2.1 (p0 + 3) x2.toNatClampNeg) then 0 else 1) : Int32) s80) else none) else none) else none) else none)))
noncomputable def fX7_worth_X79 (sh : List kd) (p0 : Nat) (p1 : Nat) (p2 : Nat) (x55 : Int32) (x56 : Int32) (x57 : Int32) (s58 : St) : Option (Int64 × St) := i_al sh .int (p0 + 3) (fun n87 => if i_ok x56 n87 then i_bd (fX7_outcome sh s58 p0 x55 (s58.2.1 (p0 + 3) x56.toNatClampNeg) p1 p2) (fun r90 s91 => some (r90, s91)) else none)
noncomputable def fX7_worth (sh : List kd) (σ : St) (p0 : Nat) (p1 : Nat) (p2 : Nat) : Option (Int64 × St) := fX7_worth_L5 sh p0 p1 p2 (fun (x55 : Int32) (x56 : Int32) (x57 : Int32) (s58 : St) => fX7_worth_X79 sh p0 p1 p2 x55 x56 x57 s58) i_F 0 0 (.retAddr 0) σ
set_option maxRecDepth 20000 in
set_option maxHeartbeats 2000000 in
theorem tX7_worth_L5 {sh : List kd} {τ : St} {r : Int64} (hsh : cSh sh) {p0 : Nat} {p1 : Nat} {p2 : Nat} {k79 : Int32 → Int32 → Int32 → St → Option (Int64 × St)} (hp0 : uSh sh p0) (hk79 : ∀ (x55 : Int32) (x56 : Int32) (x57 : Int32) (s58 : St), k79 x55 x56 x57 s58 = some (r, τ) → g_R sh 2 mX7_worth (some (.long r)) τ 79 [.ref p0, .ref p1, .ref p2, .int x55, .int x56, .int x57] [] (s58)) : ∀ (n0 : Nat) (x1 : Int32) (x2 : Int32) (x3 : Value) (s4 : St), fX7_worth_L5 sh p0 p1 p2 k79 n0 x1 x2 x3 s4 = some (r, τ) → g_R sh 2 mX7_worth (some (.long r)) τ 5 [.ref p0, .ref p1, .ref p2, .int x1, .int x2, x3] [] (s4) := by
  intro n0
  induction n0 with
  | zero => intro _ _ _ _ hE; cases hE
  | succ n59 ih =>
    intro x1 x2 x3 s4 hE
    unfold fX7_worth_L5 at hE
    refine g_ldi aX7_worth_5 rfl ?_
    refine g_ldan aX7_worth_7 rfl ?_
    refine g_getR aX7_worth_8 (hp0) rfl ?_
    obtain ⟨n60, h61, hE⟩ := i_al_some hE
    refine g_len aX7_worth_11 h61 ?_
    by_cases hc62 : (Int32.ofNat n60) ≤ x2
    · rw [if_pos hc62] at hE
      refine g_ic_ge_t aX7_worth_12 hc62 ?_
      refine g_lconst (x := 0) aX7_worth_108 rfl ?_
      cases hE
      exact g_lret aX7_worth_109 rfl
    · rw [if_neg hc62] at hE
      refine g_ic_ge_f aX7_worth_12 hc62 ?_
      refine g_ldi aX7_worth_15 rfl ?_
      refine g_ldan aX7_worth_17 rfl ?_
      refine g_getR aX7_worth_18 (hp0) rfl ?_
      obtain ⟨n63, h64, hE⟩ := i_al_some hE
      refine g_len aX7_worth_21 h64 ?_
      by_cases hc65 : (Int32.ofNat n63) ≤ x2
      · rw [if_pos hc65] at hE
        refine g_ic_ge_t aX7_worth_22 hc65 ?_
        refine g_lconst (x := 0) aX7_worth_108 rfl ?_
        cases hE
        exact g_lret aX7_worth_109 rfl
      · rw [if_neg hc65] at hE
        refine g_ic_ge_f aX7_worth_22 hc65 ?_
        refine g_ldan aX7_worth_25 rfl ?_
        refine g_getR aX7_worth_26 (hp0) rfl ?_
        refine g_ldi aX7_worth_29 rfl ?_
        obtain ⟨n66, h67, hE⟩ := i_al_some hE
        obtain ⟨h68, hE⟩ := i_ifn hE
        refine g_ild aX7_worth_31 (h67) h68 ?_
        refine g_ldan aX7_worth_32 rfl ?_
        refine g_getR aX7_worth_33 (hp0) rfl ?_
        refine g_ldi aX7_worth_36 rfl ?_
        obtain ⟨n69, h70, hE⟩ := i_al_some hE
        obtain ⟨h71, hE⟩ := i_ifn hE
        refine g_ild aX7_worth_38 (h70) h71 ?_
        have hJ : g_R sh 2 mX7_worth (some (.long r)) τ 47 [.ref p0, .ref p1, .ref p2, .int x1, .int x2, x3] [.int ((if (s4.2.1 (p0 + 4) x2.toNatClampNeg) ≤ (s4.2.1 (p0 + 3) x2.toNatClampNeg) then 0 else 1) : Int32)] (s4) := by
          refine g_sti (loc2 := [.ref p0, .ref p1, .ref p2, .int x1, .int x2, .int ((if (s4.2.1 (p0 + 4) x2.toNatClampNeg) ≤ (s4.2.1 (p0 + 3) x2.toNatClampNeg) then 0 else 1) : Int32)]) aX7_worth_47 (Nat.le_of_ble_eq_true rfl) rfl ?_
          refine g_ldi aX7_worth_49 rfl ?_
          by_cases hc72 : ((if (s4.2.1 (p0 + 4) x2.toNatClampNeg) ≤ (s4.2.1 (p0 + 3) x2.toNatClampNeg) then 0 else 1) : Int32) = 0
          · rw [if_pos hc72] at hE
            refine g_if_eq_t aX7_worth_51 hc72 ?_
            exact hk79 _ _ _ _ hE
          · rw [if_neg hc72] at hE
            refine g_if_eq_f aX7_worth_51 hc72 ?_
            refine g_ldan aX7_worth_54 rfl ?_
            refine g_ldan aX7_worth_55 rfl ?_
            refine g_getR aX7_worth_56 (hp0) rfl ?_
            refine g_ldi aX7_worth_59 rfl ?_
            obtain ⟨n73, h74, hE⟩ := i_al_some hE
            obtain ⟨h75, hE⟩ := i_ifn hE
            refine g_ild aX7_worth_61 (h74) h75 ?_
            refine g_ldan aX7_worth_62 rfl ?_
            refine g_getR aX7_worth_63 (hp0) rfl ?_
            refine g_ldi aX7_worth_66 rfl ?_
            obtain ⟨n76, h77, hE⟩ := i_al_some hE
            obtain ⟨h78, hE⟩ := i_ifn hE
            refine g_ild aX7_worth_68 (h77) h78 ?_
            refine g_ldan aX7_worth_69 rfl ?_
            refine g_ldan aX7_worth_70 rfl ?_
            obtain ⟨r79, s80, h81, hE⟩ := i_bd_some hE
            refine g_calV (As := [.int (s4.2.1 (p0 + 3) x2.toNatClampNeg), .int (s4.2.1 (p0 + 4) x2.toNatClampNeg), .ref p1, .ref p2]) (rest := []) aX7_worth_71 (i_X_mono (by omega) (tX7_outcome hsh hp0 h81)) (hp0) (by decide +kernel) rfl rfl (Nat.le_of_ble_eq_true rfl) rfl ?_
            refine g_lconst (x := 0) aX7_worth_74 rfl ?_
            refine g_lcmp aX7_worth_75 ?_
            by_cases hc82 : (lg_cmp r79 0) = 0
            · rw [if_pos hc82] at hE
              refine g_if_eq_t aX7_worth_76 hc82 ?_
              refine g_ldan aX7_worth_94 rfl ?_
              refine g_getR aX7_worth_95 (hp0) rfl ?_
              refine g_ldi aX7_worth_98 rfl ?_
              obtain ⟨n83, h84, hE⟩ := i_al_some hE
              obtain ⟨h85, hE⟩ := i_ifn hE
              refine g_ild aX7_worth_100 (h84) h85 ?_
              refine g_stin (loc2 := [.ref p0, .ref p1, .ref p2, .int (s80.2.1 (p0 + 4) x2.toNatClampNeg), .int x2, .int ((if (s4.2.1 (p0 + 4) x2.toNatClampNeg) ≤ (s4.2.1 (p0 + 3) x2.toNatClampNeg) then 0 else 1) : Int32)]) aX7_worth_101 (Nat.le_of_ble_eq_true rfl) rfl ?_
              refine g_iinc (y := 1) (loc2 := [.ref p0, .ref p1, .ref p2, .int (s80.2.1 (p0 + 4) x2.toNatClampNeg), .int (x2 + 1), .int ((if (s4.2.1 (p0 + 4) x2.toNatClampNeg) ≤ (s4.2.1 (p0 + 3) x2.toNatClampNeg) then 0 else 1) : Int32)]) aX7_worth_102 rfl rfl rfl ?_
              refine g_goto aX7_worth_105 ?_
              exact ih _ _ _ _ hE
            · rw [if_neg hc82] at hE
              refine g_if_eq_f aX7_worth_76 hc82 ?_
              exact hk79 _ _ _ _ hE
        clear hE
        by_cases hc85 : (s4.2.1 (p0 + 4) x2.toNatClampNeg) ≤ (s4.2.1 (p0 + 3) x2.toNatClampNeg)
        · (try rw [if_pos hc85] at hJ)
          refine g_ic_le_t aX7_worth_39 hc85 ?_
          refine g_iconst (x := 0) aX7_worth_46 rfl ?_
          exact hJ
        · (try rw [if_neg hc85] at hJ)
          refine g_ic_le_f aX7_worth_39 hc85 ?_
          refine g_iconst (x := 1) aX7_worth_42 rfl ?_
          refine g_goto aX7_worth_43 ?_
          exact hJ
set_option maxRecDepth 20000 in
set_option maxHeartbeats 2000000 in
theorem tX7_worth_X79 {sh : List kd} {τ : St} {r : Int64} (hsh : cSh sh) {p0 : Nat} {p1 : Nat} {p2 : Nat} {x55 : Int32} {x56 : Int32} {x57 : Int32} {s58 : St} (hp0 : uSh sh p0) (hE : fX7_worth_X79 sh p0 p1 p2 x55 x56 x57 s58 = some (r, τ)) : g_R sh 2 mX7_worth (some (.long r)) τ 79 [.ref p0, .ref p1, .ref p2, .int x55, .int x56, .int x57] [] (s58) := by
  unfold fX7_worth_X79 at hE
  refine g_ldan aX7_worth_79 rfl ?_
  refine g_ldin aX7_worth_80 rfl ?_
  refine g_ldan aX7_worth_81 rfl ?_
  refine g_getR aX7_worth_82 (hp0) rfl ?_
  refine g_ldi aX7_worth_85 rfl ?_
  obtain ⟨n87, h88, hE⟩ := i_al_some hE
  obtain ⟨h89, hE⟩ := i_ifn hE
  refine g_ild aX7_worth_87 (h88) h89 ?_
  refine g_ldan aX7_worth_88 rfl ?_
  refine g_ldan aX7_worth_89 rfl ?_
  obtain ⟨r90, s91, h92, hE⟩ := i_bd_some hE
  refine g_calV (As := [.int x55, .int (s58.2.1 (p0 + 3) x56.toNatClampNeg), .ref p1, .ref p2]) (rest := []) aX7_worth_90 (i_X_mono (by omega) (tX7_outcome hsh hp0 h92)) (hp0) (by decide +kernel) rfl rfl (Nat.le_of_ble_eq_true rfl) rfl ?_
  cases hE
  exact g_lret aX7_worth_93 rfl
set_option maxRecDepth 20000 in
set_option maxHeartbeats 2000000 in
theorem tX7_worth {sh : List kd} {σ τ : St} {r : Int64} (hsh : cSh sh) {p0 : Nat} {p1 : Nat} {p2 : Nat} (hp0 : uSh sh p0) (hE : fX7_worth sh σ p0 p1 p2 = some (r, τ)) : i_X 3 58 [.ref p0, .ref p1, .ref p2] (s_h sh σ) 0 0 (some (.long r)) (s_h sh τ) := by
  refine g_X (M := mX7_worth) (loc := [.ref p0, .ref p1, .ref p2, .retAddr 0, .retAddr 0, .retAddr 0]) rfl (Nat.le_of_ble_eq_true rfl) rfl ?_
  unfold fX7_worth at hE
  refine g_iconst (x := 0) aX7_worth_0 rfl ?_
  refine g_stin (loc2 := [.ref p0, .ref p1, .ref p2, .int 0, .retAddr 0, .retAddr 0]) aX7_worth_1 (Nat.le_of_ble_eq_true rfl) rfl ?_
  refine g_iconst (x := 0) aX7_worth_2 rfl ?_
  refine g_sti (loc2 := [.ref p0, .ref p1, .ref p2, .int 0, .int 0, .retAddr 0]) aX7_worth_3 (Nat.le_of_ble_eq_true rfl) rfl ?_
  exact tX7_worth_L5 hsh hp0 (fun x55 x56 x57 s58 hE => tX7_worth_X79 hsh hp0 hE) i_F _ _ _ _ hE
theorem aX8_openClause_0 : i_at mX8_openClause.2.2.2.2.2 0 = some (.aload_n 0, 1, 0, 0, 0, 0) := by decide +kernel
theorem aX8_openClause_1 : i_at mX8_openClause.2.2.2.2.2 1 = some (.getfield 24, 3, 7, 0, 234, 0) := by decide +kernel
theorem aX8_openClause_4 : i_at mX8_openClause.2.2.2.2.2 4 = some (.ldc 94, 2, 1, 1, 0, 0) := by decide +kernel
theorem aX8_openClause_6 : i_at mX8_openClause.2.2.2.2.2 6 = some (.invokevirtual 96, 3, 81, 1, 658, 0) := by decide +kernel
theorem aX8_openClause_9 : i_at mX8_openClause.2.2.2.2.2 9 = some (.iconst (-1), 1, 0, 0, 0, 0) := by decide +kernel
theorem aX8_openClause_10 : i_at mX8_openClause.2.2.2.2.2 10 = some (.if_icmp .ne 21, 3, 31, 0, 0, 0) := by decide +kernel
theorem aX8_openClause_13 : i_at mX8_openClause.2.2.2.2.2 13 = some (.aload_n 0, 1, 0, 0, 0, 0) := by decide +kernel
theorem aX8_openClause_14 : i_at mX8_openClause.2.2.2.2.2 14 = some (.getfield 24, 3, 7, 0, 234, 0) := by decide +kernel
theorem aX8_openClause_17 : i_at mX8_openClause.2.2.2.2.2 17 = some (.aload_n 0, 1, 0, 0, 0, 0) := by decide +kernel
theorem aX8_openClause_18 : i_at mX8_openClause.2.2.2.2.2 18 = some (.getfield 24, 3, 7, 0, 234, 0) := by decide +kernel
theorem aX8_openClause_21 : i_at mX8_openClause.2.2.2.2.2 21 = some (.getfield 76, 3, 8, 2, 132, 0) := by decide +kernel
theorem aX8_openClause_24 : i_at mX8_openClause.2.2.2.2.2 24 = some (.iconst 0, 1, 0, 0, 0, 0) := by decide +kernel
theorem aX8_openClause_25 : i_at mX8_openClause.2.2.2.2.2 25 = some (.invokevirtual 79, 3, 77, 2, 659, 0) := by decide +kernel
theorem aX8_openClause_28 : i_at mX8_openClause.2.2.2.2.2 28 = some (.goto 37, 3, 65, 0, 0, 0) := by decide +kernel
theorem aX8_openClause_31 : i_at mX8_openClause.2.2.2.2.2 31 = some (.aload_n 0, 1, 0, 0, 0, 0) := by decide +kernel
theorem aX8_openClause_32 : i_at mX8_openClause.2.2.2.2.2 32 = some (.getfield 37, 3, 7, 6, 240, 0) := by decide +kernel
theorem aX8_openClause_35 : i_at mX8_openClause.2.2.2.2.2 35 = some (.bipush 12, 2, 0, 0, 0, 0) := by decide +kernel
theorem aX8_openClause_37 : i_at mX8_openClause.2.2.2.2.2 37 = some (.if_icmp .lt 21, 3, 58, 0, 0, 0) := by decide +kernel
theorem aX8_openClause_40 : i_at mX8_openClause.2.2.2.2.2 40 = some (.aload_n 0, 1, 0, 0, 0, 0) := by decide +kernel
theorem aX8_openClause_41 : i_at mX8_openClause.2.2.2.2.2 41 = some (.getfield 24, 3, 7, 0, 234, 0) := by decide +kernel
theorem aX8_openClause_44 : i_at mX8_openClause.2.2.2.2.2 44 = some (.aload_n 0, 1, 0, 0, 0, 0) := by decide +kernel
theorem aX8_openClause_45 : i_at mX8_openClause.2.2.2.2.2 45 = some (.getfield 24, 3, 7, 0, 234, 0) := by decide +kernel
theorem aX8_openClause_48 : i_at mX8_openClause.2.2.2.2.2 48 = some (.getfield 76, 3, 8, 2, 132, 0) := by decide +kernel
theorem aX8_openClause_51 : i_at mX8_openClause.2.2.2.2.2 51 = some (.iconst 4, 1, 0, 0, 0, 0) := by decide +kernel
theorem aX8_openClause_52 : i_at mX8_openClause.2.2.2.2.2 52 = some (.invokevirtual 79, 3, 77, 2, 659, 0) := by decide +kernel
theorem aX8_openClause_55 : i_at mX8_openClause.2.2.2.2.2 55 = some (.goto 10, 3, 65, 0, 0, 0) := by decide +kernel
theorem aX8_openClause_58 : i_at mX8_openClause.2.2.2.2.2 58 = some (.aload_n 0, 1, 0, 0, 0, 0) := by decide +kernel
theorem aX8_openClause_59 : i_at mX8_openClause.2.2.2.2.2 59 = some (.getfield 24, 3, 7, 0, 234, 0) := by decide +kernel
theorem aX8_openClause_62 : i_at mX8_openClause.2.2.2.2.2 62 = some (.invokevirtual 100, 3, 83, 0, 660, 0) := by decide +kernel
theorem aX8_openClause_65 : i_at mX8_openClause.2.2.2.2.2 65 = some (.return_, 1, 0, 0, 0, 0) := by decide +kernel
noncomputable def fX8_openClause_J65 (sh : List kd) (s54 : St) : Option (Unit × St) := some ((), s54)
noncomputable def fX8_openClause (sh : List kd) (σ : St) : Option (Unit × St) := i_bd (fX9_wordIn sh σ 1) (fun r1 s2 => if ¬ r1 = (-1) then if (s2.1 10 6) < 12 then i_bd (fX9_skipWord sh s2) (fun r57 s58 => fX8_openClause_J65 sh s58) else i_bd (fX9_refuse sh s2 (s2.1 1 2) 4) (fun r60 s61 => fX8_openClause_J65 sh s61) else i_bd (fX9_refuse sh s2 (s2.1 1 2) 0) (fun r63 s64 => fX8_openClause_J65 sh s64))
set_option maxRecDepth 20000 in
set_option maxHeartbeats 2000000 in
theorem tX8_openClause_J65 {sh : List kd} {τ : St} {r : Unit} (hsh : cSh sh) {s54 : St} (hE : fX8_openClause_J65 sh s54 = some (r, τ)) : g_R sh 2 mX8_openClause none τ 65 [.ref 10] [] (s54) := by
  unfold fX8_openClause_J65 at hE
  cases hE
  exact g_vret aX8_openClause_65 rfl
set_option maxRecDepth 20000 in
set_option maxHeartbeats 2000000 in
theorem tX8_openClause {sh : List kd} {σ τ : St} {r : Unit} (hsh : cSh sh) (hE : fX8_openClause sh σ = some (r, τ)) : i_X 3 64 [.ref 10] (s_h sh σ) 0 0 none (s_h sh τ) := by
  refine g_X (M := mX8_openClause) (loc := [.ref 10]) rfl (Nat.le_of_ble_eq_true rfl) rfl ?_
  unfold fX8_openClause at hE
  refine g_ldan aX8_openClause_0 rfl ?_
  refine g_getR aX8_openClause_1 (sC_10 hsh) rfl ?_
  refine g_ldcS aX8_openClause_4 rfl ?_
  obtain ⟨r1, s2, h3, hE⟩ := i_bd_some hE
  refine g_calV (As := [.ref (i_SB + 1)]) (rest := []) aX8_openClause_6 (i_X_mono (by omega) (tX9_wordIn hsh h3)) (sC_1 hsh) (by decide +kernel) rfl rfl (Nat.le_of_ble_eq_true rfl) rfl ?_
  refine g_iconst (x := (-1)) aX8_openClause_9 rfl ?_
  by_cases hc55 : ¬ r1 = (-1)
  · rw [if_pos hc55] at hE
    refine g_ic_ne_t aX8_openClause_10 hc55 ?_
    refine g_ldan aX8_openClause_31 rfl ?_
    refine g_getI aX8_openClause_32 (sC_10 hsh) rfl ?_
    refine g_bipush (x := 12) aX8_openClause_35 rfl ?_
    by_cases hc56 : (s2.1 10 6) < 12
    · rw [if_pos hc56] at hE
      refine g_ic_lt_t aX8_openClause_37 hc56 ?_
      refine g_ldan aX8_openClause_58 rfl ?_
      refine g_getR aX8_openClause_59 (sC_10 hsh) rfl ?_
      obtain ⟨r57, s58, h59, hE⟩ := i_bd_some hE
      refine g_calV (As := []) (rest := []) aX8_openClause_62 (i_X_mono (by omega) (tX9_skipWord hsh h59)) (sC_1 hsh) (by decide +kernel) rfl rfl (Nat.le_of_ble_eq_true rfl) rfl ?_
      exact tX8_openClause_J65 hsh hE
    · rw [if_neg hc56] at hE
      refine g_ic_lt_f aX8_openClause_37 hc56 ?_
      refine g_ldan aX8_openClause_40 rfl ?_
      refine g_getR aX8_openClause_41 (sC_10 hsh) rfl ?_
      refine g_ldan aX8_openClause_44 rfl ?_
      refine g_getR aX8_openClause_45 (sC_10 hsh) rfl ?_
      refine g_getI aX8_openClause_48 (sC_1 hsh) rfl ?_
      refine g_iconst (x := 4) aX8_openClause_51 rfl ?_
      obtain ⟨r60, s61, h62, hE⟩ := i_bd_some hE
      refine g_calV (As := [.int (s2.1 1 2), .int 4]) (rest := []) aX8_openClause_52 (i_X_mono (by omega) (tX9_refuse hsh h62)) (sC_1 hsh) (by decide +kernel) rfl rfl (Nat.le_of_ble_eq_true rfl) rfl ?_
      refine g_goto aX8_openClause_55 ?_
      exact tX8_openClause_J65 hsh hE
  · rw [if_neg hc55] at hE
    refine g_ic_ne_f aX8_openClause_10 hc55 ?_
    refine g_ldan aX8_openClause_13 rfl ?_
    refine g_getR aX8_openClause_14 (sC_10 hsh) rfl ?_
    refine g_ldan aX8_openClause_17 rfl ?_
    refine g_getR aX8_openClause_18 (sC_10 hsh) rfl ?_
    refine g_getI aX8_openClause_21 (sC_1 hsh) rfl ?_
    refine g_iconst (x := 0) aX8_openClause_24 rfl ?_
    obtain ⟨r63, s64, h65, hE⟩ := i_bd_some hE
    refine g_calV (As := [.int (s2.1 1 2), .int 0]) (rest := []) aX8_openClause_25 (i_X_mono (by omega) (tX9_refuse hsh h65)) (sC_1 hsh) (by decide +kernel) rfl rfl (Nat.le_of_ble_eq_true rfl) rfl ?_
    refine g_goto aX8_openClause_28 ?_
    exact tX8_openClause_J65 hsh hE
theorem aX8_readComparing_0 : i_at mX8_readComparing.2.2.2.2.2 0 = some (.aload_n 0, 1, 0, 0, 0, 0) := by decide +kernel
theorem aX8_readComparing_1 : i_at mX8_readComparing.2.2.2.2.2 1 = some (.getfield 24, 3, 7, 0, 234, 0) := by decide +kernel
theorem aX8_readComparing_4 : i_at mX8_readComparing.2.2.2.2.2 4 = some (.invokevirtual 68, 3, 78, 0, 669, 0) := by decide +kernel
theorem aX8_readComparing_7 : i_at mX8_readComparing.2.2.2.2.2 7 = some (.istore_n 1, 1, 0, 0, 0, 0) := by decide +kernel
theorem aX8_readComparing_8 : i_at mX8_readComparing.2.2.2.2.2 8 = some (.iload_n 1, 1, 0, 0, 0, 0) := by decide +kernel
theorem aX8_readComparing_9 : i_at mX8_readComparing.2.2.2.2.2 9 = some (.bipush 60, 2, 0, 0, 0, 0) := by decide +kernel
theorem aX8_readComparing_11 : i_at mX8_readComparing.2.2.2.2.2 11 = some (.if_icmp .eq 32, 3, 43, 0, 0, 0) := by decide +kernel
theorem aX8_readComparing_14 : i_at mX8_readComparing.2.2.2.2.2 14 = some (.iload_n 1, 1, 0, 0, 0, 0) := by decide +kernel
theorem aX8_readComparing_15 : i_at mX8_readComparing.2.2.2.2.2 15 = some (.bipush 61, 2, 0, 0, 0, 0) := by decide +kernel
theorem aX8_readComparing_17 : i_at mX8_readComparing.2.2.2.2.2 17 = some (.if_icmp .eq 26, 3, 43, 0, 0, 0) := by decide +kernel
theorem aX8_readComparing_20 : i_at mX8_readComparing.2.2.2.2.2 20 = some (.iload_n 1, 1, 0, 0, 0, 0) := by decide +kernel
theorem aX8_readComparing_21 : i_at mX8_readComparing.2.2.2.2.2 21 = some (.bipush 62, 2, 0, 0, 0, 0) := by decide +kernel
theorem aX8_readComparing_23 : i_at mX8_readComparing.2.2.2.2.2 23 = some (.if_icmp .eq 20, 3, 43, 0, 0, 0) := by decide +kernel
theorem aX8_readComparing_26 : i_at mX8_readComparing.2.2.2.2.2 26 = some (.aload_n 0, 1, 0, 0, 0, 0) := by decide +kernel
theorem aX8_readComparing_27 : i_at mX8_readComparing.2.2.2.2.2 27 = some (.getfield 24, 3, 7, 0, 234, 0) := by decide +kernel
theorem aX8_readComparing_30 : i_at mX8_readComparing.2.2.2.2.2 30 = some (.aload_n 0, 1, 0, 0, 0, 0) := by decide +kernel
theorem aX8_readComparing_31 : i_at mX8_readComparing.2.2.2.2.2 31 = some (.getfield 24, 3, 7, 0, 234, 0) := by decide +kernel
theorem aX8_readComparing_34 : i_at mX8_readComparing.2.2.2.2.2 34 = some (.getfield 76, 3, 8, 2, 132, 0) := by decide +kernel
theorem aX8_readComparing_37 : i_at mX8_readComparing.2.2.2.2.2 37 = some (.iconst 0, 1, 0, 0, 0, 0) := by decide +kernel
theorem aX8_readComparing_38 : i_at mX8_readComparing.2.2.2.2.2 38 = some (.invokevirtual 79, 3, 77, 2, 659, 0) := by decide +kernel
theorem aX8_readComparing_41 : i_at mX8_readComparing.2.2.2.2.2 41 = some (.iconst (-1), 1, 0, 0, 0, 0) := by decide +kernel
theorem aX8_readComparing_42 : i_at mX8_readComparing.2.2.2.2.2 42 = some (.ireturn, 1, 0, 0, 0, 0) := by decide +kernel
theorem aX8_readComparing_43 : i_at mX8_readComparing.2.2.2.2.2 43 = some (.aload_n 0, 1, 0, 0, 0, 0) := by decide +kernel
theorem aX8_readComparing_44 : i_at mX8_readComparing.2.2.2.2.2 44 = some (.aload_n 0, 1, 0, 0, 0, 0) := by decide +kernel
theorem aX8_readComparing_45 : i_at mX8_readComparing.2.2.2.2.2 45 = some (.getfield 24, 3, 7, 0, 234, 0) := by decide +kernel
theorem aX8_readComparing_48 : i_at mX8_readComparing.2.2.2.2.2 48 = some (.getfield 76, 3, 8, 2, 132, 0) := by decide +kernel
theorem aX8_readComparing_51 : i_at mX8_readComparing.2.2.2.2.2 51 = some (.invokevirtual 118, 3, 72, 1, 673, 0) := by decide +kernel
theorem aX8_readComparing_54 : i_at mX8_readComparing.2.2.2.2.2 54 = some (.aload_n 0, 1, 0, 0, 0, 0) := by decide +kernel
theorem aX8_readComparing_55 : i_at mX8_readComparing.2.2.2.2.2 55 = some (.getfield 24, 3, 7, 0, 234, 0) := by decide +kernel
theorem aX8_readComparing_58 : i_at mX8_readComparing.2.2.2.2.2 58 = some (.dup, 1, 0, 0, 0, 0) := by decide +kernel
theorem aX8_readComparing_59 : i_at mX8_readComparing.2.2.2.2.2 59 = some (.getfield 76, 3, 8, 2, 132, 0) := by decide +kernel
theorem aX8_readComparing_62 : i_at mX8_readComparing.2.2.2.2.2 62 = some (.iconst 1, 1, 0, 0, 0, 0) := by decide +kernel
theorem aX8_readComparing_63 : i_at mX8_readComparing.2.2.2.2.2 63 = some (.iadd, 1, 0, 0, 0, 0) := by decide +kernel
theorem aX8_readComparing_64 : i_at mX8_readComparing.2.2.2.2.2 64 = some (.putfield 76, 3, 8, 2, 132, 0) := by decide +kernel
theorem aX8_readComparing_67 : i_at mX8_readComparing.2.2.2.2.2 67 = some (.iload_n 1, 1, 0, 0, 0, 0) := by decide +kernel
theorem aX8_readComparing_68 : i_at mX8_readComparing.2.2.2.2.2 68 = some (.bipush 61, 2, 0, 0, 0, 0) := by decide +kernel
theorem aX8_readComparing_70 : i_at mX8_readComparing.2.2.2.2.2 70 = some (.if_icmp .ne 6, 3, 76, 0, 0, 0) := by decide +kernel
theorem aX8_readComparing_73 : i_at mX8_readComparing.2.2.2.2.2 73 = some (.bipush 10, 2, 0, 0, 0, 0) := by decide +kernel
theorem aX8_readComparing_75 : i_at mX8_readComparing.2.2.2.2.2 75 = some (.ireturn, 1, 0, 0, 0, 0) := by decide +kernel
theorem aX8_readComparing_76 : i_at mX8_readComparing.2.2.2.2.2 76 = some (.aload_n 0, 1, 0, 0, 0, 0) := by decide +kernel
theorem aX8_readComparing_77 : i_at mX8_readComparing.2.2.2.2.2 77 = some (.getfield 24, 3, 7, 0, 234, 0) := by decide +kernel
theorem aX8_readComparing_80 : i_at mX8_readComparing.2.2.2.2.2 80 = some (.getfield 76, 3, 8, 2, 132, 0) := by decide +kernel
theorem aX8_readComparing_83 : i_at mX8_readComparing.2.2.2.2.2 83 = some (.aload_n 0, 1, 0, 0, 0, 0) := by decide +kernel
theorem aX8_readComparing_84 : i_at mX8_readComparing.2.2.2.2.2 84 = some (.getfield 24, 3, 7, 0, 234, 0) := by decide +kernel
theorem aX8_readComparing_87 : i_at mX8_readComparing.2.2.2.2.2 87 = some (.getfield 121, 3, 8, 1, 130, 0) := by decide +kernel
theorem aX8_readComparing_90 : i_at mX8_readComparing.2.2.2.2.2 90 = some (.if_icmp .ge 27, 3, 117, 0, 0, 0) := by decide +kernel
theorem aX8_readComparing_93 : i_at mX8_readComparing.2.2.2.2.2 93 = some (.aload_n 0, 1, 0, 0, 0, 0) := by decide +kernel
theorem aX8_readComparing_94 : i_at mX8_readComparing.2.2.2.2.2 94 = some (.getfield 24, 3, 7, 0, 234, 0) := by decide +kernel
theorem aX8_readComparing_97 : i_at mX8_readComparing.2.2.2.2.2 97 = some (.getfield 122, 3, 8, 0, 127, 0) := by decide +kernel
theorem aX8_readComparing_100 : i_at mX8_readComparing.2.2.2.2.2 100 = some (.aload_n 0, 1, 0, 0, 0, 0) := by decide +kernel
theorem aX8_readComparing_101 : i_at mX8_readComparing.2.2.2.2.2 101 = some (.getfield 24, 3, 7, 0, 234, 0) := by decide +kernel
theorem aX8_readComparing_104 : i_at mX8_readComparing.2.2.2.2.2 104 = some (.getfield 76, 3, 8, 2, 132, 0) := by decide +kernel
theorem aX8_readComparing_107 : i_at mX8_readComparing.2.2.2.2.2 107 = some (.iaload, 1, 0, 0, 0, 0) := by decide +kernel
theorem aX8_readComparing_108 : i_at mX8_readComparing.2.2.2.2.2 108 = some (.bipush 61, 2, 0, 0, 0, 0) := by decide +kernel
theorem aX8_readComparing_110 : i_at mX8_readComparing.2.2.2.2.2 110 = some (.if_icmp .ne 7, 3, 117, 0, 0, 0) := by decide +kernel
theorem aX8_readComparing_113 : i_at mX8_readComparing.2.2.2.2.2 113 = some (.iconst 1, 1, 0, 0, 0, 0) := by decide +kernel
theorem aX8_readComparing_114 : i_at mX8_readComparing.2.2.2.2.2 114 = some (.goto 4, 3, 118, 0, 0, 0) := by decide +kernel
theorem aX8_readComparing_117 : i_at mX8_readComparing.2.2.2.2.2 117 = some (.iconst 0, 1, 0, 0, 0, 0) := by decide +kernel
theorem aX8_readComparing_118 : i_at mX8_readComparing.2.2.2.2.2 118 = some (.istore_n 2, 1, 0, 0, 0, 0) := by decide +kernel
theorem aX8_readComparing_119 : i_at mX8_readComparing.2.2.2.2.2 119 = some (.iload_n 2, 1, 0, 0, 0, 0) := by decide +kernel
theorem aX8_readComparing_120 : i_at mX8_readComparing.2.2.2.2.2 120 = some (.ifCond .eq 16, 3, 136, 0, 0, 0) := by decide +kernel
theorem aX8_readComparing_123 : i_at mX8_readComparing.2.2.2.2.2 123 = some (.aload_n 0, 1, 0, 0, 0, 0) := by decide +kernel
theorem aX8_readComparing_124 : i_at mX8_readComparing.2.2.2.2.2 124 = some (.getfield 24, 3, 7, 0, 234, 0) := by decide +kernel
theorem aX8_readComparing_127 : i_at mX8_readComparing.2.2.2.2.2 127 = some (.dup, 1, 0, 0, 0, 0) := by decide +kernel
theorem aX8_readComparing_128 : i_at mX8_readComparing.2.2.2.2.2 128 = some (.getfield 76, 3, 8, 2, 132, 0) := by decide +kernel
theorem aX8_readComparing_131 : i_at mX8_readComparing.2.2.2.2.2 131 = some (.iconst 1, 1, 0, 0, 0, 0) := by decide +kernel
theorem aX8_readComparing_132 : i_at mX8_readComparing.2.2.2.2.2 132 = some (.iadd, 1, 0, 0, 0, 0) := by decide +kernel
theorem aX8_readComparing_133 : i_at mX8_readComparing.2.2.2.2.2 133 = some (.putfield 76, 3, 8, 2, 132, 0) := by decide +kernel
theorem aX8_readComparing_136 : i_at mX8_readComparing.2.2.2.2.2 136 = some (.iload_n 1, 1, 0, 0, 0, 0) := by decide +kernel
theorem aX8_readComparing_137 : i_at mX8_readComparing.2.2.2.2.2 137 = some (.bipush 60, 2, 0, 0, 0, 0) := by decide +kernel
theorem aX8_readComparing_139 : i_at mX8_readComparing.2.2.2.2.2 139 = some (.if_icmp .ne 15, 3, 154, 0, 0, 0) := by decide +kernel
theorem aX8_readComparing_142 : i_at mX8_readComparing.2.2.2.2.2 142 = some (.iload_n 2, 1, 0, 0, 0, 0) := by decide +kernel
theorem aX8_readComparing_143 : i_at mX8_readComparing.2.2.2.2.2 143 = some (.ifCond .eq 8, 3, 151, 0, 0, 0) := by decide +kernel
theorem aX8_readComparing_146 : i_at mX8_readComparing.2.2.2.2.2 146 = some (.bipush 9, 2, 0, 0, 0, 0) := by decide +kernel
theorem aX8_readComparing_148 : i_at mX8_readComparing.2.2.2.2.2 148 = some (.goto 5, 3, 153, 0, 0, 0) := by decide +kernel
theorem aX8_readComparing_151 : i_at mX8_readComparing.2.2.2.2.2 151 = some (.bipush 8, 2, 0, 0, 0, 0) := by decide +kernel
theorem aX8_readComparing_153 : i_at mX8_readComparing.2.2.2.2.2 153 = some (.ireturn, 1, 0, 0, 0, 0) := by decide +kernel
theorem aX8_readComparing_154 : i_at mX8_readComparing.2.2.2.2.2 154 = some (.iload_n 2, 1, 0, 0, 0, 0) := by decide +kernel
theorem aX8_readComparing_155 : i_at mX8_readComparing.2.2.2.2.2 155 = some (.ifCond .eq 8, 3, 163, 0, 0, 0) := by decide +kernel
theorem aX8_readComparing_158 : i_at mX8_readComparing.2.2.2.2.2 158 = some (.bipush 11, 2, 0, 0, 0, 0) := by decide +kernel
theorem aX8_readComparing_160 : i_at mX8_readComparing.2.2.2.2.2 160 = some (.goto 5, 3, 165, 0, 0, 0) := by decide +kernel
theorem aX8_readComparing_163 : i_at mX8_readComparing.2.2.2.2.2 163 = some (.bipush 12, 2, 0, 0, 0, 0) := by decide +kernel
theorem aX8_readComparing_165 : i_at mX8_readComparing.2.2.2.2.2 165 = some (.ireturn, 1, 0, 0, 0, 0) := by decide +kernel
noncomputable def fX8_readComparing_J136 (sh : List kd) (r1 : Int32) (x59 : Int32) (s110 : St) : Option (Int32 × St) := if ¬ r1 = 60 then some (((if x59 = 0 then 12 else 11) : Int32), s110) else some (((if x59 = 0 then 8 else 9) : Int32), s110)
noncomputable def fX8_readComparing_J118 (sh : List kd) (r1 : Int32) (s6 : St) (x59 : Int32) : Option (Int32 × St) := if x59 = 0 then fX8_readComparing_J136 sh r1 x59 (s_F s6 1 2 ((s6.1 1 2) + 1)) else fX8_readComparing_J136 sh r1 x59 (s_F (s_F s6 1 2 ((s6.1 1 2) + 1)) 1 2 (((s_F s6 1 2 ((s6.1 1 2) + 1)).1 1 2) + 1))
noncomputable def fX8_readComparing_J136_224 (sh : List kd) (r1 : Int32) (x173 : Int32) (s224 : St) : Option (Int32 × St) := if ¬ r1 = 60 then some (((if x173 = 0 then 12 else 11) : Int32), s224) else some (((if x173 = 0 then 8 else 9) : Int32), s224)
noncomputable def fX8_readComparing_J118_173 (sh : List kd) (r1 : Int32) (s120 : St) (x173 : Int32) : Option (Int32 × St) := if x173 = 0 then fX8_readComparing_J136_224 sh r1 x173 (s_F s120 1 2 ((s120.1 1 2) + 1)) else fX8_readComparing_J136_224 sh r1 x173 (s_F (s_F s120 1 2 ((s120.1 1 2) + 1)) 1 2 (((s_F s120 1 2 ((s120.1 1 2) + 1)).1 1 2) + 1))
noncomputable def fX8_readComparing_J136_338 (sh : List kd) (r1 : Int32) (x287 : Int32) (s338 : St) : Option (Int32 × St) := if ¬ r1 = 60 then some (((if x287 = 0 then 12 else 11) : Int32), s338) else some (((if x287 = 0 then 8 else 9) : Int32), s338)
noncomputable def fX8_readComparing_J118_287 (sh : List kd) (r1 : Int32) (s234 : St) (x287 : Int32) : Option (Int32 × St) := if x287 = 0 then fX8_readComparing_J136_338 sh r1 x287 (s_F s234 1 2 ((s234.1 1 2) + 1)) else fX8_readComparing_J136_338 sh r1 x287 (s_F (s_F s234 1 2 ((s234.1 1 2) + 1)) 1 2 (((s_F s234 1 2 ((s234.1 1 2) + 1)).1 1 2) + 1))
noncomputable def fX8_readComparing (sh : List kd) (σ : St) : Option (Int32 × St) := i_bd (fX9_sign sh σ) (fun r1 s2 => if r1 = 60 then i_bd (fX8_countPart sh s2 (s2.1 1 2)) (fun r5 s6 => if ¬ r1 = 61 then if ((s_F s6 1 2 ((s6.1 1 2) + 1)).1 1 1) ≤ ((s_F s6 1 2 ((s6.1 1 2) + 1)).1 1 2) then fX8_readComparing_J118 sh r1 s6 0 else if i_ok ((s_F s6 1 2 ((s6.1 1 2) + 1)).1 1 2) 400 then fX8_readComparing_J118 sh r1 s6 ((if ¬ ((s_F s6 1 2 ((s6.1 1 2) + 1)).2.1 2 ((s_F s6 1 2 ((s6.1 1 2) + 1)).1 1 2).toNatClampNeg) = 61 then 0 else 1) : Int32) else none else some (10, s_F s6 1 2 ((s6.1 1 2) + 1))) else if r1 = 61 then i_bd (fX8_countPart sh s2 (s2.1 1 2)) (fun r119 s120 => if ¬ r1 = 61 then if ((s_F s120 1 2 ((s120.1 1 2) + 1)).1 1 1) ≤ ((s_F s120 1 2 ((s120.1 1 2) + 1)).1 1 2) then fX8_readComparing_J118_173 sh r1 s120 0 else if i_ok ((s_F s120 1 2 ((s120.1 1 2) + 1)).1 1 2) 400 then fX8_readComparing_J118_173 sh r1 s120 ((if ¬ ((s_F s120 1 2 ((s120.1 1 2) + 1)).2.1 2 ((s_F s120 1 2 ((s120.1 1 2) + 1)).1 1 2).toNatClampNeg) = 61 then 0 else 1) : Int32) else none else some (10, s_F s120 1 2 ((s120.1 1 2) + 1))) else if r1 = 62 then i_bd (fX8_countPart sh s2 (s2.1 1 2)) (fun r233 s234 => if ¬ r1 = 61 then if ((s_F s234 1 2 ((s234.1 1 2) + 1)).1 1 1) ≤ ((s_F s234 1 2 ((s234.1 1 2) + 1)).1 1 2) then fX8_readComparing_J118_287 sh r1 s234 0 else if i_ok ((s_F s234 1 2 ((s234.1 1 2) + 1)).1 1 2) 400 then fX8_readComparing_J118_287 sh r1 s234 ((if ¬ ((s_F s234 1 2 ((s234.1 1 2) + 1)).2.1 2 ((s_F s234 1 2 ((s234.1 1 2) + 1)).1 1 2).toNatClampNeg) = 61 then 0 else 1) : Int32) else none else some (10, s_F s234 1 2 ((s234.1 1 2) + 1))) else i_bd (fX9_refuse sh s2 (s2.1 1 2) 0) (fun r346 s347 => some ((-1), s347)))
set_option maxRecDepth 20000 in
set_option maxHeartbeats 2000000 in
theorem tX8_readComparing_J136 {sh : List kd} {τ : St} {r : Int32} (hsh : cSh sh) {r1 : Int32} {x59 : Int32} {s110 : St} (hE : fX8_readComparing_J136 sh r1 x59 s110 = some (r, τ)) : g_R sh 2 mX8_readComparing (some (.int r)) τ 136 [.ref 10, .int r1, .int x59] [] (s110) := by
  unfold fX8_readComparing_J136 at hE
  refine g_ldin aX8_readComparing_136 rfl ?_
  refine g_bipush (x := 60) aX8_readComparing_137 rfl ?_
  by_cases hc111 : ¬ r1 = 60
  · rw [if_pos hc111] at hE
    refine g_ic_ne_t aX8_readComparing_139 hc111 ?_
    refine g_ldin aX8_readComparing_154 rfl ?_
    have hJ : g_R sh 2 mX8_readComparing (some (.int r)) τ 165 [.ref 10, .int r1, .int x59] [.int ((if x59 = 0 then 12 else 11) : Int32)] (s110) := by
      cases hE
      exact g_iret aX8_readComparing_165 rfl rfl
    clear hE
    by_cases hc111 : x59 = 0
    · (try rw [if_pos hc111] at hJ)
      refine g_if_eq_t aX8_readComparing_155 hc111 ?_
      refine g_bipush (x := 12) aX8_readComparing_163 rfl ?_
      exact hJ
    · (try rw [if_neg hc111] at hJ)
      refine g_if_eq_f aX8_readComparing_155 hc111 ?_
      refine g_bipush (x := 11) aX8_readComparing_158 rfl ?_
      refine g_goto aX8_readComparing_160 ?_
      exact hJ
  · rw [if_neg hc111] at hE
    refine g_ic_ne_f aX8_readComparing_139 hc111 ?_
    refine g_ldin aX8_readComparing_142 rfl ?_
    have hJ : g_R sh 2 mX8_readComparing (some (.int r)) τ 153 [.ref 10, .int r1, .int x59] [.int ((if x59 = 0 then 8 else 9) : Int32)] (s110) := by
      cases hE
      exact g_iret aX8_readComparing_153 rfl rfl
    clear hE
    by_cases hc112 : x59 = 0
    · (try rw [if_pos hc112] at hJ)
      refine g_if_eq_t aX8_readComparing_143 hc112 ?_
      refine g_bipush (x := 8) aX8_readComparing_151 rfl ?_
      exact hJ
    · (try rw [if_neg hc112] at hJ)
      refine g_if_eq_f aX8_readComparing_143 hc112 ?_
      refine g_bipush (x := 9) aX8_readComparing_146 rfl ?_
      refine g_goto aX8_readComparing_148 ?_
      exact hJ
set_option maxRecDepth 20000 in
set_option maxHeartbeats 2000000 in
theorem tX8_readComparing_J118 {sh : List kd} {τ : St} {r : Int32} (hsh : cSh sh) {r1 : Int32} {s6 : St} {x59 : Int32} (hE : fX8_readComparing_J118 sh r1 s6 x59 = some (r, τ)) : g_R sh 2 mX8_readComparing (some (.int r)) τ 118 [.ref 10, .int r1, .retAddr 0] [.int x59] (s_F s6 1 2 ((s6.1 1 2) + 1)) := by
  unfold fX8_readComparing_J118 at hE
  refine g_stin (loc2 := [.ref 10, .int r1, .int x59]) aX8_readComparing_118 (Nat.le_of_ble_eq_true rfl) rfl ?_
  refine g_ldin aX8_readComparing_119 rfl ?_
  by_cases hc114 : x59 = 0
  · rw [if_pos hc114] at hE
    refine g_if_eq_t aX8_readComparing_120 hc114 ?_
    exact tX8_readComparing_J136 hsh hE
  · rw [if_neg hc114] at hE
    refine g_if_eq_f aX8_readComparing_120 hc114 ?_
    refine g_ldan aX8_readComparing_123 rfl ?_
    refine g_getR aX8_readComparing_124 (sC_10 hsh) rfl ?_
    refine g_dupa aX8_readComparing_127 ?_
    refine g_getI aX8_readComparing_128 (sC_1 hsh) rfl ?_
    refine g_iconst (x := 1) aX8_readComparing_131 rfl ?_
    refine g_iadd aX8_readComparing_132 ?_
    refine g_putI aX8_readComparing_133 (sC_1 hsh) rfl rfl ?_
    exact tX8_readComparing_J136 hsh hE
set_option maxRecDepth 20000 in
set_option maxHeartbeats 2000000 in
theorem tX8_readComparing_J136_224 {sh : List kd} {τ : St} {r : Int32} (hsh : cSh sh) {r1 : Int32} {x173 : Int32} {s224 : St} (hE : fX8_readComparing_J136_224 sh r1 x173 s224 = some (r, τ)) : g_R sh 2 mX8_readComparing (some (.int r)) τ 136 [.ref 10, .int r1, .int x173] [] (s224) := by
  unfold fX8_readComparing_J136_224 at hE
  refine g_ldin aX8_readComparing_136 rfl ?_
  refine g_bipush (x := 60) aX8_readComparing_137 rfl ?_
  by_cases hc225 : ¬ r1 = 60
  · rw [if_pos hc225] at hE
    refine g_ic_ne_t aX8_readComparing_139 hc225 ?_
    refine g_ldin aX8_readComparing_154 rfl ?_
    have hJ : g_R sh 2 mX8_readComparing (some (.int r)) τ 165 [.ref 10, .int r1, .int x173] [.int ((if x173 = 0 then 12 else 11) : Int32)] (s224) := by
      cases hE
      exact g_iret aX8_readComparing_165 rfl rfl
    clear hE
    by_cases hc225 : x173 = 0
    · (try rw [if_pos hc225] at hJ)
      refine g_if_eq_t aX8_readComparing_155 hc225 ?_
      refine g_bipush (x := 12) aX8_readComparing_163 rfl ?_
      exact hJ
    · (try rw [if_neg hc225] at hJ)
      refine g_if_eq_f aX8_readComparing_155 hc225 ?_
      refine g_bipush (x := 11) aX8_readComparing_158 rfl ?_
      refine g_goto aX8_readComparing_160 ?_
      exact hJ
  · rw [if_neg hc225] at hE
    refine g_ic_ne_f aX8_readComparing_139 hc225 ?_
    refine g_ldin aX8_readComparing_142 rfl ?_
    have hJ : g_R sh 2 mX8_readComparing (some (.int r)) τ 153 [.ref 10, .int r1, .int x173] [.int ((if x173 = 0 then 8 else 9) : Int32)] (s224) := by
      cases hE
      exact g_iret aX8_readComparing_153 rfl rfl
    clear hE
    by_cases hc226 : x173 = 0
    · (try rw [if_pos hc226] at hJ)
      refine g_if_eq_t aX8_readComparing_143 hc226 ?_
      refine g_bipush (x := 8) aX8_readComparing_151 rfl ?_
      exact hJ
    · (try rw [if_neg hc226] at hJ)
      refine g_if_eq_f aX8_readComparing_143 hc226 ?_
      refine g_bipush (x := 9) aX8_readComparing_146 rfl ?_
      refine g_goto aX8_readComparing_148 ?_
      exact hJ
set_option maxRecDepth 20000 in
set_option maxHeartbeats 2000000 in
theorem tX8_readComparing_J118_173 {sh : List kd} {τ : St} {r : Int32} (hsh : cSh sh) {r1 : Int32} {s120 : St} {x173 : Int32} (hE : fX8_readComparing_J118_173 sh r1 s120 x173 = some (r, τ)) : g_R sh 2 mX8_readComparing (some (.int r)) τ 118 [.ref 10, .int r1, .retAddr 0] [.int x173] (s_F s120 1 2 ((s120.1 1 2) + 1)) := by
  unfold fX8_readComparing_J118_173 at hE
  refine g_stin (loc2 := [.ref 10, .int r1, .int x173]) aX8_readComparing_118 (Nat.le_of_ble_eq_true rfl) rfl ?_
  refine g_ldin aX8_readComparing_119 rfl ?_
  by_cases hc228 : x173 = 0
  · rw [if_pos hc228] at hE
    refine g_if_eq_t aX8_readComparing_120 hc228 ?_
    exact tX8_readComparing_J136_224 hsh hE
  · rw [if_neg hc228] at hE
    refine g_if_eq_f aX8_readComparing_120 hc228 ?_
    refine g_ldan aX8_readComparing_123 rfl ?_
    refine g_getR aX8_readComparing_124 (sC_10 hsh) rfl ?_
    refine g_dupa aX8_readComparing_127 ?_
    refine g_getI aX8_readComparing_128 (sC_1 hsh) rfl ?_
    refine g_iconst (x := 1) aX8_readComparing_131 rfl ?_
    refine g_iadd aX8_readComparing_132 ?_
    refine g_putI aX8_readComparing_133 (sC_1 hsh) rfl rfl ?_
    exact tX8_readComparing_J136_224 hsh hE
set_option maxRecDepth 20000 in
set_option maxHeartbeats 2000000 in
theorem tX8_readComparing_J136_338 {sh : List kd} {τ : St} {r : Int32} (hsh : cSh sh) {r1 : Int32} {x287 : Int32} {s338 : St} (hE : fX8_readComparing_J136_338 sh r1 x287 s338 = some (r, τ)) : g_R sh 2 mX8_readComparing (some (.int r)) τ 136 [.ref 10, .int r1, .int x287] [] (s338) := by
  unfold fX8_readComparing_J136_338 at hE
  refine g_ldin aX8_readComparing_136 rfl ?_
  refine g_bipush (x := 60) aX8_readComparing_137 rfl ?_
  by_cases hc339 : ¬ r1 = 60
  · rw [if_pos hc339] at hE
    refine g_ic_ne_t aX8_readComparing_139 hc339 ?_
    refine g_ldin aX8_readComparing_154 rfl ?_
    have hJ : g_R sh 2 mX8_readComparing (some (.int r)) τ 165 [.ref 10, .int r1, .int x287] [.int ((if x287 = 0 then 12 else 11) : Int32)] (s338) := by
      cases hE
      exact g_iret aX8_readComparing_165 rfl rfl
    clear hE
    by_cases hc339 : x287 = 0
    · (try rw [if_pos hc339] at hJ)
      refine g_if_eq_t aX8_readComparing_155 hc339 ?_
      refine g_bipush (x := 12) aX8_readComparing_163 rfl ?_
      exact hJ
    · (try rw [if_neg hc339] at hJ)
      refine g_if_eq_f aX8_readComparing_155 hc339 ?_
      refine g_bipush (x := 11) aX8_readComparing_158 rfl ?_
      refine g_goto aX8_readComparing_160 ?_
      exact hJ
  · rw [if_neg hc339] at hE
    refine g_ic_ne_f aX8_readComparing_139 hc339 ?_
    refine g_ldin aX8_readComparing_142 rfl ?_
    have hJ : g_R sh 2 mX8_readComparing (some (.int r)) τ 153 [.ref 10, .int r1, .int x287] [.int ((if x287 = 0 then 8 else 9) : Int32)] (s338) := by
      cases hE
      exact g_iret aX8_readComparing_153 rfl rfl
    clear hE
    by_cases hc340 : x287 = 0
    · (try rw [if_pos hc340] at hJ)
      refine g_if_eq_t aX8_readComparing_143 hc340 ?_
      refine g_bipush (x := 8) aX8_readComparing_151 rfl ?_
      exact hJ
    · (try rw [if_neg hc340] at hJ)
      refine g_if_eq_f aX8_readComparing_143 hc340 ?_
      refine g_bipush (x := 9) aX8_readComparing_146 rfl ?_
      refine g_goto aX8_readComparing_148 ?_
      exact hJ
set_option maxRecDepth 20000 in
set_option maxHeartbeats 2000000 in
theorem tX8_readComparing_J118_287 {sh : List kd} {τ : St} {r : Int32} (hsh : cSh sh) {r1 : Int32} {s234 : St} {x287 : Int32} (hE : fX8_readComparing_J118_287 sh r1 s234 x287 = some (r, τ)) : g_R sh 2 mX8_readComparing (some (.int r)) τ 118 [.ref 10, .int r1, .retAddr 0] [.int x287] (s_F s234 1 2 ((s234.1 1 2) + 1)) := by
  unfold fX8_readComparing_J118_287 at hE
  refine g_stin (loc2 := [.ref 10, .int r1, .int x287]) aX8_readComparing_118 (Nat.le_of_ble_eq_true rfl) rfl ?_
  refine g_ldin aX8_readComparing_119 rfl ?_
  by_cases hc342 : x287 = 0
  · rw [if_pos hc342] at hE
    refine g_if_eq_t aX8_readComparing_120 hc342 ?_
    exact tX8_readComparing_J136_338 hsh hE
  · rw [if_neg hc342] at hE
    refine g_if_eq_f aX8_readComparing_120 hc342 ?_
    refine g_ldan aX8_readComparing_123 rfl ?_
    refine g_getR aX8_readComparing_124 (sC_10 hsh) rfl ?_
    refine g_dupa aX8_readComparing_127 ?_
    refine g_getI aX8_readComparing_128 (sC_1 hsh) rfl ?_
    refine g_iconst (x := 1) aX8_readComparing_131 rfl ?_
    refine g_iadd aX8_readComparing_132 ?_
    refine g_putI aX8_readComparing_133 (sC_1 hsh) rfl rfl ?_
    exact tX8_readComparing_J136_338 hsh hE
set_option maxRecDepth 20000 in
set_option maxHeartbeats 2000000 in
theorem tX8_readComparing {sh : List kd} {σ τ : St} {r : Int32} (hsh : cSh sh) (hE : fX8_readComparing sh σ = some (r, τ)) : i_X 3 69 [.ref 10] (s_h sh σ) 0 0 (some (.int r)) (s_h sh τ) := by
  refine g_X (M := mX8_readComparing) (loc := [.ref 10, .retAddr 0, .retAddr 0]) rfl (Nat.le_of_ble_eq_true rfl) rfl ?_
  unfold fX8_readComparing at hE
  refine g_ldan aX8_readComparing_0 rfl ?_
  refine g_getR aX8_readComparing_1 (sC_10 hsh) rfl ?_
  obtain ⟨r1, s2, h3, hE⟩ := i_bd_some hE
  refine g_calV (As := []) (rest := []) aX8_readComparing_4 (i_X_mono (by omega) (tX9_sign hsh h3)) (sC_1 hsh) (by decide +kernel) rfl rfl (Nat.le_of_ble_eq_true rfl) rfl ?_
  refine g_stin (loc2 := [.ref 10, .int r1, .retAddr 0]) aX8_readComparing_7 (Nat.le_of_ble_eq_true rfl) rfl ?_
  refine g_ldin aX8_readComparing_8 rfl ?_
  refine g_bipush (x := 60) aX8_readComparing_9 rfl ?_
  by_cases hc4 : r1 = 60
  · rw [if_pos hc4] at hE
    refine g_ic_eq_t aX8_readComparing_11 hc4 ?_
    refine g_ldan aX8_readComparing_43 rfl ?_
    refine g_ldan aX8_readComparing_44 rfl ?_
    refine g_getR aX8_readComparing_45 (sC_10 hsh) rfl ?_
    refine g_getI aX8_readComparing_48 (sC_1 hsh) rfl ?_
    obtain ⟨r5, s6, h7, hE⟩ := i_bd_some hE
    refine g_calV (As := [.int (s2.1 1 2)]) (rest := []) aX8_readComparing_51 (i_X_mono (by omega) (tX8_countPart hsh h7)) (sC_10 hsh) (by decide +kernel) rfl rfl (Nat.le_of_ble_eq_true rfl) rfl ?_
    refine g_ldan aX8_readComparing_54 rfl ?_
    refine g_getR aX8_readComparing_55 (sC_10 hsh) rfl ?_
    refine g_dupa aX8_readComparing_58 ?_
    refine g_getI aX8_readComparing_59 (sC_1 hsh) rfl ?_
    refine g_iconst (x := 1) aX8_readComparing_62 rfl ?_
    refine g_iadd aX8_readComparing_63 ?_
    refine g_putI aX8_readComparing_64 (sC_1 hsh) rfl rfl ?_
    refine g_ldin aX8_readComparing_67 rfl ?_
    refine g_bipush (x := 61) aX8_readComparing_68 rfl ?_
    by_cases hc8 : ¬ r1 = 61
    · rw [if_pos hc8] at hE
      refine g_ic_ne_t aX8_readComparing_70 hc8 ?_
      refine g_ldan aX8_readComparing_76 rfl ?_
      refine g_getR aX8_readComparing_77 (sC_10 hsh) rfl ?_
      refine g_getI aX8_readComparing_80 (sC_1 hsh) rfl ?_
      refine g_ldan aX8_readComparing_83 rfl ?_
      refine g_getR aX8_readComparing_84 (sC_10 hsh) rfl ?_
      refine g_getI aX8_readComparing_87 (sC_1 hsh) rfl ?_
      by_cases hc115 : ((s_F s6 1 2 ((s6.1 1 2) + 1)).1 1 1) ≤ ((s_F s6 1 2 ((s6.1 1 2) + 1)).1 1 2)
      · rw [if_pos hc115] at hE
        refine g_ic_ge_t aX8_readComparing_90 hc115 ?_
        refine g_iconst (x := 0) aX8_readComparing_117 rfl ?_
        exact tX8_readComparing_J118 hsh hE
      · rw [if_neg hc115] at hE
        refine g_ic_ge_f aX8_readComparing_90 hc115 ?_
        refine g_ldan aX8_readComparing_93 rfl ?_
        refine g_getR aX8_readComparing_94 (sC_10 hsh) rfl ?_
        refine g_getR aX8_readComparing_97 (sC_1 hsh) rfl ?_
        refine g_ldan aX8_readComparing_100 rfl ?_
        refine g_getR aX8_readComparing_101 (sC_10 hsh) rfl ?_
        refine g_getI aX8_readComparing_104 (sC_1 hsh) rfl ?_
        obtain ⟨h116, hE⟩ := i_ifn hE
        refine g_ild aX8_readComparing_107 (sC_2 hsh) h116 ?_
        refine g_bipush (x := 61) aX8_readComparing_108 rfl ?_
        have hJ : g_R sh 2 mX8_readComparing (some (.int r)) τ 118 [.ref 10, .int r1, .retAddr 0] [.int ((if ¬ ((s_F s6 1 2 ((s6.1 1 2) + 1)).2.1 2 ((s_F s6 1 2 ((s6.1 1 2) + 1)).1 1 2).toNatClampNeg) = 61 then 0 else 1) : Int32)] (s_F s6 1 2 ((s6.1 1 2) + 1)) := by
          exact tX8_readComparing_J118 hsh hE
        clear hE
        by_cases hc116 : ¬ ((s_F s6 1 2 ((s6.1 1 2) + 1)).2.1 2 ((s_F s6 1 2 ((s6.1 1 2) + 1)).1 1 2).toNatClampNeg) = 61
        · (try rw [if_pos hc116] at hJ)
          refine g_ic_ne_t aX8_readComparing_110 hc116 ?_
          refine g_iconst (x := 0) aX8_readComparing_117 rfl ?_
          exact hJ
        · (try rw [if_neg hc116] at hJ)
          refine g_ic_ne_f aX8_readComparing_110 hc116 ?_
          refine g_iconst (x := 1) aX8_readComparing_113 rfl ?_
          refine g_goto aX8_readComparing_114 ?_
          exact hJ
    · rw [if_neg hc8] at hE
      refine g_ic_ne_f aX8_readComparing_70 hc8 ?_
      refine g_bipush (x := 10) aX8_readComparing_73 rfl ?_
      cases hE
      exact g_iret aX8_readComparing_75 rfl rfl
  · rw [if_neg hc4] at hE
    refine g_ic_eq_f aX8_readComparing_11 hc4 ?_
    refine g_ldin aX8_readComparing_14 rfl ?_
    refine g_bipush (x := 61) aX8_readComparing_15 rfl ?_
    by_cases hc118 : r1 = 61
    · rw [if_pos hc118] at hE
      refine g_ic_eq_t aX8_readComparing_17 hc118 ?_
      refine g_ldan aX8_readComparing_43 rfl ?_
      refine g_ldan aX8_readComparing_44 rfl ?_
      refine g_getR aX8_readComparing_45 (sC_10 hsh) rfl ?_
      refine g_getI aX8_readComparing_48 (sC_1 hsh) rfl ?_
      obtain ⟨r119, s120, h121, hE⟩ := i_bd_some hE
      refine g_calV (As := [.int (s2.1 1 2)]) (rest := []) aX8_readComparing_51 (i_X_mono (by omega) (tX8_countPart hsh h121)) (sC_10 hsh) (by decide +kernel) rfl rfl (Nat.le_of_ble_eq_true rfl) rfl ?_
      refine g_ldan aX8_readComparing_54 rfl ?_
      refine g_getR aX8_readComparing_55 (sC_10 hsh) rfl ?_
      refine g_dupa aX8_readComparing_58 ?_
      refine g_getI aX8_readComparing_59 (sC_1 hsh) rfl ?_
      refine g_iconst (x := 1) aX8_readComparing_62 rfl ?_
      refine g_iadd aX8_readComparing_63 ?_
      refine g_putI aX8_readComparing_64 (sC_1 hsh) rfl rfl ?_
      refine g_ldin aX8_readComparing_67 rfl ?_
      refine g_bipush (x := 61) aX8_readComparing_68 rfl ?_
      by_cases hc122 : ¬ r1 = 61
      · rw [if_pos hc122] at hE
        refine g_ic_ne_t aX8_readComparing_70 hc122 ?_
        refine g_ldan aX8_readComparing_76 rfl ?_
        refine g_getR aX8_readComparing_77 (sC_10 hsh) rfl ?_
        refine g_getI aX8_readComparing_80 (sC_1 hsh) rfl ?_
        refine g_ldan aX8_readComparing_83 rfl ?_
        refine g_getR aX8_readComparing_84 (sC_10 hsh) rfl ?_
        refine g_getI aX8_readComparing_87 (sC_1 hsh) rfl ?_
        by_cases hc229 : ((s_F s120 1 2 ((s120.1 1 2) + 1)).1 1 1) ≤ ((s_F s120 1 2 ((s120.1 1 2) + 1)).1 1 2)
        · rw [if_pos hc229] at hE
          refine g_ic_ge_t aX8_readComparing_90 hc229 ?_
          refine g_iconst (x := 0) aX8_readComparing_117 rfl ?_
          exact tX8_readComparing_J118_173 hsh hE
        · rw [if_neg hc229] at hE
          refine g_ic_ge_f aX8_readComparing_90 hc229 ?_
          refine g_ldan aX8_readComparing_93 rfl ?_
          refine g_getR aX8_readComparing_94 (sC_10 hsh) rfl ?_
          refine g_getR aX8_readComparing_97 (sC_1 hsh) rfl ?_
          refine g_ldan aX8_readComparing_100 rfl ?_
          refine g_getR aX8_readComparing_101 (sC_10 hsh) rfl ?_
          refine g_getI aX8_readComparing_104 (sC_1 hsh) rfl ?_
          obtain ⟨h230, hE⟩ := i_ifn hE
          refine g_ild aX8_readComparing_107 (sC_2 hsh) h230 ?_
          refine g_bipush (x := 61) aX8_readComparing_108 rfl ?_
          have hJ : g_R sh 2 mX8_readComparing (some (.int r)) τ 118 [.ref 10, .int r1, .retAddr 0] [.int ((if ¬ ((s_F s120 1 2 ((s120.1 1 2) + 1)).2.1 2 ((s_F s120 1 2 ((s120.1 1 2) + 1)).1 1 2).toNatClampNeg) = 61 then 0 else 1) : Int32)] (s_F s120 1 2 ((s120.1 1 2) + 1)) := by
            exact tX8_readComparing_J118_173 hsh hE
          clear hE
          by_cases hc230 : ¬ ((s_F s120 1 2 ((s120.1 1 2) + 1)).2.1 2 ((s_F s120 1 2 ((s120.1 1 2) + 1)).1 1 2).toNatClampNeg) = 61
          · (try rw [if_pos hc230] at hJ)
            refine g_ic_ne_t aX8_readComparing_110 hc230 ?_
            refine g_iconst (x := 0) aX8_readComparing_117 rfl ?_
            exact hJ
          · (try rw [if_neg hc230] at hJ)
            refine g_ic_ne_f aX8_readComparing_110 hc230 ?_
            refine g_iconst (x := 1) aX8_readComparing_113 rfl ?_
            refine g_goto aX8_readComparing_114 ?_
            exact hJ
      · rw [if_neg hc122] at hE
        refine g_ic_ne_f aX8_readComparing_70 hc122 ?_
        refine g_bipush (x := 10) aX8_readComparing_73 rfl ?_
        cases hE
        exact g_iret aX8_readComparing_75 rfl rfl
    · rw [if_neg hc118] at hE
      refine g_ic_eq_f aX8_readComparing_17 hc118 ?_
      refine g_ldin aX8_readComparing_20 rfl ?_
      refine g_bipush (x := 62) aX8_readComparing_21 rfl ?_
      by_cases hc232 : r1 = 62
      · rw [if_pos hc232] at hE
        refine g_ic_eq_t aX8_readComparing_23 hc232 ?_
        refine g_ldan aX8_readComparing_43 rfl ?_
        refine g_ldan aX8_readComparing_44 rfl ?_
        refine g_getR aX8_readComparing_45 (sC_10 hsh) rfl ?_
        refine g_getI aX8_readComparing_48 (sC_1 hsh) rfl ?_
        obtain ⟨r233, s234, h235, hE⟩ := i_bd_some hE
        refine g_calV (As := [.int (s2.1 1 2)]) (rest := []) aX8_readComparing_51 (i_X_mono (by omega) (tX8_countPart hsh h235)) (sC_10 hsh) (by decide +kernel) rfl rfl (Nat.le_of_ble_eq_true rfl) rfl ?_
        refine g_ldan aX8_readComparing_54 rfl ?_
        refine g_getR aX8_readComparing_55 (sC_10 hsh) rfl ?_
        refine g_dupa aX8_readComparing_58 ?_
        refine g_getI aX8_readComparing_59 (sC_1 hsh) rfl ?_
        refine g_iconst (x := 1) aX8_readComparing_62 rfl ?_
        refine g_iadd aX8_readComparing_63 ?_
        refine g_putI aX8_readComparing_64 (sC_1 hsh) rfl rfl ?_
        refine g_ldin aX8_readComparing_67 rfl ?_
        refine g_bipush (x := 61) aX8_readComparing_68 rfl ?_
        by_cases hc236 : ¬ r1 = 61
        · rw [if_pos hc236] at hE
          refine g_ic_ne_t aX8_readComparing_70 hc236 ?_
          refine g_ldan aX8_readComparing_76 rfl ?_
          refine g_getR aX8_readComparing_77 (sC_10 hsh) rfl ?_
          refine g_getI aX8_readComparing_80 (sC_1 hsh) rfl ?_
          refine g_ldan aX8_readComparing_83 rfl ?_
          refine g_getR aX8_readComparing_84 (sC_10 hsh) rfl ?_
          refine g_getI aX8_readComparing_87 (sC_1 hsh) rfl ?_
          by_cases hc343 : ((s_F s234 1 2 ((s234.1 1 2) + 1)).1 1 1) ≤ ((s_F s234 1 2 ((s234.1 1 2) + 1)).1 1 2)
          · rw [if_pos hc343] at hE
            refine g_ic_ge_t aX8_readComparing_90 hc343 ?_
            refine g_iconst (x := 0) aX8_readComparing_117 rfl ?_
            exact tX8_readComparing_J118_287 hsh hE
          · rw [if_neg hc343] at hE
            refine g_ic_ge_f aX8_readComparing_90 hc343 ?_
            refine g_ldan aX8_readComparing_93 rfl ?_
            refine g_getR aX8_readComparing_94 (sC_10 hsh) rfl ?_
            refine g_getR aX8_readComparing_97 (sC_1 hsh) rfl ?_
            refine g_ldan aX8_readComparing_100 rfl ?_
            refine g_getR aX8_readComparing_101 (sC_10 hsh) rfl ?_
            refine g_getI aX8_readComparing_104 (sC_1 hsh) rfl ?_
            obtain ⟨h344, hE⟩ := i_ifn hE
            refine g_ild aX8_readComparing_107 (sC_2 hsh) h344 ?_
            refine g_bipush (x := 61) aX8_readComparing_108 rfl ?_
            have hJ : g_R sh 2 mX8_readComparing (some (.int r)) τ 118 [.ref 10, .int r1, .retAddr 0] [.int ((if ¬ ((s_F s234 1 2 ((s234.1 1 2) + 1)).2.1 2 ((s_F s234 1 2 ((s234.1 1 2) + 1)).1 1 2).toNatClampNeg) = 61 then 0 else 1) : Int32)] (s_F s234 1 2 ((s234.1 1 2) + 1)) := by
              exact tX8_readComparing_J118_287 hsh hE
            clear hE
            by_cases hc344 : ¬ ((s_F s234 1 2 ((s234.1 1 2) + 1)).2.1 2 ((s_F s234 1 2 ((s234.1 1 2) + 1)).1 1 2).toNatClampNeg) = 61
            · (try rw [if_pos hc344] at hJ)
              refine g_ic_ne_t aX8_readComparing_110 hc344 ?_
              refine g_iconst (x := 0) aX8_readComparing_117 rfl ?_
              exact hJ
            · (try rw [if_neg hc344] at hJ)
              refine g_ic_ne_f aX8_readComparing_110 hc344 ?_
              refine g_iconst (x := 1) aX8_readComparing_113 rfl ?_
              refine g_goto aX8_readComparing_114 ?_
              exact hJ
        · rw [if_neg hc236] at hE
          refine g_ic_ne_f aX8_readComparing_70 hc236 ?_
          refine g_bipush (x := 10) aX8_readComparing_73 rfl ?_
          cases hE
          exact g_iret aX8_readComparing_75 rfl rfl
      · rw [if_neg hc232] at hE
        refine g_ic_eq_f aX8_readComparing_23 hc232 ?_
        refine g_ldan aX8_readComparing_26 rfl ?_
        refine g_getR aX8_readComparing_27 (sC_10 hsh) rfl ?_
        refine g_ldan aX8_readComparing_30 rfl ?_
        refine g_getR aX8_readComparing_31 (sC_10 hsh) rfl ?_
        refine g_getI aX8_readComparing_34 (sC_1 hsh) rfl ?_
        refine g_iconst (x := 0) aX8_readComparing_37 rfl ?_
        obtain ⟨r346, s347, h348, hE⟩ := i_bd_some hE
        refine g_calV (As := [.int (s2.1 1 2), .int 0]) (rest := []) aX8_readComparing_38 (i_X_mono (by omega) (tX9_refuse hsh h348)) (sC_1 hsh) (by decide +kernel) rfl rfl (Nat.le_of_ble_eq_true rfl) rfl ?_
        refine g_iconst (x := (-1)) aX8_readComparing_41 rfl ?_
        cases hE
        exact g_iret aX8_readComparing_42 rfl rfl
theorem aX8_readValue_0 : i_at mX8_readValue.2.2.2.2.2 0 = some (.aload_n 0, 1, 0, 0, 0, 0) := by decide +kernel
theorem aX8_readValue_1 : i_at mX8_readValue.2.2.2.2.2 1 = some (.getfield 24, 3, 7, 0, 234, 0) := by decide +kernel
theorem aX8_readValue_4 : i_at mX8_readValue.2.2.2.2.2 4 = some (.getfield 65, 3, 8, 3, 135, 0) := by decide +kernel
theorem aX8_readValue_7 : i_at mX8_readValue.2.2.2.2.2 7 = some (.ifCond .eq 4, 3, 11, 0, 0, 0) := by decide +kernel
theorem aX8_readValue_10 : i_at mX8_readValue.2.2.2.2.2 10 = some (.return_, 1, 0, 0, 0, 0) := by decide +kernel
theorem aX8_readValue_11 : i_at mX8_readValue.2.2.2.2.2 11 = some (.aload_n 0, 1, 0, 0, 0, 0) := by decide +kernel
theorem aX8_readValue_12 : i_at mX8_readValue.2.2.2.2.2 12 = some (.getfield 24, 3, 7, 0, 234, 0) := by decide +kernel
theorem aX8_readValue_15 : i_at mX8_readValue.2.2.2.2.2 15 = some (.invokevirtual 68, 3, 78, 0, 669, 0) := by decide +kernel
theorem aX8_readValue_18 : i_at mX8_readValue.2.2.2.2.2 18 = some (.istore_n 1, 1, 0, 0, 0, 0) := by decide +kernel
theorem aX8_readValue_19 : i_at mX8_readValue.2.2.2.2.2 19 = some (.aload_n 0, 1, 0, 0, 0, 0) := by decide +kernel
theorem aX8_readValue_20 : i_at mX8_readValue.2.2.2.2.2 20 = some (.getfield 24, 3, 7, 0, 234, 0) := by decide +kernel
theorem aX8_readValue_23 : i_at mX8_readValue.2.2.2.2.2 23 = some (.getfield 76, 3, 8, 2, 132, 0) := by decide +kernel
theorem aX8_readValue_26 : i_at mX8_readValue.2.2.2.2.2 26 = some (.istore_n 2, 1, 0, 0, 0, 0) := by decide +kernel
theorem aX8_readValue_27 : i_at mX8_readValue.2.2.2.2.2 27 = some (.iconst 0, 1, 0, 0, 0, 0) := by decide +kernel
theorem aX8_readValue_28 : i_at mX8_readValue.2.2.2.2.2 28 = some (.istore_n 3, 1, 0, 0, 0, 0) := by decide +kernel
theorem aX8_readValue_29 : i_at mX8_readValue.2.2.2.2.2 29 = some (.iconst 0, 1, 0, 0, 0, 0) := by decide +kernel
theorem aX8_readValue_30 : i_at mX8_readValue.2.2.2.2.2 30 = some (.istore 4, 2, 0, 0, 0, 0) := by decide +kernel
theorem aX8_readValue_32 : i_at mX8_readValue.2.2.2.2.2 32 = some (.iload_n 1, 1, 0, 0, 0, 0) := by decide +kernel
theorem aX8_readValue_33 : i_at mX8_readValue.2.2.2.2.2 33 = some (.bipush 48, 2, 0, 0, 0, 0) := by decide +kernel
theorem aX8_readValue_35 : i_at mX8_readValue.2.2.2.2.2 35 = some (.if_icmp .lt 24, 3, 59, 0, 0, 0) := by decide +kernel
theorem aX8_readValue_38 : i_at mX8_readValue.2.2.2.2.2 38 = some (.iload_n 1, 1, 0, 0, 0, 0) := by decide +kernel
theorem aX8_readValue_39 : i_at mX8_readValue.2.2.2.2.2 39 = some (.bipush 57, 2, 0, 0, 0, 0) := by decide +kernel
theorem aX8_readValue_41 : i_at mX8_readValue.2.2.2.2.2 41 = some (.if_icmp .gt 18, 3, 59, 0, 0, 0) := by decide +kernel
theorem aX8_readValue_44 : i_at mX8_readValue.2.2.2.2.2 44 = some (.aload_n 0, 1, 0, 0, 0, 0) := by decide +kernel
theorem aX8_readValue_45 : i_at mX8_readValue.2.2.2.2.2 45 = some (.getfield 24, 3, 7, 0, 234, 0) := by decide +kernel
theorem aX8_readValue_48 : i_at mX8_readValue.2.2.2.2.2 48 = some (.iconst 0, 1, 0, 0, 0, 0) := by decide +kernel
theorem aX8_readValue_49 : i_at mX8_readValue.2.2.2.2.2 49 = some (.ldc 128, 2, 0, 0, 670, 99999) := by decide +kernel
theorem aX8_readValue_51 : i_at mX8_readValue.2.2.2.2.2 51 = some (.invokevirtual 129, 3, 80, 2, 671, 0) := by decide +kernel
theorem aX8_readValue_54 : i_at mX8_readValue.2.2.2.2.2 54 = some (.istore 4, 2, 0, 0, 0, 0) := by decide +kernel
theorem aX8_readValue_56 : i_at mX8_readValue.2.2.2.2.2 56 = some (.goto 38, 3, 94, 0, 0, 0) := by decide +kernel
theorem aX8_readValue_59 : i_at mX8_readValue.2.2.2.2.2 59 = some (.iconst 1, 1, 0, 0, 0, 0) := by decide +kernel
theorem aX8_readValue_60 : i_at mX8_readValue.2.2.2.2.2 60 = some (.istore_n 3, 1, 0, 0, 0, 0) := by decide +kernel
theorem aX8_readValue_61 : i_at mX8_readValue.2.2.2.2.2 61 = some (.aload_n 0, 1, 0, 0, 0, 0) := by decide +kernel
theorem aX8_readValue_62 : i_at mX8_readValue.2.2.2.2.2 62 = some (.getfield 24, 3, 7, 0, 234, 0) := by decide +kernel
theorem aX8_readValue_65 : i_at mX8_readValue.2.2.2.2.2 65 = some (.ldc 133, 2, 1, 2, 0, 0) := by decide +kernel
theorem aX8_readValue_67 : i_at mX8_readValue.2.2.2.2.2 67 = some (.invokevirtual 96, 3, 81, 1, 658, 0) := by decide +kernel
theorem aX8_readValue_70 : i_at mX8_readValue.2.2.2.2.2 70 = some (.istore 4, 2, 0, 0, 0, 0) := by decide +kernel
theorem aX8_readValue_72 : i_at mX8_readValue.2.2.2.2.2 72 = some (.iload 4, 2, 0, 0, 0, 0) := by decide +kernel
theorem aX8_readValue_74 : i_at mX8_readValue.2.2.2.2.2 74 = some (.iconst (-1), 1, 0, 0, 0, 0) := by decide +kernel
theorem aX8_readValue_75 : i_at mX8_readValue.2.2.2.2.2 75 = some (.if_icmp .ne 12, 3, 87, 0, 0, 0) := by decide +kernel
theorem aX8_readValue_78 : i_at mX8_readValue.2.2.2.2.2 78 = some (.aload_n 0, 1, 0, 0, 0, 0) := by decide +kernel
theorem aX8_readValue_79 : i_at mX8_readValue.2.2.2.2.2 79 = some (.getfield 24, 3, 7, 0, 234, 0) := by decide +kernel
theorem aX8_readValue_82 : i_at mX8_readValue.2.2.2.2.2 82 = some (.iload_n 2, 1, 0, 0, 0, 0) := by decide +kernel
theorem aX8_readValue_83 : i_at mX8_readValue.2.2.2.2.2 83 = some (.iconst 0, 1, 0, 0, 0, 0) := by decide +kernel
theorem aX8_readValue_84 : i_at mX8_readValue.2.2.2.2.2 84 = some (.invokevirtual 79, 3, 77, 2, 659, 0) := by decide +kernel
theorem aX8_readValue_87 : i_at mX8_readValue.2.2.2.2.2 87 = some (.aload_n 0, 1, 0, 0, 0, 0) := by decide +kernel
theorem aX8_readValue_88 : i_at mX8_readValue.2.2.2.2.2 88 = some (.getfield 24, 3, 7, 0, 234, 0) := by decide +kernel
theorem aX8_readValue_91 : i_at mX8_readValue.2.2.2.2.2 91 = some (.invokevirtual 100, 3, 83, 0, 660, 0) := by decide +kernel
theorem aX8_readValue_94 : i_at mX8_readValue.2.2.2.2.2 94 = some (.aload_n 0, 1, 0, 0, 0, 0) := by decide +kernel
theorem aX8_readValue_95 : i_at mX8_readValue.2.2.2.2.2 95 = some (.iload_n 2, 1, 0, 0, 0, 0) := by decide +kernel
theorem aX8_readValue_96 : i_at mX8_readValue.2.2.2.2.2 96 = some (.invokevirtual 118, 3, 72, 1, 673, 0) := by decide +kernel
theorem aX8_readValue_99 : i_at mX8_readValue.2.2.2.2.2 99 = some (.aload_n 0, 1, 0, 0, 0, 0) := by decide +kernel
theorem aX8_readValue_100 : i_at mX8_readValue.2.2.2.2.2 100 = some (.iload_n 3, 1, 0, 0, 0, 0) := by decide +kernel
theorem aX8_readValue_101 : i_at mX8_readValue.2.2.2.2.2 101 = some (.iload 4, 2, 0, 0, 0, 0) := by decide +kernel
theorem aX8_readValue_103 : i_at mX8_readValue.2.2.2.2.2 103 = some (.invokevirtual 108, 3, 73, 2, 677, 0) := by decide +kernel
theorem aX8_readValue_106 : i_at mX8_readValue.2.2.2.2.2 106 = some (.return_, 1, 0, 0, 0, 0) := by decide +kernel
noncomputable def fX8_readValue_J87 (sh : List kd) (r2 : Int32) (s3 : St) (r56 : Int32) (s109 : St) : Option (Unit × St) := i_bd (fX9_skipWord sh s109) (fun r110 s111 => i_bd (fX8_countPart sh s111 (s3.1 1 2)) (fun r113 s114 => i_bd (fX8_write sh s114 1 r56) (fun r116 s117 => some ((), s117))))
noncomputable def fX8_readValue_J87_227 (sh : List kd) (r2 : Int32) (s3 : St) (r174 : Int32) (s227 : St) : Option (Unit × St) := i_bd (fX9_skipWord sh s227) (fun r228 s229 => i_bd (fX8_countPart sh s229 (s3.1 1 2)) (fun r231 s232 => i_bd (fX8_write sh s232 1 r174) (fun r234 s235 => some ((), s235))))
noncomputable def fX8_readValue (sh : List kd) (σ : St) : Option (Unit × St) := if (σ.1 1 3) = 0 then i_bd (fX9_sign sh σ) (fun r2 s3 => if r2 < 48 then i_bd (fX9_wordIn sh s3 2) (fun r56 s57 => if ¬ r56 = (-1) then fX8_readValue_J87 sh r2 s3 r56 s57 else i_bd (fX9_refuse sh s57 (s3.1 1 2) 0) (fun r120 s121 => fX8_readValue_J87 sh r2 s3 r56 s121)) else if 57 < r2 then i_bd (fX9_wordIn sh s3 2) (fun r174 s175 => if ¬ r174 = (-1) then fX8_readValue_J87_227 sh r2 s3 r174 s175 else i_bd (fX9_refuse sh s175 (s3.1 1 2) 0) (fun r238 s239 => fX8_readValue_J87_227 sh r2 s3 r174 s239)) else i_bd (fX9_number sh s3 0 99999) (fun r241 s242 => i_bd (fX8_countPart sh s242 (s3.1 1 2)) (fun r244 s245 => i_bd (fX8_write sh s245 0 r241) (fun r247 s248 => some ((), s248))))) else some ((), σ)
set_option maxRecDepth 20000 in
set_option maxHeartbeats 2000000 in
theorem tX8_readValue_J87 {sh : List kd} {τ : St} {r : Unit} (hsh : cSh sh) {r2 : Int32} {s3 : St} {r56 : Int32} {s109 : St} (hE : fX8_readValue_J87 sh r2 s3 r56 s109 = some (r, τ)) : g_R sh 2 mX8_readValue none τ 87 [.ref 10, .int r2, .int (s3.1 1 2), .int 1, .int r56] [] (s109) := by
  unfold fX8_readValue_J87 at hE
  refine g_ldan aX8_readValue_87 rfl ?_
  refine g_getR aX8_readValue_88 (sC_10 hsh) rfl ?_
  obtain ⟨r110, s111, h112, hE⟩ := i_bd_some hE
  refine g_calV (As := []) (rest := []) aX8_readValue_91 (i_X_mono (by omega) (tX9_skipWord hsh h112)) (sC_1 hsh) (by decide +kernel) rfl rfl (Nat.le_of_ble_eq_true rfl) rfl ?_
  refine g_ldan aX8_readValue_94 rfl ?_
  refine g_ldin aX8_readValue_95 rfl ?_
  obtain ⟨r113, s114, h115, hE⟩ := i_bd_some hE
  refine g_calV (As := [.int (s3.1 1 2)]) (rest := []) aX8_readValue_96 (i_X_mono (by omega) (tX8_countPart hsh h115)) (sC_10 hsh) (by decide +kernel) rfl rfl (Nat.le_of_ble_eq_true rfl) rfl ?_
  refine g_ldan aX8_readValue_99 rfl ?_
  refine g_ldin aX8_readValue_100 rfl ?_
  refine g_ldi aX8_readValue_101 rfl ?_
  obtain ⟨r116, s117, h118, hE⟩ := i_bd_some hE
  refine g_calV (As := [.int 1, .int r56]) (rest := []) aX8_readValue_103 (i_X_mono (by omega) (tX8_write hsh h118)) (sC_10 hsh) (by decide +kernel) rfl rfl (Nat.le_of_ble_eq_true rfl) rfl ?_
  cases hE
  exact g_vret aX8_readValue_106 rfl
set_option maxRecDepth 20000 in
set_option maxHeartbeats 2000000 in
theorem tX8_readValue_J87_227 {sh : List kd} {τ : St} {r : Unit} (hsh : cSh sh) {r2 : Int32} {s3 : St} {r174 : Int32} {s227 : St} (hE : fX8_readValue_J87_227 sh r2 s3 r174 s227 = some (r, τ)) : g_R sh 2 mX8_readValue none τ 87 [.ref 10, .int r2, .int (s3.1 1 2), .int 1, .int r174] [] (s227) := by
  unfold fX8_readValue_J87_227 at hE
  refine g_ldan aX8_readValue_87 rfl ?_
  refine g_getR aX8_readValue_88 (sC_10 hsh) rfl ?_
  obtain ⟨r228, s229, h230, hE⟩ := i_bd_some hE
  refine g_calV (As := []) (rest := []) aX8_readValue_91 (i_X_mono (by omega) (tX9_skipWord hsh h230)) (sC_1 hsh) (by decide +kernel) rfl rfl (Nat.le_of_ble_eq_true rfl) rfl ?_
  refine g_ldan aX8_readValue_94 rfl ?_
  refine g_ldin aX8_readValue_95 rfl ?_
  obtain ⟨r231, s232, h233, hE⟩ := i_bd_some hE
  refine g_calV (As := [.int (s3.1 1 2)]) (rest := []) aX8_readValue_96 (i_X_mono (by omega) (tX8_countPart hsh h233)) (sC_10 hsh) (by decide +kernel) rfl rfl (Nat.le_of_ble_eq_true rfl) rfl ?_
  refine g_ldan aX8_readValue_99 rfl ?_
  refine g_ldin aX8_readValue_100 rfl ?_
  refine g_ldi aX8_readValue_101 rfl ?_
  obtain ⟨r234, s235, h236, hE⟩ := i_bd_some hE
  refine g_calV (As := [.int 1, .int r174]) (rest := []) aX8_readValue_103 (i_X_mono (by omega) (tX8_write hsh h236)) (sC_10 hsh) (by decide +kernel) rfl rfl (Nat.le_of_ble_eq_true rfl) rfl ?_
  cases hE
  exact g_vret aX8_readValue_106 rfl
set_option maxRecDepth 20000 in
set_option maxHeartbeats 2000000 in
theorem tX8_readValue {sh : List kd} {σ τ : St} {r : Unit} (hsh : cSh sh) (hE : fX8_readValue sh σ = some (r, τ)) : i_X 3 71 [.ref 10] (s_h sh σ) 0 0 none (s_h sh τ) := by
  refine g_X (M := mX8_readValue) (loc := [.ref 10, .retAddr 0, .retAddr 0, .retAddr 0, .retAddr 0]) rfl (Nat.le_of_ble_eq_true rfl) rfl ?_
  unfold fX8_readValue at hE
  refine g_ldan aX8_readValue_0 rfl ?_
  refine g_getR aX8_readValue_1 (sC_10 hsh) rfl ?_
  refine g_getI aX8_readValue_4 (sC_1 hsh) rfl ?_
  by_cases hc1 : (σ.1 1 3) = 0
  · rw [if_pos hc1] at hE
    refine g_if_eq_t aX8_readValue_7 hc1 ?_
    refine g_ldan aX8_readValue_11 rfl ?_
    refine g_getR aX8_readValue_12 (sC_10 hsh) rfl ?_
    obtain ⟨r2, s3, h4, hE⟩ := i_bd_some hE
    refine g_calV (As := []) (rest := []) aX8_readValue_15 (i_X_mono (by omega) (tX9_sign hsh h4)) (sC_1 hsh) (by decide +kernel) rfl rfl (Nat.le_of_ble_eq_true rfl) rfl ?_
    refine g_stin (loc2 := [.ref 10, .int r2, .retAddr 0, .retAddr 0, .retAddr 0]) aX8_readValue_18 (Nat.le_of_ble_eq_true rfl) rfl ?_
    refine g_ldan aX8_readValue_19 rfl ?_
    refine g_getR aX8_readValue_20 (sC_10 hsh) rfl ?_
    refine g_getI aX8_readValue_23 (sC_1 hsh) rfl ?_
    refine g_stin (loc2 := [.ref 10, .int r2, .int (s3.1 1 2), .retAddr 0, .retAddr 0]) aX8_readValue_26 (Nat.le_of_ble_eq_true rfl) rfl ?_
    refine g_iconst (x := 0) aX8_readValue_27 rfl ?_
    refine g_stin (loc2 := [.ref 10, .int r2, .int (s3.1 1 2), .int 0, .retAddr 0]) aX8_readValue_28 (Nat.le_of_ble_eq_true rfl) rfl ?_
    refine g_iconst (x := 0) aX8_readValue_29 rfl ?_
    refine g_sti (loc2 := [.ref 10, .int r2, .int (s3.1 1 2), .int 0, .int 0]) aX8_readValue_30 (Nat.le_of_ble_eq_true rfl) rfl ?_
    refine g_ldin aX8_readValue_32 rfl ?_
    refine g_bipush (x := 48) aX8_readValue_33 rfl ?_
    by_cases hc55 : r2 < 48
    · rw [if_pos hc55] at hE
      refine g_ic_lt_t aX8_readValue_35 hc55 ?_
      refine g_iconst (x := 1) aX8_readValue_59 rfl ?_
      refine g_stin (loc2 := [.ref 10, .int r2, .int (s3.1 1 2), .int 1, .int 0]) aX8_readValue_60 (Nat.le_of_ble_eq_true rfl) rfl ?_
      refine g_ldan aX8_readValue_61 rfl ?_
      refine g_getR aX8_readValue_62 (sC_10 hsh) rfl ?_
      refine g_ldcS aX8_readValue_65 rfl ?_
      obtain ⟨r56, s57, h58, hE⟩ := i_bd_some hE
      refine g_calV (As := [.ref (i_SB + 2)]) (rest := []) aX8_readValue_67 (i_X_mono (by omega) (tX9_wordIn hsh h58)) (sC_1 hsh) (by decide +kernel) rfl rfl (Nat.le_of_ble_eq_true rfl) rfl ?_
      refine g_sti (loc2 := [.ref 10, .int r2, .int (s3.1 1 2), .int 1, .int r56]) aX8_readValue_70 (Nat.le_of_ble_eq_true rfl) rfl ?_
      refine g_ldi aX8_readValue_72 rfl ?_
      refine g_iconst (x := (-1)) aX8_readValue_74 rfl ?_
      by_cases hc119 : ¬ r56 = (-1)
      · rw [if_pos hc119] at hE
        refine g_ic_ne_t aX8_readValue_75 hc119 ?_
        exact tX8_readValue_J87 hsh hE
      · rw [if_neg hc119] at hE
        refine g_ic_ne_f aX8_readValue_75 hc119 ?_
        refine g_ldan aX8_readValue_78 rfl ?_
        refine g_getR aX8_readValue_79 (sC_10 hsh) rfl ?_
        refine g_ldin aX8_readValue_82 rfl ?_
        refine g_iconst (x := 0) aX8_readValue_83 rfl ?_
        obtain ⟨r120, s121, h122, hE⟩ := i_bd_some hE
        refine g_calV (As := [.int (s3.1 1 2), .int 0]) (rest := []) aX8_readValue_84 (i_X_mono (by omega) (tX9_refuse hsh h122)) (sC_1 hsh) (by decide +kernel) rfl rfl (Nat.le_of_ble_eq_true rfl) rfl ?_
        exact tX8_readValue_J87 hsh hE
    · rw [if_neg hc55] at hE
      refine g_ic_lt_f aX8_readValue_35 hc55 ?_
      refine g_ldin aX8_readValue_38 rfl ?_
      refine g_bipush (x := 57) aX8_readValue_39 rfl ?_
      by_cases hc173 : 57 < r2
      · rw [if_pos hc173] at hE
        refine g_ic_gt_t aX8_readValue_41 hc173 ?_
        refine g_iconst (x := 1) aX8_readValue_59 rfl ?_
        refine g_stin (loc2 := [.ref 10, .int r2, .int (s3.1 1 2), .int 1, .int 0]) aX8_readValue_60 (Nat.le_of_ble_eq_true rfl) rfl ?_
        refine g_ldan aX8_readValue_61 rfl ?_
        refine g_getR aX8_readValue_62 (sC_10 hsh) rfl ?_
        refine g_ldcS aX8_readValue_65 rfl ?_
        obtain ⟨r174, s175, h176, hE⟩ := i_bd_some hE
        refine g_calV (As := [.ref (i_SB + 2)]) (rest := []) aX8_readValue_67 (i_X_mono (by omega) (tX9_wordIn hsh h176)) (sC_1 hsh) (by decide +kernel) rfl rfl (Nat.le_of_ble_eq_true rfl) rfl ?_
        refine g_sti (loc2 := [.ref 10, .int r2, .int (s3.1 1 2), .int 1, .int r174]) aX8_readValue_70 (Nat.le_of_ble_eq_true rfl) rfl ?_
        refine g_ldi aX8_readValue_72 rfl ?_
        refine g_iconst (x := (-1)) aX8_readValue_74 rfl ?_
        by_cases hc237 : ¬ r174 = (-1)
        · rw [if_pos hc237] at hE
          refine g_ic_ne_t aX8_readValue_75 hc237 ?_
          exact tX8_readValue_J87_227 hsh hE
        · rw [if_neg hc237] at hE
          refine g_ic_ne_f aX8_readValue_75 hc237 ?_
          refine g_ldan aX8_readValue_78 rfl ?_
          refine g_getR aX8_readValue_79 (sC_10 hsh) rfl ?_
          refine g_ldin aX8_readValue_82 rfl ?_
          refine g_iconst (x := 0) aX8_readValue_83 rfl ?_
          obtain ⟨r238, s239, h240, hE⟩ := i_bd_some hE
          refine g_calV (As := [.int (s3.1 1 2), .int 0]) (rest := []) aX8_readValue_84 (i_X_mono (by omega) (tX9_refuse hsh h240)) (sC_1 hsh) (by decide +kernel) rfl rfl (Nat.le_of_ble_eq_true rfl) rfl ?_
          exact tX8_readValue_J87_227 hsh hE
      · rw [if_neg hc173] at hE
        refine g_ic_gt_f aX8_readValue_41 hc173 ?_
        refine g_ldan aX8_readValue_44 rfl ?_
        refine g_getR aX8_readValue_45 (sC_10 hsh) rfl ?_
        refine g_iconst (x := 0) aX8_readValue_48 rfl ?_
        refine g_ldcI (x := 99999) aX8_readValue_49 rfl rfl ?_
        obtain ⟨r241, s242, h243, hE⟩ := i_bd_some hE
        refine g_calV (As := [.int 0, .int 99999]) (rest := []) aX8_readValue_51 (i_X_mono (by omega) (tX9_number hsh h243)) (sC_1 hsh) (by decide +kernel) rfl rfl (Nat.le_of_ble_eq_true rfl) rfl ?_
        refine g_sti (loc2 := [.ref 10, .int r2, .int (s3.1 1 2), .int 0, .int r241]) aX8_readValue_54 (Nat.le_of_ble_eq_true rfl) rfl ?_
        refine g_goto aX8_readValue_56 ?_
        refine g_ldan aX8_readValue_94 rfl ?_
        refine g_ldin aX8_readValue_95 rfl ?_
        obtain ⟨r244, s245, h246, hE⟩ := i_bd_some hE
        refine g_calV (As := [.int (s3.1 1 2)]) (rest := []) aX8_readValue_96 (i_X_mono (by omega) (tX8_countPart hsh h246)) (sC_10 hsh) (by decide +kernel) rfl rfl (Nat.le_of_ble_eq_true rfl) rfl ?_
        refine g_ldan aX8_readValue_99 rfl ?_
        refine g_ldin aX8_readValue_100 rfl ?_
        refine g_ldi aX8_readValue_101 rfl ?_
        obtain ⟨r247, s248, h249, hE⟩ := i_bd_some hE
        refine g_calV (As := [.int 0, .int r241]) (rest := []) aX8_readValue_103 (i_X_mono (by omega) (tX8_write hsh h249)) (sC_10 hsh) (by decide +kernel) rfl rfl (Nat.le_of_ble_eq_true rfl) rfl ?_
        cases hE
        exact g_vret aX8_readValue_106 rfl
  · rw [if_neg hc1] at hE
    refine g_if_eq_f aX8_readValue_7 hc1 ?_
    cases hE
    exact g_vret aX8_readValue_10 rfl
theorem aX9_takeWord_0 : i_at mX9_takeWord.2.2.2.2.2 0 = some (.aload_n 0, 1, 0, 0, 0, 0) := by decide +kernel
theorem aX9_takeWord_1 : i_at mX9_takeWord.2.2.2.2.2 1 = some (.getfield 22, 3, 8, 3, 136, 0) := by decide +kernel
theorem aX9_takeWord_4 : i_at mX9_takeWord.2.2.2.2.2 4 = some (.ifCond .ne 11, 3, 15, 0, 0, 0) := by decide +kernel
theorem aX9_takeWord_7 : i_at mX9_takeWord.2.2.2.2.2 7 = some (.aload_n 0, 1, 0, 0, 0, 0) := by decide +kernel
theorem aX9_takeWord_8 : i_at mX9_takeWord.2.2.2.2.2 8 = some (.aload_n 1, 1, 0, 0, 0, 0) := by decide +kernel
theorem aX9_takeWord_9 : i_at mX9_takeWord.2.2.2.2.2 9 = some (.invokevirtual 49, 3, 81, 1, 690, 0) := by decide +kernel
theorem aX9_takeWord_12 : i_at mX9_takeWord.2.2.2.2.2 12 = some (.ifCond .eq 5, 3, 17, 0, 0, 0) := by decide +kernel
theorem aX9_takeWord_15 : i_at mX9_takeWord.2.2.2.2.2 15 = some (.iconst 0, 1, 0, 0, 0, 0) := by decide +kernel
theorem aX9_takeWord_16 : i_at mX9_takeWord.2.2.2.2.2 16 = some (.ireturn, 1, 0, 0, 0, 0) := by decide +kernel
theorem aX9_takeWord_17 : i_at mX9_takeWord.2.2.2.2.2 17 = some (.aload_n 0, 1, 0, 0, 0, 0) := by decide +kernel
theorem aX9_takeWord_18 : i_at mX9_takeWord.2.2.2.2.2 18 = some (.invokevirtual 53, 3, 83, 0, 691, 0) := by decide +kernel
theorem aX9_takeWord_21 : i_at mX9_takeWord.2.2.2.2.2 21 = some (.iconst 1, 1, 0, 0, 0, 0) := by decide +kernel
theorem aX9_takeWord_22 : i_at mX9_takeWord.2.2.2.2.2 22 = some (.ireturn, 1, 0, 0, 0, 0) := by decide +kernel
noncomputable def fX9_takeWord (sh : List kd) (σ : St) (p1 : Nat) : Option (Int32 × St) := if ¬ (σ.1 1 3) = 0 then some (0, σ) else i_bd (fX9_wordIn sh σ p1) (fun r2 s3 => if r2 = 0 then i_bd (fX9_skipWord sh s3) (fun r6 s7 => some (1, s7)) else some (0, s3))
set_option maxRecDepth 20000 in
set_option maxHeartbeats 2000000 in
theorem tX9_takeWord {sh : List kd} {σ τ : St} {r : Int32} (hsh : cSh sh) {p1 : Nat} (hE : fX9_takeWord sh σ p1 = some (r, τ)) : i_X 3 82 [.ref 1, .ref (i_SB + p1)] (s_h sh σ) 0 0 (some (.int r)) (s_h sh τ) := by
  refine g_X (M := mX9_takeWord) (loc := [.ref 1, .ref (i_SB + p1)]) rfl (Nat.le_of_ble_eq_true rfl) rfl ?_
  unfold fX9_takeWord at hE
  refine g_ldan aX9_takeWord_0 rfl ?_
  refine g_getI aX9_takeWord_1 (sC_1 hsh) rfl ?_
  by_cases hc1 : ¬ (σ.1 1 3) = 0
  · rw [if_pos hc1] at hE
    refine g_if_ne_t aX9_takeWord_4 hc1 ?_
    refine g_iconst (x := 0) aX9_takeWord_15 rfl ?_
    cases hE
    exact g_iret aX9_takeWord_16 rfl rfl
  · rw [if_neg hc1] at hE
    refine g_if_ne_f aX9_takeWord_4 hc1 ?_
    refine g_ldan aX9_takeWord_7 rfl ?_
    refine g_ldan aX9_takeWord_8 rfl ?_
    obtain ⟨r2, s3, h4, hE⟩ := i_bd_some hE
    refine g_calV (As := [.ref (i_SB + p1)]) (rest := []) aX9_takeWord_9 (i_X_mono (by omega) (tX9_wordIn hsh h4)) (sC_1 hsh) (by decide +kernel) rfl rfl (Nat.le_of_ble_eq_true rfl) rfl ?_
    by_cases hc5 : r2 = 0
    · rw [if_pos hc5] at hE
      refine g_if_eq_t aX9_takeWord_12 hc5 ?_
      refine g_ldan aX9_takeWord_17 rfl ?_
      obtain ⟨r6, s7, h8, hE⟩ := i_bd_some hE
      refine g_calV (As := []) (rest := []) aX9_takeWord_18 (i_X_mono (by omega) (tX9_skipWord hsh h8)) (sC_1 hsh) (by decide +kernel) rfl rfl (Nat.le_of_ble_eq_true rfl) rfl ?_
      refine g_iconst (x := 1) aX9_takeWord_21 rfl ?_
      cases hE
      exact g_iret aX9_takeWord_22 rfl rfl
    · rw [if_neg hc5] at hE
      refine g_if_eq_f aX9_takeWord_12 hc5 ?_
      refine g_iconst (x := 0) aX9_takeWord_15 rfl ?_
      cases hE
      exact g_iret aX9_takeWord_16 rfl rfl
theorem aX0_hand_0 : i_at mX0_hand.2.2.2.2.2 0 = some (.aload_n 1, 1, 0, 0, 0, 0) := by decide +kernel
theorem aX0_hand_1 : i_at mX0_hand.2.2.2.2.2 1 = some (.getfield 24, 3, 3, 3, 305, 0) := by decide +kernel
theorem aX0_hand_4 : i_at mX0_hand.2.2.2.2.2 4 = some (.ifCond .le 5, 3, 9, 0, 0, 0) := by decide +kernel
theorem aX0_hand_7 : i_at mX0_hand.2.2.2.2.2 7 = some (.iconst (-1), 1, 0, 0, 0, 0) := by decide +kernel
theorem aX0_hand_8 : i_at mX0_hand.2.2.2.2.2 8 = some (.ireturn, 1, 0, 0, 0, 0) := by decide +kernel
theorem aX0_hand_9 : i_at mX0_hand.2.2.2.2.2 9 = some (.aload_n 1, 1, 0, 0, 0, 0) := by decide +kernel
theorem aX0_hand_10 : i_at mX0_hand.2.2.2.2.2 10 = some (.getfield 30, 3, 3, 2, 302, 0) := by decide +kernel
theorem aX0_hand_13 : i_at mX0_hand.2.2.2.2.2 13 = some (.iconst (-1), 1, 0, 0, 0, 0) := by decide +kernel
theorem aX0_hand_14 : i_at mX0_hand.2.2.2.2.2 14 = some (.if_icmp .eq 8, 3, 22, 0, 0, 0) := by decide +kernel
theorem aX0_hand_17 : i_at mX0_hand.2.2.2.2.2 17 = some (.aload_n 1, 1, 0, 0, 0, 0) := by decide +kernel
theorem aX0_hand_18 : i_at mX0_hand.2.2.2.2.2 18 = some (.getfield 30, 3, 3, 2, 302, 0) := by decide +kernel
theorem aX0_hand_21 : i_at mX0_hand.2.2.2.2.2 21 = some (.ireturn, 1, 0, 0, 0, 0) := by decide +kernel
theorem aX0_hand_22 : i_at mX0_hand.2.2.2.2.2 22 = some (.iload_n 3, 1, 0, 0, 0, 0) := by decide +kernel
theorem aX0_hand_23 : i_at mX0_hand.2.2.2.2.2 23 = some (.ifCond .lt 21, 3, 44, 0, 0, 0) := by decide +kernel
theorem aX0_hand_26 : i_at mX0_hand.2.2.2.2.2 26 = some (.iload_n 3, 1, 0, 0, 0, 0) := by decide +kernel
theorem aX0_hand_27 : i_at mX0_hand.2.2.2.2.2 27 = some (.aload_n 0, 1, 0, 0, 0, 0) := by decide +kernel
theorem aX0_hand_28 : i_at mX0_hand.2.2.2.2.2 28 = some (.getfield 20, 3, 0, 0, 267, 0) := by decide +kernel
theorem aX0_hand_31 : i_at mX0_hand.2.2.2.2.2 31 = some (.arraylength, 1, 0, 0, 0, 0) := by decide +kernel
theorem aX0_hand_32 : i_at mX0_hand.2.2.2.2.2 32 = some (.if_icmp .ge 12, 3, 44, 0, 0, 0) := by decide +kernel
theorem aX0_hand_35 : i_at mX0_hand.2.2.2.2.2 35 = some (.aload_n 0, 1, 0, 0, 0, 0) := by decide +kernel
theorem aX0_hand_36 : i_at mX0_hand.2.2.2.2.2 36 = some (.getfield 20, 3, 0, 0, 267, 0) := by decide +kernel
theorem aX0_hand_39 : i_at mX0_hand.2.2.2.2.2 39 = some (.iload_n 3, 1, 0, 0, 0, 0) := by decide +kernel
theorem aX0_hand_40 : i_at mX0_hand.2.2.2.2.2 40 = some (.aaload, 1, 0, 0, 0, 0) := by decide +kernel
theorem aX0_hand_41 : i_at mX0_hand.2.2.2.2.2 41 = some (.goto 4, 3, 45, 0, 0, 0) := by decide +kernel
theorem aX0_hand_44 : i_at mX0_hand.2.2.2.2.2 44 = some (.aconst_null, 1, 0, 0, 0, 0) := by decide +kernel
theorem aX0_hand_45 : i_at mX0_hand.2.2.2.2.2 45 = some (.astore 4, 2, 0, 0, 0, 0) := by decide +kernel
theorem aX0_hand_47 : i_at mX0_hand.2.2.2.2.2 47 = some (.aload 4, 2, 0, 0, 0, 0) := by decide +kernel
theorem aX0_hand_49 : i_at mX0_hand.2.2.2.2.2 49 = some (.ifnonnull 17, 3, 66, 0, 0, 0) := by decide +kernel
theorem aX0_hand_52 : i_at mX0_hand.2.2.2.2.2 52 = some (.aload_n 2, 1, 0, 0, 0, 0) := by decide +kernel
theorem aX0_hand_53 : i_at mX0_hand.2.2.2.2.2 53 = some (.getfield 33, 3, 5, 7, 184, 0) := by decide +kernel
theorem aX0_hand_56 : i_at mX0_hand.2.2.2.2.2 56 = some (.aload_n 2, 1, 0, 0, 0, 0) := by decide +kernel
theorem aX0_hand_57 : i_at mX0_hand.2.2.2.2.2 57 = some (.aload_n 1, 1, 0, 0, 0, 0) := by decide +kernel
theorem aX0_hand_58 : i_at mX0_hand.2.2.2.2.2 58 = some (.getfield 39, 3, 3, 0, 293, 0) := by decide +kernel
theorem aX0_hand_61 : i_at mX0_hand.2.2.2.2.2 61 = some (.invokevirtual 42, 3, 55, 1, 801, 0) := by decide +kernel
theorem aX0_hand_64 : i_at mX0_hand.2.2.2.2.2 64 = some (.iaload, 1, 0, 0, 0, 0) := by decide +kernel
theorem aX0_hand_65 : i_at mX0_hand.2.2.2.2.2 65 = some (.ireturn, 1, 0, 0, 0, 0) := by decide +kernel
theorem aX0_hand_66 : i_at mX0_hand.2.2.2.2.2 66 = some (.aload_n 0, 1, 0, 0, 0, 0) := by decide +kernel
theorem aX0_hand_67 : i_at mX0_hand.2.2.2.2.2 67 = some (.aload_n 1, 1, 0, 0, 0, 0) := by decide +kernel
theorem aX0_hand_68 : i_at mX0_hand.2.2.2.2.2 68 = some (.aload_n 2, 1, 0, 0, 0, 0) := by decide +kernel
theorem aX0_hand_69 : i_at mX0_hand.2.2.2.2.2 69 = some (.invokevirtual 46, 3, 3, 2, 805, 0) := by decide +kernel
theorem aX0_hand_72 : i_at mX0_hand.2.2.2.2.2 72 = some (.iconst (-1), 1, 0, 0, 0, 0) := by decide +kernel
theorem aX0_hand_73 : i_at mX0_hand.2.2.2.2.2 73 = some (.istore 5, 2, 0, 0, 0, 0) := by decide +kernel
theorem aX0_hand_75 : i_at mX0_hand.2.2.2.2.2 75 = some (.lconst 0, 1, 0, 0, 0, 0) := by decide +kernel
theorem aX0_hand_76 : i_at mX0_hand.2.2.2.2.2 76 = some (.lstore 6, 2, 0, 0, 0, 0) := by decide +kernel
theorem aX0_hand_78 : i_at mX0_hand.2.2.2.2.2 78 = some (.iconst 0, 1, 0, 0, 0, 0) := by decide +kernel
theorem aX0_hand_79 : i_at mX0_hand.2.2.2.2.2 79 = some (.istore 8, 2, 0, 0, 0, 0) := by decide +kernel
theorem aX0_hand_81 : i_at mX0_hand.2.2.2.2.2 81 = some (.iload 8, 2, 0, 0, 0, 0) := by decide +kernel
theorem aX0_hand_83 : i_at mX0_hand.2.2.2.2.2 83 = some (.aload_n 2, 1, 0, 0, 0, 0) := by decide +kernel
theorem aX0_hand_84 : i_at mX0_hand.2.2.2.2.2 84 = some (.getfield 50, 3, 5, 3, 164, 0) := by decide +kernel
theorem aX0_hand_87 : i_at mX0_hand.2.2.2.2.2 87 = some (.if_icmp .ge 48, 3, 135, 0, 0, 0) := by decide +kernel
theorem aX0_hand_90 : i_at mX0_hand.2.2.2.2.2 90 = some (.aload_n 0, 1, 0, 0, 0, 0) := by decide +kernel
theorem aX0_hand_91 : i_at mX0_hand.2.2.2.2.2 91 = some (.aload_n 1, 1, 0, 0, 0, 0) := by decide +kernel
theorem aX0_hand_92 : i_at mX0_hand.2.2.2.2.2 92 = some (.aload_n 2, 1, 0, 0, 0, 0) := by decide +kernel
theorem aX0_hand_93 : i_at mX0_hand.2.2.2.2.2 93 = some (.iload 8, 2, 0, 0, 0, 0) := by decide +kernel
theorem aX0_hand_95 : i_at mX0_hand.2.2.2.2.2 95 = some (.invokevirtual 53, 3, 4, 3, 822, 0) := by decide +kernel
theorem aX0_hand_98 : i_at mX0_hand.2.2.2.2.2 98 = some (.aload 4, 2, 0, 0, 0, 0) := by decide +kernel
theorem aX0_hand_100 : i_at mX0_hand.2.2.2.2.2 100 = some (.aload_n 0, 1, 0, 0, 0, 0) := by decide +kernel
theorem aX0_hand_101 : i_at mX0_hand.2.2.2.2.2 101 = some (.getfield 11, 3, 0, 1, 268, 0) := by decide +kernel
theorem aX0_hand_104 : i_at mX0_hand.2.2.2.2.2 104 = some (.aload_n 0, 1, 0, 0, 0, 0) := by decide +kernel
theorem aX0_hand_105 : i_at mX0_hand.2.2.2.2.2 105 = some (.getfield 17, 3, 0, 2, 269, 0) := by decide +kernel
theorem aX0_hand_108 : i_at mX0_hand.2.2.2.2.2 108 = some (.invokevirtual 57, 3, 58, 2, 827, 0) := by decide +kernel
theorem aX0_hand_111 : i_at mX0_hand.2.2.2.2.2 111 = some (.lstore 9, 2, 0, 0, 0, 0) := by decide +kernel
theorem aX0_hand_113 : i_at mX0_hand.2.2.2.2.2 113 = some (.lload 9, 2, 0, 0, 0, 0) := by decide +kernel
theorem aX0_hand_115 : i_at mX0_hand.2.2.2.2.2 115 = some (.lload 6, 2, 0, 0, 0, 0) := by decide +kernel
theorem aX0_hand_117 : i_at mX0_hand.2.2.2.2.2 117 = some (.lcmp, 1, 0, 0, 0, 0) := by decide +kernel
theorem aX0_hand_118 : i_at mX0_hand.2.2.2.2.2 118 = some (.ifCond .le 11, 3, 129, 0, 0, 0) := by decide +kernel
theorem aX0_hand_121 : i_at mX0_hand.2.2.2.2.2 121 = some (.lload 9, 2, 0, 0, 0, 0) := by decide +kernel
theorem aX0_hand_123 : i_at mX0_hand.2.2.2.2.2 123 = some (.lstore 6, 2, 0, 0, 0, 0) := by decide +kernel
theorem aX0_hand_125 : i_at mX0_hand.2.2.2.2.2 125 = some (.iload 8, 2, 0, 0, 0, 0) := by decide +kernel
theorem aX0_hand_127 : i_at mX0_hand.2.2.2.2.2 127 = some (.istore 5, 2, 0, 0, 0, 0) := by decide +kernel
theorem aX0_hand_129 : i_at mX0_hand.2.2.2.2.2 129 = some (.iinc 8 1, 3, 0, 0, 0, 0) := by decide +kernel
theorem aX0_hand_132 : i_at mX0_hand.2.2.2.2.2 132 = some (.goto (-51), 3, 81, 0, 0, 0) := by decide +kernel
theorem aX0_hand_135 : i_at mX0_hand.2.2.2.2.2 135 = some (.iload 5, 2, 0, 0, 0, 0) := by decide +kernel
theorem aX0_hand_137 : i_at mX0_hand.2.2.2.2.2 137 = some (.ireturn, 1, 0, 0, 0, 0) := by decide +kernel
noncomputable def fX0_hand_J129 (sh : List kd) (p1 : Nat) (p2 : Nat) (p3 : Int32) (q54 : Nat) (x63 : Int32) (r122 : Int64) (s123 : St) (k81 : Int32 → Int64 → Value → Int32 → Value → Value → St → Option (Int32 × St)) (x175 : Int32) (x176 : Int64) (x177 : Value) : Option (Int32 × St) := k81 x175 x176 x177 (x63 + 1) (.long r122) (.retAddr 0) s123
noncomputable def fX0_hand_L81 (sh : List kd) (p1 : Nat) (p2 : Nat) (p3 : Int32) (q54 : Nat) : Nat → Int32 → Int64 → Value → Int32 → Value → Value → St → Option (Int32 × St)
  | 0, _, _, _, _, _, _, _ => none
  | n67 + 1, x60, x61, x62, x63, x64, x65, s66 => if (s66.1 p2 3) ≤ x63 then some (x60, s66) else i_bd (fX0_tellThing sh s66 p1 p2 x63) (fun r119 s120 => i_bd (fX7_worth sh s120 q54 17 18) (fun r122 s123 => if (lg_cmp r122 x61) ≤ 0 then fX0_hand_J129 sh p1 p2 p3 q54 x63 r122 s123 (fX0_hand_L81 sh p1 p2 p3 q54 n67) x60 x61 x62 else fX0_hand_J129 sh p1 p2 p3 q54 x63 r122 s123 (fX0_hand_L81 sh p1 p2 p3 q54 n67) x63 r122 (.retAddr 0)))
noncomputable def fX0_hand_J45 (sh : List kd) (p1 : Nat) (p2 : Nat) (p3 : Int32) (σ : St) (x53 : Option Nat) : Option (Int32 × St) := i_oe x53 (fun q54 => i_ck (uSh sh q54) (i_bd (fX0_tellHour sh σ p1 p2) (fun r57 s58 => fX0_hand_L81 sh p1 p2 p3 q54 i_F (-1) 0 (.retAddr 0) 0 (.retAddr 0) (.retAddr 0) s58))) (i_bd (fX6_clockAt sh σ p2 (σ.1 p1 0)) (fun r179 s180 => if i_ok r179 12 then some ((s180.2.1 (p2 + 3) r179.toNatClampNeg), s180) else none))
noncomputable def fX0_hand (sh : List kd) (σ : St) (p1 : Nat) (p2 : Nat) (p3 : Int32) : Option (Int32 × St) := if (σ.1 p1 3) ≤ 0 then if (σ.1 p1 2) = (-1) then if p3 < 0 then fX0_hand_J45 sh p1 p2 p3 σ none else if 6 ≤ p3 then fX0_hand_J45 sh p1 p2 p3 σ none else if i_ok p3 6 then fX0_hand_J45 sh p1 p2 p3 σ (σ.2.2.2 15 p3.toNatClampNeg) else none else some ((σ.1 p1 2), σ) else some ((-1), σ)
set_option maxRecDepth 20000 in
set_option maxHeartbeats 2000000 in
theorem tX0_hand_J129 {sh : List kd} {τ : St} {r : Int32} (hsh : cSh sh) {p1 : Nat} {p2 : Nat} {p3 : Int32} {q54 : Nat} {x63 : Int32} {r122 : Int64} {s123 : St} {x175 : Int32} {x176 : Int64} {x177 : Value} {k81 : Int32 → Int64 → Value → Int32 → Value → Value → St → Option (Int32 × St)} (hp1 : lSh sh p1) (hp2 : rSh sh p2) (h56 : uSh sh q54) (hk81 : ∀ (x60 : Int32) (x61 : Int64) (x62 : Value) (x63 : Int32) (x64 : Value) (x65 : Value) (s66 : St), k81 x60 x61 x62 x63 x64 x65 s66 = some (r, τ) → g_R sh 3 mX0_hand (some (.int r)) τ 81 [.ref 16, .ref p1, .ref p2, .int p3, .ref q54, .int x60, .long x61, x62, .int x63, x64, x65] [] (s66)) (hE : fX0_hand_J129 sh p1 p2 p3 q54 x63 r122 s123 k81 x175 x176 x177 = some (r, τ)) : g_R sh 3 mX0_hand (some (.int r)) τ 129 [.ref 16, .ref p1, .ref p2, .int p3, .ref q54, .int x175, .long x176, x177, .int x63, .long r122, .retAddr 0] [] (s123) := by
  unfold fX0_hand_J129 at hE
  refine g_iinc (y := 1) (loc2 := [.ref 16, .ref p1, .ref p2, .int p3, .ref q54, .int x175, .long x176, x177, .int (x63 + 1), .long r122, .retAddr 0]) aX0_hand_129 rfl rfl rfl ?_
  refine g_goto aX0_hand_132 ?_
  exact hk81 _ _ _ _ _ _ _ hE
set_option maxRecDepth 20000 in
set_option maxHeartbeats 2000000 in
theorem tX0_hand_L81 {sh : List kd} {τ : St} {r : Int32} (hsh : cSh sh) {p1 : Nat} {p2 : Nat} {p3 : Int32} {q54 : Nat} (hp1 : lSh sh p1) (hp2 : rSh sh p2) (h56 : uSh sh q54) : ∀ (n0 : Nat) (x60 : Int32) (x61 : Int64) (x62 : Value) (x63 : Int32) (x64 : Value) (x65 : Value) (s66 : St), fX0_hand_L81 sh p1 p2 p3 q54 n0 x60 x61 x62 x63 x64 x65 s66 = some (r, τ) → g_R sh 3 mX0_hand (some (.int r)) τ 81 [.ref 16, .ref p1, .ref p2, .int p3, .ref q54, .int x60, .long x61, x62, .int x63, x64, x65] [] (s66) := by
  intro n0
  induction n0 with
  | zero => intro _ _ _ _ _ _ _ hE; cases hE
  | succ n67 ih =>
    intro x60 x61 x62 x63 x64 x65 s66 hE
    unfold fX0_hand_L81 at hE
    refine g_ldi aX0_hand_81 rfl ?_
    refine g_ldan aX0_hand_83 rfl ?_
    refine g_getI aX0_hand_84 (hp2.1) rfl ?_
    by_cases hc118 : (s66.1 p2 3) ≤ x63
    · rw [if_pos hc118] at hE
      refine g_ic_ge_t aX0_hand_87 hc118 ?_
      refine g_ldi aX0_hand_135 rfl ?_
      cases hE
      exact g_iret aX0_hand_137 rfl rfl
    · rw [if_neg hc118] at hE
      refine g_ic_ge_f aX0_hand_87 hc118 ?_
      refine g_ldan aX0_hand_90 rfl ?_
      refine g_ldan aX0_hand_91 rfl ?_
      refine g_ldan aX0_hand_92 rfl ?_
      refine g_ldi aX0_hand_93 rfl ?_
      obtain ⟨r119, s120, h121, hE⟩ := i_bd_some hE
      refine g_calV (As := [.ref p1, .ref p2, .int x63]) (rest := []) aX0_hand_95 (i_X_mono (by omega) (tX0_tellThing hsh hp1 hp2 h121)) (sC_16 hsh) (by decide +kernel) rfl rfl (Nat.le_of_ble_eq_true rfl) rfl ?_
      refine g_lda aX0_hand_98 rfl ?_
      refine g_ldan aX0_hand_100 rfl ?_
      refine g_getR aX0_hand_101 (sC_16 hsh) rfl ?_
      refine g_ldan aX0_hand_104 rfl ?_
      refine g_getR aX0_hand_105 (sC_16 hsh) rfl ?_
      obtain ⟨r122, s123, h124, hE⟩ := i_bd_some hE
      refine g_calV (As := [.ref 17, .ref 18]) (rest := []) aX0_hand_108 (i_X_mono (by omega) (tX7_worth hsh h56 h124)) (h56) (by decide +kernel) rfl rfl (Nat.le_of_ble_eq_true rfl) rfl ?_
      refine g_stl (loc2 := [.ref 16, .ref p1, .ref p2, .int p3, .ref q54, .int x60, .long x61, x62, .int x63, .long r122, .retAddr 0]) aX0_hand_111 (Nat.le_of_ble_eq_true rfl) rfl ?_
      refine g_ldl aX0_hand_113 rfl ?_
      refine g_ldl aX0_hand_115 rfl ?_
      refine g_lcmp aX0_hand_117 ?_
      by_cases hc178 : (lg_cmp r122 x61) ≤ 0
      · rw [if_pos hc178] at hE
        refine g_if_le_t aX0_hand_118 hc178 ?_
        exact tX0_hand_J129 hsh hp1 hp2 h56 ih hE
      · rw [if_neg hc178] at hE
        refine g_if_le_f aX0_hand_118 hc178 ?_
        refine g_ldl aX0_hand_121 rfl ?_
        refine g_stl (loc2 := [.ref 16, .ref p1, .ref p2, .int p3, .ref q54, .int x60, .long r122, .retAddr 0, .int x63, .long r122, .retAddr 0]) aX0_hand_123 (Nat.le_of_ble_eq_true rfl) rfl ?_
        refine g_ldi aX0_hand_125 rfl ?_
        refine g_sti (loc2 := [.ref 16, .ref p1, .ref p2, .int p3, .ref q54, .int x63, .long r122, .retAddr 0, .int x63, .long r122, .retAddr 0]) aX0_hand_127 (Nat.le_of_ble_eq_true rfl) rfl ?_
        exact tX0_hand_J129 hsh hp1 hp2 h56 ih hE
set_option maxRecDepth 20000 in
set_option maxHeartbeats 2000000 in
theorem tX0_hand_J45 {sh : List kd} {τ : St} {r : Int32} (hsh : cSh sh) {p1 : Nat} {p2 : Nat} {p3 : Int32} {σ : St} {x53 : Option Nat} (hp1 : lSh sh p1) (hp2 : rSh sh p2) (hE : fX0_hand_J45 sh p1 p2 p3 σ x53 = some (r, τ)) : g_R sh 3 mX0_hand (some (.int r)) τ 45 [.ref 16, .ref p1, .ref p2, .int p3, .retAddr 0, .retAddr 0, .retAddr 0, .retAddr 0, .retAddr 0, .retAddr 0, .retAddr 0] [va_rf x53] (σ) := by
  unfold fX0_hand_J45 at hE
  refine g_stq (loc2 := [.ref 16, .ref p1, .ref p2, .int p3, va_rf x53, .retAddr 0, .retAddr 0, .retAddr 0, .retAddr 0, .retAddr 0, .retAddr 0]) aX0_hand_45 (Nat.le_of_ble_eq_true rfl) rfl ?_
  refine g_ldq aX0_hand_47 rfl ?_
  rcases i_oe_some hE with ⟨q54, h55, hE⟩ | ⟨h55, hE⟩
  · rw [h55]
    obtain ⟨h56, hE⟩ := i_ck_some hE
    refine g_nn_t aX0_hand_49 ?_
    refine g_ldan aX0_hand_66 rfl ?_
    refine g_ldan aX0_hand_67 rfl ?_
    refine g_ldan aX0_hand_68 rfl ?_
    obtain ⟨r57, s58, h59, hE⟩ := i_bd_some hE
    refine g_calV (As := [.ref p1, .ref p2]) (rest := []) aX0_hand_69 (i_X_mono (by omega) (tX0_tellHour hsh hp1 hp2 h59)) (sC_16 hsh) (by decide +kernel) rfl rfl (Nat.le_of_ble_eq_true rfl) rfl ?_
    refine g_iconst (x := (-1)) aX0_hand_72 rfl ?_
    refine g_sti (loc2 := [.ref 16, .ref p1, .ref p2, .int p3, .ref q54, .int (-1), .retAddr 0, .retAddr 0, .retAddr 0, .retAddr 0, .retAddr 0]) aX0_hand_73 (Nat.le_of_ble_eq_true rfl) rfl ?_
    refine g_lconst (x := 0) aX0_hand_75 rfl ?_
    refine g_stl (loc2 := [.ref 16, .ref p1, .ref p2, .int p3, .ref q54, .int (-1), .long 0, .retAddr 0, .retAddr 0, .retAddr 0, .retAddr 0]) aX0_hand_76 (Nat.le_of_ble_eq_true rfl) rfl ?_
    refine g_iconst (x := 0) aX0_hand_78 rfl ?_
    refine g_sti (loc2 := [.ref 16, .ref p1, .ref p2, .int p3, .ref q54, .int (-1), .long 0, .retAddr 0, .int 0, .retAddr 0, .retAddr 0]) aX0_hand_79 (Nat.le_of_ble_eq_true rfl) rfl ?_
    exact tX0_hand_L81 hsh hp1 hp2 h56 i_F _ _ _ _ _ _ _ hE
  · rw [h55]
    refine g_nn_f aX0_hand_49 ?_
    refine g_ldan aX0_hand_52 rfl ?_
    refine g_getR aX0_hand_53 (hp2.1) rfl ?_
    refine g_ldan aX0_hand_56 rfl ?_
    refine g_ldan aX0_hand_57 rfl ?_
    refine g_getI aX0_hand_58 (hp1.1) rfl ?_
    obtain ⟨r179, s180, h181, hE⟩ := i_bd_some hE
    refine g_calV (As := [.int (σ.1 p1 0)]) (rest := [.ref (p2 + 3)]) aX0_hand_61 (i_X_mono (by omega) (tX6_clockAt hsh hp2 h181)) (hp2.1) (by decide +kernel) rfl rfl (Nat.le_of_ble_eq_true rfl) rfl ?_
    obtain ⟨h182, hE⟩ := i_ifn hE
    refine g_ild aX0_hand_64 (hp2.2.2.2.1) h182 ?_
    cases hE
    exact g_iret aX0_hand_65 rfl rfl
set_option maxRecDepth 20000 in
set_option maxHeartbeats 2000000 in
theorem tX0_hand {sh : List kd} {σ τ : St} {r : Int32} (hsh : cSh sh) {p1 : Nat} {p2 : Nat} {p3 : Int32} (hp1 : lSh sh p1) (hp2 : rSh sh p2) (hE : fX0_hand sh σ p1 p2 p3 = some (r, τ)) : i_X 4 1 [.ref 16, .ref p1, .ref p2, .int p3] (s_h sh σ) 0 0 (some (.int r)) (s_h sh τ) := by
  refine g_X (M := mX0_hand) (loc := [.ref 16, .ref p1, .ref p2, .int p3, .retAddr 0, .retAddr 0, .retAddr 0, .retAddr 0, .retAddr 0, .retAddr 0, .retAddr 0]) rfl (Nat.le_of_ble_eq_true rfl) rfl ?_
  unfold fX0_hand at hE
  refine g_ldan aX0_hand_0 rfl ?_
  refine g_getI aX0_hand_1 (hp1.1) rfl ?_
  by_cases hc1 : (σ.1 p1 3) ≤ 0
  · rw [if_pos hc1] at hE
    refine g_if_le_t aX0_hand_4 hc1 ?_
    refine g_ldan aX0_hand_9 rfl ?_
    refine g_getI aX0_hand_10 (hp1.1) rfl ?_
    refine g_iconst (x := (-1)) aX0_hand_13 rfl ?_
    by_cases hc2 : (σ.1 p1 2) = (-1)
    · rw [if_pos hc2] at hE
      refine g_ic_eq_t aX0_hand_14 hc2 ?_
      refine g_ldin aX0_hand_22 rfl ?_
      by_cases hc183 : p3 < 0
      · rw [if_pos hc183] at hE
        refine g_if_lt_t aX0_hand_23 hc183 ?_
        refine g_null aX0_hand_44 ?_
        exact tX0_hand_J45 hsh hp1 hp2 hE
      · rw [if_neg hc183] at hE
        refine g_if_lt_f aX0_hand_23 hc183 ?_
        refine g_ldin aX0_hand_26 rfl ?_
        refine g_ldan aX0_hand_27 rfl ?_
        refine g_getR aX0_hand_28 (sC_16 hsh) rfl ?_
        refine g_len aX0_hand_31 (sC_15 hsh) ?_
        by_cases hc184 : 6 ≤ p3
        · rw [if_pos hc184] at hE
          refine g_ic_ge_t aX0_hand_32 hc184 ?_
          refine g_null aX0_hand_44 ?_
          exact tX0_hand_J45 hsh hp1 hp2 hE
        · rw [if_neg hc184] at hE
          refine g_ic_ge_f aX0_hand_32 hc184 ?_
          refine g_ldan aX0_hand_35 rfl ?_
          refine g_getR aX0_hand_36 (sC_16 hsh) rfl ?_
          refine g_ldin aX0_hand_39 rfl ?_
          obtain ⟨h185, hE⟩ := i_ifn hE
          refine g_ald aX0_hand_40 (sC_15 hsh) h185 ?_
          refine g_goto aX0_hand_41 ?_
          exact tX0_hand_J45 hsh hp1 hp2 hE
    · rw [if_neg hc2] at hE
      refine g_ic_eq_f aX0_hand_14 hc2 ?_
      refine g_ldan aX0_hand_17 rfl ?_
      refine g_getI aX0_hand_18 (hp1.1) rfl ?_
      cases hE
      exact g_iret aX0_hand_21 rfl rfl
  · rw [if_neg hc1] at hE
    refine g_if_le_f aX0_hand_4 hc1 ?_
    refine g_iconst (x := (-1)) aX0_hand_7 rfl ?_
    cases hE
    exact g_iret aX0_hand_8 rfl rfl
