/-! X8_readValue X9_takeWord X0_hand X0_pass X1_read X3_playFromBegin X5_goOn X5_after X5_firstDubbing -/
theorem aX8_readValue_0 : i_at mX8_readValue.2.2.2.2.2 0 = some (.aload_n 0, 1, 0, 0, 0, 0) := by decide +kernel
theorem aX8_readValue_1 : i_at mX8_readValue.2.2.2.2.2 1 = some (.getfield 24, 3, 7, 0, 234, 0) := by decide +kernel
theorem aX8_readValue_4 : i_at mX8_readValue.2.2.2.2.2 4 = some (.getfield 65, 3, 8, 3, 135, 0) := by decide +kernel
theorem aX8_readValue_7 : i_at mX8_readValue.2.2.2.2.2 7 = some (.ifCond .eq 4, 3, 11, 0, 0, 0) := by decide +kernel
theorem aX8_readValue_10 : i_at mX8_readValue.2.2.2.2.2 10 = some (.return_, 1, 0, 0, 0, 0) := by decide +kernel
theorem aX8_readValue_11 : i_at mX8_readValue.2.2.2.2.2 11 = some (.aload_n 0, 1, 0, 0, 0, 0) := by decide +kernel
theorem aX8_readValue_12 : i_at mX8_readValue.2.2.2.2.2 12 = some (.getfield 24, 3, 7, 0, 234, 0) := by decide +kernel
theorem aX8_readValue_15 : i_at mX8_readValue.2.2.2.2.2 15 = some (.invokevirtual 68, 3, 78, 0, 669, 0) := by decide +kernel
theorem aX8_readValue_18 : i_at mX8_readValue.2.2.2.2.2 18 = some (.istore_n 1, 1, 0, 0, 0, 0) := by decide +kernel
theorem aX8_readValue_19 : i_at mX8_readValue.2.2.2.2.2 19 = some (.aload_n 0, 1, 0, 0, 0, 0) := by decide +kernel
theorem aX8_readValue_20 : i_at mX8_readValue.2.2.2.2.2 20 = some (.getfield 24, 3, 7, 0, 234, 0) := by decide +kernel
theorem aX8_readValue_23 : i_at mX8_readValue.2.2.2.2.2 23 = some (.getfield 76, 3, 8, 2, 132, 0) := by decide +kernel
theorem aX8_readValue_26 : i_at mX8_readValue.2.2.2.2.2 26 = some (.istore_n 2, 1, 0, 0, 0, 0) := by decide +kernel
theorem aX8_readValue_27 : i_at mX8_readValue.2.2.2.2.2 27 = some (.iconst 0, 1, 0, 0, 0, 0) := by decide +kernel
theorem aX8_readValue_28 : i_at mX8_readValue.2.2.2.2.2 28 = some (.istore_n 3, 1, 0, 0, 0, 0) := by decide +kernel
theorem aX8_readValue_29 : i_at mX8_readValue.2.2.2.2.2 29 = some (.iconst 0, 1, 0, 0, 0, 0) := by decide +kernel
theorem aX8_readValue_30 : i_at mX8_readValue.2.2.2.2.2 30 = some (.istore 4, 2, 0, 0, 0, 0) := by decide +kernel
theorem aX8_readValue_32 : i_at mX8_readValue.2.2.2.2.2 32 = some (.iload_n 1, 1, 0, 0, 0, 0) := by decide +kernel
theorem aX8_readValue_33 : i_at mX8_readValue.2.2.2.2.2 33 = some (.bipush 48, 2, 0, 0, 0, 0) := by decide +kernel
theorem aX8_readValue_35 : i_at mX8_readValue.2.2.2.2.2 35 = some (.if_icmp .lt 24, 3, 59, 0, 0, 0) := by decide +kernel
theorem aX8_readValue_38 : i_at mX8_readValue.2.2.2.2.2 38 = some (.iload_n 1, 1, 0, 0, 0, 0) := by decide +kernel
theorem aX8_readValue_39 : i_at mX8_readValue.2.2.2.2.2 39 = some (.bipush 57, 2, 0, 0, 0, 0) := by decide +kernel
theorem aX8_readValue_41 : i_at mX8_readValue.2.2.2.2.2 41 = some (.if_icmp .gt 18, 3, 59, 0, 0, 0) := by decide +kernel
theorem aX8_readValue_44 : i_at mX8_readValue.2.2.2.2.2 44 = some (.aload_n 0, 1, 0, 0, 0, 0) := by decide +kernel
theorem aX8_readValue_45 : i_at mX8_readValue.2.2.2.2.2 45 = some (.getfield 24, 3, 7, 0, 234, 0) := by decide +kernel
theorem aX8_readValue_48 : i_at mX8_readValue.2.2.2.2.2 48 = some (.iconst 0, 1, 0, 0, 0, 0) := by decide +kernel
theorem aX8_readValue_49 : i_at mX8_readValue.2.2.2.2.2 49 = some (.ldc 128, 2, 0, 0, 670, 99999) := by decide +kernel
theorem aX8_readValue_51 : i_at mX8_readValue.2.2.2.2.2 51 = some (.invokevirtual 129, 3, 80, 2, 671, 0) := by decide +kernel
theorem aX8_readValue_54 : i_at mX8_readValue.2.2.2.2.2 54 = some (.istore 4, 2, 0, 0, 0, 0) := by decide +kernel
theorem aX8_readValue_56 : i_at mX8_readValue.2.2.2.2.2 56 = some (.goto 38, 3, 94, 0, 0, 0) := by decide +kernel
theorem aX8_readValue_59 : i_at mX8_readValue.2.2.2.2.2 59 = some (.iconst 1, 1, 0, 0, 0, 0) := by decide +kernel
theorem aX8_readValue_60 : i_at mX8_readValue.2.2.2.2.2 60 = some (.istore_n 3, 1, 0, 0, 0, 0) := by decide +kernel
theorem aX8_readValue_61 : i_at mX8_readValue.2.2.2.2.2 61 = some (.aload_n 0, 1, 0, 0, 0, 0) := by decide +kernel
theorem aX8_readValue_62 : i_at mX8_readValue.2.2.2.2.2 62 = some (.getfield 24, 3, 7, 0, 234, 0) := by decide +kernel
theorem aX8_readValue_65 : i_at mX8_readValue.2.2.2.2.2 65 = some (.ldc 133, 2, 1, 2, 0, 0) := by decide +kernel
theorem aX8_readValue_67 : i_at mX8_readValue.2.2.2.2.2 67 = some (.invokevirtual 96, 3, 81, 1, 658, 0) := by decide +kernel
theorem aX8_readValue_70 : i_at mX8_readValue.2.2.2.2.2 70 = some (.istore 4, 2, 0, 0, 0, 0) := by decide +kernel
theorem aX8_readValue_72 : i_at mX8_readValue.2.2.2.2.2 72 = some (.iload 4, 2, 0, 0, 0, 0) := by decide +kernel
theorem aX8_readValue_74 : i_at mX8_readValue.2.2.2.2.2 74 = some (.iconst (-1), 1, 0, 0, 0, 0) := by decide +kernel
theorem aX8_readValue_75 : i_at mX8_readValue.2.2.2.2.2 75 = some (.if_icmp .ne 12, 3, 87, 0, 0, 0) := by decide +kernel
theorem aX8_readValue_78 : i_at mX8_readValue.2.2.2.2.2 78 = some (.aload_n 0, 1, 0, 0, 0, 0) := by decide +kernel
theorem aX8_readValue_79 : i_at mX8_readValue.2.2.2.2.2 79 = some (.getfield 24, 3, 7, 0, 234, 0) := by decide +kernel
theorem aX8_readValue_82 : i_at mX8_readValue.2.2.2.2.2 82 = some (.iload_n 2, 1, 0, 0, 0, 0) := by decide +kernel
theorem aX8_readValue_83 : i_at mX8_readValue.2.2.2.2.2 83 = some (.iconst 0, 1, 0, 0, 0, 0) := by decide +kernel
theorem aX8_readValue_84 : i_at mX8_readValue.2.2.2.2.2 84 = some (.invokevirtual 79, 3, 77, 2, 659, 0) := by decide +kernel
theorem aX8_readValue_87 : i_at mX8_readValue.2.2.2.2.2 87 = some (.aload_n 0, 1, 0, 0, 0, 0) := by decide +kernel
theorem aX8_readValue_88 : i_at mX8_readValue.2.2.2.2.2 88 = some (.getfield 24, 3, 7, 0, 234, 0) := by decide +kernel
theorem aX8_readValue_91 : i_at mX8_readValue.2.2.2.2.2 91 = some (.invokevirtual 100, 3, 83, 0, 660, 0) := by decide +kernel
theorem aX8_readValue_94 : i_at mX8_readValue.2.2.2.2.2 94 = some (.aload_n 0, 1, 0, 0, 0, 0) := by decide +kernel
theorem aX8_readValue_95 : i_at mX8_readValue.2.2.2.2.2 95 = some (.iload_n 2, 1, 0, 0, 0, 0) := by decide +kernel
theorem aX8_readValue_96 : i_at mX8_readValue.2.2.2.2.2 96 = some (.invokevirtual 118, 3, 72, 1, 673, 0) := by decide +kernel
theorem aX8_readValue_99 : i_at mX8_readValue.2.2.2.2.2 99 = some (.aload_n 0, 1, 0, 0, 0, 0) := by decide +kernel
theorem aX8_readValue_100 : i_at mX8_readValue.2.2.2.2.2 100 = some (.iload_n 3, 1, 0, 0, 0, 0) := by decide +kernel
theorem aX8_readValue_101 : i_at mX8_readValue.2.2.2.2.2 101 = some (.iload 4, 2, 0, 0, 0, 0) := by decide +kernel
theorem aX8_readValue_103 : i_at mX8_readValue.2.2.2.2.2 103 = some (.invokevirtual 108, 3, 73, 2, 677, 0) := by decide +kernel
theorem aX8_readValue_106 : i_at mX8_readValue.2.2.2.2.2 106 = some (.return_, 1, 0, 0, 0, 0) := by decide +kernel
noncomputable def fX8_readValue_J87 (sh : List kd) (r2 : Int32) (s3 : St) (r56 : Int32) (s109 : St) : Option (Unit × St) := i_bd (fX9_skipWord sh s109) (fun r110 s111 => i_bd (fX8_countPart sh s111 (s3.1 1 2)) (fun r113 s114 => i_bd (fX8_write sh s114 1 r56) (fun r116 s117 => some ((), s117))))
noncomputable def fX8_readValue_J87_227 (sh : List kd) (r2 : Int32) (s3 : St) (r174 : Int32) (s227 : St) : Option (Unit × St) := i_bd (fX9_skipWord sh s227) (fun r228 s229 => i_bd (fX8_countPart sh s229 (s3.1 1 2)) (fun r231 s232 => i_bd (fX8_write sh s232 1 r174) (fun r234 s235 => some ((), s235))))
noncomputable def fX8_readValue (sh : List kd) (σ : St) : Option (Unit × St) := if (σ.1 1 3) = 0 then i_bd (fX9_sign sh σ) (fun r2 s3 => if r2 < 48 then i_bd (fX9_wordIn sh s3 2) (fun r56 s57 => if ¬ r56 = (-1) then fX8_readValue_J87 sh r2 s3 r56 s57 else i_bd (fX9_refuse sh s57 (s3.1 1 2) 0) (fun r120 s121 => fX8_readValue_J87 sh r2 s3 r56 s121)) else if 57 < r2 then i_bd (fX9_wordIn sh s3 2) (fun r174 s175 => if ¬ r174 = (-1) then fX8_readValue_J87_227 sh r2 s3 r174 s175 else i_bd (fX9_refuse sh s175 (s3.1 1 2) 0) (fun r238 s239 => fX8_readValue_J87_227 sh r2 s3 r174 s239)) else i_bd (fX9_number sh s3 0 99999) (fun r241 s242 => i_bd (fX8_countPart sh s242 (s3.1 1 2)) (fun r244 s245 => i_bd (fX8_write sh s245 0 r241) (fun r247 s248 => some ((), s248))))) else some ((), σ)
set_option maxRecDepth 20000 in
set_option maxHeartbeats 2000000 in
theorem tX8_readValue_J87 {sh : List kd} {τ : St} {r : Unit} (hsh : cSh sh) {r2 : Int32} {s3 : St} {r56 : Int32} {s109 : St} (hE : fX8_readValue_J87 sh r2 s3 r56 s109 = some (r, τ)) : g_R sh 2 mX8_readValue none τ 87 [.ref 10, .int r2, .int (s3.1 1 2), .int 1, .int r56] [] (s109) := by
  unfold fX8_readValue_J87 at hE
  refine g_ldan aX8_readValue_87 rfl ?_
  refine g_getR aX8_readValue_88 (sC_10 hsh) rfl ?_
  obtain ⟨r110, s111, h112, hE⟩ := i_bd_some hE
  refine g_calV (As := []) (rest := []) aX8_readValue_91 (i_X_mono (by omega) (tX9_skipWord hsh h112)) (sC_1 hsh) (by decide +kernel) rfl rfl (Nat.le_of_ble_eq_true rfl) rfl ?_
  refine g_ldan aX8_readValue_94 rfl ?_
  refine g_ldin aX8_readValue_95 rfl ?_
  obtain ⟨r113, s114, h115, hE⟩ := i_bd_some hE
  refine g_calV (As := [.int (s3.1 1 2)]) (rest := []) aX8_readValue_96 (i_X_mono (by omega) (tX8_countPart hsh h115)) (sC_10 hsh) (by decide +kernel) rfl rfl (Nat.le_of_ble_eq_true rfl) rfl ?_
  refine g_ldan aX8_readValue_99 rfl ?_
  refine g_ldin aX8_readValue_100 rfl ?_
  refine g_ldi aX8_readValue_101 rfl ?_
  obtain ⟨r116, s117, h118, hE⟩ := i_bd_some hE
  refine g_calV (As := [.int 1, .int r56]) (rest := []) aX8_readValue_103 (i_X_mono (by omega) (tX8_write hsh h118)) (sC_10 hsh) (by decide +kernel) rfl rfl (Nat.le_of_ble_eq_true rfl) rfl ?_
  obtain ⟨rfl, rfl⟩ := i_some_inj hE
  exact g_vret aX8_readValue_106 rfl
set_option maxRecDepth 20000 in
set_option maxHeartbeats 2000000 in
theorem tX8_readValue_J87_227 {sh : List kd} {τ : St} {r : Unit} (hsh : cSh sh) {r2 : Int32} {s3 : St} {r174 : Int32} {s227 : St} (hE : fX8_readValue_J87_227 sh r2 s3 r174 s227 = some (r, τ)) : g_R sh 2 mX8_readValue none τ 87 [.ref 10, .int r2, .int (s3.1 1 2), .int 1, .int r174] [] (s227) := by
  unfold fX8_readValue_J87_227 at hE
  refine g_ldan aX8_readValue_87 rfl ?_
  refine g_getR aX8_readValue_88 (sC_10 hsh) rfl ?_
  obtain ⟨r228, s229, h230, hE⟩ := i_bd_some hE
  refine g_calV (As := []) (rest := []) aX8_readValue_91 (i_X_mono (by omega) (tX9_skipWord hsh h230)) (sC_1 hsh) (by decide +kernel) rfl rfl (Nat.le_of_ble_eq_true rfl) rfl ?_
  refine g_ldan aX8_readValue_94 rfl ?_
  refine g_ldin aX8_readValue_95 rfl ?_
  obtain ⟨r231, s232, h233, hE⟩ := i_bd_some hE
  refine g_calV (As := [.int (s3.1 1 2)]) (rest := []) aX8_readValue_96 (i_X_mono (by omega) (tX8_countPart hsh h233)) (sC_10 hsh) (by decide +kernel) rfl rfl (Nat.le_of_ble_eq_true rfl) rfl ?_
  refine g_ldan aX8_readValue_99 rfl ?_
  refine g_ldin aX8_readValue_100 rfl ?_
  refine g_ldi aX8_readValue_101 rfl ?_
  obtain ⟨r234, s235, h236, hE⟩ := i_bd_some hE
  refine g_calV (As := [.int 1, .int r174]) (rest := []) aX8_readValue_103 (i_X_mono (by omega) (tX8_write hsh h236)) (sC_10 hsh) (by decide +kernel) rfl rfl (Nat.le_of_ble_eq_true rfl) rfl ?_
  obtain ⟨rfl, rfl⟩ := i_some_inj hE
  exact g_vret aX8_readValue_106 rfl
set_option maxRecDepth 20000 in
set_option maxHeartbeats 2000000 in
theorem tX8_readValue {sh : List kd} {σ τ : St} {r : Unit} (hsh : cSh sh) (hE : fX8_readValue sh σ = some (r, τ)) : i_X 3 71 [.ref 10] (s_h sh σ) 0 0 none (s_h sh τ) := by
  refine g_X (M := mX8_readValue) (loc := [.ref 10, .retAddr 0, .retAddr 0, .retAddr 0, .retAddr 0]) rfl (Nat.le_of_ble_eq_true rfl) rfl ?_
  unfold fX8_readValue at hE
  refine g_ldan aX8_readValue_0 rfl ?_
  refine g_getR aX8_readValue_1 (sC_10 hsh) rfl ?_
  refine g_getI aX8_readValue_4 (sC_1 hsh) rfl ?_
  by_cases hc1 : (σ.1 1 3) = 0
  · rw [if_pos hc1] at hE
    refine g_if_eq_t aX8_readValue_7 hc1 ?_
    refine g_ldan aX8_readValue_11 rfl ?_
    refine g_getR aX8_readValue_12 (sC_10 hsh) rfl ?_
    obtain ⟨r2, s3, h4, hE⟩ := i_bd_some hE
    refine g_calV (As := []) (rest := []) aX8_readValue_15 (i_X_mono (by omega) (tX9_sign hsh h4)) (sC_1 hsh) (by decide +kernel) rfl rfl (Nat.le_of_ble_eq_true rfl) rfl ?_
    refine g_stin (loc2 := [.ref 10, .int r2, .retAddr 0, .retAddr 0, .retAddr 0]) aX8_readValue_18 (Nat.le_of_ble_eq_true rfl) rfl ?_
    refine g_ldan aX8_readValue_19 rfl ?_
    refine g_getR aX8_readValue_20 (sC_10 hsh) rfl ?_
    refine g_getI aX8_readValue_23 (sC_1 hsh) rfl ?_
    refine g_stin (loc2 := [.ref 10, .int r2, .int (s3.1 1 2), .retAddr 0, .retAddr 0]) aX8_readValue_26 (Nat.le_of_ble_eq_true rfl) rfl ?_
    refine g_iconst (x := 0) aX8_readValue_27 rfl ?_
    refine g_stin (loc2 := [.ref 10, .int r2, .int (s3.1 1 2), .int 0, .retAddr 0]) aX8_readValue_28 (Nat.le_of_ble_eq_true rfl) rfl ?_
    refine g_iconst (x := 0) aX8_readValue_29 rfl ?_
    refine g_sti (loc2 := [.ref 10, .int r2, .int (s3.1 1 2), .int 0, .int 0]) aX8_readValue_30 (Nat.le_of_ble_eq_true rfl) rfl ?_
    refine g_ldin aX8_readValue_32 rfl ?_
    refine g_bipush (x := 48) aX8_readValue_33 rfl ?_
    by_cases hc55 : r2 < 48
    · rw [if_pos hc55] at hE
      refine g_ic_lt_t aX8_readValue_35 hc55 ?_
      refine g_iconst (x := 1) aX8_readValue_59 rfl ?_
      refine g_stin (loc2 := [.ref 10, .int r2, .int (s3.1 1 2), .int 1, .int 0]) aX8_readValue_60 (Nat.le_of_ble_eq_true rfl) rfl ?_
      refine g_ldan aX8_readValue_61 rfl ?_
      refine g_getR aX8_readValue_62 (sC_10 hsh) rfl ?_
      refine g_ldcS aX8_readValue_65 rfl ?_
      obtain ⟨r56, s57, h58, hE⟩ := i_bd_some hE
      refine g_calV (As := [.ref (i_SB + 2)]) (rest := []) aX8_readValue_67 (i_X_mono (by omega) (tX9_wordIn hsh h58)) (sC_1 hsh) (by decide +kernel) rfl rfl (Nat.le_of_ble_eq_true rfl) rfl ?_
      refine g_sti (loc2 := [.ref 10, .int r2, .int (s3.1 1 2), .int 1, .int r56]) aX8_readValue_70 (Nat.le_of_ble_eq_true rfl) rfl ?_
      refine g_ldi aX8_readValue_72 rfl ?_
      refine g_iconst (x := (-1)) aX8_readValue_74 rfl ?_
      by_cases hc119 : ¬ r56 = (-1)
      · rw [if_pos hc119] at hE
        refine g_ic_ne_t aX8_readValue_75 hc119 ?_
        exact tX8_readValue_J87 hsh hE
      · rw [if_neg hc119] at hE
        refine g_ic_ne_f aX8_readValue_75 hc119 ?_
        refine g_ldan aX8_readValue_78 rfl ?_
        refine g_getR aX8_readValue_79 (sC_10 hsh) rfl ?_
        refine g_ldin aX8_readValue_82 rfl ?_
        refine g_iconst (x := 0) aX8_readValue_83 rfl ?_
        obtain ⟨r120, s121, h122, hE⟩ := i_bd_some hE
        refine g_calV (As := [.int (s3.1 1 2), .int 0]) (rest := []) aX8_readValue_84 (i_X_mono (by omega) (tX9_refuse hsh h122)) (sC_1 hsh) (by decide +kernel) rfl rfl (Nat.le_of_ble_eq_true rfl) rfl ?_
        exact tX8_readValue_J87 hsh hE
    · rw [if_neg hc55] at hE
      refine g_ic_lt_f aX8_readValue_35 hc55 ?_
      refine g_ldin aX8_readValue_38 rfl ?_
      refine g_bipush (x := 57) aX8_readValue_39 rfl ?_
      by_cases hc173 : 57 < r2
      · rw [if_pos hc173] at hE
        refine g_ic_gt_t aX8_readValue_41 hc173 ?_
        refine g_iconst (x := 1) aX8_readValue_59 rfl ?_
        refine g_stin (loc2 := [.ref 10, .int r2, .int (s3.1 1 2), .int 1, .int 0]) aX8_readValue_60 (Nat.le_of_ble_eq_true rfl) rfl ?_
        refine g_ldan aX8_readValue_61 rfl ?_
        refine g_getR aX8_readValue_62 (sC_10 hsh) rfl ?_
        refine g_ldcS aX8_readValue_65 rfl ?_
        obtain ⟨r174, s175, h176, hE⟩ := i_bd_some hE
        refine g_calV (As := [.ref (i_SB + 2)]) (rest := []) aX8_readValue_67 (i_X_mono (by omega) (tX9_wordIn hsh h176)) (sC_1 hsh) (by decide +kernel) rfl rfl (Nat.le_of_ble_eq_true rfl) rfl ?_
        refine g_sti (loc2 := [.ref 10, .int r2, .int (s3.1 1 2), .int 1, .int r174]) aX8_readValue_70 (Nat.le_of_ble_eq_true rfl) rfl ?_
        refine g_ldi aX8_readValue_72 rfl ?_
        refine g_iconst (x := (-1)) aX8_readValue_74 rfl ?_
        by_cases hc237 : ¬ r174 = (-1)
        · rw [if_pos hc237] at hE
          refine g_ic_ne_t aX8_readValue_75 hc237 ?_
          exact tX8_readValue_J87_227 hsh hE
        · rw [if_neg hc237] at hE
          refine g_ic_ne_f aX8_readValue_75 hc237 ?_
          refine g_ldan aX8_readValue_78 rfl ?_
          refine g_getR aX8_readValue_79 (sC_10 hsh) rfl ?_
          refine g_ldin aX8_readValue_82 rfl ?_
          refine g_iconst (x := 0) aX8_readValue_83 rfl ?_
          obtain ⟨r238, s239, h240, hE⟩ := i_bd_some hE
          refine g_calV (As := [.int (s3.1 1 2), .int 0]) (rest := []) aX8_readValue_84 (i_X_mono (by omega) (tX9_refuse hsh h240)) (sC_1 hsh) (by decide +kernel) rfl rfl (Nat.le_of_ble_eq_true rfl) rfl ?_
          exact tX8_readValue_J87_227 hsh hE
      · rw [if_neg hc173] at hE
        refine g_ic_gt_f aX8_readValue_41 hc173 ?_
        refine g_ldan aX8_readValue_44 rfl ?_
        refine g_getR aX8_readValue_45 (sC_10 hsh) rfl ?_
        refine g_iconst (x := 0) aX8_readValue_48 rfl ?_
        refine g_ldcI (x := 99999) aX8_readValue_49 rfl rfl ?_
        obtain ⟨r241, s242, h243, hE⟩ := i_bd_some hE
        refine g_calV (As := [.int 0, .int 99999]) (rest := []) aX8_readValue_51 (i_X_mono (by omega) (tX9_number hsh h243)) (sC_1 hsh) (by decide +kernel) rfl rfl (Nat.le_of_ble_eq_true rfl) rfl ?_
        refine g_sti (loc2 := [.ref 10, .int r2, .int (s3.1 1 2), .int 0, .int r241]) aX8_readValue_54 (Nat.le_of_ble_eq_true rfl) rfl ?_
        refine g_goto aX8_readValue_56 ?_
        refine g_ldan aX8_readValue_94 rfl ?_
        refine g_ldin aX8_readValue_95 rfl ?_
        obtain ⟨r244, s245, h246, hE⟩ := i_bd_some hE
        refine g_calV (As := [.int (s3.1 1 2)]) (rest := []) aX8_readValue_96 (i_X_mono (by omega) (tX8_countPart hsh h246)) (sC_10 hsh) (by decide +kernel) rfl rfl (Nat.le_of_ble_eq_true rfl) rfl ?_
        refine g_ldan aX8_readValue_99 rfl ?_
        refine g_ldin aX8_readValue_100 rfl ?_
        refine g_ldi aX8_readValue_101 rfl ?_
        obtain ⟨r247, s248, h249, hE⟩ := i_bd_some hE
        refine g_calV (As := [.int 0, .int r241]) (rest := []) aX8_readValue_103 (i_X_mono (by omega) (tX8_write hsh h249)) (sC_10 hsh) (by decide +kernel) rfl rfl (Nat.le_of_ble_eq_true rfl) rfl ?_
        obtain ⟨rfl, rfl⟩ := i_some_inj hE
        exact g_vret aX8_readValue_106 rfl
  · rw [if_neg hc1] at hE
    refine g_if_eq_f aX8_readValue_7 hc1 ?_
    obtain ⟨rfl, rfl⟩ := i_some_inj hE
    exact g_vret aX8_readValue_10 rfl
theorem aX9_takeWord_0 : i_at mX9_takeWord.2.2.2.2.2 0 = some (.aload_n 0, 1, 0, 0, 0, 0) := by decide +kernel
theorem aX9_takeWord_1 : i_at mX9_takeWord.2.2.2.2.2 1 = some (.getfield 22, 3, 8, 3, 136, 0) := by decide +kernel
theorem aX9_takeWord_4 : i_at mX9_takeWord.2.2.2.2.2 4 = some (.ifCond .ne 11, 3, 15, 0, 0, 0) := by decide +kernel
theorem aX9_takeWord_7 : i_at mX9_takeWord.2.2.2.2.2 7 = some (.aload_n 0, 1, 0, 0, 0, 0) := by decide +kernel
theorem aX9_takeWord_8 : i_at mX9_takeWord.2.2.2.2.2 8 = some (.aload_n 1, 1, 0, 0, 0, 0) := by decide +kernel
theorem aX9_takeWord_9 : i_at mX9_takeWord.2.2.2.2.2 9 = some (.invokevirtual 49, 3, 81, 1, 690, 0) := by decide +kernel
theorem aX9_takeWord_12 : i_at mX9_takeWord.2.2.2.2.2 12 = some (.ifCond .eq 5, 3, 17, 0, 0, 0) := by decide +kernel
theorem aX9_takeWord_15 : i_at mX9_takeWord.2.2.2.2.2 15 = some (.iconst 0, 1, 0, 0, 0, 0) := by decide +kernel
theorem aX9_takeWord_16 : i_at mX9_takeWord.2.2.2.2.2 16 = some (.ireturn, 1, 0, 0, 0, 0) := by decide +kernel
theorem aX9_takeWord_17 : i_at mX9_takeWord.2.2.2.2.2 17 = some (.aload_n 0, 1, 0, 0, 0, 0) := by decide +kernel
theorem aX9_takeWord_18 : i_at mX9_takeWord.2.2.2.2.2 18 = some (.invokevirtual 53, 3, 83, 0, 691, 0) := by decide +kernel
theorem aX9_takeWord_21 : i_at mX9_takeWord.2.2.2.2.2 21 = some (.iconst 1, 1, 0, 0, 0, 0) := by decide +kernel
theorem aX9_takeWord_22 : i_at mX9_takeWord.2.2.2.2.2 22 = some (.ireturn, 1, 0, 0, 0, 0) := by decide +kernel
noncomputable def fX9_takeWord (sh : List kd) (σ : St) (p1 : Nat) : Option (Int32 × St) := if ¬ (σ.1 1 3) = 0 then some (0, σ) else i_bd (fX9_wordIn sh σ p1) (fun r2 s3 => if r2 = 0 then i_bd (fX9_skipWord sh s3) (fun r6 s7 => some (1, s7)) else some (0, s3))
set_option maxRecDepth 20000 in
set_option maxHeartbeats 2000000 in
theorem tX9_takeWord {sh : List kd} {σ τ : St} {r : Int32} (hsh : cSh sh) {p1 : Nat} (hE : fX9_takeWord sh σ p1 = some (r, τ)) : i_X 3 82 [.ref 1, .ref (i_SB + p1)] (s_h sh σ) 0 0 (some (.int r)) (s_h sh τ) := by
  refine g_X (M := mX9_takeWord) (loc := [.ref 1, .ref (i_SB + p1)]) rfl (Nat.le_of_ble_eq_true rfl) rfl ?_
  unfold fX9_takeWord at hE
  refine g_ldan aX9_takeWord_0 rfl ?_
  refine g_getI aX9_takeWord_1 (sC_1 hsh) rfl ?_
  by_cases hc1 : ¬ (σ.1 1 3) = 0
  · rw [if_pos hc1] at hE
    refine g_if_ne_t aX9_takeWord_4 hc1 ?_
    refine g_iconst (x := 0) aX9_takeWord_15 rfl ?_
    obtain ⟨rfl, rfl⟩ := i_some_inj hE
    exact g_iret aX9_takeWord_16 rfl rfl
  · rw [if_neg hc1] at hE
    refine g_if_ne_f aX9_takeWord_4 hc1 ?_
    refine g_ldan aX9_takeWord_7 rfl ?_
    refine g_ldan aX9_takeWord_8 rfl ?_
    obtain ⟨r2, s3, h4, hE⟩ := i_bd_some hE
    refine g_calV (As := [.ref (i_SB + p1)]) (rest := []) aX9_takeWord_9 (i_X_mono (by omega) (tX9_wordIn hsh h4)) (sC_1 hsh) (by decide +kernel) rfl rfl (Nat.le_of_ble_eq_true rfl) rfl ?_
    by_cases hc5 : r2 = 0
    · rw [if_pos hc5] at hE
      refine g_if_eq_t aX9_takeWord_12 hc5 ?_
      refine g_ldan aX9_takeWord_17 rfl ?_
      obtain ⟨r6, s7, h8, hE⟩ := i_bd_some hE
      refine g_calV (As := []) (rest := []) aX9_takeWord_18 (i_X_mono (by omega) (tX9_skipWord hsh h8)) (sC_1 hsh) (by decide +kernel) rfl rfl (Nat.le_of_ble_eq_true rfl) rfl ?_
      refine g_iconst (x := 1) aX9_takeWord_21 rfl ?_
      obtain ⟨rfl, rfl⟩ := i_some_inj hE
      exact g_iret aX9_takeWord_22 rfl rfl
    · rw [if_neg hc5] at hE
      refine g_if_eq_f aX9_takeWord_12 hc5 ?_
      refine g_iconst (x := 0) aX9_takeWord_15 rfl ?_
      obtain ⟨rfl, rfl⟩ := i_some_inj hE
      exact g_iret aX9_takeWord_16 rfl rfl
theorem aX0_hand_0 : i_at mX0_hand.2.2.2.2.2 0 = some (.aload_n 1, 1, 0, 0, 0, 0) := by decide +kernel
theorem aX0_hand_1 : i_at mX0_hand.2.2.2.2.2 1 = some (.getfield 24, 3, 3, 3, 305, 0) := by decide +kernel
theorem aX0_hand_4 : i_at mX0_hand.2.2.2.2.2 4 = some (.ifCond .le 5, 3, 9, 0, 0, 0) := by decide +kernel
theorem aX0_hand_7 : i_at mX0_hand.2.2.2.2.2 7 = some (.iconst (-1), 1, 0, 0, 0, 0) := by decide +kernel
theorem aX0_hand_8 : i_at mX0_hand.2.2.2.2.2 8 = some (.ireturn, 1, 0, 0, 0, 0) := by decide +kernel
theorem aX0_hand_9 : i_at mX0_hand.2.2.2.2.2 9 = some (.aload_n 1, 1, 0, 0, 0, 0) := by decide +kernel
theorem aX0_hand_10 : i_at mX0_hand.2.2.2.2.2 10 = some (.getfield 30, 3, 3, 2, 302, 0) := by decide +kernel
theorem aX0_hand_13 : i_at mX0_hand.2.2.2.2.2 13 = some (.iconst (-1), 1, 0, 0, 0, 0) := by decide +kernel
theorem aX0_hand_14 : i_at mX0_hand.2.2.2.2.2 14 = some (.if_icmp .eq 8, 3, 22, 0, 0, 0) := by decide +kernel
theorem aX0_hand_17 : i_at mX0_hand.2.2.2.2.2 17 = some (.aload_n 1, 1, 0, 0, 0, 0) := by decide +kernel
theorem aX0_hand_18 : i_at mX0_hand.2.2.2.2.2 18 = some (.getfield 30, 3, 3, 2, 302, 0) := by decide +kernel
theorem aX0_hand_21 : i_at mX0_hand.2.2.2.2.2 21 = some (.ireturn, 1, 0, 0, 0, 0) := by decide +kernel
theorem aX0_hand_22 : i_at mX0_hand.2.2.2.2.2 22 = some (.iload_n 3, 1, 0, 0, 0, 0) := by decide +kernel
theorem aX0_hand_23 : i_at mX0_hand.2.2.2.2.2 23 = some (.ifCond .lt 21, 3, 44, 0, 0, 0) := by decide +kernel
theorem aX0_hand_26 : i_at mX0_hand.2.2.2.2.2 26 = some (.iload_n 3, 1, 0, 0, 0, 0) := by decide +kernel
theorem aX0_hand_27 : i_at mX0_hand.2.2.2.2.2 27 = some (.aload_n 0, 1, 0, 0, 0, 0) := by decide +kernel
theorem aX0_hand_28 : i_at mX0_hand.2.2.2.2.2 28 = some (.getfield 20, 3, 0, 0, 267, 0) := by decide +kernel
theorem aX0_hand_31 : i_at mX0_hand.2.2.2.2.2 31 = some (.arraylength, 1, 0, 0, 0, 0) := by decide +kernel
theorem aX0_hand_32 : i_at mX0_hand.2.2.2.2.2 32 = some (.if_icmp .ge 12, 3, 44, 0, 0, 0) := by decide +kernel
theorem aX0_hand_35 : i_at mX0_hand.2.2.2.2.2 35 = some (.aload_n 0, 1, 0, 0, 0, 0) := by decide +kernel
theorem aX0_hand_36 : i_at mX0_hand.2.2.2.2.2 36 = some (.getfield 20, 3, 0, 0, 267, 0) := by decide +kernel
theorem aX0_hand_39 : i_at mX0_hand.2.2.2.2.2 39 = some (.iload_n 3, 1, 0, 0, 0, 0) := by decide +kernel
theorem aX0_hand_40 : i_at mX0_hand.2.2.2.2.2 40 = some (.aaload, 1, 0, 0, 0, 0) := by decide +kernel
theorem aX0_hand_41 : i_at mX0_hand.2.2.2.2.2 41 = some (.goto 4, 3, 45, 0, 0, 0) := by decide +kernel
theorem aX0_hand_44 : i_at mX0_hand.2.2.2.2.2 44 = some (.aconst_null, 1, 0, 0, 0, 0) := by decide +kernel
theorem aX0_hand_45 : i_at mX0_hand.2.2.2.2.2 45 = some (.astore 4, 2, 0, 0, 0, 0) := by decide +kernel
theorem aX0_hand_47 : i_at mX0_hand.2.2.2.2.2 47 = some (.aload 4, 2, 0, 0, 0, 0) := by decide +kernel
theorem aX0_hand_49 : i_at mX0_hand.2.2.2.2.2 49 = some (.ifnonnull 17, 3, 66, 0, 0, 0) := by decide +kernel
theorem aX0_hand_52 : i_at mX0_hand.2.2.2.2.2 52 = some (.aload_n 2, 1, 0, 0, 0, 0) := by decide +kernel
theorem aX0_hand_53 : i_at mX0_hand.2.2.2.2.2 53 = some (.getfield 33, 3, 5, 7, 184, 0) := by decide +kernel
theorem aX0_hand_56 : i_at mX0_hand.2.2.2.2.2 56 = some (.aload_n 2, 1, 0, 0, 0, 0) := by decide +kernel
theorem aX0_hand_57 : i_at mX0_hand.2.2.2.2.2 57 = some (.aload_n 1, 1, 0, 0, 0, 0) := by decide +kernel
theorem aX0_hand_58 : i_at mX0_hand.2.2.2.2.2 58 = some (.getfield 39, 3, 3, 0, 293, 0) := by decide +kernel
theorem aX0_hand_61 : i_at mX0_hand.2.2.2.2.2 61 = some (.invokevirtual 42, 3, 55, 1, 801, 0) := by decide +kernel
theorem aX0_hand_64 : i_at mX0_hand.2.2.2.2.2 64 = some (.iaload, 1, 0, 0, 0, 0) := by decide +kernel
theorem aX0_hand_65 : i_at mX0_hand.2.2.2.2.2 65 = some (.ireturn, 1, 0, 0, 0, 0) := by decide +kernel
theorem aX0_hand_66 : i_at mX0_hand.2.2.2.2.2 66 = some (.aload_n 0, 1, 0, 0, 0, 0) := by decide +kernel
theorem aX0_hand_67 : i_at mX0_hand.2.2.2.2.2 67 = some (.aload_n 1, 1, 0, 0, 0, 0) := by decide +kernel
theorem aX0_hand_68 : i_at mX0_hand.2.2.2.2.2 68 = some (.aload_n 2, 1, 0, 0, 0, 0) := by decide +kernel
theorem aX0_hand_69 : i_at mX0_hand.2.2.2.2.2 69 = some (.invokevirtual 46, 3, 3, 2, 805, 0) := by decide +kernel
theorem aX0_hand_72 : i_at mX0_hand.2.2.2.2.2 72 = some (.iconst (-1), 1, 0, 0, 0, 0) := by decide +kernel
theorem aX0_hand_73 : i_at mX0_hand.2.2.2.2.2 73 = some (.istore 5, 2, 0, 0, 0, 0) := by decide +kernel
theorem aX0_hand_75 : i_at mX0_hand.2.2.2.2.2 75 = some (.lconst 0, 1, 0, 0, 0, 0) := by decide +kernel
theorem aX0_hand_76 : i_at mX0_hand.2.2.2.2.2 76 = some (.lstore 6, 2, 0, 0, 0, 0) := by decide +kernel
theorem aX0_hand_78 : i_at mX0_hand.2.2.2.2.2 78 = some (.iconst 0, 1, 0, 0, 0, 0) := by decide +kernel
theorem aX0_hand_79 : i_at mX0_hand.2.2.2.2.2 79 = some (.istore 8, 2, 0, 0, 0, 0) := by decide +kernel
theorem aX0_hand_81 : i_at mX0_hand.2.2.2.2.2 81 = some (.iload 8, 2, 0, 0, 0, 0) := by decide +kernel
theorem aX0_hand_83 : i_at mX0_hand.2.2.2.2.2 83 = some (.aload_n 2, 1, 0, 0, 0, 0) := by decide +kernel
theorem aX0_hand_84 : i_at mX0_hand.2.2.2.2.2 84 = some (.getfield 50, 3, 5, 3, 164, 0) := by decide +kernel
theorem aX0_hand_87 : i_at mX0_hand.2.2.2.2.2 87 = some (.if_icmp .ge 48, 3, 135, 0, 0, 0) := by decide +kernel
theorem aX0_hand_90 : i_at mX0_hand.2.2.2.2.2 90 = some (.aload_n 0, 1, 0, 0, 0, 0) := by decide +kernel
theorem aX0_hand_91 : i_at mX0_hand.2.2.2.2.2 91 = some (.aload_n 1, 1, 0, 0, 0, 0) := by decide +kernel
theorem aX0_hand_92 : i_at mX0_hand.2.2.2.2.2 92 = some (.aload_n 2, 1, 0, 0, 0, 0) := by decide +kernel
theorem aX0_hand_93 : i_at mX0_hand.2.2.2.2.2 93 = some (.iload 8, 2, 0, 0, 0, 0) := by decide +kernel
theorem aX0_hand_95 : i_at mX0_hand.2.2.2.2.2 95 = some (.invokevirtual 53, 3, 4, 3, 822, 0) := by decide +kernel
theorem aX0_hand_98 : i_at mX0_hand.2.2.2.2.2 98 = some (.aload 4, 2, 0, 0, 0, 0) := by decide +kernel
theorem aX0_hand_100 : i_at mX0_hand.2.2.2.2.2 100 = some (.aload_n 0, 1, 0, 0, 0, 0) := by decide +kernel
theorem aX0_hand_101 : i_at mX0_hand.2.2.2.2.2 101 = some (.getfield 11, 3, 0, 1, 268, 0) := by decide +kernel
theorem aX0_hand_104 : i_at mX0_hand.2.2.2.2.2 104 = some (.aload_n 0, 1, 0, 0, 0, 0) := by decide +kernel
theorem aX0_hand_105 : i_at mX0_hand.2.2.2.2.2 105 = some (.getfield 17, 3, 0, 2, 269, 0) := by decide +kernel
theorem aX0_hand_108 : i_at mX0_hand.2.2.2.2.2 108 = some (.invokevirtual 57, 3, 58, 2, 827, 0) := by decide +kernel
theorem aX0_hand_111 : i_at mX0_hand.2.2.2.2.2 111 = some (.lstore 9, 2, 0, 0, 0, 0) := by decide +kernel
theorem aX0_hand_113 : i_at mX0_hand.2.2.2.2.2 113 = some (.lload 9, 2, 0, 0, 0, 0) := by decide +kernel
theorem aX0_hand_115 : i_at mX0_hand.2.2.2.2.2 115 = some (.lload 6, 2, 0, 0, 0, 0) := by decide +kernel
theorem aX0_hand_117 : i_at mX0_hand.2.2.2.2.2 117 = some (.lcmp, 1, 0, 0, 0, 0) := by decide +kernel
theorem aX0_hand_118 : i_at mX0_hand.2.2.2.2.2 118 = some (.ifCond .le 11, 3, 129, 0, 0, 0) := by decide +kernel
theorem aX0_hand_121 : i_at mX0_hand.2.2.2.2.2 121 = some (.lload 9, 2, 0, 0, 0, 0) := by decide +kernel
theorem aX0_hand_123 : i_at mX0_hand.2.2.2.2.2 123 = some (.lstore 6, 2, 0, 0, 0, 0) := by decide +kernel
theorem aX0_hand_125 : i_at mX0_hand.2.2.2.2.2 125 = some (.iload 8, 2, 0, 0, 0, 0) := by decide +kernel
theorem aX0_hand_127 : i_at mX0_hand.2.2.2.2.2 127 = some (.istore 5, 2, 0, 0, 0, 0) := by decide +kernel
theorem aX0_hand_129 : i_at mX0_hand.2.2.2.2.2 129 = some (.iinc 8 1, 3, 0, 0, 0, 0) := by decide +kernel
theorem aX0_hand_132 : i_at mX0_hand.2.2.2.2.2 132 = some (.goto (-51), 3, 81, 0, 0, 0) := by decide +kernel
theorem aX0_hand_135 : i_at mX0_hand.2.2.2.2.2 135 = some (.iload 5, 2, 0, 0, 0, 0) := by decide +kernel
theorem aX0_hand_137 : i_at mX0_hand.2.2.2.2.2 137 = some (.ireturn, 1, 0, 0, 0, 0) := by decide +kernel
noncomputable def fX0_hand_J129 (sh : List kd) (p1 : Nat) (p2 : Nat) (p3 : Int32) (q54 : Nat) (x62 : Int32) (r120 : Int64) (s121 : St) (k81 : Int32 → Int64 → Int32 → Value → St → Option (Int32 × St)) (x173 : Int32) (x174 : Int64) : Option (Int32 × St) := k81 x173 x174 (x62 + 1) (.long r120) s121
noncomputable def fX0_hand_L81 (sh : List kd) (p1 : Nat) (p2 : Nat) (p3 : Int32) (q54 : Nat) : Nat → Int32 → Int64 → Int32 → Value → St → Option (Int32 × St)
  | 0, _, _, _, _, _ => none
  | n65 + 1, x60, x61, x62, x63, s64 => if (s64.1 p2 3) ≤ x62 then some (x60, s64) else i_bd (fX0_tellThing sh s64 p1 p2 x62) (fun r117 s118 => i_bd (fX7_worth sh s118 q54 17 18) (fun r120 s121 => if (lg_cmp r120 x61) ≤ 0 then fX0_hand_J129 sh p1 p2 p3 q54 x62 r120 s121 (fX0_hand_L81 sh p1 p2 p3 q54 n65) x60 x61 else fX0_hand_J129 sh p1 p2 p3 q54 x62 r120 s121 (fX0_hand_L81 sh p1 p2 p3 q54 n65) x62 r120))
noncomputable def fX0_hand_J45 (sh : List kd) (p1 : Nat) (p2 : Nat) (p3 : Int32) (σ : St) (x53 : Option Nat) : Option (Int32 × St) := i_oe x53 (fun q54 => i_ck (uSh sh q54) (i_bd (fX0_tellHour sh σ p1 p2) (fun r57 s58 => fX0_hand_L81 sh p1 p2 p3 q54 i_F (-1) 0 0 (.retAddr 0) s58))) (i_bd (fX6_clockAt sh σ p2 (σ.1 p1 0)) (fun r176 s177 => if i_ok r176 12 then some ((s177.2.1 (p2 + 3) r176.toNatClampNeg), s177) else none))
noncomputable def fX0_hand (sh : List kd) (σ : St) (p1 : Nat) (p2 : Nat) (p3 : Int32) : Option (Int32 × St) := if (σ.1 p1 3) ≤ 0 then if (σ.1 p1 2) = (-1) then if p3 < 0 then fX0_hand_J45 sh p1 p2 p3 σ none else if 6 ≤ p3 then fX0_hand_J45 sh p1 p2 p3 σ none else if i_ok p3 6 then fX0_hand_J45 sh p1 p2 p3 σ (σ.2.2.2 15 p3.toNatClampNeg) else none else some ((σ.1 p1 2), σ) else some ((-1), σ)
set_option maxRecDepth 20000 in
set_option maxHeartbeats 2000000 in
theorem tX0_hand_J129 {sh : List kd} {τ : St} {r : Int32} (hsh : cSh sh) {p1 : Nat} {p2 : Nat} {p3 : Int32} {q54 : Nat} {x62 : Int32} {r120 : Int64} {s121 : St} {x173 : Int32} {x174 : Int64} {k81 : Int32 → Int64 → Int32 → Value → St → Option (Int32 × St)} (hp1 : lSh sh p1) (hp2 : rSh sh p2) (h56 : uSh sh q54) (hk81 : ∀ (x60 : Int32) (x61 : Int64) (x62 : Int32) (x63 : Value) (s64 : St), k81 x60 x61 x62 x63 s64 = some (r, τ) → g_R sh 3 mX0_hand (some (.int r)) τ 81 [.ref 16, .ref p1, .ref p2, .int p3, .ref q54, .int x60, .long x61, .retAddr 0, .int x62, x63, .retAddr 0] [] (s64)) (hE : fX0_hand_J129 sh p1 p2 p3 q54 x62 r120 s121 k81 x173 x174 = some (r, τ)) : g_R sh 3 mX0_hand (some (.int r)) τ 129 [.ref 16, .ref p1, .ref p2, .int p3, .ref q54, .int x173, .long x174, .retAddr 0, .int x62, .long r120, .retAddr 0] [] (s121) := by
  unfold fX0_hand_J129 at hE
  refine g_iinc (y := 1) (loc2 := [.ref 16, .ref p1, .ref p2, .int p3, .ref q54, .int x173, .long x174, .retAddr 0, .int (x62 + 1), .long r120, .retAddr 0]) aX0_hand_129 rfl rfl rfl ?_
  refine g_goto aX0_hand_132 ?_
  exact hk81 _ _ _ _ _ hE
set_option maxRecDepth 20000 in
set_option maxHeartbeats 2000000 in
theorem tX0_hand_L81 {sh : List kd} {τ : St} {r : Int32} (hsh : cSh sh) {p1 : Nat} {p2 : Nat} {p3 : Int32} {q54 : Nat} (hp1 : lSh sh p1) (hp2 : rSh sh p2) (h56 : uSh sh q54) : ∀ (n0 : Nat) (x60 : Int32) (x61 : Int64) (x62 : Int32) (x63 : Value) (s64 : St), fX0_hand_L81 sh p1 p2 p3 q54 n0 x60 x61 x62 x63 s64 = some (r, τ) → g_R sh 3 mX0_hand (some (.int r)) τ 81 [.ref 16, .ref p1, .ref p2, .int p3, .ref q54, .int x60, .long x61, .retAddr 0, .int x62, x63, .retAddr 0] [] (s64) := by
  intro n0
  induction n0 with
  | zero => intro _ _ _ _ _ hE; cases hE
  | succ n65 ih =>
    intro x60 x61 x62 x63 s64 hE
    unfold fX0_hand_L81 at hE
    refine g_ldi aX0_hand_81 rfl ?_
    refine g_ldan aX0_hand_83 rfl ?_
    refine g_getI aX0_hand_84 (hp2.1) rfl ?_
    by_cases hc116 : (s64.1 p2 3) ≤ x62
    · rw [if_pos hc116] at hE
      refine g_ic_ge_t aX0_hand_87 hc116 ?_
      refine g_ldi aX0_hand_135 rfl ?_
      obtain ⟨rfl, rfl⟩ := i_some_inj hE
      exact g_iret aX0_hand_137 rfl rfl
    · rw [if_neg hc116] at hE
      refine g_ic_ge_f aX0_hand_87 hc116 ?_
      refine g_ldan aX0_hand_90 rfl ?_
      refine g_ldan aX0_hand_91 rfl ?_
      refine g_ldan aX0_hand_92 rfl ?_
      refine g_ldi aX0_hand_93 rfl ?_
      obtain ⟨r117, s118, h119, hE⟩ := i_bd_some hE
      refine g_calV (As := [.ref p1, .ref p2, .int x62]) (rest := []) aX0_hand_95 (i_X_mono (by omega) (tX0_tellThing hsh hp1 hp2 h119)) (sC_16 hsh) (by decide +kernel) rfl rfl (Nat.le_of_ble_eq_true rfl) rfl ?_
      refine g_lda aX0_hand_98 rfl ?_
      refine g_ldan aX0_hand_100 rfl ?_
      refine g_getR aX0_hand_101 (sC_16 hsh) rfl ?_
      refine g_ldan aX0_hand_104 rfl ?_
      refine g_getR aX0_hand_105 (sC_16 hsh) rfl ?_
      obtain ⟨r120, s121, h122, hE⟩ := i_bd_some hE
      refine g_calV (As := [.ref 17, .ref 18]) (rest := []) aX0_hand_108 (i_X_mono (by omega) (tX7_worth hsh h56 h122)) (h56) (by decide +kernel) rfl rfl (Nat.le_of_ble_eq_true rfl) rfl ?_
      refine g_stl (loc2 := [.ref 16, .ref p1, .ref p2, .int p3, .ref q54, .int x60, .long x61, .retAddr 0, .int x62, .long r120, .retAddr 0]) aX0_hand_111 (Nat.le_of_ble_eq_true rfl) rfl ?_
      refine g_ldl aX0_hand_113 rfl ?_
      refine g_ldl aX0_hand_115 rfl ?_
      refine g_lcmp aX0_hand_117 ?_
      by_cases hc175 : (lg_cmp r120 x61) ≤ 0
      · rw [if_pos hc175] at hE
        refine g_if_le_t aX0_hand_118 hc175 ?_
        exact tX0_hand_J129 hsh hp1 hp2 h56 ih hE
      · rw [if_neg hc175] at hE
        refine g_if_le_f aX0_hand_118 hc175 ?_
        refine g_ldl aX0_hand_121 rfl ?_
        refine g_stl (loc2 := [.ref 16, .ref p1, .ref p2, .int p3, .ref q54, .int x60, .long r120, .retAddr 0, .int x62, .long r120, .retAddr 0]) aX0_hand_123 (Nat.le_of_ble_eq_true rfl) rfl ?_
        refine g_ldi aX0_hand_125 rfl ?_
        refine g_sti (loc2 := [.ref 16, .ref p1, .ref p2, .int p3, .ref q54, .int x62, .long r120, .retAddr 0, .int x62, .long r120, .retAddr 0]) aX0_hand_127 (Nat.le_of_ble_eq_true rfl) rfl ?_
        exact tX0_hand_J129 hsh hp1 hp2 h56 ih hE
set_option maxRecDepth 20000 in
set_option maxHeartbeats 2000000 in
theorem tX0_hand_J45 {sh : List kd} {τ : St} {r : Int32} (hsh : cSh sh) {p1 : Nat} {p2 : Nat} {p3 : Int32} {σ : St} {x53 : Option Nat} (hp1 : lSh sh p1) (hp2 : rSh sh p2) (hE : fX0_hand_J45 sh p1 p2 p3 σ x53 = some (r, τ)) : g_R sh 3 mX0_hand (some (.int r)) τ 45 [.ref 16, .ref p1, .ref p2, .int p3, .retAddr 0, .retAddr 0, .retAddr 0, .retAddr 0, .retAddr 0, .retAddr 0, .retAddr 0] [va_rf x53] (σ) := by
  unfold fX0_hand_J45 at hE
  refine g_stq (loc2 := [.ref 16, .ref p1, .ref p2, .int p3, va_rf x53, .retAddr 0, .retAddr 0, .retAddr 0, .retAddr 0, .retAddr 0, .retAddr 0]) aX0_hand_45 (Nat.le_of_ble_eq_true rfl) rfl ?_
  refine g_ldq aX0_hand_47 rfl ?_
  rcases i_oe_some hE with ⟨q54, h55, hE⟩ | ⟨h55, hE⟩
  · rw [h55]
    obtain ⟨h56, hE⟩ := i_ck_some hE
    refine g_nn_t aX0_hand_49 ?_
    refine g_ldan aX0_hand_66 rfl ?_
    refine g_ldan aX0_hand_67 rfl ?_
    refine g_ldan aX0_hand_68 rfl ?_
    obtain ⟨r57, s58, h59, hE⟩ := i_bd_some hE
    refine g_calV (As := [.ref p1, .ref p2]) (rest := []) aX0_hand_69 (i_X_mono (by omega) (tX0_tellHour hsh hp1 hp2 h59)) (sC_16 hsh) (by decide +kernel) rfl rfl (Nat.le_of_ble_eq_true rfl) rfl ?_
    refine g_iconst (x := (-1)) aX0_hand_72 rfl ?_
    refine g_sti (loc2 := [.ref 16, .ref p1, .ref p2, .int p3, .ref q54, .int (-1), .retAddr 0, .retAddr 0, .retAddr 0, .retAddr 0, .retAddr 0]) aX0_hand_73 (Nat.le_of_ble_eq_true rfl) rfl ?_
    refine g_lconst (x := 0) aX0_hand_75 rfl ?_
    refine g_stl (loc2 := [.ref 16, .ref p1, .ref p2, .int p3, .ref q54, .int (-1), .long 0, .retAddr 0, .retAddr 0, .retAddr 0, .retAddr 0]) aX0_hand_76 (Nat.le_of_ble_eq_true rfl) rfl ?_
    refine g_iconst (x := 0) aX0_hand_78 rfl ?_
    refine g_sti (loc2 := [.ref 16, .ref p1, .ref p2, .int p3, .ref q54, .int (-1), .long 0, .retAddr 0, .int 0, .retAddr 0, .retAddr 0]) aX0_hand_79 (Nat.le_of_ble_eq_true rfl) rfl ?_
    exact tX0_hand_L81 hsh hp1 hp2 h56 i_F _ _ _ _ _ hE
  · rw [h55]
    refine g_nn_f aX0_hand_49 ?_
    refine g_ldan aX0_hand_52 rfl ?_
    refine g_getR aX0_hand_53 (hp2.1) rfl ?_
    refine g_ldan aX0_hand_56 rfl ?_
    refine g_ldan aX0_hand_57 rfl ?_
    refine g_getI aX0_hand_58 (hp1.1) rfl ?_
    obtain ⟨r176, s177, h178, hE⟩ := i_bd_some hE
    refine g_calV (As := [.int (σ.1 p1 0)]) (rest := [.ref (p2 + 3)]) aX0_hand_61 (i_X_mono (by omega) (tX6_clockAt hsh hp2 h178)) (hp2.1) (by decide +kernel) rfl rfl (Nat.le_of_ble_eq_true rfl) rfl ?_
    obtain ⟨h179, hE⟩ := i_ifn hE
    refine g_ild aX0_hand_64 (hp2.2.2.2.1) h179 ?_
    obtain ⟨rfl, rfl⟩ := i_some_inj hE
    exact g_iret aX0_hand_65 rfl rfl
set_option maxRecDepth 20000 in
set_option maxHeartbeats 2000000 in
theorem tX0_hand {sh : List kd} {σ τ : St} {r : Int32} (hsh : cSh sh) {p1 : Nat} {p2 : Nat} {p3 : Int32} (hp1 : lSh sh p1) (hp2 : rSh sh p2) (hE : fX0_hand sh σ p1 p2 p3 = some (r, τ)) : i_X 4 1 [.ref 16, .ref p1, .ref p2, .int p3] (s_h sh σ) 0 0 (some (.int r)) (s_h sh τ) := by
  refine g_X (M := mX0_hand) (loc := [.ref 16, .ref p1, .ref p2, .int p3, .retAddr 0, .retAddr 0, .retAddr 0, .retAddr 0, .retAddr 0, .retAddr 0, .retAddr 0]) rfl (Nat.le_of_ble_eq_true rfl) rfl ?_
  unfold fX0_hand at hE
  refine g_ldan aX0_hand_0 rfl ?_
  refine g_getI aX0_hand_1 (hp1.1) rfl ?_
  by_cases hc1 : (σ.1 p1 3) ≤ 0
  · rw [if_pos hc1] at hE
    refine g_if_le_t aX0_hand_4 hc1 ?_
    refine g_ldan aX0_hand_9 rfl ?_
    refine g_getI aX0_hand_10 (hp1.1) rfl ?_
    refine g_iconst (x := (-1)) aX0_hand_13 rfl ?_
    by_cases hc2 : (σ.1 p1 2) = (-1)
    · rw [if_pos hc2] at hE
      refine g_ic_eq_t aX0_hand_14 hc2 ?_
      refine g_ldin aX0_hand_22 rfl ?_
      by_cases hc180 : p3 < 0
      · rw [if_pos hc180] at hE
        refine g_if_lt_t aX0_hand_23 hc180 ?_
        refine g_null aX0_hand_44 ?_
        exact tX0_hand_J45 hsh hp1 hp2 hE
      · rw [if_neg hc180] at hE
        refine g_if_lt_f aX0_hand_23 hc180 ?_
        refine g_ldin aX0_hand_26 rfl ?_
        refine g_ldan aX0_hand_27 rfl ?_
        refine g_getR aX0_hand_28 (sC_16 hsh) rfl ?_
        refine g_len aX0_hand_31 (sC_15 hsh) ?_
        by_cases hc181 : 6 ≤ p3
        · rw [if_pos hc181] at hE
          refine g_ic_ge_t aX0_hand_32 hc181 ?_
          refine g_null aX0_hand_44 ?_
          exact tX0_hand_J45 hsh hp1 hp2 hE
        · rw [if_neg hc181] at hE
          refine g_ic_ge_f aX0_hand_32 hc181 ?_
          refine g_ldan aX0_hand_35 rfl ?_
          refine g_getR aX0_hand_36 (sC_16 hsh) rfl ?_
          refine g_ldin aX0_hand_39 rfl ?_
          obtain ⟨h182, hE⟩ := i_ifn hE
          refine g_ald aX0_hand_40 (sC_15 hsh) h182 ?_
          refine g_goto aX0_hand_41 ?_
          exact tX0_hand_J45 hsh hp1 hp2 hE
    · rw [if_neg hc2] at hE
      refine g_ic_eq_f aX0_hand_14 hc2 ?_
      refine g_ldan aX0_hand_17 rfl ?_
      refine g_getI aX0_hand_18 (hp1.1) rfl ?_
      obtain ⟨rfl, rfl⟩ := i_some_inj hE
      exact g_iret aX0_hand_21 rfl rfl
  · rw [if_neg hc1] at hE
    refine g_if_le_f aX0_hand_4 hc1 ?_
    refine g_iconst (x := (-1)) aX0_hand_7 rfl ?_
    obtain ⟨rfl, rfl⟩ := i_some_inj hE
    exact g_iret aX0_hand_8 rfl rfl
theorem aX0_pass_0 : i_at mX0_pass.2.2.2.2.2 0 = some (.aload_n 0, 1, 0, 0, 0, 0) := by decide +kernel
theorem aX0_pass_1 : i_at mX0_pass.2.2.2.2.2 1 = some (.aload_n 1, 1, 0, 0, 0, 0) := by decide +kernel
theorem aX0_pass_2 : i_at mX0_pass.2.2.2.2.2 2 = some (.aload_n 2, 1, 0, 0, 0, 0) := by decide +kernel
theorem aX0_pass_3 : i_at mX0_pass.2.2.2.2.2 3 = some (.iload_n 3, 1, 0, 0, 0, 0) := by decide +kernel
theorem aX0_pass_4 : i_at mX0_pass.2.2.2.2.2 4 = some (.invokevirtual 61, 3, 1, 3, 797, 0) := by decide +kernel
theorem aX0_pass_7 : i_at mX0_pass.2.2.2.2.2 7 = some (.istore 4, 2, 0, 0, 0, 0) := by decide +kernel
theorem aX0_pass_9 : i_at mX0_pass.2.2.2.2.2 9 = some (.aload_n 1, 1, 0, 0, 0, 0) := by decide +kernel
theorem aX0_pass_10 : i_at mX0_pass.2.2.2.2.2 10 = some (.iconst (-1), 1, 0, 0, 0, 0) := by decide +kernel
theorem aX0_pass_11 : i_at mX0_pass.2.2.2.2.2 11 = some (.putfield 30, 3, 3, 2, 302, 0) := by decide +kernel
theorem aX0_pass_14 : i_at mX0_pass.2.2.2.2.2 14 = some (.aload_n 1, 1, 0, 0, 0, 0) := by decide +kernel
theorem aX0_pass_15 : i_at mX0_pass.2.2.2.2.2 15 = some (.iconst 0, 1, 0, 0, 0, 0) := by decide +kernel
theorem aX0_pass_16 : i_at mX0_pass.2.2.2.2.2 16 = some (.aload_n 1, 1, 0, 0, 0, 0) := by decide +kernel
theorem aX0_pass_17 : i_at mX0_pass.2.2.2.2.2 17 = some (.getfield 24, 3, 3, 3, 305, 0) := by decide +kernel
theorem aX0_pass_20 : i_at mX0_pass.2.2.2.2.2 20 = some (.iconst 1, 1, 0, 0, 0, 0) := by decide +kernel
theorem aX0_pass_21 : i_at mX0_pass.2.2.2.2.2 21 = some (.isub, 1, 0, 0, 0, 0) := by decide +kernel
theorem aX0_pass_22 : i_at mX0_pass.2.2.2.2.2 22 = some (.invokestatic 65, 3, 1001, 2, 809, 0) := by decide +kernel
theorem aX0_pass_25 : i_at mX0_pass.2.2.2.2.2 25 = some (.putfield 24, 3, 3, 3, 305, 0) := by decide +kernel
theorem aX0_pass_28 : i_at mX0_pass.2.2.2.2.2 28 = some (.aload_n 1, 1, 0, 0, 0, 0) := by decide +kernel
theorem aX0_pass_29 : i_at mX0_pass.2.2.2.2.2 29 = some (.iload 4, 2, 0, 0, 0, 0) := by decide +kernel
theorem aX0_pass_31 : i_at mX0_pass.2.2.2.2.2 31 = some (.putfield 71, 3, 3, 1, 297, 0) := by decide +kernel
theorem aX0_pass_34 : i_at mX0_pass.2.2.2.2.2 34 = some (.iload 4, 2, 0, 0, 0, 0) := by decide +kernel
theorem aX0_pass_36 : i_at mX0_pass.2.2.2.2.2 36 = some (.ifCond .lt 14, 3, 50, 0, 0, 0) := by decide +kernel
theorem aX0_pass_39 : i_at mX0_pass.2.2.2.2.2 39 = some (.aload_n 1, 1, 0, 0, 0, 0) := by decide +kernel
theorem aX0_pass_40 : i_at mX0_pass.2.2.2.2.2 40 = some (.getfield 74, 3, 3, 7, 322, 0) := by decide +kernel
theorem aX0_pass_43 : i_at mX0_pass.2.2.2.2.2 43 = some (.iload 4, 2, 0, 0, 0, 0) := by decide +kernel
theorem aX0_pass_45 : i_at mX0_pass.2.2.2.2.2 45 = some (.dup2, 1, 0, 0, 0, 0) := by decide +kernel
theorem aX0_pass_46 : i_at mX0_pass.2.2.2.2.2 46 = some (.iaload, 1, 0, 0, 0, 0) := by decide +kernel
theorem aX0_pass_47 : i_at mX0_pass.2.2.2.2.2 47 = some (.iconst 1, 1, 0, 0, 0, 0) := by decide +kernel
theorem aX0_pass_48 : i_at mX0_pass.2.2.2.2.2 48 = some (.iadd, 1, 0, 0, 0, 0) := by decide +kernel
theorem aX0_pass_49 : i_at mX0_pass.2.2.2.2.2 49 = some (.iastore, 1, 0, 0, 0, 0) := by decide +kernel
theorem aX0_pass_50 : i_at mX0_pass.2.2.2.2.2 50 = some (.iconst 0, 1, 0, 0, 0, 0) := by decide +kernel
theorem aX0_pass_51 : i_at mX0_pass.2.2.2.2.2 51 = some (.istore 5, 2, 0, 0, 0, 0) := by decide +kernel
theorem aX0_pass_53 : i_at mX0_pass.2.2.2.2.2 53 = some (.iconst 0, 1, 0, 0, 0, 0) := by decide +kernel
theorem aX0_pass_54 : i_at mX0_pass.2.2.2.2.2 54 = some (.istore 6, 2, 0, 0, 0, 0) := by decide +kernel
theorem aX0_pass_56 : i_at mX0_pass.2.2.2.2.2 56 = some (.iload 6, 2, 0, 0, 0, 0) := by decide +kernel
theorem aX0_pass_58 : i_at mX0_pass.2.2.2.2.2 58 = some (.aload_n 2, 1, 0, 0, 0, 0) := by decide +kernel
theorem aX0_pass_59 : i_at mX0_pass.2.2.2.2.2 59 = some (.getfield 77, 3, 5, 4, 171, 0) := by decide +kernel
theorem aX0_pass_62 : i_at mX0_pass.2.2.2.2.2 62 = some (.if_icmp .ge 86, 3, 148, 0, 0, 0) := by decide +kernel
theorem aX0_pass_65 : i_at mX0_pass.2.2.2.2.2 65 = some (.aload_n 1, 1, 0, 0, 0, 0) := by decide +kernel
theorem aX0_pass_66 : i_at mX0_pass.2.2.2.2.2 66 = some (.iload 6, 2, 0, 0, 0, 0) := by decide +kernel
theorem aX0_pass_68 : i_at mX0_pass.2.2.2.2.2 68 = some (.aload_n 2, 1, 0, 0, 0, 0) := by decide +kernel
theorem aX0_pass_69 : i_at mX0_pass.2.2.2.2.2 69 = some (.getfield 80, 3, 5, 9, 191, 0) := by decide +kernel
theorem aX0_pass_72 : i_at mX0_pass.2.2.2.2.2 72 = some (.iload 6, 2, 0, 0, 0, 0) := by decide +kernel
theorem aX0_pass_74 : i_at mX0_pass.2.2.2.2.2 74 = some (.iaload, 1, 0, 0, 0, 0) := by decide +kernel
theorem aX0_pass_75 : i_at mX0_pass.2.2.2.2.2 75 = some (.invokevirtual 83, 3, 28, 2, 838, 0) := by decide +kernel
theorem aX0_pass_78 : i_at mX0_pass.2.2.2.2.2 78 = some (.aload_n 1, 1, 0, 0, 0, 0) := by decide +kernel
theorem aX0_pass_79 : i_at mX0_pass.2.2.2.2.2 79 = some (.getfield 87, 3, 3, 4, 310, 0) := by decide +kernel
theorem aX0_pass_82 : i_at mX0_pass.2.2.2.2.2 82 = some (.iload 6, 2, 0, 0, 0, 0) := by decide +kernel
theorem aX0_pass_84 : i_at mX0_pass.2.2.2.2.2 84 = some (.iaload, 1, 0, 0, 0, 0) := by decide +kernel
theorem aX0_pass_85 : i_at mX0_pass.2.2.2.2.2 85 = some (.aload_n 2, 1, 0, 0, 0, 0) := by decide +kernel
theorem aX0_pass_86 : i_at mX0_pass.2.2.2.2.2 86 = some (.getfield 90, 3, 5, 2, 160, 0) := by decide +kernel
theorem aX0_pass_89 : i_at mX0_pass.2.2.2.2.2 89 = some (.if_icmp .lt 53, 3, 142, 0, 0, 0) := by decide +kernel
theorem aX0_pass_92 : i_at mX0_pass.2.2.2.2.2 92 = some (.iload 5, 2, 0, 0, 0, 0) := by decide +kernel
theorem aX0_pass_94 : i_at mX0_pass.2.2.2.2.2 94 = some (.iconst 1, 1, 0, 0, 0, 0) := by decide +kernel
theorem aX0_pass_95 : i_at mX0_pass.2.2.2.2.2 95 = some (.iload 6, 2, 0, 0, 0, 0) := by decide +kernel
theorem aX0_pass_97 : i_at mX0_pass.2.2.2.2.2 97 = some (.ishl, 1, 0, 0, 0, 0) := by decide +kernel
theorem aX0_pass_98 : i_at mX0_pass.2.2.2.2.2 98 = some (.ior, 1, 0, 0, 0, 0) := by decide +kernel
theorem aX0_pass_99 : i_at mX0_pass.2.2.2.2.2 99 = some (.istore 5, 2, 0, 0, 0, 0) := by decide +kernel
theorem aX0_pass_101 : i_at mX0_pass.2.2.2.2.2 101 = some (.aload_n 1, 1, 0, 0, 0, 0) := by decide +kernel
theorem aX0_pass_102 : i_at mX0_pass.2.2.2.2.2 102 = some (.getfield 87, 3, 3, 4, 310, 0) := by decide +kernel
theorem aX0_pass_105 : i_at mX0_pass.2.2.2.2.2 105 = some (.iload 6, 2, 0, 0, 0, 0) := by decide +kernel
theorem aX0_pass_107 : i_at mX0_pass.2.2.2.2.2 107 = some (.iconst 0, 1, 0, 0, 0, 0) := by decide +kernel
theorem aX0_pass_108 : i_at mX0_pass.2.2.2.2.2 108 = some (.iastore, 1, 0, 0, 0, 0) := by decide +kernel
theorem aX0_pass_109 : i_at mX0_pass.2.2.2.2.2 109 = some (.iload 4, 2, 0, 0, 0, 0) := by decide +kernel
theorem aX0_pass_111 : i_at mX0_pass.2.2.2.2.2 111 = some (.ifCond .lt 20, 3, 131, 0, 0, 0) := by decide +kernel
theorem aX0_pass_114 : i_at mX0_pass.2.2.2.2.2 114 = some (.aload_n 1, 1, 0, 0, 0, 0) := by decide +kernel
theorem aX0_pass_115 : i_at mX0_pass.2.2.2.2.2 115 = some (.getfield 93, 3, 3, 5, 315, 0) := by decide +kernel
theorem aX0_pass_118 : i_at mX0_pass.2.2.2.2.2 118 = some (.iload 6, 2, 0, 0, 0, 0) := by decide +kernel
theorem aX0_pass_120 : i_at mX0_pass.2.2.2.2.2 120 = some (.dup2, 1, 0, 0, 0, 0) := by decide +kernel
theorem aX0_pass_121 : i_at mX0_pass.2.2.2.2.2 121 = some (.iaload, 1, 0, 0, 0, 0) := by decide +kernel
theorem aX0_pass_122 : i_at mX0_pass.2.2.2.2.2 122 = some (.iconst 1, 1, 0, 0, 0, 0) := by decide +kernel
theorem aX0_pass_123 : i_at mX0_pass.2.2.2.2.2 123 = some (.iload 4, 2, 0, 0, 0, 0) := by decide +kernel
theorem aX0_pass_125 : i_at mX0_pass.2.2.2.2.2 125 = some (.ishl, 1, 0, 0, 0, 0) := by decide +kernel
theorem aX0_pass_126 : i_at mX0_pass.2.2.2.2.2 126 = some (.ior, 1, 0, 0, 0, 0) := by decide +kernel
theorem aX0_pass_127 : i_at mX0_pass.2.2.2.2.2 127 = some (.iastore, 1, 0, 0, 0, 0) := by decide +kernel
theorem aX0_pass_128 : i_at mX0_pass.2.2.2.2.2 128 = some (.goto 14, 3, 142, 0, 0, 0) := by decide +kernel
theorem aX0_pass_131 : i_at mX0_pass.2.2.2.2.2 131 = some (.aload_n 1, 1, 0, 0, 0, 0) := by decide +kernel
theorem aX0_pass_132 : i_at mX0_pass.2.2.2.2.2 132 = some (.getfield 96, 3, 3, 6, 319, 0) := by decide +kernel
theorem aX0_pass_135 : i_at mX0_pass.2.2.2.2.2 135 = some (.iload 6, 2, 0, 0, 0, 0) := by decide +kernel
theorem aX0_pass_137 : i_at mX0_pass.2.2.2.2.2 137 = some (.dup2, 1, 0, 0, 0, 0) := by decide +kernel
theorem aX0_pass_138 : i_at mX0_pass.2.2.2.2.2 138 = some (.iaload, 1, 0, 0, 0, 0) := by decide +kernel
theorem aX0_pass_139 : i_at mX0_pass.2.2.2.2.2 139 = some (.iconst 1, 1, 0, 0, 0, 0) := by decide +kernel
theorem aX0_pass_140 : i_at mX0_pass.2.2.2.2.2 140 = some (.iadd, 1, 0, 0, 0, 0) := by decide +kernel
theorem aX0_pass_141 : i_at mX0_pass.2.2.2.2.2 141 = some (.iastore, 1, 0, 0, 0, 0) := by decide +kernel
theorem aX0_pass_142 : i_at mX0_pass.2.2.2.2.2 142 = some (.iinc 6 1, 3, 0, 0, 0, 0) := by decide +kernel
theorem aX0_pass_145 : i_at mX0_pass.2.2.2.2.2 145 = some (.goto (-89), 3, 56, 0, 0, 0) := by decide +kernel
theorem aX0_pass_148 : i_at mX0_pass.2.2.2.2.2 148 = some (.aload_n 1, 1, 0, 0, 0, 0) := by decide +kernel
theorem aX0_pass_149 : i_at mX0_pass.2.2.2.2.2 149 = some (.dup, 1, 0, 0, 0, 0) := by decide +kernel
theorem aX0_pass_150 : i_at mX0_pass.2.2.2.2.2 150 = some (.getfield 39, 3, 3, 0, 293, 0) := by decide +kernel
theorem aX0_pass_153 : i_at mX0_pass.2.2.2.2.2 153 = some (.iconst 1, 1, 0, 0, 0, 0) := by decide +kernel
theorem aX0_pass_154 : i_at mX0_pass.2.2.2.2.2 154 = some (.iadd, 1, 0, 0, 0, 0) := by decide +kernel
theorem aX0_pass_155 : i_at mX0_pass.2.2.2.2.2 155 = some (.putfield 39, 3, 3, 0, 293, 0) := by decide +kernel
theorem aX0_pass_158 : i_at mX0_pass.2.2.2.2.2 158 = some (.iload 5, 2, 0, 0, 0, 0) := by decide +kernel
theorem aX0_pass_160 : i_at mX0_pass.2.2.2.2.2 160 = some (.ireturn, 1, 0, 0, 0, 0) := by decide +kernel
noncomputable def fX0_pass_J142 (sh : List kd) (p1 : Nat) (p2 : Nat) (p3 : Int32) (r1 : Int32) (x58 : Int32) (k56 : Int32 → Int32 → St → Option (Int32 × St)) (x170 : Int32) (s171 : St) : Option (Int32 × St) := k56 x170 (x58 + 1) s171
noncomputable def fX0_pass_L56 (sh : List kd) (p1 : Nat) (p2 : Nat) (p3 : Int32) (r1 : Int32) (k148 : Int32 → Int32 → St → Option (Int32 × St)) : Nat → Int32 → Int32 → St → Option (Int32 × St)
  | 0, _, _, _ => none
  | n113 + 1, x57, x58, s59 => if (s59.1 p2 4) ≤ x58 then k148 x57 x58 s59 else if i_ok x58 6 then i_bd (fX4_thank sh s59 p1 x58 (s59.2.1 (p2 + 5) x58.toNatClampNeg)) (fun r116 s117 => if i_ok x58 6 then if (s117.2.1 (p1 + 1) x58.toNatClampNeg) < (s117.1 p2 2) then fX0_pass_J142 sh p1 p2 p3 r1 x58 (fX0_pass_L56 sh p1 p2 p3 r1 k148 n113) x57 s117 else if i_ok x58 6 then if r1 < 0 then if i_ok x58 6 then if i_ok x58 6 then i_jp (s_A (s_A s117 (p1 + 1) x58.toNatClampNeg 0) (p1 + 3) x58.toNatClampNeg (((s_A s117 (p1 + 1) x58.toNatClampNeg 0).2.1 (p1 + 3) x58.toNatClampNeg) + 1)) (fun (s177 : St) => fX0_pass_J142 sh p1 p2 p3 r1 x58 (fX0_pass_L56 sh p1 p2 p3 r1 k148 n113) (x57 ||| (1 <<< (x58 &&& 31))) s177) else none else none else if i_ok x58 6 then if i_ok x58 6 then i_jp (s_A (s_A s117 (p1 + 1) x58.toNatClampNeg 0) (p1 + 2) x58.toNatClampNeg (((s_A s117 (p1 + 1) x58.toNatClampNeg 0).2.1 (p1 + 2) x58.toNatClampNeg) ||| (1 <<< (r1 &&& 31)))) (fun (s181 : St) => fX0_pass_J142 sh p1 p2 p3 r1 x58 (fX0_pass_L56 sh p1 p2 p3 r1 k148 n113) (x57 ||| (1 <<< (x58 &&& 31))) s181) else none else none else none else none) else none
noncomputable def fX0_pass_X148 (sh : List kd) (p1 : Nat) (p2 : Nat) (p3 : Int32) (r1 : Int32) (x110 : Int32) (x111 : Int32) (s112 : St) : Option (Int32 × St) := some (x110, s_F s112 p1 0 ((s112.1 p1 0) + 1))
noncomputable def fX0_pass_J50 (sh : List kd) (p1 : Nat) (p2 : Nat) (p3 : Int32) (r1 : Int32) (s56 : St) : Option (Int32 × St) := fX0_pass_L56 sh p1 p2 p3 r1 (fun (x110 : Int32) (x111 : Int32) (s112 : St) => fX0_pass_X148 sh p1 p2 p3 r1 x110 x111 s112) i_F 0 0 s56
noncomputable def fX0_pass (sh : List kd) (σ : St) (p1 : Nat) (p2 : Nat) (p3 : Int32) : Option (Int32 × St) := i_bd (fX0_hand sh σ p1 p2 p3) (fun r1 s2 => i_jp (s_F (s_F (s_F s2 p1 2 (-1)) p1 3 (if 0 < (((s_F s2 p1 2 (-1)).1 p1 3) - 1) then (((s_F s2 p1 2 (-1)).1 p1 3) - 1) else 0)) p1 1 r1) (fun (s4 : St) => if r1 < 0 then fX0_pass_J50 sh p1 p2 p3 r1 s4 else if i_ok r1 6 then if i_ok r1 6 then fX0_pass_J50 sh p1 p2 p3 r1 (s_A s4 (p1 + 4) r1.toNatClampNeg ((s4.2.1 (p1 + 4) r1.toNatClampNeg) + 1)) else none else none))
set_option maxRecDepth 20000 in
set_option maxHeartbeats 2000000 in
theorem tX0_pass_J142 {sh : List kd} {τ : St} {r : Int32} (hsh : cSh sh) {p1 : Nat} {p2 : Nat} {p3 : Int32} {r1 : Int32} {x58 : Int32} {x170 : Int32} {s171 : St} {k56 : Int32 → Int32 → St → Option (Int32 × St)} (hp1 : lSh sh p1) (hp2 : rSh sh p2) (hk56 : ∀ (x57 : Int32) (x58 : Int32) (s59 : St), k56 x57 x58 s59 = some (r, τ) → g_R sh 4 mX0_pass (some (.int r)) τ 56 [.ref 16, .ref p1, .ref p2, .int p3, .int r1, .int x57, .int x58] [] (s59)) (hE : fX0_pass_J142 sh p1 p2 p3 r1 x58 k56 x170 s171 = some (r, τ)) : g_R sh 4 mX0_pass (some (.int r)) τ 142 [.ref 16, .ref p1, .ref p2, .int p3, .int r1, .int x170, .int x58] [] (s171) := by
  unfold fX0_pass_J142 at hE
  refine g_iinc (y := 1) (loc2 := [.ref 16, .ref p1, .ref p2, .int p3, .int r1, .int x170, .int (x58 + 1)]) aX0_pass_142 rfl rfl rfl ?_
  refine g_goto aX0_pass_145 ?_
  exact hk56 _ _ _ hE
set_option maxRecDepth 20000 in
set_option maxHeartbeats 2000000 in
theorem tX0_pass_L56 {sh : List kd} {τ : St} {r : Int32} (hsh : cSh sh) {p1 : Nat} {p2 : Nat} {p3 : Int32} {r1 : Int32} {k148 : Int32 → Int32 → St → Option (Int32 × St)} (hp1 : lSh sh p1) (hp2 : rSh sh p2) (hk148 : ∀ (x110 : Int32) (x111 : Int32) (s112 : St), k148 x110 x111 s112 = some (r, τ) → g_R sh 4 mX0_pass (some (.int r)) τ 148 [.ref 16, .ref p1, .ref p2, .int p3, .int r1, .int x110, .int x111] [] (s112)) : ∀ (n0 : Nat) (x57 : Int32) (x58 : Int32) (s59 : St), fX0_pass_L56 sh p1 p2 p3 r1 k148 n0 x57 x58 s59 = some (r, τ) → g_R sh 4 mX0_pass (some (.int r)) τ 56 [.ref 16, .ref p1, .ref p2, .int p3, .int r1, .int x57, .int x58] [] (s59) := by
  intro n0
  induction n0 with
  | zero => intro _ _ _ hE; cases hE
  | succ n113 ih =>
    intro x57 x58 s59 hE
    unfold fX0_pass_L56 at hE
    refine g_ldi aX0_pass_56 rfl ?_
    refine g_ldan aX0_pass_58 rfl ?_
    refine g_getI aX0_pass_59 (hp2.1) rfl ?_
    by_cases hc114 : (s59.1 p2 4) ≤ x58
    · rw [if_pos hc114] at hE
      refine g_ic_ge_t aX0_pass_62 hc114 ?_
      exact hk148 _ _ _ hE
    · rw [if_neg hc114] at hE
      refine g_ic_ge_f aX0_pass_62 hc114 ?_
      refine g_ldan aX0_pass_65 rfl ?_
      refine g_ldi aX0_pass_66 rfl ?_
      refine g_ldan aX0_pass_68 rfl ?_
      refine g_getR aX0_pass_69 (hp2.1) rfl ?_
      refine g_ldi aX0_pass_72 rfl ?_
      obtain ⟨h115, hE⟩ := i_ifn hE
      refine g_ild aX0_pass_74 (hp2.2.2.2.2.2) h115 ?_
      obtain ⟨r116, s117, h118, hE⟩ := i_bd_some hE
      refine g_calV (As := [.int x58, .int (s59.2.1 (p2 + 5) x58.toNatClampNeg)]) (rest := []) aX0_pass_75 (i_X_mono (by omega) (tX4_thank hsh hp1 h118)) (hp1.1) (by decide +kernel) rfl rfl (Nat.le_of_ble_eq_true rfl) rfl ?_
      refine g_ldan aX0_pass_78 rfl ?_
      refine g_getR aX0_pass_79 (hp1.1) rfl ?_
      refine g_ldi aX0_pass_82 rfl ?_
      obtain ⟨h119, hE⟩ := i_ifn hE
      refine g_ild aX0_pass_84 (hp1.2.1) h119 ?_
      refine g_ldan aX0_pass_85 rfl ?_
      refine g_getI aX0_pass_86 (hp2.1) rfl ?_
      by_cases hc172 : (s117.2.1 (p1 + 1) x58.toNatClampNeg) < (s117.1 p2 2)
      · rw [if_pos hc172] at hE
        refine g_ic_lt_t aX0_pass_89 hc172 ?_
        exact tX0_pass_J142 hsh hp1 hp2 ih hE
      · rw [if_neg hc172] at hE
        refine g_ic_lt_f aX0_pass_89 hc172 ?_
        refine g_ldi aX0_pass_92 rfl ?_
        refine g_iconst (x := 1) aX0_pass_94 rfl ?_
        refine g_ldi aX0_pass_95 rfl ?_
        refine g_ishl aX0_pass_97 ?_
        refine g_ior aX0_pass_98 ?_
        refine g_sti (loc2 := [.ref 16, .ref p1, .ref p2, .int p3, .int r1, .int (x57 ||| (1 <<< (x58 &&& 31))), .int x58]) aX0_pass_99 (Nat.le_of_ble_eq_true rfl) rfl ?_
        refine g_ldan aX0_pass_101 rfl ?_
        refine g_getR aX0_pass_102 (hp1.1) rfl ?_
        refine g_ldi aX0_pass_105 rfl ?_
        refine g_iconst (x := 0) aX0_pass_107 rfl ?_
        obtain ⟨h173, hE⟩ := i_ifn hE
        refine g_ist aX0_pass_108 (hp1.2.1) h173 ?_
        refine g_ldi aX0_pass_109 rfl ?_
        by_cases hc174 : r1 < 0
        · rw [if_pos hc174] at hE
          refine g_if_lt_t aX0_pass_111 hc174 ?_
          refine g_ldan aX0_pass_131 rfl ?_
          refine g_getR aX0_pass_132 (hp1.1) rfl ?_
          refine g_ldi aX0_pass_135 rfl ?_
          refine g_dup2 aX0_pass_137 ?_
          obtain ⟨h175, hE⟩ := i_ifn hE
          refine g_ild aX0_pass_138 (hp1.2.2.2.1) h175 ?_
          refine g_iconst (x := 1) aX0_pass_139 rfl ?_
          refine g_iadd aX0_pass_140 ?_
          obtain ⟨h176, hE⟩ := i_ifn hE
          refine g_ist aX0_pass_141 (hp1.2.2.2.1) h176 ?_
          obtain ⟨s177, h178, hE⟩ := i_jp_some hE
          rw [← h178]
          exact tX0_pass_J142 hsh hp1 hp2 ih hE
        · rw [if_neg hc174] at hE
          refine g_if_lt_f aX0_pass_111 hc174 ?_
          refine g_ldan aX0_pass_114 rfl ?_
          refine g_getR aX0_pass_115 (hp1.1) rfl ?_
          refine g_ldi aX0_pass_118 rfl ?_
          refine g_dup2 aX0_pass_120 ?_
          obtain ⟨h179, hE⟩ := i_ifn hE
          refine g_ild aX0_pass_121 (hp1.2.2.1) h179 ?_
          refine g_iconst (x := 1) aX0_pass_122 rfl ?_
          refine g_ldi aX0_pass_123 rfl ?_
          refine g_ishl aX0_pass_125 ?_
          refine g_ior aX0_pass_126 ?_
          obtain ⟨h180, hE⟩ := i_ifn hE
          refine g_ist aX0_pass_127 (hp1.2.2.1) h180 ?_
          obtain ⟨s181, h182, hE⟩ := i_jp_some hE
          rw [← h182]
          refine g_goto aX0_pass_128 ?_
          exact tX0_pass_J142 hsh hp1 hp2 ih hE
set_option maxRecDepth 20000 in
set_option maxHeartbeats 2000000 in
theorem tX0_pass_X148 {sh : List kd} {τ : St} {r : Int32} (hsh : cSh sh) {p1 : Nat} {p2 : Nat} {p3 : Int32} {r1 : Int32} {x110 : Int32} {x111 : Int32} {s112 : St} (hp1 : lSh sh p1) (hp2 : rSh sh p2) (hE : fX0_pass_X148 sh p1 p2 p3 r1 x110 x111 s112 = some (r, τ)) : g_R sh 4 mX0_pass (some (.int r)) τ 148 [.ref 16, .ref p1, .ref p2, .int p3, .int r1, .int x110, .int x111] [] (s112) := by
  unfold fX0_pass_X148 at hE
  refine g_ldan aX0_pass_148 rfl ?_
  refine g_dupa aX0_pass_149 ?_
  refine g_getI aX0_pass_150 (hp1.1) rfl ?_
  refine g_iconst (x := 1) aX0_pass_153 rfl ?_
  refine g_iadd aX0_pass_154 ?_
  refine g_putI aX0_pass_155 (hp1.1) rfl rfl ?_
  refine g_ldi aX0_pass_158 rfl ?_
  obtain ⟨rfl, rfl⟩ := i_some_inj hE
  exact g_iret aX0_pass_160 rfl rfl
set_option maxRecDepth 20000 in
set_option maxHeartbeats 2000000 in
theorem tX0_pass_J50 {sh : List kd} {τ : St} {r : Int32} (hsh : cSh sh) {p1 : Nat} {p2 : Nat} {p3 : Int32} {r1 : Int32} {s56 : St} (hp1 : lSh sh p1) (hp2 : rSh sh p2) (hE : fX0_pass_J50 sh p1 p2 p3 r1 s56 = some (r, τ)) : g_R sh 4 mX0_pass (some (.int r)) τ 50 [.ref 16, .ref p1, .ref p2, .int p3, .int r1, .retAddr 0, .retAddr 0] [] (s56) := by
  unfold fX0_pass_J50 at hE
  refine g_iconst (x := 0) aX0_pass_50 rfl ?_
  refine g_sti (loc2 := [.ref 16, .ref p1, .ref p2, .int p3, .int r1, .int 0, .retAddr 0]) aX0_pass_51 (Nat.le_of_ble_eq_true rfl) rfl ?_
  refine g_iconst (x := 0) aX0_pass_53 rfl ?_
  refine g_sti (loc2 := [.ref 16, .ref p1, .ref p2, .int p3, .int r1, .int 0, .int 0]) aX0_pass_54 (Nat.le_of_ble_eq_true rfl) rfl ?_
  exact tX0_pass_L56 hsh hp1 hp2 (fun x110 x111 s112 hE => tX0_pass_X148 hsh hp1 hp2 hE) i_F _ _ _ hE
set_option maxRecDepth 20000 in
set_option maxHeartbeats 2000000 in
theorem tX0_pass {sh : List kd} {σ τ : St} {r : Int32} (hsh : cSh sh) {p1 : Nat} {p2 : Nat} {p3 : Int32} (hp1 : lSh sh p1) (hp2 : rSh sh p2) (hE : fX0_pass sh σ p1 p2 p3 = some (r, τ)) : i_X 5 2 [.ref 16, .ref p1, .ref p2, .int p3] (s_h sh σ) 0 0 (some (.int r)) (s_h sh τ) := by
  refine g_X (M := mX0_pass) (loc := [.ref 16, .ref p1, .ref p2, .int p3, .retAddr 0, .retAddr 0, .retAddr 0]) rfl (Nat.le_of_ble_eq_true rfl) rfl ?_
  unfold fX0_pass at hE
  refine g_ldan aX0_pass_0 rfl ?_
  refine g_ldan aX0_pass_1 rfl ?_
  refine g_ldan aX0_pass_2 rfl ?_
  refine g_ldin aX0_pass_3 rfl ?_
  obtain ⟨r1, s2, h3, hE⟩ := i_bd_some hE
  refine g_calV (As := [.ref p1, .ref p2, .int p3]) (rest := []) aX0_pass_4 (i_X_mono (by omega) (tX0_hand hsh hp1 hp2 h3)) (sC_16 hsh) (by decide +kernel) rfl rfl (Nat.le_of_ble_eq_true rfl) rfl ?_
  refine g_sti (loc2 := [.ref 16, .ref p1, .ref p2, .int p3, .int r1, .retAddr 0, .retAddr 0]) aX0_pass_7 (Nat.le_of_ble_eq_true rfl) rfl ?_
  refine g_ldan aX0_pass_9 rfl ?_
  refine g_iconst (x := (-1)) aX0_pass_10 rfl ?_
  refine g_putI aX0_pass_11 (hp1.1) rfl rfl ?_
  refine g_ldan aX0_pass_14 rfl ?_
  refine g_iconst (x := 0) aX0_pass_15 rfl ?_
  refine g_ldan aX0_pass_16 rfl ?_
  refine g_getI aX0_pass_17 (hp1.1) rfl ?_
  refine g_iconst (x := 1) aX0_pass_20 rfl ?_
  refine g_isub aX0_pass_21 ?_
  refine g_max aX0_pass_22 (Nat.le_of_ble_eq_true rfl) ?_
  refine g_putI aX0_pass_25 (hp1.1) rfl rfl ?_
  refine g_ldan aX0_pass_28 rfl ?_
  refine g_ldi aX0_pass_29 rfl ?_
  refine g_putI aX0_pass_31 (hp1.1) rfl rfl ?_
  obtain ⟨s4, h5, hE⟩ := i_jp_some hE
  rw [← h5]
  refine g_ldi aX0_pass_34 rfl ?_
  by_cases hc183 : r1 < 0
  · rw [if_pos hc183] at hE
    refine g_if_lt_t aX0_pass_36 hc183 ?_
    exact tX0_pass_J50 hsh hp1 hp2 hE
  · rw [if_neg hc183] at hE
    refine g_if_lt_f aX0_pass_36 hc183 ?_
    refine g_ldan aX0_pass_39 rfl ?_
    refine g_getR aX0_pass_40 (hp1.1) rfl ?_
    refine g_ldi aX0_pass_43 rfl ?_
    refine g_dup2 aX0_pass_45 ?_
    obtain ⟨h184, hE⟩ := i_ifn hE
    refine g_ild aX0_pass_46 (hp1.2.2.2.2) h184 ?_
    refine g_iconst (x := 1) aX0_pass_47 rfl ?_
    refine g_iadd aX0_pass_48 ?_
    obtain ⟨h185, hE⟩ := i_ifn hE
    refine g_ist aX0_pass_49 (hp1.2.2.2.2) h185 ?_
    exact tX0_pass_J50 hsh hp1 hp2 hE
theorem aX1_read_0 : i_at mX1_read.2.2.2.2.2 0 = some (.aload_n 0, 1, 0, 0, 0, 0) := by decide +kernel
theorem aX1_read_1 : i_at mX1_read.2.2.2.2.2 1 = some (.getfield 9, 3, 1, 0, 221, 0) := by decide +kernel
theorem aX1_read_4 : i_at mX1_read.2.2.2.2.2 4 = some (.invokevirtual 19, 3, 76, 0, 508, 0) := by decide +kernel
theorem aX1_read_7 : i_at mX1_read.2.2.2.2.2 7 = some (.aload_n 0, 1, 0, 0, 0, 0) := by decide +kernel
theorem aX1_read_8 : i_at mX1_read.2.2.2.2.2 8 = some (.getfield 15, 3, 1, 1, 222, 0) := by decide +kernel
theorem aX1_read_11 : i_at mX1_read.2.2.2.2.2 11 = some (.invokevirtual 24, 3, 51, 0, 512, 0) := by decide +kernel
theorem aX1_read_14 : i_at mX1_read.2.2.2.2.2 14 = some (.iconst 0, 1, 0, 0, 0, 0) := by decide +kernel
theorem aX1_read_15 : i_at mX1_read.2.2.2.2.2 15 = some (.istore_n 1, 1, 0, 0, 0, 0) := by decide +kernel
theorem aX1_read_16 : i_at mX1_read.2.2.2.2.2 16 = some (.iload_n 1, 1, 0, 0, 0, 0) := by decide +kernel
theorem aX1_read_17 : i_at mX1_read.2.2.2.2.2 17 = some (.bipush 40, 2, 0, 0, 0, 0) := by decide +kernel
theorem aX1_read_19 : i_at mX1_read.2.2.2.2.2 19 = some (.if_icmp .gt 68, 3, 87, 0, 0, 0) := by decide +kernel
theorem aX1_read_22 : i_at mX1_read.2.2.2.2.2 22 = some (.aload_n 0, 1, 0, 0, 0, 0) := by decide +kernel
theorem aX1_read_23 : i_at mX1_read.2.2.2.2.2 23 = some (.iload_n 1, 1, 0, 0, 0, 0) := by decide +kernel
theorem aX1_read_24 : i_at mX1_read.2.2.2.2.2 24 = some (.invokevirtual 29, 3, 7, 1, 519, 0) := by decide +kernel
theorem aX1_read_27 : i_at mX1_read.2.2.2.2.2 27 = some (.aload_n 0, 1, 0, 0, 0, 0) := by decide +kernel
theorem aX1_read_28 : i_at mX1_read.2.2.2.2.2 28 = some (.getfield 9, 3, 1, 0, 221, 0) := by decide +kernel
theorem aX1_read_31 : i_at mX1_read.2.2.2.2.2 31 = some (.getfield 33, 3, 8, 3, 134, 0) := by decide +kernel
theorem aX1_read_34 : i_at mX1_read.2.2.2.2.2 34 = some (.ifCond .ne 53, 3, 87, 0, 0, 0) := by decide +kernel
theorem aX1_read_37 : i_at mX1_read.2.2.2.2.2 37 = some (.aload_n 0, 1, 0, 0, 0, 0) := by decide +kernel
theorem aX1_read_38 : i_at mX1_read.2.2.2.2.2 38 = some (.getfield 9, 3, 1, 0, 221, 0) := by decide +kernel
theorem aX1_read_41 : i_at mX1_read.2.2.2.2.2 41 = some (.invokevirtual 37, 3, 78, 0, 625, 0) := by decide +kernel
theorem aX1_read_44 : i_at mX1_read.2.2.2.2.2 44 = some (.iconst (-1), 1, 0, 0, 0, 0) := by decide +kernel
theorem aX1_read_45 : i_at mX1_read.2.2.2.2.2 45 = some (.if_icmp .ne 6, 3, 51, 0, 0, 0) := by decide +kernel
theorem aX1_read_48 : i_at mX1_read.2.2.2.2.2 48 = some (.goto 39, 3, 87, 0, 0, 0) := by decide +kernel
theorem aX1_read_51 : i_at mX1_read.2.2.2.2.2 51 = some (.aload_n 0, 1, 0, 0, 0, 0) := by decide +kernel
theorem aX1_read_52 : i_at mX1_read.2.2.2.2.2 52 = some (.getfield 9, 3, 1, 0, 221, 0) := by decide +kernel
theorem aX1_read_55 : i_at mX1_read.2.2.2.2.2 55 = some (.bipush 59, 2, 0, 0, 0, 0) := by decide +kernel
theorem aX1_read_57 : i_at mX1_read.2.2.2.2.2 57 = some (.invokevirtual 41, 3, 79, 1, 626, 0) := by decide +kernel
theorem aX1_read_60 : i_at mX1_read.2.2.2.2.2 60 = some (.ifCond .ne 21, 3, 81, 0, 0, 0) := by decide +kernel
theorem aX1_read_63 : i_at mX1_read.2.2.2.2.2 63 = some (.aload_n 0, 1, 0, 0, 0, 0) := by decide +kernel
theorem aX1_read_64 : i_at mX1_read.2.2.2.2.2 64 = some (.getfield 9, 3, 1, 0, 221, 0) := by decide +kernel
theorem aX1_read_67 : i_at mX1_read.2.2.2.2.2 67 = some (.aload_n 0, 1, 0, 0, 0, 0) := by decide +kernel
theorem aX1_read_68 : i_at mX1_read.2.2.2.2.2 68 = some (.getfield 9, 3, 1, 0, 221, 0) := by decide +kernel
theorem aX1_read_71 : i_at mX1_read.2.2.2.2.2 71 = some (.getfield 45, 3, 8, 2, 131, 0) := by decide +kernel
theorem aX1_read_74 : i_at mX1_read.2.2.2.2.2 74 = some (.iconst 0, 1, 0, 0, 0, 0) := by decide +kernel
theorem aX1_read_75 : i_at mX1_read.2.2.2.2.2 75 = some (.invokevirtual 48, 3, 77, 2, 588, 0) := by decide +kernel
theorem aX1_read_78 : i_at mX1_read.2.2.2.2.2 78 = some (.goto 9, 3, 87, 0, 0, 0) := by decide +kernel
theorem aX1_read_81 : i_at mX1_read.2.2.2.2.2 81 = some (.iinc 1 1, 3, 0, 0, 0, 0) := by decide +kernel
theorem aX1_read_84 : i_at mX1_read.2.2.2.2.2 84 = some (.goto (-68), 3, 16, 0, 0, 0) := by decide +kernel
theorem aX1_read_87 : i_at mX1_read.2.2.2.2.2 87 = some (.aload_n 0, 1, 0, 0, 0, 0) := by decide +kernel
theorem aX1_read_88 : i_at mX1_read.2.2.2.2.2 88 = some (.getfield 9, 3, 1, 0, 221, 0) := by decide +kernel
theorem aX1_read_91 : i_at mX1_read.2.2.2.2.2 91 = some (.getfield 33, 3, 8, 3, 134, 0) := by decide +kernel
theorem aX1_read_94 : i_at mX1_read.2.2.2.2.2 94 = some (.ireturn, 1, 0, 0, 0, 0) := by decide +kernel
noncomputable def fX1_read_L16 (sh : List kd) (k48 : Int32 → St → Option (Int32 × St)) (k63 : Int32 → St → Option (Int32 × St)) (k87 : Int32 → St → Option (Int32 × St)) : Nat → Int32 → St → Option (Int32 × St)
  | 0, _, _ => none
  | n165 + 1, x7, s8 => if 40 < x7 then k87 x7 s8 else i_bd (fX1_readClause sh s8 x7) (fun r167 s168 => if ¬ (s168.1 1 3) = 0 then k87 x7 s168 else i_bd (fX9_sign sh s168) (fun r171 s172 => if ¬ r171 = (-1) then i_bd (fX9_takeSign sh s172 59) (fun r175 s176 => if ¬ r175 = 0 then (fX1_read_L16 sh k48 k63 k87 n165 (x7 + 1) s176) else k63 x7 s176) else k48 x7 s172))
noncomputable def fX1_read_X48 (sh : List kd) (x59 : Int32) (s60 : St) : Option (Int32 × St) := some ((s60.1 1 3), s60)
noncomputable def fX1_read_X63 (sh : List kd) (x111 : Int32) (s112 : St) : Option (Int32 × St) := i_bd (fX9_refuse sh s112 (s112.1 1 2) 0) (fun r179 s180 => some ((s180.1 1 3), s180))
noncomputable def fX1_read_X87 (sh : List kd) (x163 : Int32) (s164 : St) : Option (Int32 × St) := some ((s164.1 1 3), s164)
noncomputable def fX1_read (sh : List kd) (σ : St) : Option (Int32 × St) := i_bd (fX9_rewind sh σ) (fun r1 s2 => i_bd (fX6_clear sh s2 3) (fun r4 s5 => fX1_read_L16 sh (fun (x59 : Int32) (s60 : St) => fX1_read_X48 sh x59 s60) (fun (x111 : Int32) (s112 : St) => fX1_read_X63 sh x111 s112) (fun (x163 : Int32) (s164 : St) => fX1_read_X87 sh x163 s164) i_F 0 s5))
set_option maxRecDepth 20000 in
set_option maxHeartbeats 2000000 in
theorem tX1_read_L16 {sh : List kd} {τ : St} {r : Int32} (hsh : cSh sh) {k48 : Int32 → St → Option (Int32 × St)} {k63 : Int32 → St → Option (Int32 × St)} {k87 : Int32 → St → Option (Int32 × St)} (hk48 : ∀ (x59 : Int32) (s60 : St), k48 x59 s60 = some (r, τ) → g_R sh 4 mX1_read (some (.int r)) τ 48 [.ref 9, .int x59] [] (s60)) (hk63 : ∀ (x111 : Int32) (s112 : St), k63 x111 s112 = some (r, τ) → g_R sh 4 mX1_read (some (.int r)) τ 63 [.ref 9, .int x111] [] (s112)) (hk87 : ∀ (x163 : Int32) (s164 : St), k87 x163 s164 = some (r, τ) → g_R sh 4 mX1_read (some (.int r)) τ 87 [.ref 9, .int x163] [] (s164)) : ∀ (n0 : Nat) (x7 : Int32) (s8 : St), fX1_read_L16 sh k48 k63 k87 n0 x7 s8 = some (r, τ) → g_R sh 4 mX1_read (some (.int r)) τ 16 [.ref 9, .int x7] [] (s8) := by
  intro n0
  induction n0 with
  | zero => intro _ _ hE; cases hE
  | succ n165 ih =>
    intro x7 s8 hE
    unfold fX1_read_L16 at hE
    refine g_ldin aX1_read_16 rfl ?_
    refine g_bipush (x := 40) aX1_read_17 rfl ?_
    by_cases hc166 : 40 < x7
    · rw [if_pos hc166] at hE
      refine g_ic_gt_t aX1_read_19 hc166 ?_
      exact hk87 _ _ hE
    · rw [if_neg hc166] at hE
      refine g_ic_gt_f aX1_read_19 hc166 ?_
      refine g_ldan aX1_read_22 rfl ?_
      refine g_ldin aX1_read_23 rfl ?_
      obtain ⟨r167, s168, h169, hE⟩ := i_bd_some hE
      refine g_calV (As := [.int x7]) (rest := []) aX1_read_24 (i_X_mono (by omega) (tX1_readClause hsh h169)) (sC_9 hsh) (by decide +kernel) rfl rfl (Nat.le_of_ble_eq_true rfl) rfl ?_
      refine g_ldan aX1_read_27 rfl ?_
      refine g_getR aX1_read_28 (sC_9 hsh) rfl ?_
      refine g_getI aX1_read_31 (sC_1 hsh) rfl ?_
      by_cases hc170 : ¬ (s168.1 1 3) = 0
      · rw [if_pos hc170] at hE
        refine g_if_ne_t aX1_read_34 hc170 ?_
        exact hk87 _ _ hE
      · rw [if_neg hc170] at hE
        refine g_if_ne_f aX1_read_34 hc170 ?_
        refine g_ldan aX1_read_37 rfl ?_
        refine g_getR aX1_read_38 (sC_9 hsh) rfl ?_
        obtain ⟨r171, s172, h173, hE⟩ := i_bd_some hE
        refine g_calV (As := []) (rest := []) aX1_read_41 (i_X_mono (by omega) (tX9_sign hsh h173)) (sC_1 hsh) (by decide +kernel) rfl rfl (Nat.le_of_ble_eq_true rfl) rfl ?_
        refine g_iconst (x := (-1)) aX1_read_44 rfl ?_
        by_cases hc174 : ¬ r171 = (-1)
        · rw [if_pos hc174] at hE
          refine g_ic_ne_t aX1_read_45 hc174 ?_
          refine g_ldan aX1_read_51 rfl ?_
          refine g_getR aX1_read_52 (sC_9 hsh) rfl ?_
          refine g_bipush (x := 59) aX1_read_55 rfl ?_
          obtain ⟨r175, s176, h177, hE⟩ := i_bd_some hE
          refine g_calV (As := [.int 59]) (rest := []) aX1_read_57 (i_X_mono (by omega) (tX9_takeSign hsh h177)) (sC_1 hsh) (by decide +kernel) rfl rfl (Nat.le_of_ble_eq_true rfl) rfl ?_
          by_cases hc178 : ¬ r175 = 0
          · rw [if_pos hc178] at hE
            refine g_if_ne_t aX1_read_60 hc178 ?_
            refine g_iinc (y := 1) (loc2 := [.ref 9, .int (x7 + 1)]) aX1_read_81 rfl rfl rfl ?_
            refine g_goto aX1_read_84 ?_
            exact ih _ _ hE
          · rw [if_neg hc178] at hE
            refine g_if_ne_f aX1_read_60 hc178 ?_
            exact hk63 _ _ hE
        · rw [if_neg hc174] at hE
          refine g_ic_ne_f aX1_read_45 hc174 ?_
          exact hk48 _ _ hE
set_option maxRecDepth 20000 in
set_option maxHeartbeats 2000000 in
theorem tX1_read_X48 {sh : List kd} {τ : St} {r : Int32} (hsh : cSh sh) {x59 : Int32} {s60 : St} (hE : fX1_read_X48 sh x59 s60 = some (r, τ)) : g_R sh 4 mX1_read (some (.int r)) τ 48 [.ref 9, .int x59] [] (s60) := by
  unfold fX1_read_X48 at hE
  refine g_goto aX1_read_48 ?_
  refine g_ldan aX1_read_87 rfl ?_
  refine g_getR aX1_read_88 (sC_9 hsh) rfl ?_
  refine g_getI aX1_read_91 (sC_1 hsh) rfl ?_
  obtain ⟨rfl, rfl⟩ := i_some_inj hE
  exact g_iret aX1_read_94 rfl rfl
set_option maxRecDepth 20000 in
set_option maxHeartbeats 2000000 in
theorem tX1_read_X63 {sh : List kd} {τ : St} {r : Int32} (hsh : cSh sh) {x111 : Int32} {s112 : St} (hE : fX1_read_X63 sh x111 s112 = some (r, τ)) : g_R sh 4 mX1_read (some (.int r)) τ 63 [.ref 9, .int x111] [] (s112) := by
  unfold fX1_read_X63 at hE
  refine g_ldan aX1_read_63 rfl ?_
  refine g_getR aX1_read_64 (sC_9 hsh) rfl ?_
  refine g_ldan aX1_read_67 rfl ?_
  refine g_getR aX1_read_68 (sC_9 hsh) rfl ?_
  refine g_getI aX1_read_71 (sC_1 hsh) rfl ?_
  refine g_iconst (x := 0) aX1_read_74 rfl ?_
  obtain ⟨r179, s180, h181, hE⟩ := i_bd_some hE
  refine g_calV (As := [.int (s112.1 1 2), .int 0]) (rest := []) aX1_read_75 (i_X_mono (by omega) (tX9_refuse hsh h181)) (sC_1 hsh) (by decide +kernel) rfl rfl (Nat.le_of_ble_eq_true rfl) rfl ?_
  refine g_goto aX1_read_78 ?_
  refine g_ldan aX1_read_87 rfl ?_
  refine g_getR aX1_read_88 (sC_9 hsh) rfl ?_
  refine g_getI aX1_read_91 (sC_1 hsh) rfl ?_
  obtain ⟨rfl, rfl⟩ := i_some_inj hE
  exact g_iret aX1_read_94 rfl rfl
set_option maxRecDepth 20000 in
set_option maxHeartbeats 2000000 in
theorem tX1_read_X87 {sh : List kd} {τ : St} {r : Int32} (hsh : cSh sh) {x163 : Int32} {s164 : St} (hE : fX1_read_X87 sh x163 s164 = some (r, τ)) : g_R sh 4 mX1_read (some (.int r)) τ 87 [.ref 9, .int x163] [] (s164) := by
  unfold fX1_read_X87 at hE
  refine g_ldan aX1_read_87 rfl ?_
  refine g_getR aX1_read_88 (sC_9 hsh) rfl ?_
  refine g_getI aX1_read_91 (sC_1 hsh) rfl ?_
  obtain ⟨rfl, rfl⟩ := i_some_inj hE
  exact g_iret aX1_read_94 rfl rfl
set_option maxRecDepth 20000 in
set_option maxHeartbeats 2000000 in
theorem tX1_read {sh : List kd} {σ τ : St} {r : Int32} (hsh : cSh sh) (hE : fX1_read sh σ = some (r, τ)) : i_X 5 6 [.ref 9] (s_h sh σ) 0 0 (some (.int r)) (s_h sh τ) := by
  refine g_X (M := mX1_read) (loc := [.ref 9, .retAddr 0]) rfl (Nat.le_of_ble_eq_true rfl) rfl ?_
  unfold fX1_read at hE
  refine g_ldan aX1_read_0 rfl ?_
  refine g_getR aX1_read_1 (sC_9 hsh) rfl ?_
  obtain ⟨r1, s2, h3, hE⟩ := i_bd_some hE
  refine g_calV (As := []) (rest := []) aX1_read_4 (i_X_mono (by omega) (tX9_rewind hsh h3)) (sC_1 hsh) (by decide +kernel) rfl rfl (Nat.le_of_ble_eq_true rfl) rfl ?_
  refine g_ldan aX1_read_7 rfl ?_
  refine g_getR aX1_read_8 (sC_9 hsh) rfl ?_
  obtain ⟨r4, s5, h6, hE⟩ := i_bd_some hE
  refine g_calV (As := []) (rest := []) aX1_read_11 (i_X_mono (by omega) (tX6_clear hsh (rShB_3 hsh) h6)) ((rShB_3 hsh).1) (by decide +kernel) rfl rfl (Nat.le_of_ble_eq_true rfl) rfl ?_
  refine g_iconst (x := 0) aX1_read_14 rfl ?_
  refine g_stin (loc2 := [.ref 9, .int 0]) aX1_read_15 (Nat.le_of_ble_eq_true rfl) rfl ?_
  exact tX1_read_L16 hsh (fun x59 s60 hE => tX1_read_X48 hsh hE) (fun x111 s112 hE => tX1_read_X63 hsh hE) (fun x163 s164 hE => tX1_read_X87 hsh hE) i_F _ _ hE
theorem aX3_playFromBegin_0 : i_at mX3_playFromBegin.2.2.2.2.2 0 = some (.aload_n 0, 1, 0, 0, 0, 0) := by decide +kernel
theorem aX3_playFromBegin_1 : i_at mX3_playFromBegin.2.2.2.2.2 1 = some (.getfield 12, 3, 2, 2, 431, 0) := by decide +kernel
theorem aX3_playFromBegin_4 : i_at mX3_playFromBegin.2.2.2.2.2 4 = some (.aload_n 0, 1, 0, 0, 0, 0) := by decide +kernel
theorem aX3_playFromBegin_5 : i_at mX3_playFromBegin.2.2.2.2.2 5 = some (.getfield 31, 3, 2, 0, 429, 0) := by decide +kernel
theorem aX3_playFromBegin_8 : i_at mX3_playFromBegin.2.2.2.2.2 8 = some (.getfield 51, 3, 9, 0, 345, 0) := by decide +kernel
theorem aX3_playFromBegin_11 : i_at mX3_playFromBegin.2.2.2.2.2 11 = some (.invokevirtual 57, 3, 26, 1, 1021, 0) := by decide +kernel
theorem aX3_playFromBegin_14 : i_at mX3_playFromBegin.2.2.2.2.2 14 = some (.iconst 0, 1, 0, 0, 0, 0) := by decide +kernel
theorem aX3_playFromBegin_15 : i_at mX3_playFromBegin.2.2.2.2.2 15 = some (.istore_n 2, 1, 0, 0, 0, 0) := by decide +kernel
theorem aX3_playFromBegin_16 : i_at mX3_playFromBegin.2.2.2.2.2 16 = some (.iload_n 2, 1, 0, 0, 0, 0) := by decide +kernel
theorem aX3_playFromBegin_17 : i_at mX3_playFromBegin.2.2.2.2.2 17 = some (.bipush 60, 2, 0, 0, 0, 0) := by decide +kernel
theorem aX3_playFromBegin_19 : i_at mX3_playFromBegin.2.2.2.2.2 19 = some (.if_icmp .gt 46, 3, 65, 0, 0, 0) := by decide +kernel
theorem aX3_playFromBegin_22 : i_at mX3_playFromBegin.2.2.2.2.2 22 = some (.aload_n 0, 1, 0, 0, 0, 0) := by decide +kernel
theorem aX3_playFromBegin_23 : i_at mX3_playFromBegin.2.2.2.2.2 23 = some (.getfield 35, 3, 2, 1, 430, 0) := by decide +kernel
theorem aX3_playFromBegin_26 : i_at mX3_playFromBegin.2.2.2.2.2 26 = some (.aload_n 0, 1, 0, 0, 0, 0) := by decide +kernel
theorem aX3_playFromBegin_27 : i_at mX3_playFromBegin.2.2.2.2.2 27 = some (.getfield 12, 3, 2, 2, 431, 0) := by decide +kernel
theorem aX3_playFromBegin_30 : i_at mX3_playFromBegin.2.2.2.2.2 30 = some (.aload_n 0, 1, 0, 0, 0, 0) := by decide +kernel
theorem aX3_playFromBegin_31 : i_at mX3_playFromBegin.2.2.2.2.2 31 = some (.getfield 31, 3, 2, 0, 429, 0) := by decide +kernel
theorem aX3_playFromBegin_34 : i_at mX3_playFromBegin.2.2.2.2.2 34 = some (.getfield 51, 3, 9, 0, 345, 0) := by decide +kernel
theorem aX3_playFromBegin_37 : i_at mX3_playFromBegin.2.2.2.2.2 37 = some (.iload_n 1, 1, 0, 0, 0, 0) := by decide +kernel
theorem aX3_playFromBegin_38 : i_at mX3_playFromBegin.2.2.2.2.2 38 = some (.iconst 1, 1, 0, 0, 0, 0) := by decide +kernel
theorem aX3_playFromBegin_39 : i_at mX3_playFromBegin.2.2.2.2.2 39 = some (.isub, 1, 0, 0, 0, 0) := by decide +kernel
theorem aX3_playFromBegin_40 : i_at mX3_playFromBegin.2.2.2.2.2 40 = some (.invokevirtual 61, 3, 2, 3, 1022, 0) := by decide +kernel
theorem aX3_playFromBegin_43 : i_at mX3_playFromBegin.2.2.2.2.2 43 = some (.pop, 1, 0, 0, 0, 0) := by decide +kernel
theorem aX3_playFromBegin_44 : i_at mX3_playFromBegin.2.2.2.2.2 44 = some (.aload_n 0, 1, 0, 0, 0, 0) := by decide +kernel
theorem aX3_playFromBegin_45 : i_at mX3_playFromBegin.2.2.2.2.2 45 = some (.getfield 20, 3, 2, 3, 432, 0) := by decide +kernel
theorem aX3_playFromBegin_48 : i_at mX3_playFromBegin.2.2.2.2.2 48 = some (.iload_n 1, 1, 0, 0, 0, 0) := by decide +kernel
theorem aX3_playFromBegin_49 : i_at mX3_playFromBegin.2.2.2.2.2 49 = some (.aaload, 1, 0, 0, 0, 0) := by decide +kernel
theorem aX3_playFromBegin_50 : i_at mX3_playFromBegin.2.2.2.2.2 50 = some (.iload_n 2, 1, 0, 0, 0, 0) := by decide +kernel
theorem aX3_playFromBegin_51 : i_at mX3_playFromBegin.2.2.2.2.2 51 = some (.aload_n 0, 1, 0, 0, 0, 0) := by decide +kernel
theorem aX3_playFromBegin_52 : i_at mX3_playFromBegin.2.2.2.2.2 52 = some (.getfield 12, 3, 2, 2, 431, 0) := by decide +kernel
theorem aX3_playFromBegin_55 : i_at mX3_playFromBegin.2.2.2.2.2 55 = some (.getfield 67, 3, 3, 1, 298, 0) := by decide +kernel
theorem aX3_playFromBegin_58 : i_at mX3_playFromBegin.2.2.2.2.2 58 = some (.iastore, 1, 0, 0, 0, 0) := by decide +kernel
theorem aX3_playFromBegin_59 : i_at mX3_playFromBegin.2.2.2.2.2 59 = some (.iinc 2 1, 3, 0, 0, 0, 0) := by decide +kernel
theorem aX3_playFromBegin_62 : i_at mX3_playFromBegin.2.2.2.2.2 62 = some (.goto (-46), 3, 16, 0, 0, 0) := by decide +kernel
theorem aX3_playFromBegin_65 : i_at mX3_playFromBegin.2.2.2.2.2 65 = some (.return_, 1, 0, 0, 0, 0) := by decide +kernel
noncomputable def fX3_playFromBegin_L16 (sh : List kd) (p1 : Int32) : Nat → Int32 → St → Option (Unit × St)
  | 0, _, _ => none
  | n6 + 1, x4, s5 => if 60 < x4 then some ((), s5) else i_bd (fX0_pass sh s5 144 20 (p1 - 1)) (fun r58 s59 => if i_ok p1 7 then i_om (s59.2.2.2 149 p1.toNatClampNeg) (fun q62 => i_al sh .int q62 (fun n64 => if i_ok x4 n64 then (fX3_playFromBegin_L16 sh p1 n6 (x4 + 1) (s_A s59 q62 x4.toNatClampNeg (s59.1 144 1))) else none)) else none)
noncomputable def fX3_playFromBegin (sh : List kd) (σ : St) (p1 : Int32) : Option (Unit × St) := i_bd (fX4_begin sh σ 144 20) (fun r1 s2 => fX3_playFromBegin_L16 sh p1 i_F 0 s2)
set_option maxRecDepth 20000 in
set_option maxHeartbeats 2000000 in
theorem tX3_playFromBegin_L16 {sh : List kd} {τ : St} {r : Unit} (hsh : cSh sh) {p1 : Int32} : ∀ (n0 : Nat) (x4 : Int32) (s5 : St), fX3_playFromBegin_L16 sh p1 n0 x4 s5 = some (r, τ) → g_R sh 5 mX3_playFromBegin none τ 16 [.ref 143, .int p1, .int x4] [] (s5) := by
  intro n0
  induction n0 with
  | zero => intro _ _ hE; cases hE
  | succ n6 ih =>
    intro x4 s5 hE
    unfold fX3_playFromBegin_L16 at hE
    refine g_ldin aX3_playFromBegin_16 rfl ?_
    refine g_bipush (x := 60) aX3_playFromBegin_17 rfl ?_
    by_cases hc57 : 60 < x4
    · rw [if_pos hc57] at hE
      refine g_ic_gt_t aX3_playFromBegin_19 hc57 ?_
      obtain ⟨rfl, rfl⟩ := i_some_inj hE
      exact g_vret aX3_playFromBegin_65 rfl
    · rw [if_neg hc57] at hE
      refine g_ic_gt_f aX3_playFromBegin_19 hc57 ?_
      refine g_ldan aX3_playFromBegin_22 rfl ?_
      refine g_getR aX3_playFromBegin_23 (sC_143 hsh) rfl ?_
      refine g_ldan aX3_playFromBegin_26 rfl ?_
      refine g_getR aX3_playFromBegin_27 (sC_143 hsh) rfl ?_
      refine g_ldan aX3_playFromBegin_30 rfl ?_
      refine g_getR aX3_playFromBegin_31 (sC_143 hsh) rfl ?_
      refine g_getR aX3_playFromBegin_34 ((wShB_19 hsh).1) rfl ?_
      refine g_ldin aX3_playFromBegin_37 rfl ?_
      refine g_iconst (x := 1) aX3_playFromBegin_38 rfl ?_
      refine g_isub aX3_playFromBegin_39 ?_
      obtain ⟨r58, s59, h60, hE⟩ := i_bd_some hE
      refine g_calV (As := [.ref 144, .ref 20, .int (p1 - 1)]) (rest := []) aX3_playFromBegin_40 (i_X_mono (by omega) (tX0_pass hsh (lShB_144 hsh) (rShB_20 hsh) h60)) (sC_16 hsh) (by decide +kernel) rfl rfl (Nat.le_of_ble_eq_true rfl) rfl ?_
      refine g_popi aX3_playFromBegin_43 ?_
      refine g_ldan aX3_playFromBegin_44 rfl ?_
      refine g_getR aX3_playFromBegin_45 (sC_143 hsh) rfl ?_
      refine g_ldin aX3_playFromBegin_48 rfl ?_
      obtain ⟨h61, hE⟩ := i_ifn hE
      refine g_aldA aX3_playFromBegin_49 (sC_149 hsh) h61 ?_
      refine g_ldin aX3_playFromBegin_50 rfl ?_
      refine g_ldan aX3_playFromBegin_51 rfl ?_
      refine g_getR aX3_playFromBegin_52 (sC_143 hsh) rfl ?_
      refine g_getI aX3_playFromBegin_55 ((lShB_144 hsh).1) rfl ?_
      obtain ⟨q62, h63, hE⟩ := i_om_some hE
      rw [h63]
      obtain ⟨n64, h65, hE⟩ := i_al_some hE
      obtain ⟨h66, hE⟩ := i_ifn hE
      refine g_ist aX3_playFromBegin_58 (h65) h66 ?_
      refine g_iinc (y := 1) (loc2 := [.ref 143, .int p1, .int (x4 + 1)]) aX3_playFromBegin_59 rfl rfl rfl ?_
      refine g_goto aX3_playFromBegin_62 ?_
      exact ih _ _ hE
set_option maxRecDepth 20000 in
set_option maxHeartbeats 2000000 in
theorem tX3_playFromBegin {sh : List kd} {σ τ : St} {r : Unit} (hsh : cSh sh) {p1 : Int32} (hE : fX3_playFromBegin sh σ p1 = some (r, τ)) : i_X 6 20 [.ref 143, .int p1] (s_h sh σ) 0 0 none (s_h sh τ) := by
  refine g_X (M := mX3_playFromBegin) (loc := [.ref 143, .int p1, .retAddr 0]) rfl (Nat.le_of_ble_eq_true rfl) rfl ?_
  unfold fX3_playFromBegin at hE
  refine g_ldan aX3_playFromBegin_0 rfl ?_
  refine g_getR aX3_playFromBegin_1 (sC_143 hsh) rfl ?_
  refine g_ldan aX3_playFromBegin_4 rfl ?_
  refine g_getR aX3_playFromBegin_5 (sC_143 hsh) rfl ?_
  refine g_getR aX3_playFromBegin_8 ((wShB_19 hsh).1) rfl ?_
  obtain ⟨r1, s2, h3, hE⟩ := i_bd_some hE
  refine g_calV (As := [.ref 20]) (rest := []) aX3_playFromBegin_11 (i_X_mono (by omega) (tX4_begin hsh (lShB_144 hsh) (rShB_20 hsh) h3)) ((lShB_144 hsh).1) (by decide +kernel) rfl rfl (Nat.le_of_ble_eq_true rfl) rfl ?_
  refine g_iconst (x := 0) aX3_playFromBegin_14 rfl ?_
  refine g_stin (loc2 := [.ref 143, .int p1, .int 0]) aX3_playFromBegin_15 (Nat.le_of_ble_eq_true rfl) rfl ?_
  exact tX3_playFromBegin_L16 hsh i_F _ _ hE
theorem aX5_goOn_0 : i_at mX5_goOn.2.2.2.2.2 0 = some (.iconst 0, 1, 0, 0, 0, 0) := by decide +kernel
theorem aX5_goOn_1 : i_at mX5_goOn.2.2.2.2.2 1 = some (.istore_n 2, 1, 0, 0, 0, 0) := by decide +kernel
theorem aX5_goOn_2 : i_at mX5_goOn.2.2.2.2.2 2 = some (.iload_n 2, 1, 0, 0, 0, 0) := by decide +kernel
theorem aX5_goOn_3 : i_at mX5_goOn.2.2.2.2.2 3 = some (.iload_n 1, 1, 0, 0, 0, 0) := by decide +kernel
theorem aX5_goOn_4 : i_at mX5_goOn.2.2.2.2.2 4 = some (.if_icmp .ge 35, 3, 39, 0, 0, 0) := by decide +kernel
theorem aX5_goOn_7 : i_at mX5_goOn.2.2.2.2.2 7 = some (.aload_n 0, 1, 0, 0, 0, 0) := by decide +kernel
theorem aX5_goOn_8 : i_at mX5_goOn.2.2.2.2.2 8 = some (.getfield 32, 3, 4, 1, 401, 0) := by decide +kernel
theorem aX5_goOn_11 : i_at mX5_goOn.2.2.2.2.2 11 = some (.aload_n 0, 1, 0, 0, 0, 0) := by decide +kernel
theorem aX5_goOn_12 : i_at mX5_goOn.2.2.2.2.2 12 = some (.getfield 12, 3, 4, 2, 402, 0) := by decide +kernel
theorem aX5_goOn_15 : i_at mX5_goOn.2.2.2.2.2 15 = some (.aload_n 0, 1, 0, 0, 0, 0) := by decide +kernel
theorem aX5_goOn_16 : i_at mX5_goOn.2.2.2.2.2 16 = some (.getfield 28, 3, 4, 0, 400, 0) := by decide +kernel
theorem aX5_goOn_19 : i_at mX5_goOn.2.2.2.2.2 19 = some (.getfield 45, 3, 9, 0, 346, 0) := by decide +kernel
theorem aX5_goOn_22 : i_at mX5_goOn.2.2.2.2.2 22 = some (.aload_n 0, 1, 0, 0, 0, 0) := by decide +kernel
theorem aX5_goOn_23 : i_at mX5_goOn.2.2.2.2.2 23 = some (.getfield 28, 3, 4, 0, 400, 0) := by decide +kernel
theorem aX5_goOn_26 : i_at mX5_goOn.2.2.2.2.2 26 = some (.getfield 49, 3, 9, 8, 366, 0) := by decide +kernel
theorem aX5_goOn_29 : i_at mX5_goOn.2.2.2.2.2 29 = some (.invokevirtual 53, 3, 2, 3, 896, 0) := by decide +kernel
theorem aX5_goOn_32 : i_at mX5_goOn.2.2.2.2.2 32 = some (.pop, 1, 0, 0, 0, 0) := by decide +kernel
theorem aX5_goOn_33 : i_at mX5_goOn.2.2.2.2.2 33 = some (.iinc 2 1, 3, 0, 0, 0, 0) := by decide +kernel
theorem aX5_goOn_36 : i_at mX5_goOn.2.2.2.2.2 36 = some (.goto (-34), 3, 2, 0, 0, 0) := by decide +kernel
theorem aX5_goOn_39 : i_at mX5_goOn.2.2.2.2.2 39 = some (.return_, 1, 0, 0, 0, 0) := by decide +kernel
noncomputable def fX5_goOn_L2 (sh : List kd) (p1 : Int32) : Nat → Int32 → St → Option (Unit × St)
  | 0, _, _ => none
  | n3 + 1, x1, s2 => if p1 ≤ x1 then some ((), s2) else i_bd (fX0_pass sh s2 135 20 (s2.1 19 8)) (fun r55 s56 => (fX5_goOn_L2 sh p1 n3 (x1 + 1) s56))
noncomputable def fX5_goOn (sh : List kd) (σ : St) (p1 : Int32) : Option (Unit × St) := fX5_goOn_L2 sh p1 i_F 0 σ
set_option maxRecDepth 20000 in
set_option maxHeartbeats 2000000 in
theorem tX5_goOn_L2 {sh : List kd} {τ : St} {r : Unit} (hsh : cSh sh) {p1 : Int32} : ∀ (n0 : Nat) (x1 : Int32) (s2 : St), fX5_goOn_L2 sh p1 n0 x1 s2 = some (r, τ) → g_R sh 5 mX5_goOn none τ 2 [.ref 134, .int p1, .int x1] [] (s2) := by
  intro n0
  induction n0 with
  | zero => intro _ _ hE; cases hE
  | succ n3 ih =>
    intro x1 s2 hE
    unfold fX5_goOn_L2 at hE
    refine g_ldin aX5_goOn_2 rfl ?_
    refine g_ldin aX5_goOn_3 rfl ?_
    by_cases hc54 : p1 ≤ x1
    · rw [if_pos hc54] at hE
      refine g_ic_ge_t aX5_goOn_4 hc54 ?_
      obtain ⟨rfl, rfl⟩ := i_some_inj hE
      exact g_vret aX5_goOn_39 rfl
    · rw [if_neg hc54] at hE
      refine g_ic_ge_f aX5_goOn_4 hc54 ?_
      refine g_ldan aX5_goOn_7 rfl ?_
      refine g_getR aX5_goOn_8 (sC_134 hsh) rfl ?_
      refine g_ldan aX5_goOn_11 rfl ?_
      refine g_getR aX5_goOn_12 (sC_134 hsh) rfl ?_
      refine g_ldan aX5_goOn_15 rfl ?_
      refine g_getR aX5_goOn_16 (sC_134 hsh) rfl ?_
      refine g_getR aX5_goOn_19 ((wShB_19 hsh).1) rfl ?_
      refine g_ldan aX5_goOn_22 rfl ?_
      refine g_getR aX5_goOn_23 (sC_134 hsh) rfl ?_
      refine g_getI aX5_goOn_26 ((wShB_19 hsh).1) rfl ?_
      obtain ⟨r55, s56, h57, hE⟩ := i_bd_some hE
      refine g_calV (As := [.ref 135, .ref 20, .int (s2.1 19 8)]) (rest := []) aX5_goOn_29 (i_X_mono (by omega) (tX0_pass hsh (lShB_135 hsh) (rShB_20 hsh) h57)) (sC_16 hsh) (by decide +kernel) rfl rfl (Nat.le_of_ble_eq_true rfl) rfl ?_
      refine g_popi aX5_goOn_32 ?_
      refine g_iinc (y := 1) (loc2 := [.ref 134, .int p1, .int (x1 + 1)]) aX5_goOn_33 rfl rfl rfl ?_
      refine g_goto aX5_goOn_36 ?_
      exact ih _ _ hE
set_option maxRecDepth 20000 in
set_option maxHeartbeats 2000000 in
theorem tX5_goOn {sh : List kd} {σ τ : St} {r : Unit} (hsh : cSh sh) {p1 : Int32} (hE : fX5_goOn sh σ p1 = some (r, τ)) : i_X 6 34 [.ref 134, .int p1] (s_h sh σ) 0 0 none (s_h sh τ) := by
  refine g_X (M := mX5_goOn) (loc := [.ref 134, .int p1, .retAddr 0]) rfl (Nat.le_of_ble_eq_true rfl) rfl ?_
  unfold fX5_goOn at hE
  refine g_iconst (x := 0) aX5_goOn_0 rfl ?_
  refine g_stin (loc2 := [.ref 134, .int p1, .int 0]) aX5_goOn_1 (Nat.le_of_ble_eq_true rfl) rfl ?_
  exact tX5_goOn_L2 hsh i_F _ _ hE
theorem aX5_after_0 : i_at mX5_after.2.2.2.2.2 0 = some (.aload_n 0, 1, 0, 0, 0, 0) := by decide +kernel
theorem aX5_after_1 : i_at mX5_after.2.2.2.2.2 1 = some (.invokevirtual 59, 3, 33, 0, 887, 0) := by decide +kernel
theorem aX5_after_4 : i_at mX5_after.2.2.2.2.2 4 = some (.aload_n 0, 1, 0, 0, 0, 0) := by decide +kernel
theorem aX5_after_5 : i_at mX5_after.2.2.2.2.2 5 = some (.iload_n 2, 1, 0, 0, 0, 0) := by decide +kernel
theorem aX5_after_6 : i_at mX5_after.2.2.2.2.2 6 = some (.invokevirtual 62, 3, 34, 1, 892, 0) := by decide +kernel
theorem aX5_after_9 : i_at mX5_after.2.2.2.2.2 9 = some (.iload_n 3, 1, 0, 0, 0, 0) := by decide +kernel
theorem aX5_after_10 : i_at mX5_after.2.2.2.2.2 10 = some (.ifCond .ne 29, 3, 39, 0, 0, 0) := by decide +kernel
theorem aX5_after_13 : i_at mX5_after.2.2.2.2.2 13 = some (.aload_n 0, 1, 0, 0, 0, 0) := by decide +kernel
theorem aX5_after_14 : i_at mX5_after.2.2.2.2.2 14 = some (.getfield 32, 3, 4, 1, 401, 0) := by decide +kernel
theorem aX5_after_17 : i_at mX5_after.2.2.2.2.2 17 = some (.aload_n 0, 1, 0, 0, 0, 0) := by decide +kernel
theorem aX5_after_18 : i_at mX5_after.2.2.2.2.2 18 = some (.getfield 12, 3, 4, 2, 402, 0) := by decide +kernel
theorem aX5_after_21 : i_at mX5_after.2.2.2.2.2 21 = some (.aload_n 0, 1, 0, 0, 0, 0) := by decide +kernel
theorem aX5_after_22 : i_at mX5_after.2.2.2.2.2 22 = some (.getfield 28, 3, 4, 0, 400, 0) := by decide +kernel
theorem aX5_after_25 : i_at mX5_after.2.2.2.2.2 25 = some (.getfield 45, 3, 9, 0, 346, 0) := by decide +kernel
theorem aX5_after_28 : i_at mX5_after.2.2.2.2.2 28 = some (.aload_n 0, 1, 0, 0, 0, 0) := by decide +kernel
theorem aX5_after_29 : i_at mX5_after.2.2.2.2.2 29 = some (.getfield 28, 3, 4, 0, 400, 0) := by decide +kernel
theorem aX5_after_32 : i_at mX5_after.2.2.2.2.2 32 = some (.getfield 49, 3, 9, 8, 366, 0) := by decide +kernel
theorem aX5_after_35 : i_at mX5_after.2.2.2.2.2 35 = some (.invokevirtual 66, 3, 1, 3, 897, 0) := by decide +kernel
theorem aX5_after_38 : i_at mX5_after.2.2.2.2.2 38 = some (.ireturn, 1, 0, 0, 0, 0) := by decide +kernel
theorem aX5_after_39 : i_at mX5_after.2.2.2.2.2 39 = some (.iload_n 3, 1, 0, 0, 0, 0) := by decide +kernel
theorem aX5_after_40 : i_at mX5_after.2.2.2.2.2 40 = some (.iconst 1, 1, 0, 0, 0, 0) := by decide +kernel
theorem aX5_after_41 : i_at mX5_after.2.2.2.2.2 41 = some (.if_icmp .ne 15, 3, 56, 0, 0, 0) := by decide +kernel
theorem aX5_after_44 : i_at mX5_after.2.2.2.2.2 44 = some (.aload_n 0, 1, 0, 0, 0, 0) := by decide +kernel
theorem aX5_after_45 : i_at mX5_after.2.2.2.2.2 45 = some (.getfield 12, 3, 4, 2, 402, 0) := by decide +kernel
theorem aX5_after_48 : i_at mX5_after.2.2.2.2.2 48 = some (.getfield 69, 3, 3, 5, 316, 0) := by decide +kernel
theorem aX5_after_51 : i_at mX5_after.2.2.2.2.2 51 = some (.iload_n 1, 1, 0, 0, 0, 0) := by decide +kernel
theorem aX5_after_52 : i_at mX5_after.2.2.2.2.2 52 = some (.iaload, 1, 0, 0, 0, 0) := by decide +kernel
theorem aX5_after_53 : i_at mX5_after.2.2.2.2.2 53 = some (.goto 12, 3, 65, 0, 0, 0) := by decide +kernel
theorem aX5_after_56 : i_at mX5_after.2.2.2.2.2 56 = some (.aload_n 0, 1, 0, 0, 0, 0) := by decide +kernel
theorem aX5_after_57 : i_at mX5_after.2.2.2.2.2 57 = some (.getfield 12, 3, 4, 2, 402, 0) := by decide +kernel
theorem aX5_after_60 : i_at mX5_after.2.2.2.2.2 60 = some (.getfield 72, 3, 3, 4, 311, 0) := by decide +kernel
theorem aX5_after_63 : i_at mX5_after.2.2.2.2.2 63 = some (.iload_n 1, 1, 0, 0, 0, 0) := by decide +kernel
theorem aX5_after_64 : i_at mX5_after.2.2.2.2.2 64 = some (.iaload, 1, 0, 0, 0, 0) := by decide +kernel
theorem aX5_after_65 : i_at mX5_after.2.2.2.2.2 65 = some (.ireturn, 1, 0, 0, 0, 0) := by decide +kernel
noncomputable def fX5_after_J65 (sh : List kd) (p1 : Int32) (p2 : Int32) (p3 : Int32) (s5 : St) (x58 : Int32) : Option (Int32 × St) := some (x58, s5)
noncomputable def fX5_after (sh : List kd) (σ : St) (p1 : Int32) (p2 : Int32) (p3 : Int32) : Option (Int32 × St) := i_bd (fX5_begin sh σ) (fun r1 s2 => i_bd (fX5_goOn sh s2 p2) (fun r4 s5 => if ¬ p3 = 0 then if ¬ p3 = 1 then if i_ok p1 6 then fX5_after_J65 sh p1 p2 p3 s5 (s5.2.1 136 p1.toNatClampNeg) else none else if i_ok p1 6 then fX5_after_J65 sh p1 p2 p3 s5 (s5.2.1 137 p1.toNatClampNeg) else none else i_bd (fX0_hand sh s5 135 20 (s5.1 19 8)) (fun r62 s63 => some (r62, s63))))
set_option maxRecDepth 20000 in
set_option maxHeartbeats 2000000 in
theorem tX5_after_J65 {sh : List kd} {τ : St} {r : Int32} (hsh : cSh sh) {p1 : Int32} {p2 : Int32} {p3 : Int32} {s5 : St} {x58 : Int32} (hE : fX5_after_J65 sh p1 p2 p3 s5 x58 = some (r, τ)) : g_R sh 6 mX5_after (some (.int r)) τ 65 [.ref 134, .int p1, .int p2, .int p3] [.int x58] (s5) := by
  unfold fX5_after_J65 at hE
  obtain ⟨rfl, rfl⟩ := i_some_inj hE
  exact g_iret aX5_after_65 rfl rfl
set_option maxRecDepth 20000 in
set_option maxHeartbeats 2000000 in
theorem tX5_after {sh : List kd} {σ τ : St} {r : Int32} (hsh : cSh sh) {p1 : Int32} {p2 : Int32} {p3 : Int32} (hE : fX5_after sh σ p1 p2 p3 = some (r, τ)) : i_X 7 35 [.ref 134, .int p1, .int p2, .int p3] (s_h sh σ) 0 0 (some (.int r)) (s_h sh τ) := by
  refine g_X (M := mX5_after) (loc := [.ref 134, .int p1, .int p2, .int p3]) rfl (Nat.le_of_ble_eq_true rfl) rfl ?_
  unfold fX5_after at hE
  refine g_ldan aX5_after_0 rfl ?_
  obtain ⟨r1, s2, h3, hE⟩ := i_bd_some hE
  refine g_calV (As := []) (rest := []) aX5_after_1 (i_X_mono (by omega) (tX5_begin hsh h3)) (sC_134 hsh) (by decide +kernel) rfl rfl (Nat.le_of_ble_eq_true rfl) rfl ?_
  refine g_ldan aX5_after_4 rfl ?_
  refine g_ldin aX5_after_5 rfl ?_
  obtain ⟨r4, s5, h6, hE⟩ := i_bd_some hE
  refine g_calV (As := [.int p2]) (rest := []) aX5_after_6 (i_X_mono (by omega) (tX5_goOn hsh h6)) (sC_134 hsh) (by decide +kernel) rfl rfl (Nat.le_of_ble_eq_true rfl) rfl ?_
  refine g_ldin aX5_after_9 rfl ?_
  by_cases hc7 : ¬ p3 = 0
  · rw [if_pos hc7] at hE
    refine g_if_ne_t aX5_after_10 hc7 ?_
    refine g_ldin aX5_after_39 rfl ?_
    refine g_iconst (x := 1) aX5_after_40 rfl ?_
    by_cases hc59 : ¬ p3 = 1
    · rw [if_pos hc59] at hE
      refine g_ic_ne_t aX5_after_41 hc59 ?_
      refine g_ldan aX5_after_56 rfl ?_
      refine g_getR aX5_after_57 (sC_134 hsh) rfl ?_
      refine g_getR aX5_after_60 ((lShB_135 hsh).1) rfl ?_
      refine g_ldin aX5_after_63 rfl ?_
      obtain ⟨h60, hE⟩ := i_ifn hE
      refine g_ild aX5_after_64 (sC_136 hsh) h60 ?_
      exact tX5_after_J65 hsh hE
    · rw [if_neg hc59] at hE
      refine g_ic_ne_f aX5_after_41 hc59 ?_
      refine g_ldan aX5_after_44 rfl ?_
      refine g_getR aX5_after_45 (sC_134 hsh) rfl ?_
      refine g_getR aX5_after_48 ((lShB_135 hsh).1) rfl ?_
      refine g_ldin aX5_after_51 rfl ?_
      obtain ⟨h61, hE⟩ := i_ifn hE
      refine g_ild aX5_after_52 (sC_137 hsh) h61 ?_
      refine g_goto aX5_after_53 ?_
      exact tX5_after_J65 hsh hE
  · rw [if_neg hc7] at hE
    refine g_if_ne_f aX5_after_10 hc7 ?_
    refine g_ldan aX5_after_13 rfl ?_
    refine g_getR aX5_after_14 (sC_134 hsh) rfl ?_
    refine g_ldan aX5_after_17 rfl ?_
    refine g_getR aX5_after_18 (sC_134 hsh) rfl ?_
    refine g_ldan aX5_after_21 rfl ?_
    refine g_getR aX5_after_22 (sC_134 hsh) rfl ?_
    refine g_getR aX5_after_25 ((wShB_19 hsh).1) rfl ?_
    refine g_ldan aX5_after_28 rfl ?_
    refine g_getR aX5_after_29 (sC_134 hsh) rfl ?_
    refine g_getI aX5_after_32 ((wShB_19 hsh).1) rfl ?_
    obtain ⟨r62, s63, h64, hE⟩ := i_bd_some hE
    refine g_calV (As := [.ref 135, .ref 20, .int (s5.1 19 8)]) (rest := []) aX5_after_35 (i_X_mono (by omega) (tX0_hand hsh (lShB_135 hsh) (rShB_20 hsh) h64)) (sC_16 hsh) (by decide +kernel) rfl rfl (Nat.le_of_ble_eq_true rfl) rfl ?_
    obtain ⟨rfl, rfl⟩ := i_some_inj hE
    exact g_iret aX5_after_38 rfl rfl
theorem aX5_firstDubbing_0 : i_at mX5_firstDubbing.2.2.2.2.2 0 = some (.aload_n 0, 1, 0, 0, 0, 0) := by decide +kernel
theorem aX5_firstDubbing_1 : i_at mX5_firstDubbing.2.2.2.2.2 1 = some (.invokevirtual 59, 3, 33, 0, 887, 0) := by decide +kernel
theorem aX5_firstDubbing_4 : i_at mX5_firstDubbing.2.2.2.2.2 4 = some (.iconst 0, 1, 0, 0, 0, 0) := by decide +kernel
theorem aX5_firstDubbing_5 : i_at mX5_firstDubbing.2.2.2.2.2 5 = some (.istore_n 3, 1, 0, 0, 0, 0) := by decide +kernel
theorem aX5_firstDubbing_6 : i_at mX5_firstDubbing.2.2.2.2.2 6 = some (.iload_n 3, 1, 0, 0, 0, 0) := by decide +kernel
theorem aX5_firstDubbing_7 : i_at mX5_firstDubbing.2.2.2.2.2 7 = some (.bipush 100, 2, 0, 0, 0, 0) := by decide +kernel
theorem aX5_firstDubbing_9 : i_at mX5_firstDubbing.2.2.2.2.2 9 = some (.if_icmp .ge 69, 3, 78, 0, 0, 0) := by decide +kernel
theorem aX5_firstDubbing_12 : i_at mX5_firstDubbing.2.2.2.2.2 12 = some (.aload_n 0, 1, 0, 0, 0, 0) := by decide +kernel
theorem aX5_firstDubbing_13 : i_at mX5_firstDubbing.2.2.2.2.2 13 = some (.getfield 32, 3, 4, 1, 401, 0) := by decide +kernel
theorem aX5_firstDubbing_16 : i_at mX5_firstDubbing.2.2.2.2.2 16 = some (.aload_n 0, 1, 0, 0, 0, 0) := by decide +kernel
theorem aX5_firstDubbing_17 : i_at mX5_firstDubbing.2.2.2.2.2 17 = some (.getfield 12, 3, 4, 2, 402, 0) := by decide +kernel
theorem aX5_firstDubbing_20 : i_at mX5_firstDubbing.2.2.2.2.2 20 = some (.aload_n 0, 1, 0, 0, 0, 0) := by decide +kernel
theorem aX5_firstDubbing_21 : i_at mX5_firstDubbing.2.2.2.2.2 21 = some (.getfield 28, 3, 4, 0, 400, 0) := by decide +kernel
theorem aX5_firstDubbing_24 : i_at mX5_firstDubbing.2.2.2.2.2 24 = some (.getfield 45, 3, 9, 0, 346, 0) := by decide +kernel
theorem aX5_firstDubbing_27 : i_at mX5_firstDubbing.2.2.2.2.2 27 = some (.aload_n 0, 1, 0, 0, 0, 0) := by decide +kernel
theorem aX5_firstDubbing_28 : i_at mX5_firstDubbing.2.2.2.2.2 28 = some (.getfield 28, 3, 4, 0, 400, 0) := by decide +kernel
theorem aX5_firstDubbing_31 : i_at mX5_firstDubbing.2.2.2.2.2 31 = some (.getfield 49, 3, 9, 8, 366, 0) := by decide +kernel
theorem aX5_firstDubbing_34 : i_at mX5_firstDubbing.2.2.2.2.2 34 = some (.invokevirtual 53, 3, 2, 3, 896, 0) := by decide +kernel
theorem aX5_firstDubbing_37 : i_at mX5_firstDubbing.2.2.2.2.2 37 = some (.istore 4, 2, 0, 0, 0, 0) := by decide +kernel
theorem aX5_firstDubbing_39 : i_at mX5_firstDubbing.2.2.2.2.2 39 = some (.iload 4, 2, 0, 0, 0, 0) := by decide +kernel
theorem aX5_firstDubbing_41 : i_at mX5_firstDubbing.2.2.2.2.2 41 = some (.iload_n 1, 1, 0, 0, 0, 0) := by decide +kernel
theorem aX5_firstDubbing_42 : i_at mX5_firstDubbing.2.2.2.2.2 42 = some (.ishr, 1, 0, 0, 0, 0) := by decide +kernel
theorem aX5_firstDubbing_43 : i_at mX5_firstDubbing.2.2.2.2.2 43 = some (.iconst 1, 1, 0, 0, 0, 0) := by decide +kernel
theorem aX5_firstDubbing_44 : i_at mX5_firstDubbing.2.2.2.2.2 44 = some (.iand, 1, 0, 0, 0, 0) := by decide +kernel
theorem aX5_firstDubbing_45 : i_at mX5_firstDubbing.2.2.2.2.2 45 = some (.ifCond .eq 27, 3, 72, 0, 0, 0) := by decide +kernel
theorem aX5_firstDubbing_48 : i_at mX5_firstDubbing.2.2.2.2.2 48 = some (.iload_n 2, 1, 0, 0, 0, 0) := by decide +kernel
theorem aX5_firstDubbing_49 : i_at mX5_firstDubbing.2.2.2.2.2 49 = some (.ifCond .eq 15, 3, 64, 0, 0, 0) := by decide +kernel
theorem aX5_firstDubbing_52 : i_at mX5_firstDubbing.2.2.2.2.2 52 = some (.aload_n 0, 1, 0, 0, 0, 0) := by decide +kernel
theorem aX5_firstDubbing_53 : i_at mX5_firstDubbing.2.2.2.2.2 53 = some (.getfield 12, 3, 4, 2, 402, 0) := by decide +kernel
theorem aX5_firstDubbing_56 : i_at mX5_firstDubbing.2.2.2.2.2 56 = some (.getfield 75, 3, 3, 0, 294, 0) := by decide +kernel
theorem aX5_firstDubbing_59 : i_at mX5_firstDubbing.2.2.2.2.2 59 = some (.iconst 1, 1, 0, 0, 0, 0) := by decide +kernel
theorem aX5_firstDubbing_60 : i_at mX5_firstDubbing.2.2.2.2.2 60 = some (.isub, 1, 0, 0, 0, 0) := by decide +kernel
theorem aX5_firstDubbing_61 : i_at mX5_firstDubbing.2.2.2.2.2 61 = some (.goto 10, 3, 71, 0, 0, 0) := by decide +kernel
theorem aX5_firstDubbing_64 : i_at mX5_firstDubbing.2.2.2.2.2 64 = some (.aload_n 0, 1, 0, 0, 0, 0) := by decide +kernel
theorem aX5_firstDubbing_65 : i_at mX5_firstDubbing.2.2.2.2.2 65 = some (.getfield 12, 3, 4, 2, 402, 0) := by decide +kernel
theorem aX5_firstDubbing_68 : i_at mX5_firstDubbing.2.2.2.2.2 68 = some (.getfield 78, 3, 3, 1, 299, 0) := by decide +kernel
theorem aX5_firstDubbing_71 : i_at mX5_firstDubbing.2.2.2.2.2 71 = some (.ireturn, 1, 0, 0, 0, 0) := by decide +kernel
theorem aX5_firstDubbing_72 : i_at mX5_firstDubbing.2.2.2.2.2 72 = some (.iinc 3 1, 3, 0, 0, 0, 0) := by decide +kernel
theorem aX5_firstDubbing_75 : i_at mX5_firstDubbing.2.2.2.2.2 75 = some (.goto (-69), 3, 6, 0, 0, 0) := by decide +kernel
theorem aX5_firstDubbing_78 : i_at mX5_firstDubbing.2.2.2.2.2 78 = some (.bipush (-2), 2, 0, 0, 0, 0) := by decide +kernel
theorem aX5_firstDubbing_80 : i_at mX5_firstDubbing.2.2.2.2.2 80 = some (.ireturn, 1, 0, 0, 0, 0) := by decide +kernel
noncomputable def fX5_firstDubbing_L6 (sh : List kd) (p1 : Int32) (p2 : Int32) (k48 : Int32 → Int32 → St → Option (Int32 × St)) : Nat → Int32 → Value → St → Option (Int32 × St)
  | 0, _, _, _ => none
  | n60 + 1, x4, x5, s6 => if 100 ≤ x4 then some ((-2), s6) else i_bd (fX0_pass sh s6 135 20 (s6.1 19 8)) (fun r62 s63 => if ((r62 >>> (p1 &&& 31)) &&& 1) = 0 then (fX5_firstDubbing_L6 sh p1 p2 k48 n60 (x4 + 1) (.int r62) s63) else k48 x4 r62 s63)
noncomputable def fX5_firstDubbing_X48 (sh : List kd) (p1 : Int32) (p2 : Int32) (x57 : Int32) (x58 : Int32) (s59 : St) : Option (Int32 × St) := some (((if p2 = 0 then (s59.1 135 1) else ((s59.1 135 0) - 1)) : Int32), s59)
noncomputable def fX5_firstDubbing (sh : List kd) (σ : St) (p1 : Int32) (p2 : Int32) : Option (Int32 × St) := i_bd (fX5_begin sh σ) (fun r1 s2 => fX5_firstDubbing_L6 sh p1 p2 (fun (x57 : Int32) (x58 : Int32) (s59 : St) => fX5_firstDubbing_X48 sh p1 p2 x57 x58 s59) i_F 0 (.retAddr 0) s2)
set_option maxRecDepth 20000 in
set_option maxHeartbeats 2000000 in
theorem tX5_firstDubbing_L6 {sh : List kd} {τ : St} {r : Int32} (hsh : cSh sh) {p1 : Int32} {p2 : Int32} {k48 : Int32 → Int32 → St → Option (Int32 × St)} (hk48 : ∀ (x57 : Int32) (x58 : Int32) (s59 : St), k48 x57 x58 s59 = some (r, τ) → g_R sh 5 mX5_firstDubbing (some (.int r)) τ 48 [.ref 134, .int p1, .int p2, .int x57, .int x58] [] (s59)) : ∀ (n0 : Nat) (x4 : Int32) (x5 : Value) (s6 : St), fX5_firstDubbing_L6 sh p1 p2 k48 n0 x4 x5 s6 = some (r, τ) → g_R sh 5 mX5_firstDubbing (some (.int r)) τ 6 [.ref 134, .int p1, .int p2, .int x4, x5] [] (s6) := by
  intro n0
  induction n0 with
  | zero => intro _ _ _ hE; cases hE
  | succ n60 ih =>
    intro x4 x5 s6 hE
    unfold fX5_firstDubbing_L6 at hE
    refine g_ldin aX5_firstDubbing_6 rfl ?_
    refine g_bipush (x := 100) aX5_firstDubbing_7 rfl ?_
    by_cases hc61 : 100 ≤ x4
    · rw [if_pos hc61] at hE
      refine g_ic_ge_t aX5_firstDubbing_9 hc61 ?_
      refine g_bipush (x := (-2)) aX5_firstDubbing_78 rfl ?_
      obtain ⟨rfl, rfl⟩ := i_some_inj hE
      exact g_iret aX5_firstDubbing_80 rfl rfl
    · rw [if_neg hc61] at hE
      refine g_ic_ge_f aX5_firstDubbing_9 hc61 ?_
      refine g_ldan aX5_firstDubbing_12 rfl ?_
      refine g_getR aX5_firstDubbing_13 (sC_134 hsh) rfl ?_
      refine g_ldan aX5_firstDubbing_16 rfl ?_
      refine g_getR aX5_firstDubbing_17 (sC_134 hsh) rfl ?_
      refine g_ldan aX5_firstDubbing_20 rfl ?_
      refine g_getR aX5_firstDubbing_21 (sC_134 hsh) rfl ?_
      refine g_getR aX5_firstDubbing_24 ((wShB_19 hsh).1) rfl ?_
      refine g_ldan aX5_firstDubbing_27 rfl ?_
      refine g_getR aX5_firstDubbing_28 (sC_134 hsh) rfl ?_
      refine g_getI aX5_firstDubbing_31 ((wShB_19 hsh).1) rfl ?_
      obtain ⟨r62, s63, h64, hE⟩ := i_bd_some hE
      refine g_calV (As := [.ref 135, .ref 20, .int (s6.1 19 8)]) (rest := []) aX5_firstDubbing_34 (i_X_mono (by omega) (tX0_pass hsh (lShB_135 hsh) (rShB_20 hsh) h64)) (sC_16 hsh) (by decide +kernel) rfl rfl (Nat.le_of_ble_eq_true rfl) rfl ?_
      refine g_sti (loc2 := [.ref 134, .int p1, .int p2, .int x4, .int r62]) aX5_firstDubbing_37 (Nat.le_of_ble_eq_true rfl) rfl ?_
      refine g_ldi aX5_firstDubbing_39 rfl ?_
      refine g_ldin aX5_firstDubbing_41 rfl ?_
      refine g_ishr aX5_firstDubbing_42 ?_
      refine g_iconst (x := 1) aX5_firstDubbing_43 rfl ?_
      refine g_iand aX5_firstDubbing_44 ?_
      by_cases hc65 : ((r62 >>> (p1 &&& 31)) &&& 1) = 0
      · rw [if_pos hc65] at hE
        refine g_if_eq_t aX5_firstDubbing_45 hc65 ?_
        refine g_iinc (y := 1) (loc2 := [.ref 134, .int p1, .int p2, .int (x4 + 1), .int r62]) aX5_firstDubbing_72 rfl rfl rfl ?_
        refine g_goto aX5_firstDubbing_75 ?_
        exact ih _ _ _ hE
      · rw [if_neg hc65] at hE
        refine g_if_eq_f aX5_firstDubbing_45 hc65 ?_
        exact hk48 _ _ _ hE
set_option maxRecDepth 20000 in
set_option maxHeartbeats 2000000 in
theorem tX5_firstDubbing_X48 {sh : List kd} {τ : St} {r : Int32} (hsh : cSh sh) {p1 : Int32} {p2 : Int32} {x57 : Int32} {x58 : Int32} {s59 : St} (hE : fX5_firstDubbing_X48 sh p1 p2 x57 x58 s59 = some (r, τ)) : g_R sh 5 mX5_firstDubbing (some (.int r)) τ 48 [.ref 134, .int p1, .int p2, .int x57, .int x58] [] (s59) := by
  unfold fX5_firstDubbing_X48 at hE
  refine g_ldin aX5_firstDubbing_48 rfl ?_
  have hJ : g_R sh 5 mX5_firstDubbing (some (.int r)) τ 71 [.ref 134, .int p1, .int p2, .int x57, .int x58] [.int ((if p2 = 0 then (s59.1 135 1) else ((s59.1 135 0) - 1)) : Int32)] (s59) := by
    obtain ⟨rfl, rfl⟩ := i_some_inj hE
    exact g_iret aX5_firstDubbing_71 rfl rfl
  clear hE
  by_cases hc65 : p2 = 0
  · (try rw [if_pos hc65] at hJ)
    refine g_if_eq_t aX5_firstDubbing_49 hc65 ?_
    refine g_ldan aX5_firstDubbing_64 rfl ?_
    refine g_getR aX5_firstDubbing_65 (sC_134 hsh) rfl ?_
    refine g_getI aX5_firstDubbing_68 ((lShB_135 hsh).1) rfl ?_
    exact hJ
  · (try rw [if_neg hc65] at hJ)
    refine g_if_eq_f aX5_firstDubbing_49 hc65 ?_
    refine g_ldan aX5_firstDubbing_52 rfl ?_
    refine g_getR aX5_firstDubbing_53 (sC_134 hsh) rfl ?_
    refine g_getI aX5_firstDubbing_56 ((lShB_135 hsh).1) rfl ?_
    refine g_iconst (x := 1) aX5_firstDubbing_59 rfl ?_
    refine g_isub aX5_firstDubbing_60 ?_
    refine g_goto aX5_firstDubbing_61 ?_
    exact hJ
set_option maxRecDepth 20000 in
set_option maxHeartbeats 2000000 in
theorem tX5_firstDubbing {sh : List kd} {σ τ : St} {r : Int32} (hsh : cSh sh) {p1 : Int32} {p2 : Int32} (hE : fX5_firstDubbing sh σ p1 p2 = some (r, τ)) : i_X 6 36 [.ref 134, .int p1, .int p2] (s_h sh σ) 0 0 (some (.int r)) (s_h sh τ) := by
  refine g_X (M := mX5_firstDubbing) (loc := [.ref 134, .int p1, .int p2, .retAddr 0, .retAddr 0]) rfl (Nat.le_of_ble_eq_true rfl) rfl ?_
  unfold fX5_firstDubbing at hE
  refine g_ldan aX5_firstDubbing_0 rfl ?_
  obtain ⟨r1, s2, h3, hE⟩ := i_bd_some hE
  refine g_calV (As := []) (rest := []) aX5_firstDubbing_1 (i_X_mono (by omega) (tX5_begin hsh h3)) (sC_134 hsh) (by decide +kernel) rfl rfl (Nat.le_of_ble_eq_true rfl) rfl ?_
  refine g_iconst (x := 0) aX5_firstDubbing_4 rfl ?_
  refine g_stin (loc2 := [.ref 134, .int p1, .int p2, .int 0, .retAddr 0]) aX5_firstDubbing_5 (Nat.le_of_ble_eq_true rfl) rfl ?_
  exact tX5_firstDubbing_L6 hsh (fun x57 x58 s59 hE => tX5_firstDubbing_X48 hsh hE) i_F _ _ _ hE
