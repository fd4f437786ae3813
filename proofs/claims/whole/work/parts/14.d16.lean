/-! X11_rests X11_years X3_hear X5_fewestGloves X11_spare X11_ruled X11_look -/
theorem aX11_rests_0 : i_at mX11_rests.2.2.2.2.2 0 = some (.aload_n 0, 1, 0, 0, 0, 0) := by decide +kernel
theorem aX11_rests_1 : i_at mX11_rests.2.2.2.2.2 1 = some (.getfield 59, 3, 10, 6, 460, 0) := by decide +kernel
theorem aX11_rests_4 : i_at mX11_rests.2.2.2.2.2 4 = some (.getfield 95, 3, 9, 0, 347, 0) := by decide +kernel
theorem aX11_rests_7 : i_at mX11_rests.2.2.2.2.2 7 = some (.iload_n 1, 1, 0, 0, 0, 0) := by decide +kernel
theorem aX11_rests_8 : i_at mX11_rests.2.2.2.2.2 8 = some (.invokevirtual 155, 3, 54, 1, 773, 0) := by decide +kernel
theorem aX11_rests_11 : i_at mX11_rests.2.2.2.2.2 11 = some (.ifCond .eq 42, 3, 53, 0, 0, 0) := by decide +kernel
theorem aX11_rests_14 : i_at mX11_rests.2.2.2.2.2 14 = some (.aload_n 0, 1, 0, 0, 0, 0) := by decide +kernel
theorem aX11_rests_15 : i_at mX11_rests.2.2.2.2.2 15 = some (.getfield 59, 3, 10, 6, 460, 0) := by decide +kernel
theorem aX11_rests_18 : i_at mX11_rests.2.2.2.2.2 18 = some (.getfield 95, 3, 9, 0, 347, 0) := by decide +kernel
theorem aX11_rests_21 : i_at mX11_rests.2.2.2.2.2 21 = some (.iload_n 2, 1, 0, 0, 0, 0) := by decide +kernel
theorem aX11_rests_22 : i_at mX11_rests.2.2.2.2.2 22 = some (.invokevirtual 155, 3, 54, 1, 773, 0) := by decide +kernel
theorem aX11_rests_25 : i_at mX11_rests.2.2.2.2.2 25 = some (.ifCond .eq 28, 3, 53, 0, 0, 0) := by decide +kernel
theorem aX11_rests_28 : i_at mX11_rests.2.2.2.2.2 28 = some (.iload_n 1, 1, 0, 0, 0, 0) := by decide +kernel
theorem aX11_rests_29 : i_at mX11_rests.2.2.2.2.2 29 = some (.iload_n 2, 1, 0, 0, 0, 0) := by decide +kernel
theorem aX11_rests_30 : i_at mX11_rests.2.2.2.2.2 30 = some (.if_icmp .eq 23, 3, 53, 0, 0, 0) := by decide +kernel
theorem aX11_rests_33 : i_at mX11_rests.2.2.2.2.2 33 = some (.iload_n 3, 1, 0, 0, 0, 0) := by decide +kernel
theorem aX11_rests_34 : i_at mX11_rests.2.2.2.2.2 34 = some (.iconst 1, 1, 0, 0, 0, 0) := by decide +kernel
theorem aX11_rests_35 : i_at mX11_rests.2.2.2.2.2 35 = some (.bipush 20, 2, 0, 0, 0, 0) := by decide +kernel
theorem aX11_rests_37 : i_at mX11_rests.2.2.2.2.2 37 = some (.invokestatic 187, 3, 125, 3, 847, 0) := by decide +kernel
theorem aX11_rests_40 : i_at mX11_rests.2.2.2.2.2 40 = some (.ifCond .eq 13, 3, 53, 0, 0, 0) := by decide +kernel
theorem aX11_rests_43 : i_at mX11_rests.2.2.2.2.2 43 = some (.iload 4, 2, 0, 0, 0, 0) := by decide +kernel
theorem aX11_rests_45 : i_at mX11_rests.2.2.2.2.2 45 = some (.iconst 0, 1, 0, 0, 0, 0) := by decide +kernel
theorem aX11_rests_46 : i_at mX11_rests.2.2.2.2.2 46 = some (.iconst 2, 1, 0, 0, 0, 0) := by decide +kernel
theorem aX11_rests_47 : i_at mX11_rests.2.2.2.2.2 47 = some (.invokestatic 187, 3, 125, 3, 847, 0) := by decide +kernel
theorem aX11_rests_50 : i_at mX11_rests.2.2.2.2.2 50 = some (.ifCond .ne 5, 3, 55, 0, 0, 0) := by decide +kernel
theorem aX11_rests_53 : i_at mX11_rests.2.2.2.2.2 53 = some (.iconst (-1), 1, 0, 0, 0, 0) := by decide +kernel
theorem aX11_rests_54 : i_at mX11_rests.2.2.2.2.2 54 = some (.ireturn, 1, 0, 0, 0, 0) := by decide +kernel
theorem aX11_rests_55 : i_at mX11_rests.2.2.2.2.2 55 = some (.aload_n 0, 1, 0, 0, 0, 0) := by decide +kernel
theorem aX11_rests_56 : i_at mX11_rests.2.2.2.2.2 56 = some (.getfield 68, 3, 10, 7, 461, 0) := by decide +kernel
theorem aX11_rests_59 : i_at mX11_rests.2.2.2.2.2 59 = some (.iload_n 1, 1, 0, 0, 0, 0) := by decide +kernel
theorem aX11_rests_60 : i_at mX11_rests.2.2.2.2.2 60 = some (.iload_n 2, 1, 0, 0, 0, 0) := by decide +kernel
theorem aX11_rests_61 : i_at mX11_rests.2.2.2.2.2 61 = some (.iload_n 3, 1, 0, 0, 0, 0) := by decide +kernel
theorem aX11_rests_62 : i_at mX11_rests.2.2.2.2.2 62 = some (.invokevirtual 252, 3, 43, 3, 981, 0) := by decide +kernel
theorem aX11_rests_65 : i_at mX11_rests.2.2.2.2.2 65 = some (.aload_n 0, 1, 0, 0, 0, 0) := by decide +kernel
theorem aX11_rests_66 : i_at mX11_rests.2.2.2.2.2 66 = some (.getfield 68, 3, 10, 7, 461, 0) := by decide +kernel
theorem aX11_rests_69 : i_at mX11_rests.2.2.2.2.2 69 = some (.iload 4, 2, 0, 0, 0, 0) := by decide +kernel
theorem aX11_rests_71 : i_at mX11_rests.2.2.2.2.2 71 = some (.invokevirtual 256, 3, 44, 1, 985, 0) := by decide +kernel
theorem aX11_rests_74 : i_at mX11_rests.2.2.2.2.2 74 = some (.ireturn, 1, 0, 0, 0, 0) := by decide +kernel
noncomputable def fX11_rests (sh : List kd) (σ : St) (p1 : Int32) (p2 : Int32) (p3 : Int32) (p4 : Int32) : Option (Int32 × St) := i_bd (fX6_hasPerson sh σ 20 p1) (fun r1 s2 => if r1 = 0 then some ((-1), s2) else i_bd (fX6_hasPerson sh s2 20 p2) (fun r5 s6 => if r5 = 0 then some ((-1), s6) else if p1 = p2 then some ((-1), s6) else i_bd (fX11_isWithin sh s6 p3 1 20) (fun r10 s11 => if r10 = 0 then some ((-1), s11) else i_bd (fX11_isWithin sh s11 p4 0 2) (fun r14 s15 => if ¬ r14 = 0 then i_bd (fX5_playAllTwos sh s15 p1 p2 p3) (fun r18 s19 => i_bd (fX5_restOfTwos sh s19 p4) (fun r21 s22 => some (r21, s22))) else some ((-1), s15)))))
set_option maxRecDepth 20000 in
set_option maxHeartbeats 2000000 in
theorem tX11_rests {sh : List kd} {σ τ : St} {r : Int32} (hsh : cSh sh) {p1 : Int32} {p2 : Int32} {p3 : Int32} {p4 : Int32} (hE : fX11_rests sh σ p1 p2 p3 p4 = some (r, τ)) : i_X 8 115 [.ref 0, .int p1, .int p2, .int p3, .int p4] (s_h sh σ) 0 0 (some (.int r)) (s_h sh τ) := by
  refine g_X (M := mX11_rests) (loc := [.ref 0, .int p1, .int p2, .int p3, .int p4]) rfl (Nat.le_of_ble_eq_true rfl) rfl ?_
  unfold fX11_rests at hE
  refine g_ldan aX11_rests_0 rfl ?_
  refine g_getR aX11_rests_1 (sC_0 hsh) rfl ?_
  refine g_getR aX11_rests_4 ((wShB_19 hsh).1) rfl ?_
  refine g_ldin aX11_rests_7 rfl ?_
  obtain ⟨r1, s2, h3, hE⟩ := i_bd_some hE
  refine g_calV (As := [.int p1]) (rest := []) aX11_rests_8 (i_X_mono (by omega) (tX6_hasPerson hsh (rShB_20 hsh) h3)) ((rShB_20 hsh).1) (by decide +kernel) rfl rfl (Nat.le_of_ble_eq_true rfl) rfl ?_
  by_cases hc4 : r1 = 0
  · rw [if_pos hc4] at hE
    refine g_if_eq_t aX11_rests_11 hc4 ?_
    refine g_iconst (x := (-1)) aX11_rests_53 rfl ?_
    cases hE
    exact g_iret aX11_rests_54 rfl rfl
  · rw [if_neg hc4] at hE
    refine g_if_eq_f aX11_rests_11 hc4 ?_
    refine g_ldan aX11_rests_14 rfl ?_
    refine g_getR aX11_rests_15 (sC_0 hsh) rfl ?_
    refine g_getR aX11_rests_18 ((wShB_19 hsh).1) rfl ?_
    refine g_ldin aX11_rests_21 rfl ?_
    obtain ⟨r5, s6, h7, hE⟩ := i_bd_some hE
    refine g_calV (As := [.int p2]) (rest := []) aX11_rests_22 (i_X_mono (by omega) (tX6_hasPerson hsh (rShB_20 hsh) h7)) ((rShB_20 hsh).1) (by decide +kernel) rfl rfl (Nat.le_of_ble_eq_true rfl) rfl ?_
    by_cases hc8 : r5 = 0
    · rw [if_pos hc8] at hE
      refine g_if_eq_t aX11_rests_25 hc8 ?_
      refine g_iconst (x := (-1)) aX11_rests_53 rfl ?_
      cases hE
      exact g_iret aX11_rests_54 rfl rfl
    · rw [if_neg hc8] at hE
      refine g_if_eq_f aX11_rests_25 hc8 ?_
      refine g_ldin aX11_rests_28 rfl ?_
      refine g_ldin aX11_rests_29 rfl ?_
      by_cases hc9 : p1 = p2
      · rw [if_pos hc9] at hE
        refine g_ic_eq_t aX11_rests_30 hc9 ?_
        refine g_iconst (x := (-1)) aX11_rests_53 rfl ?_
        cases hE
        exact g_iret aX11_rests_54 rfl rfl
      · rw [if_neg hc9] at hE
        refine g_ic_eq_f aX11_rests_30 hc9 ?_
        refine g_ldin aX11_rests_33 rfl ?_
        refine g_iconst (x := 1) aX11_rests_34 rfl ?_
        refine g_bipush (x := 20) aX11_rests_35 rfl ?_
        obtain ⟨r10, s11, h12, hE⟩ := i_bd_some hE
        refine g_calS (As := [.int p3, .int 1, .int 20]) (rest := []) aX11_rests_37 (i_X_mono (by omega) (tX11_isWithin hsh h12)) rfl rfl (Nat.le_of_ble_eq_true rfl) rfl ?_
        by_cases hc13 : r10 = 0
        · rw [if_pos hc13] at hE
          refine g_if_eq_t aX11_rests_40 hc13 ?_
          refine g_iconst (x := (-1)) aX11_rests_53 rfl ?_
          cases hE
          exact g_iret aX11_rests_54 rfl rfl
        · rw [if_neg hc13] at hE
          refine g_if_eq_f aX11_rests_40 hc13 ?_
          refine g_ldi aX11_rests_43 rfl ?_
          refine g_iconst (x := 0) aX11_rests_45 rfl ?_
          refine g_iconst (x := 2) aX11_rests_46 rfl ?_
          obtain ⟨r14, s15, h16, hE⟩ := i_bd_some hE
          refine g_calS (As := [.int p4, .int 0, .int 2]) (rest := []) aX11_rests_47 (i_X_mono (by omega) (tX11_isWithin hsh h16)) rfl rfl (Nat.le_of_ble_eq_true rfl) rfl ?_
          by_cases hc17 : ¬ r14 = 0
          · rw [if_pos hc17] at hE
            refine g_if_ne_t aX11_rests_50 hc17 ?_
            refine g_ldan aX11_rests_55 rfl ?_
            refine g_getR aX11_rests_56 (sC_0 hsh) rfl ?_
            refine g_ldin aX11_rests_59 rfl ?_
            refine g_ldin aX11_rests_60 rfl ?_
            refine g_ldin aX11_rests_61 rfl ?_
            obtain ⟨r18, s19, h20, hE⟩ := i_bd_some hE
            refine g_calV (As := [.int p1, .int p2, .int p3]) (rest := []) aX11_rests_62 (i_X_mono (by omega) (tX5_playAllTwos hsh h20)) (sC_134 hsh) (by decide +kernel) rfl rfl (Nat.le_of_ble_eq_true rfl) rfl ?_
            refine g_ldan aX11_rests_65 rfl ?_
            refine g_getR aX11_rests_66 (sC_0 hsh) rfl ?_
            refine g_ldi aX11_rests_69 rfl ?_
            obtain ⟨r21, s22, h23, hE⟩ := i_bd_some hE
            refine g_calV (As := [.int p4]) (rest := []) aX11_rests_71 (i_X_mono (by omega) (tX5_restOfTwos hsh h23)) (sC_134 hsh) (by decide +kernel) rfl rfl (Nat.le_of_ble_eq_true rfl) rfl ?_
            cases hE
            exact g_iret aX11_rests_74 rfl rfl
          · rw [if_neg hc17] at hE
            refine g_if_ne_f aX11_rests_50 hc17 ?_
            refine g_iconst (x := (-1)) aX11_rests_53 rfl ?_
            cases hE
            exact g_iret aX11_rests_54 rfl rfl
theorem aX11_years_0 : i_at mX11_years.2.2.2.2.2 0 = some (.aload_n 0, 1, 0, 0, 0, 0) := by decide +kernel
theorem aX11_years_1 : i_at mX11_years.2.2.2.2.2 1 = some (.getfield 59, 3, 10, 6, 460, 0) := by decide +kernel
theorem aX11_years_4 : i_at mX11_years.2.2.2.2.2 4 = some (.getfield 95, 3, 9, 0, 347, 0) := by decide +kernel
theorem aX11_years_7 : i_at mX11_years.2.2.2.2.2 7 = some (.getfield 173, 3, 5, 0, 155, 0) := by decide +kernel
theorem aX11_years_10 : i_at mX11_years.2.2.2.2.2 10 = some (.ifCond .eq 43, 3, 53, 0, 0, 0) := by decide +kernel
theorem aX11_years_13 : i_at mX11_years.2.2.2.2.2 13 = some (.iload_n 1, 1, 0, 0, 0, 0) := by decide +kernel
theorem aX11_years_14 : i_at mX11_years.2.2.2.2.2 14 = some (.iconst 1, 1, 0, 0, 0, 0) := by decide +kernel
theorem aX11_years_15 : i_at mX11_years.2.2.2.2.2 15 = some (.bipush 10, 2, 0, 0, 0, 0) := by decide +kernel
theorem aX11_years_17 : i_at mX11_years.2.2.2.2.2 17 = some (.invokestatic 187, 3, 125, 3, 847, 0) := by decide +kernel
theorem aX11_years_20 : i_at mX11_years.2.2.2.2.2 20 = some (.ifCond .eq 33, 3, 53, 0, 0, 0) := by decide +kernel
theorem aX11_years_23 : i_at mX11_years.2.2.2.2.2 23 = some (.iload_n 2, 1, 0, 0, 0, 0) := by decide +kernel
theorem aX11_years_24 : i_at mX11_years.2.2.2.2.2 24 = some (.iconst 1, 1, 0, 0, 0, 0) := by decide +kernel
theorem aX11_years_25 : i_at mX11_years.2.2.2.2.2 25 = some (.bipush 60, 2, 0, 0, 0, 0) := by decide +kernel
theorem aX11_years_27 : i_at mX11_years.2.2.2.2.2 27 = some (.invokestatic 187, 3, 125, 3, 847, 0) := by decide +kernel
theorem aX11_years_30 : i_at mX11_years.2.2.2.2.2 30 = some (.ifCond .eq 23, 3, 53, 0, 0, 0) := by decide +kernel
theorem aX11_years_33 : i_at mX11_years.2.2.2.2.2 33 = some (.iload_n 3, 1, 0, 0, 0, 0) := by decide +kernel
theorem aX11_years_34 : i_at mX11_years.2.2.2.2.2 34 = some (.iconst 0, 1, 0, 0, 0, 0) := by decide +kernel
theorem aX11_years_35 : i_at mX11_years.2.2.2.2.2 35 = some (.bipush 100, 2, 0, 0, 0, 0) := by decide +kernel
theorem aX11_years_37 : i_at mX11_years.2.2.2.2.2 37 = some (.invokestatic 187, 3, 125, 3, 847, 0) := by decide +kernel
theorem aX11_years_40 : i_at mX11_years.2.2.2.2.2 40 = some (.ifCond .eq 13, 3, 53, 0, 0, 0) := by decide +kernel
theorem aX11_years_43 : i_at mX11_years.2.2.2.2.2 43 = some (.iload 4, 2, 0, 0, 0, 0) := by decide +kernel
theorem aX11_years_45 : i_at mX11_years.2.2.2.2.2 45 = some (.iconst 0, 1, 0, 0, 0, 0) := by decide +kernel
theorem aX11_years_46 : i_at mX11_years.2.2.2.2.2 46 = some (.iconst 1, 1, 0, 0, 0, 0) := by decide +kernel
theorem aX11_years_47 : i_at mX11_years.2.2.2.2.2 47 = some (.invokestatic 187, 3, 125, 3, 847, 0) := by decide +kernel
theorem aX11_years_50 : i_at mX11_years.2.2.2.2.2 50 = some (.ifCond .ne 5, 3, 55, 0, 0, 0) := by decide +kernel
theorem aX11_years_53 : i_at mX11_years.2.2.2.2.2 53 = some (.iconst (-1), 1, 0, 0, 0, 0) := by decide +kernel
theorem aX11_years_54 : i_at mX11_years.2.2.2.2.2 54 = some (.ireturn, 1, 0, 0, 0, 0) := by decide +kernel
theorem aX11_years_55 : i_at mX11_years.2.2.2.2.2 55 = some (.aload_n 0, 1, 0, 0, 0, 0) := by decide +kernel
theorem aX11_years_56 : i_at mX11_years.2.2.2.2.2 56 = some (.getfield 68, 3, 10, 7, 461, 0) := by decide +kernel
theorem aX11_years_59 : i_at mX11_years.2.2.2.2.2 59 = some (.iload_n 1, 1, 0, 0, 0, 0) := by decide +kernel
theorem aX11_years_60 : i_at mX11_years.2.2.2.2.2 60 = some (.iload_n 2, 1, 0, 0, 0, 0) := by decide +kernel
theorem aX11_years_61 : i_at mX11_years.2.2.2.2.2 61 = some (.iload_n 3, 1, 0, 0, 0, 0) := by decide +kernel
theorem aX11_years_62 : i_at mX11_years.2.2.2.2.2 62 = some (.iload 4, 2, 0, 0, 0, 0) := by decide +kernel
theorem aX11_years_64 : i_at mX11_years.2.2.2.2.2 64 = some (.ifCond .ne 7, 3, 71, 0, 0, 0) := by decide +kernel
theorem aX11_years_67 : i_at mX11_years.2.2.2.2.2 67 = some (.iconst 1, 1, 0, 0, 0, 0) := by decide +kernel
theorem aX11_years_68 : i_at mX11_years.2.2.2.2.2 68 = some (.goto 4, 3, 72, 0, 0, 0) := by decide +kernel
theorem aX11_years_71 : i_at mX11_years.2.2.2.2.2 71 = some (.iconst 0, 1, 0, 0, 0, 0) := by decide +kernel
theorem aX11_years_72 : i_at mX11_years.2.2.2.2.2 72 = some (.invokevirtual 284, 3, 48, 4, 1053, 0) := by decide +kernel
theorem aX11_years_75 : i_at mX11_years.2.2.2.2.2 75 = some (.ireturn, 1, 0, 0, 0, 0) := by decide +kernel
noncomputable def fX11_years (sh : List kd) (σ : St) (p1 : Int32) (p2 : Int32) (p3 : Int32) (p4 : Int32) : Option (Int32 × St) := if (σ.1 20 0) = 0 then some ((-1), σ) else i_bd (fX11_isWithin sh σ p1 1 10) (fun r2 s3 => if r2 = 0 then some ((-1), s3) else i_bd (fX11_isWithin sh s3 p2 1 60) (fun r6 s7 => if r6 = 0 then some ((-1), s7) else i_bd (fX11_isWithin sh s7 p3 0 100) (fun r10 s11 => if r10 = 0 then some ((-1), s11) else i_bd (fX11_isWithin sh s11 p4 0 1) (fun r14 s15 => if ¬ r14 = 0 then i_bd (fX5_drawnYears sh s15 p1 p2 p3 ((if ¬ p4 = 0 then 0 else 1) : Int32)) (fun r18 s19 => some (r18, s19)) else some ((-1), s15)))))
set_option maxRecDepth 20000 in
set_option maxHeartbeats 2000000 in
theorem tX11_years {sh : List kd} {σ τ : St} {r : Int32} (hsh : cSh sh) {p1 : Int32} {p2 : Int32} {p3 : Int32} {p4 : Int32} (hE : fX11_years sh σ p1 p2 p3 p4 = some (r, τ)) : i_X 7 121 [.ref 0, .int p1, .int p2, .int p3, .int p4] (s_h sh σ) 0 0 (some (.int r)) (s_h sh τ) := by
  refine g_X (M := mX11_years) (loc := [.ref 0, .int p1, .int p2, .int p3, .int p4]) rfl (Nat.le_of_ble_eq_true rfl) rfl ?_
  unfold fX11_years at hE
  refine g_ldan aX11_years_0 rfl ?_
  refine g_getR aX11_years_1 (sC_0 hsh) rfl ?_
  refine g_getR aX11_years_4 ((wShB_19 hsh).1) rfl ?_
  refine g_getI aX11_years_7 ((rShB_20 hsh).1) rfl ?_
  by_cases hc1 : (σ.1 20 0) = 0
  · rw [if_pos hc1] at hE
    refine g_if_eq_t aX11_years_10 hc1 ?_
    refine g_iconst (x := (-1)) aX11_years_53 rfl ?_
    cases hE
    exact g_iret aX11_years_54 rfl rfl
  · rw [if_neg hc1] at hE
    refine g_if_eq_f aX11_years_10 hc1 ?_
    refine g_ldin aX11_years_13 rfl ?_
    refine g_iconst (x := 1) aX11_years_14 rfl ?_
    refine g_bipush (x := 10) aX11_years_15 rfl ?_
    obtain ⟨r2, s3, h4, hE⟩ := i_bd_some hE
    refine g_calS (As := [.int p1, .int 1, .int 10]) (rest := []) aX11_years_17 (i_X_mono (by omega) (tX11_isWithin hsh h4)) rfl rfl (Nat.le_of_ble_eq_true rfl) rfl ?_
    by_cases hc5 : r2 = 0
    · rw [if_pos hc5] at hE
      refine g_if_eq_t aX11_years_20 hc5 ?_
      refine g_iconst (x := (-1)) aX11_years_53 rfl ?_
      cases hE
      exact g_iret aX11_years_54 rfl rfl
    · rw [if_neg hc5] at hE
      refine g_if_eq_f aX11_years_20 hc5 ?_
      refine g_ldin aX11_years_23 rfl ?_
      refine g_iconst (x := 1) aX11_years_24 rfl ?_
      refine g_bipush (x := 60) aX11_years_25 rfl ?_
      obtain ⟨r6, s7, h8, hE⟩ := i_bd_some hE
      refine g_calS (As := [.int p2, .int 1, .int 60]) (rest := []) aX11_years_27 (i_X_mono (by omega) (tX11_isWithin hsh h8)) rfl rfl (Nat.le_of_ble_eq_true rfl) rfl ?_
      by_cases hc9 : r6 = 0
      · rw [if_pos hc9] at hE
        refine g_if_eq_t aX11_years_30 hc9 ?_
        refine g_iconst (x := (-1)) aX11_years_53 rfl ?_
        cases hE
        exact g_iret aX11_years_54 rfl rfl
      · rw [if_neg hc9] at hE
        refine g_if_eq_f aX11_years_30 hc9 ?_
        refine g_ldin aX11_years_33 rfl ?_
        refine g_iconst (x := 0) aX11_years_34 rfl ?_
        refine g_bipush (x := 100) aX11_years_35 rfl ?_
        obtain ⟨r10, s11, h12, hE⟩ := i_bd_some hE
        refine g_calS (As := [.int p3, .int 0, .int 100]) (rest := []) aX11_years_37 (i_X_mono (by omega) (tX11_isWithin hsh h12)) rfl rfl (Nat.le_of_ble_eq_true rfl) rfl ?_
        by_cases hc13 : r10 = 0
        · rw [if_pos hc13] at hE
          refine g_if_eq_t aX11_years_40 hc13 ?_
          refine g_iconst (x := (-1)) aX11_years_53 rfl ?_
          cases hE
          exact g_iret aX11_years_54 rfl rfl
        · rw [if_neg hc13] at hE
          refine g_if_eq_f aX11_years_40 hc13 ?_
          refine g_ldi aX11_years_43 rfl ?_
          refine g_iconst (x := 0) aX11_years_45 rfl ?_
          refine g_iconst (x := 1) aX11_years_46 rfl ?_
          obtain ⟨r14, s15, h16, hE⟩ := i_bd_some hE
          refine g_calS (As := [.int p4, .int 0, .int 1]) (rest := []) aX11_years_47 (i_X_mono (by omega) (tX11_isWithin hsh h16)) rfl rfl (Nat.le_of_ble_eq_true rfl) rfl ?_
          by_cases hc17 : ¬ r14 = 0
          · rw [if_pos hc17] at hE
            refine g_if_ne_t aX11_years_50 hc17 ?_
            refine g_ldan aX11_years_55 rfl ?_
            refine g_getR aX11_years_56 (sC_0 hsh) rfl ?_
            refine g_ldin aX11_years_59 rfl ?_
            refine g_ldin aX11_years_60 rfl ?_
            refine g_ldin aX11_years_61 rfl ?_
            refine g_ldi aX11_years_62 rfl ?_
            have hJ : g_R sh 6 mX11_years (some (.int r)) τ 72 [.ref 0, .int p1, .int p2, .int p3, .int p4] [.int ((if ¬ p4 = 0 then 0 else 1) : Int32), .int p3, .int p2, .int p1, .ref 134] (s15) := by
              obtain ⟨r18, s19, h20, hE⟩ := i_bd_some hE
              refine g_calV (As := [.int p1, .int p2, .int p3, .int ((if ¬ p4 = 0 then 0 else 1) : Int32)]) (rest := []) aX11_years_72 (i_X_mono (by omega) (tX5_drawnYears hsh h20)) (sC_134 hsh) (by decide +kernel) rfl rfl (Nat.le_of_ble_eq_true rfl) rfl ?_
              cases hE
              exact g_iret aX11_years_75 rfl rfl
            clear hE
            by_cases hc20 : ¬ p4 = 0
            · (try rw [if_pos hc20] at hJ)
              refine g_if_ne_t aX11_years_64 hc20 ?_
              refine g_iconst (x := 0) aX11_years_71 rfl ?_
              exact hJ
            · (try rw [if_neg hc20] at hJ)
              refine g_if_ne_f aX11_years_64 hc20 ?_
              refine g_iconst (x := 1) aX11_years_67 rfl ?_
              refine g_goto aX11_years_68 ?_
              exact hJ
          · rw [if_neg hc17] at hE
            refine g_if_ne_f aX11_years_50 hc17 ?_
            refine g_iconst (x := (-1)) aX11_years_53 rfl ?_
            cases hE
            exact g_iret aX11_years_54 rfl rfl
theorem aX3_hear_0 : i_at mX3_hear.2.2.2.2.2 0 = some (.aload_n 0, 1, 0, 0, 0, 0) := by decide +kernel
theorem aX3_hear_1 : i_at mX3_hear.2.2.2.2.2 1 = some (.iconst 0, 1, 0, 0, 0, 0) := by decide +kernel
theorem aX3_hear_2 : i_at mX3_hear.2.2.2.2.2 2 = some (.putfield 39, 3, 2, 6, 435, 0) := by decide +kernel
theorem aX3_hear_5 : i_at mX3_hear.2.2.2.2.2 5 = some (.iconst 0, 1, 0, 0, 0, 0) := by decide +kernel
theorem aX3_hear_6 : i_at mX3_hear.2.2.2.2.2 6 = some (.istore_n 2, 1, 0, 0, 0, 0) := by decide +kernel
theorem aX3_hear_7 : i_at mX3_hear.2.2.2.2.2 7 = some (.iload_n 2, 1, 0, 0, 0, 0) := by decide +kernel
theorem aX3_hear_8 : i_at mX3_hear.2.2.2.2.2 8 = some (.bipush 7, 2, 0, 0, 0, 0) := by decide +kernel
theorem aX3_hear_10 : i_at mX3_hear.2.2.2.2.2 10 = some (.if_icmp .ge 56, 3, 66, 0, 0, 0) := by decide +kernel
theorem aX3_hear_13 : i_at mX3_hear.2.2.2.2.2 13 = some (.aload_n 0, 1, 0, 0, 0, 0) := by decide +kernel
theorem aX3_hear_14 : i_at mX3_hear.2.2.2.2.2 14 = some (.getfield 23, 3, 2, 4, 433, 0) := by decide +kernel
theorem aX3_hear_17 : i_at mX3_hear.2.2.2.2.2 17 = some (.iload_n 2, 1, 0, 0, 0, 0) := by decide +kernel
theorem aX3_hear_18 : i_at mX3_hear.2.2.2.2.2 18 = some (.iconst 0, 1, 0, 0, 0, 0) := by decide +kernel
theorem aX3_hear_19 : i_at mX3_hear.2.2.2.2.2 19 = some (.bastore, 1, 0, 0, 0, 0) := by decide +kernel
theorem aX3_hear_20 : i_at mX3_hear.2.2.2.2.2 20 = some (.iload_n 2, 1, 0, 0, 0, 0) := by decide +kernel
theorem aX3_hear_21 : i_at mX3_hear.2.2.2.2.2 21 = some (.iload_n 1, 1, 0, 0, 0, 0) := by decide +kernel
theorem aX3_hear_22 : i_at mX3_hear.2.2.2.2.2 22 = some (.if_icmp .gt 19, 3, 41, 0, 0, 0) := by decide +kernel
theorem aX3_hear_25 : i_at mX3_hear.2.2.2.2.2 25 = some (.aload_n 0, 1, 0, 0, 0, 0) := by decide +kernel
theorem aX3_hear_26 : i_at mX3_hear.2.2.2.2.2 26 = some (.iload_n 2, 1, 0, 0, 0, 0) := by decide +kernel
theorem aX3_hear_27 : i_at mX3_hear.2.2.2.2.2 27 = some (.invokevirtual 43, 3, 20, 1, 1017, 0) := by decide +kernel
theorem aX3_hear_30 : i_at mX3_hear.2.2.2.2.2 30 = some (.aload_n 0, 1, 0, 0, 0, 0) := by decide +kernel
theorem aX3_hear_31 : i_at mX3_hear.2.2.2.2.2 31 = some (.getfield 23, 3, 2, 4, 433, 0) := by decide +kernel
theorem aX3_hear_34 : i_at mX3_hear.2.2.2.2.2 34 = some (.iload_n 2, 1, 0, 0, 0, 0) := by decide +kernel
theorem aX3_hear_35 : i_at mX3_hear.2.2.2.2.2 35 = some (.aload_n 0, 1, 0, 0, 0, 0) := by decide +kernel
theorem aX3_hear_36 : i_at mX3_hear.2.2.2.2.2 36 = some (.iload_n 2, 1, 0, 0, 0, 0) := by decide +kernel
theorem aX3_hear_37 : i_at mX3_hear.2.2.2.2.2 37 = some (.invokevirtual 47, 3, 21, 1, 1023, 0) := by decide +kernel
theorem aX3_hear_40 : i_at mX3_hear.2.2.2.2.2 40 = some (.bastore, 1, 0, 0, 0, 0) := by decide +kernel
theorem aX3_hear_41 : i_at mX3_hear.2.2.2.2.2 41 = some (.aload_n 0, 1, 0, 0, 0, 0) := by decide +kernel
theorem aX3_hear_42 : i_at mX3_hear.2.2.2.2.2 42 = some (.getfield 23, 3, 2, 4, 433, 0) := by decide +kernel
theorem aX3_hear_45 : i_at mX3_hear.2.2.2.2.2 45 = some (.iload_n 2, 1, 0, 0, 0, 0) := by decide +kernel
theorem aX3_hear_46 : i_at mX3_hear.2.2.2.2.2 46 = some (.baload, 1, 0, 0, 0, 0) := by decide +kernel
theorem aX3_hear_47 : i_at mX3_hear.2.2.2.2.2 47 = some (.ifCond .eq 13, 3, 60, 0, 0, 0) := by decide +kernel
theorem aX3_hear_50 : i_at mX3_hear.2.2.2.2.2 50 = some (.aload_n 0, 1, 0, 0, 0, 0) := by decide +kernel
theorem aX3_hear_51 : i_at mX3_hear.2.2.2.2.2 51 = some (.dup, 1, 0, 0, 0, 0) := by decide +kernel
theorem aX3_hear_52 : i_at mX3_hear.2.2.2.2.2 52 = some (.getfield 39, 3, 2, 6, 435, 0) := by decide +kernel
theorem aX3_hear_55 : i_at mX3_hear.2.2.2.2.2 55 = some (.iconst 1, 1, 0, 0, 0, 0) := by decide +kernel
theorem aX3_hear_56 : i_at mX3_hear.2.2.2.2.2 56 = some (.iadd, 1, 0, 0, 0, 0) := by decide +kernel
theorem aX3_hear_57 : i_at mX3_hear.2.2.2.2.2 57 = some (.putfield 39, 3, 2, 6, 435, 0) := by decide +kernel
theorem aX3_hear_60 : i_at mX3_hear.2.2.2.2.2 60 = some (.iinc 2 1, 3, 0, 0, 0, 0) := by decide +kernel
theorem aX3_hear_63 : i_at mX3_hear.2.2.2.2.2 63 = some (.goto (-56), 3, 7, 0, 0, 0) := by decide +kernel
theorem aX3_hear_66 : i_at mX3_hear.2.2.2.2.2 66 = some (.return_, 1, 0, 0, 0, 0) := by decide +kernel
noncomputable def fX3_hear_J60 (sh : List kd) (p1 : Int32) (x1 : Int32) (k7 : Int32 → St → Option (Unit × St)) (s158 : St) : Option (Unit × St) := k7 (x1 + 1) s158
noncomputable def fX3_hear_J41 (sh : List kd) (p1 : Int32) (x1 : Int32) (s106 : St) : Option (Unit × St) := if i_ok x1 7 then if (s106.2.1 157 x1.toNatClampNeg) = 0 then fX3_hear_J60 sh p1 x1 (fX3_hear_L7 sh p1 n3) s106 else fX3_hear_J60 sh p1 x1 (fX3_hear_L7 sh p1 n3) (s_F s106 143 6 ((s106.1 143 6) + 1)) else none
noncomputable def fX3_hear_L7 (sh : List kd) (p1 : Int32) : Nat → Int32 → St → Option (Unit × St)
  | 0, _, _ => none
  | n3 + 1, x1, s2 => if 7 ≤ x1 then some ((), s2) else if i_ok x1 7 then if p1 < x1 then fX3_hear_J41 sh p1 x1 (s_A s2 157 x1.toNatClampNeg (vp_nar .boolean 0)) else i_bd (fX3_playFromBegin sh (s_A s2 157 x1.toNatClampNeg (vp_nar .boolean 0)) x1) (fun r161 s162 => i_bd (fX3_areNotesSo sh s162 x1) (fun r164 s165 => if i_ok x1 7 then fX3_hear_J41 sh p1 x1 (s_A s165 157 x1.toNatClampNeg (vp_nar .boolean r164)) else none)) else none
noncomputable def fX3_hear (sh : List kd) (σ : St) (p1 : Int32) : Option (Unit × St) := fX3_hear_L7 sh p1 i_F 0 (s_F σ 143 6 0)
set_option maxRecDepth 20000 in
set_option maxHeartbeats 2000000 in
theorem tX3_hear_J60 {sh : List kd} {τ : St} {r : Unit} (hsh : cSh sh) {p1 : Int32} {x1 : Int32} {s158 : St} {k7 : Int32 → St → Option (Unit × St)} (hk7 : ∀ (x1 : Int32) (s2 : St), k7 x1 s2 = some (r, τ) → g_R sh 6 mX3_hear none τ 7 [.ref 143, .int p1, .int x1] [] (s2)) (hE : fX3_hear_J60 sh p1 x1 k7 s158 = some (r, τ)) : g_R sh 6 mX3_hear none τ 60 [.ref 143, .int p1, .int x1] [] (s158) := by
  unfold fX3_hear_J60 at hE
  refine g_iinc (y := 1) (loc2 := [.ref 143, .int p1, .int (x1 + 1)]) aX3_hear_60 rfl rfl rfl ?_
  refine g_goto aX3_hear_63 ?_
  exact hk7 _ _ hE
set_option maxRecDepth 20000 in
set_option maxHeartbeats 2000000 in
theorem tX3_hear_J41 {sh : List kd} {τ : St} {r : Unit} (hsh : cSh sh) {p1 : Int32} {x1 : Int32} {s106 : St} (hE : fX3_hear_J41 sh p1 x1 s106 = some (r, τ)) : g_R sh 6 mX3_hear none τ 41 [.ref 143, .int p1, .int x1] [] (s106) := by
  unfold fX3_hear_J41 at hE
  refine g_ldan aX3_hear_41 rfl ?_
  refine g_getR aX3_hear_42 (sC_143 hsh) rfl ?_
  refine g_ldin aX3_hear_45 rfl ?_
  obtain ⟨h107, hE⟩ := i_ifn hE
  refine g_zld aX3_hear_46 (sC_157 hsh) h107 ?_
  by_cases hc159 : (s106.2.1 157 x1.toNatClampNeg) = 0
  · rw [if_pos hc159] at hE
    refine g_if_eq_t aX3_hear_47 hc159 ?_
    exact tX3_hear_J60 hsh ih hE
  · rw [if_neg hc159] at hE
    refine g_if_eq_f aX3_hear_47 hc159 ?_
    refine g_ldan aX3_hear_50 rfl ?_
    refine g_dupa aX3_hear_51 ?_
    refine g_getI aX3_hear_52 (sC_143 hsh) rfl ?_
    refine g_iconst (x := 1) aX3_hear_55 rfl ?_
    refine g_iadd aX3_hear_56 ?_
    refine g_putI aX3_hear_57 (sC_143 hsh) rfl rfl ?_
    exact tX3_hear_J60 hsh ih hE
set_option maxRecDepth 20000 in
set_option maxHeartbeats 2000000 in
theorem tX3_hear_L7 {sh : List kd} {τ : St} {r : Unit} (hsh : cSh sh) {p1 : Int32} : ∀ (n0 : Nat) (x1 : Int32) (s2 : St), fX3_hear_L7 sh p1 n0 x1 s2 = some (r, τ) → g_R sh 6 mX3_hear none τ 7 [.ref 143, .int p1, .int x1] [] (s2) := by
  intro n0
  induction n0 with
  | zero => intro _ _ hE; cases hE
  | succ n3 ih =>
    intro x1 s2 hE
    unfold fX3_hear_L7 at hE
    refine g_ldin aX3_hear_7 rfl ?_
    refine g_bipush (x := 7) aX3_hear_8 rfl ?_
    by_cases hc54 : 7 ≤ x1
    · rw [if_pos hc54] at hE
      refine g_ic_ge_t aX3_hear_10 hc54 ?_
      cases hE
      exact g_vret aX3_hear_66 rfl
    · rw [if_neg hc54] at hE
      refine g_ic_ge_f aX3_hear_10 hc54 ?_
      refine g_ldan aX3_hear_13 rfl ?_
      refine g_getR aX3_hear_14 (sC_143 hsh) rfl ?_
      refine g_ldin aX3_hear_17 rfl ?_
      refine g_iconst (x := 0) aX3_hear_18 rfl ?_
      obtain ⟨h55, hE⟩ := i_ifn hE
      refine g_zst aX3_hear_19 (sC_157 hsh) h55 ?_
      refine g_ldin aX3_hear_20 rfl ?_
      refine g_ldin aX3_hear_21 rfl ?_
      by_cases hc160 : p1 < x1
      · rw [if_pos hc160] at hE
        refine g_ic_gt_t aX3_hear_22 hc160 ?_
        exact tX3_hear_J41 hsh hE
      · rw [if_neg hc160] at hE
        refine g_ic_gt_f aX3_hear_22 hc160 ?_
        refine g_ldan aX3_hear_25 rfl ?_
        refine g_ldin aX3_hear_26 rfl ?_
        obtain ⟨r161, s162, h163, hE⟩ := i_bd_some hE
        refine g_calV (As := [.int x1]) (rest := []) aX3_hear_27 (i_X_mono (by omega) (tX3_playFromBegin hsh h163)) (sC_143 hsh) (by decide +kernel) rfl rfl (Nat.le_of_ble_eq_true rfl) rfl ?_
        refine g_ldan aX3_hear_30 rfl ?_
        refine g_getR aX3_hear_31 (sC_143 hsh) rfl ?_
        refine g_ldin aX3_hear_34 rfl ?_
        refine g_ldan aX3_hear_35 rfl ?_
        refine g_ldin aX3_hear_36 rfl ?_
        obtain ⟨r164, s165, h166, hE⟩ := i_bd_some hE
        refine g_calV (As := [.int x1]) (rest := [.int x1, .ref 157]) aX3_hear_37 (i_X_mono (by omega) (tX3_areNotesSo hsh h166)) (sC_143 hsh) (by decide +kernel) rfl rfl (Nat.le_of_ble_eq_true rfl) rfl ?_
        obtain ⟨h167, hE⟩ := i_ifn hE
        refine g_zst aX3_hear_40 (sC_157 hsh) h167 ?_
        exact tX3_hear_J41 hsh hE
set_option maxRecDepth 20000 in
set_option maxHeartbeats 2000000 in
theorem tX3_hear {sh : List kd} {σ τ : St} {r : Unit} (hsh : cSh sh) {p1 : Int32} (hE : fX3_hear sh σ p1 = some (r, τ)) : i_X 7 19 [.ref 143, .int p1] (s_h sh σ) 0 0 none (s_h sh τ) := by
  refine g_X (M := mX3_hear) (loc := [.ref 143, .int p1, .retAddr 0]) rfl (Nat.le_of_ble_eq_true rfl) rfl ?_
  unfold fX3_hear at hE
  refine g_ldan aX3_hear_0 rfl ?_
  refine g_iconst (x := 0) aX3_hear_1 rfl ?_
  refine g_putI aX3_hear_2 (sC_143 hsh) rfl rfl ?_
  refine g_iconst (x := 0) aX3_hear_5 rfl ?_
  refine g_stin (loc2 := [.ref 143, .int p1, .int 0]) aX3_hear_6 (Nat.le_of_ble_eq_true rfl) rfl ?_
  exact tX3_hear_L7 hsh i_F _ _ hE
theorem aX5_fewestGloves_0 : i_at mX5_fewestGloves.2.2.2.2.2 0 = some (.iconst 1, 1, 0, 0, 0, 0) := by decide +kernel
theorem aX5_fewestGloves_1 : i_at mX5_fewestGloves.2.2.2.2.2 1 = some (.iload_n 2, 1, 0, 0, 0, 0) := by decide +kernel
theorem aX5_fewestGloves_2 : i_at mX5_fewestGloves.2.2.2.2.2 2 = some (.ishl, 1, 0, 0, 0, 0) := by decide +kernel
theorem aX5_fewestGloves_3 : i_at mX5_fewestGloves.2.2.2.2.2 3 = some (.iconst 1, 1, 0, 0, 0, 0) := by decide +kernel
theorem aX5_fewestGloves_4 : i_at mX5_fewestGloves.2.2.2.2.2 4 = some (.isub, 1, 0, 0, 0, 0) := by decide +kernel
theorem aX5_fewestGloves_5 : i_at mX5_fewestGloves.2.2.2.2.2 5 = some (.istore_n 3, 1, 0, 0, 0, 0) := by decide +kernel
theorem aX5_fewestGloves_6 : i_at mX5_fewestGloves.2.2.2.2.2 6 = some (.iconst 0, 1, 0, 0, 0, 0) := by decide +kernel
theorem aX5_fewestGloves_7 : i_at mX5_fewestGloves.2.2.2.2.2 7 = some (.istore 4, 2, 0, 0, 0, 0) := by decide +kernel
theorem aX5_fewestGloves_9 : i_at mX5_fewestGloves.2.2.2.2.2 9 = some (.iload 4, 2, 0, 0, 0, 0) := by decide +kernel
theorem aX5_fewestGloves_11 : i_at mX5_fewestGloves.2.2.2.2.2 11 = some (.iconst 1, 1, 0, 0, 0, 0) := by decide +kernel
theorem aX5_fewestGloves_12 : i_at mX5_fewestGloves.2.2.2.2.2 12 = some (.iload_n 2, 1, 0, 0, 0, 0) := by decide +kernel
theorem aX5_fewestGloves_13 : i_at mX5_fewestGloves.2.2.2.2.2 13 = some (.ishl, 1, 0, 0, 0, 0) := by decide +kernel
theorem aX5_fewestGloves_14 : i_at mX5_fewestGloves.2.2.2.2.2 14 = some (.if_icmp .ge 35, 3, 49, 0, 0, 0) := by decide +kernel
theorem aX5_fewestGloves_17 : i_at mX5_fewestGloves.2.2.2.2.2 17 = some (.iload 4, 2, 0, 0, 0, 0) := by decide +kernel
theorem aX5_fewestGloves_19 : i_at mX5_fewestGloves.2.2.2.2.2 19 = some (.invokestatic 89, 3, 230, 1, 924, 0) := by decide +kernel
theorem aX5_fewestGloves_22 : i_at mX5_fewestGloves.2.2.2.2.2 22 = some (.iload_n 3, 1, 0, 0, 0, 0) := by decide +kernel
theorem aX5_fewestGloves_23 : i_at mX5_fewestGloves.2.2.2.2.2 23 = some (.invokestatic 89, 3, 230, 1, 924, 0) := by decide +kernel
theorem aX5_fewestGloves_26 : i_at mX5_fewestGloves.2.2.2.2.2 26 = some (.if_icmp .ge 17, 3, 43, 0, 0, 0) := by decide +kernel
theorem aX5_fewestGloves_29 : i_at mX5_fewestGloves.2.2.2.2.2 29 = some (.aload_n 0, 1, 0, 0, 0, 0) := by decide +kernel
theorem aX5_fewestGloves_30 : i_at mX5_fewestGloves.2.2.2.2.2 30 = some (.iload_n 1, 1, 0, 0, 0, 0) := by decide +kernel
theorem aX5_fewestGloves_31 : i_at mX5_fewestGloves.2.2.2.2.2 31 = some (.iload_n 2, 1, 0, 0, 0, 0) := by decide +kernel
theorem aX5_fewestGloves_32 : i_at mX5_fewestGloves.2.2.2.2.2 32 = some (.iload 4, 2, 0, 0, 0, 0) := by decide +kernel
theorem aX5_fewestGloves_34 : i_at mX5_fewestGloves.2.2.2.2.2 34 = some (.invokevirtual 95, 3, 39, 3, 925, 0) := by decide +kernel
theorem aX5_fewestGloves_37 : i_at mX5_fewestGloves.2.2.2.2.2 37 = some (.ifCond .eq 6, 3, 43, 0, 0, 0) := by decide +kernel
theorem aX5_fewestGloves_40 : i_at mX5_fewestGloves.2.2.2.2.2 40 = some (.iload 4, 2, 0, 0, 0, 0) := by decide +kernel
theorem aX5_fewestGloves_42 : i_at mX5_fewestGloves.2.2.2.2.2 42 = some (.istore_n 3, 1, 0, 0, 0, 0) := by decide +kernel
theorem aX5_fewestGloves_43 : i_at mX5_fewestGloves.2.2.2.2.2 43 = some (.iinc 4 1, 3, 0, 0, 0, 0) := by decide +kernel
theorem aX5_fewestGloves_46 : i_at mX5_fewestGloves.2.2.2.2.2 46 = some (.goto (-37), 3, 9, 0, 0, 0) := by decide +kernel
theorem aX5_fewestGloves_49 : i_at mX5_fewestGloves.2.2.2.2.2 49 = some (.iload_n 3, 1, 0, 0, 0, 0) := by decide +kernel
theorem aX5_fewestGloves_50 : i_at mX5_fewestGloves.2.2.2.2.2 50 = some (.ireturn, 1, 0, 0, 0, 0) := by decide +kernel
noncomputable def fX5_fewestGloves_J43 (sh : List kd) (p1 : Int32) (p2 : Int32) (x2 : Int32) (k9 : Int32 → Int32 → St → Option (Int32 × St)) (x112 : Int32) (s113 : St) : Option (Int32 × St) := k9 x112 (x2 + 1) s113
noncomputable def fX5_fewestGloves_L9 (sh : List kd) (p1 : Int32) (p2 : Int32) : Nat → Int32 → Int32 → St → Option (Int32 × St)
  | 0, _, _, _ => none
  | n4 + 1, x1, x2, s3 => if (1 <<< (p2 &&& 31)) ≤ x2 then some (x1, s3) else i_bd (fJ6_bitCount_0f7a4 sh s3 x2) (fun r56 s57 => i_bd (fJ6_bitCount_0f7a4 sh s57 x1) (fun r59 s60 => if r59 ≤ r56 then fX5_fewestGloves_J43 sh p1 p2 x2 (fX5_fewestGloves_L9 sh p1 p2 n4) x1 s60 else i_bd (fX5_isSpared sh s60 p1 p2 x2) (fun r115 s116 => fX5_fewestGloves_J43 sh p1 p2 x2 (fX5_fewestGloves_L9 sh p1 p2 n4) ((if r115 = 0 then x1 else x2) : Int32) s116)))
noncomputable def fX5_fewestGloves (sh : List kd) (σ : St) (p1 : Int32) (p2 : Int32) : Option (Int32 × St) := fX5_fewestGloves_L9 sh p1 p2 i_F ((1 <<< (p2 &&& 31)) - 1) 0 σ
set_option maxRecDepth 20000 in
set_option maxHeartbeats 2000000 in
theorem tX5_fewestGloves_J43 {sh : List kd} {τ : St} {r : Int32} (hsh : cSh sh) {p1 : Int32} {p2 : Int32} {x2 : Int32} {x112 : Int32} {s113 : St} {k9 : Int32 → Int32 → St → Option (Int32 × St)} (hk9 : ∀ (x1 : Int32) (x2 : Int32) (s3 : St), k9 x1 x2 s3 = some (r, τ) → g_R sh 6 mX5_fewestGloves (some (.int r)) τ 9 [.ref 134, .int p1, .int p2, .int x1, .int x2] [] (s3)) (hE : fX5_fewestGloves_J43 sh p1 p2 x2 k9 x112 s113 = some (r, τ)) : g_R sh 6 mX5_fewestGloves (some (.int r)) τ 43 [.ref 134, .int p1, .int p2, .int x112, .int x2] [] (s113) := by
  unfold fX5_fewestGloves_J43 at hE
  refine g_iinc (y := 1) (loc2 := [.ref 134, .int p1, .int p2, .int x112, .int (x2 + 1)]) aX5_fewestGloves_43 rfl rfl rfl ?_
  refine g_goto aX5_fewestGloves_46 ?_
  exact hk9 _ _ _ hE
set_option maxRecDepth 20000 in
set_option maxHeartbeats 2000000 in
theorem tX5_fewestGloves_L9 {sh : List kd} {τ : St} {r : Int32} (hsh : cSh sh) {p1 : Int32} {p2 : Int32} : ∀ (n0 : Nat) (x1 : Int32) (x2 : Int32) (s3 : St), fX5_fewestGloves_L9 sh p1 p2 n0 x1 x2 s3 = some (r, τ) → g_R sh 6 mX5_fewestGloves (some (.int r)) τ 9 [.ref 134, .int p1, .int p2, .int x1, .int x2] [] (s3) := by
  intro n0
  induction n0 with
  | zero => intro _ _ _ hE; cases hE
  | succ n4 ih =>
    intro x1 x2 s3 hE
    unfold fX5_fewestGloves_L9 at hE
    refine g_ldi aX5_fewestGloves_9 rfl ?_
    refine g_iconst (x := 1) aX5_fewestGloves_11 rfl ?_
    refine g_ldin aX5_fewestGloves_12 rfl ?_
    refine g_ishl aX5_fewestGloves_13 ?_
    by_cases hc55 : (1 <<< (p2 &&& 31)) ≤ x2
    · rw [if_pos hc55] at hE
      refine g_ic_ge_t aX5_fewestGloves_14 hc55 ?_
      refine g_ldin aX5_fewestGloves_49 rfl ?_
      cases hE
      exact g_iret aX5_fewestGloves_50 rfl rfl
    · rw [if_neg hc55] at hE
      refine g_ic_ge_f aX5_fewestGloves_14 hc55 ?_
      refine g_ldi aX5_fewestGloves_17 rfl ?_
      obtain ⟨r56, s57, h58, hE⟩ := i_bd_some hE
      refine g_calS (As := [.int x2]) (rest := []) aX5_fewestGloves_19 (i_X_mono (by omega) (tJ6_bitCount_0f7a4 hsh h58)) rfl rfl (Nat.le_of_ble_eq_true rfl) rfl ?_
      refine g_ldin aX5_fewestGloves_22 rfl ?_
      obtain ⟨r59, s60, h61, hE⟩ := i_bd_some hE
      refine g_calS (As := [.int x1]) (rest := [.int r56]) aX5_fewestGloves_23 (i_X_mono (by omega) (tJ6_bitCount_0f7a4 hsh h61)) rfl rfl (Nat.le_of_ble_eq_true rfl) rfl ?_
      by_cases hc114 : r59 ≤ r56
      · rw [if_pos hc114] at hE
        refine g_ic_ge_t aX5_fewestGloves_26 hc114 ?_
        exact tX5_fewestGloves_J43 hsh ih hE
      · rw [if_neg hc114] at hE
        refine g_ic_ge_f aX5_fewestGloves_26 hc114 ?_
        refine g_ldan aX5_fewestGloves_29 rfl ?_
        refine g_ldin aX5_fewestGloves_30 rfl ?_
        refine g_ldin aX5_fewestGloves_31 rfl ?_
        refine g_ldi aX5_fewestGloves_32 rfl ?_
        obtain ⟨r115, s116, h117, hE⟩ := i_bd_some hE
        refine g_calV (As := [.int p1, .int p2, .int x2]) (rest := []) aX5_fewestGloves_34 (i_X_mono (by omega) (tX5_isSpared hsh h117)) (sC_134 hsh) (by decide +kernel) rfl rfl (Nat.le_of_ble_eq_true rfl) rfl ?_
        have hJ : g_R sh 6 mX5_fewestGloves (some (.int r)) τ 43 [.ref 134, .int p1, .int p2, .int ((if r115 = 0 then x1 else x2) : Int32), .int x2] [] (s116) := by
          exact tX5_fewestGloves_J43 hsh ih hE
        clear hE
        by_cases hc117 : r115 = 0
        · (try rw [if_pos hc117] at hJ)
          refine g_if_eq_t aX5_fewestGloves_37 hc117 ?_
          exact hJ
        · (try rw [if_neg hc117] at hJ)
          refine g_if_eq_f aX5_fewestGloves_37 hc117 ?_
          refine g_ldi aX5_fewestGloves_40 rfl ?_
          refine g_stin (loc2 := [.ref 134, .int p1, .int p2, .int x2, .int x2]) aX5_fewestGloves_42 (Nat.le_of_ble_eq_true rfl) rfl ?_
          exact hJ
set_option maxRecDepth 20000 in
set_option maxHeartbeats 2000000 in
theorem tX5_fewestGloves {sh : List kd} {σ τ : St} {r : Int32} (hsh : cSh sh) {p1 : Int32} {p2 : Int32} (hE : fX5_fewestGloves sh σ p1 p2 = some (r, τ)) : i_X 7 38 [.ref 134, .int p1, .int p2] (s_h sh σ) 0 0 (some (.int r)) (s_h sh τ) := by
  refine g_X (M := mX5_fewestGloves) (loc := [.ref 134, .int p1, .int p2, .retAddr 0, .retAddr 0]) rfl (Nat.le_of_ble_eq_true rfl) rfl ?_
  unfold fX5_fewestGloves at hE
  refine g_iconst (x := 1) aX5_fewestGloves_0 rfl ?_
  refine g_ldin aX5_fewestGloves_1 rfl ?_
  refine g_ishl aX5_fewestGloves_2 ?_
  refine g_iconst (x := 1) aX5_fewestGloves_3 rfl ?_
  refine g_isub aX5_fewestGloves_4 ?_
  refine g_stin (loc2 := [.ref 134, .int p1, .int p2, .int ((1 <<< (p2 &&& 31)) - 1), .retAddr 0]) aX5_fewestGloves_5 (Nat.le_of_ble_eq_true rfl) rfl ?_
  refine g_iconst (x := 0) aX5_fewestGloves_6 rfl ?_
  refine g_sti (loc2 := [.ref 134, .int p1, .int p2, .int ((1 <<< (p2 &&& 31)) - 1), .int 0]) aX5_fewestGloves_7 (Nat.le_of_ble_eq_true rfl) rfl ?_
  exact tX5_fewestGloves_L9 hsh i_F _ _ _ hE
theorem aX11_spare_0 : i_at mX11_spare.2.2.2.2.2 0 = some (.aload_n 0, 1, 0, 0, 0, 0) := by decide +kernel
theorem aX11_spare_1 : i_at mX11_spare.2.2.2.2.2 1 = some (.getfield 59, 3, 10, 6, 460, 0) := by decide +kernel
theorem aX11_spare_4 : i_at mX11_spare.2.2.2.2.2 4 = some (.getfield 95, 3, 9, 0, 347, 0) := by decide +kernel
theorem aX11_spare_7 : i_at mX11_spare.2.2.2.2.2 7 = some (.iload_n 1, 1, 0, 0, 0, 0) := by decide +kernel
theorem aX11_spare_8 : i_at mX11_spare.2.2.2.2.2 8 = some (.invokevirtual 131, 3, 53, 1, 757, 0) := by decide +kernel
theorem aX11_spare_11 : i_at mX11_spare.2.2.2.2.2 11 = some (.ifCond .eq 22, 3, 33, 0, 0, 0) := by decide +kernel
theorem aX11_spare_14 : i_at mX11_spare.2.2.2.2.2 14 = some (.iload_n 2, 1, 0, 0, 0, 0) := by decide +kernel
theorem aX11_spare_15 : i_at mX11_spare.2.2.2.2.2 15 = some (.iconst 1, 1, 0, 0, 0, 0) := by decide +kernel
theorem aX11_spare_16 : i_at mX11_spare.2.2.2.2.2 16 = some (.bipush 8, 2, 0, 0, 0, 0) := by decide +kernel
theorem aX11_spare_18 : i_at mX11_spare.2.2.2.2.2 18 = some (.invokestatic 187, 3, 125, 3, 847, 0) := by decide +kernel
theorem aX11_spare_21 : i_at mX11_spare.2.2.2.2.2 21 = some (.ifCond .eq 12, 3, 33, 0, 0, 0) := by decide +kernel
theorem aX11_spare_24 : i_at mX11_spare.2.2.2.2.2 24 = some (.iload_n 3, 1, 0, 0, 0, 0) := by decide +kernel
theorem aX11_spare_25 : i_at mX11_spare.2.2.2.2.2 25 = some (.iconst 0, 1, 0, 0, 0, 0) := by decide +kernel
theorem aX11_spare_26 : i_at mX11_spare.2.2.2.2.2 26 = some (.iconst 1, 1, 0, 0, 0, 0) := by decide +kernel
theorem aX11_spare_27 : i_at mX11_spare.2.2.2.2.2 27 = some (.invokestatic 187, 3, 125, 3, 847, 0) := by decide +kernel
theorem aX11_spare_30 : i_at mX11_spare.2.2.2.2.2 30 = some (.ifCond .ne 5, 3, 35, 0, 0, 0) := by decide +kernel
theorem aX11_spare_33 : i_at mX11_spare.2.2.2.2.2 33 = some (.iconst (-1), 1, 0, 0, 0, 0) := by decide +kernel
theorem aX11_spare_34 : i_at mX11_spare.2.2.2.2.2 34 = some (.ireturn, 1, 0, 0, 0, 0) := by decide +kernel
theorem aX11_spare_35 : i_at mX11_spare.2.2.2.2.2 35 = some (.aload_n 0, 1, 0, 0, 0, 0) := by decide +kernel
theorem aX11_spare_36 : i_at mX11_spare.2.2.2.2.2 36 = some (.getfield 68, 3, 10, 7, 461, 0) := by decide +kernel
theorem aX11_spare_39 : i_at mX11_spare.2.2.2.2.2 39 = some (.iload_n 1, 1, 0, 0, 0, 0) := by decide +kernel
theorem aX11_spare_40 : i_at mX11_spare.2.2.2.2.2 40 = some (.iload_n 2, 1, 0, 0, 0, 0) := by decide +kernel
theorem aX11_spare_41 : i_at mX11_spare.2.2.2.2.2 41 = some (.invokevirtual 219, 3, 38, 2, 920, 0) := by decide +kernel
theorem aX11_spare_44 : i_at mX11_spare.2.2.2.2.2 44 = some (.istore 4, 2, 0, 0, 0, 0) := by decide +kernel
theorem aX11_spare_46 : i_at mX11_spare.2.2.2.2.2 46 = some (.iload_n 3, 1, 0, 0, 0, 0) := by decide +kernel
theorem aX11_spare_47 : i_at mX11_spare.2.2.2.2.2 47 = some (.ifCond .ne 11, 3, 58, 0, 0, 0) := by decide +kernel
theorem aX11_spare_50 : i_at mX11_spare.2.2.2.2.2 50 = some (.iload 4, 2, 0, 0, 0, 0) := by decide +kernel
theorem aX11_spare_52 : i_at mX11_spare.2.2.2.2.2 52 = some (.invokestatic 223, 3, 230, 1, 929, 0) := by decide +kernel
theorem aX11_spare_55 : i_at mX11_spare.2.2.2.2.2 55 = some (.goto 5, 3, 60, 0, 0, 0) := by decide +kernel
theorem aX11_spare_58 : i_at mX11_spare.2.2.2.2.2 58 = some (.iload 4, 2, 0, 0, 0, 0) := by decide +kernel
theorem aX11_spare_60 : i_at mX11_spare.2.2.2.2.2 60 = some (.ireturn, 1, 0, 0, 0, 0) := by decide +kernel
noncomputable def fX11_spare_J60 (sh : List kd) (p1 : Int32) (p2 : Int32) (p3 : Int32) (r13 : Int32) (x66 : Int32) (s67 : St) : Option (Int32 × St) := some (x66, s67)
noncomputable def fX11_spare (sh : List kd) (σ : St) (p1 : Int32) (p2 : Int32) (p3 : Int32) : Option (Int32 × St) := i_bd (fX6_hasThing sh σ 20 p1) (fun r1 s2 => if r1 = 0 then some ((-1), s2) else i_bd (fX11_isWithin sh s2 p2 1 8) (fun r5 s6 => if r5 = 0 then some ((-1), s6) else i_bd (fX11_isWithin sh s6 p3 0 1) (fun r9 s10 => if ¬ r9 = 0 then i_bd (fX5_fewestGloves sh s10 p1 p2) (fun r13 s14 => if ¬ p3 = 0 then fX11_spare_J60 sh p1 p2 p3 r13 r13 s14 else i_bd (fJ6_bitCount_0f7a4 sh s14 r13) (fun r69 s70 => fX11_spare_J60 sh p1 p2 p3 r13 r69 s70)) else some ((-1), s10))))
set_option maxRecDepth 20000 in
set_option maxHeartbeats 2000000 in
theorem tX11_spare_J60 {sh : List kd} {τ : St} {r : Int32} (hsh : cSh sh) {p1 : Int32} {p2 : Int32} {p3 : Int32} {r13 : Int32} {x66 : Int32} {s67 : St} (hE : fX11_spare_J60 sh p1 p2 p3 r13 x66 s67 = some (r, τ)) : g_R sh 7 mX11_spare (some (.int r)) τ 60 [.ref 0, .int p1, .int p2, .int p3, .int r13] [.int x66] (s67) := by
  unfold fX11_spare_J60 at hE
  cases hE
  exact g_iret aX11_spare_60 rfl rfl
set_option maxRecDepth 20000 in
set_option maxHeartbeats 2000000 in
theorem tX11_spare {sh : List kd} {σ τ : St} {r : Int32} (hsh : cSh sh) {p1 : Int32} {p2 : Int32} {p3 : Int32} (hE : fX11_spare sh σ p1 p2 p3 = some (r, τ)) : i_X 8 109 [.ref 0, .int p1, .int p2, .int p3] (s_h sh σ) 0 0 (some (.int r)) (s_h sh τ) := by
  refine g_X (M := mX11_spare) (loc := [.ref 0, .int p1, .int p2, .int p3, .retAddr 0]) rfl (Nat.le_of_ble_eq_true rfl) rfl ?_
  unfold fX11_spare at hE
  refine g_ldan aX11_spare_0 rfl ?_
  refine g_getR aX11_spare_1 (sC_0 hsh) rfl ?_
  refine g_getR aX11_spare_4 ((wShB_19 hsh).1) rfl ?_
  refine g_ldin aX11_spare_7 rfl ?_
  obtain ⟨r1, s2, h3, hE⟩ := i_bd_some hE
  refine g_calV (As := [.int p1]) (rest := []) aX11_spare_8 (i_X_mono (by omega) (tX6_hasThing hsh (rShB_20 hsh) h3)) ((rShB_20 hsh).1) (by decide +kernel) rfl rfl (Nat.le_of_ble_eq_true rfl) rfl ?_
  by_cases hc4 : r1 = 0
  · rw [if_pos hc4] at hE
    refine g_if_eq_t aX11_spare_11 hc4 ?_
    refine g_iconst (x := (-1)) aX11_spare_33 rfl ?_
    cases hE
    exact g_iret aX11_spare_34 rfl rfl
  · rw [if_neg hc4] at hE
    refine g_if_eq_f aX11_spare_11 hc4 ?_
    refine g_ldin aX11_spare_14 rfl ?_
    refine g_iconst (x := 1) aX11_spare_15 rfl ?_
    refine g_bipush (x := 8) aX11_spare_16 rfl ?_
    obtain ⟨r5, s6, h7, hE⟩ := i_bd_some hE
    refine g_calS (As := [.int p2, .int 1, .int 8]) (rest := []) aX11_spare_18 (i_X_mono (by omega) (tX11_isWithin hsh h7)) rfl rfl (Nat.le_of_ble_eq_true rfl) rfl ?_
    by_cases hc8 : r5 = 0
    · rw [if_pos hc8] at hE
      refine g_if_eq_t aX11_spare_21 hc8 ?_
      refine g_iconst (x := (-1)) aX11_spare_33 rfl ?_
      cases hE
      exact g_iret aX11_spare_34 rfl rfl
    · rw [if_neg hc8] at hE
      refine g_if_eq_f aX11_spare_21 hc8 ?_
      refine g_ldin aX11_spare_24 rfl ?_
      refine g_iconst (x := 0) aX11_spare_25 rfl ?_
      refine g_iconst (x := 1) aX11_spare_26 rfl ?_
      obtain ⟨r9, s10, h11, hE⟩ := i_bd_some hE
      refine g_calS (As := [.int p3, .int 0, .int 1]) (rest := []) aX11_spare_27 (i_X_mono (by omega) (tX11_isWithin hsh h11)) rfl rfl (Nat.le_of_ble_eq_true rfl) rfl ?_
      by_cases hc12 : ¬ r9 = 0
      · rw [if_pos hc12] at hE
        refine g_if_ne_t aX11_spare_30 hc12 ?_
        refine g_ldan aX11_spare_35 rfl ?_
        refine g_getR aX11_spare_36 (sC_0 hsh) rfl ?_
        refine g_ldin aX11_spare_39 rfl ?_
        refine g_ldin aX11_spare_40 rfl ?_
        obtain ⟨r13, s14, h15, hE⟩ := i_bd_some hE
        refine g_calV (As := [.int p1, .int p2]) (rest := []) aX11_spare_41 (i_X_mono (by omega) (tX5_fewestGloves hsh h15)) (sC_134 hsh) (by decide +kernel) rfl rfl (Nat.le_of_ble_eq_true rfl) rfl ?_
        refine g_sti (loc2 := [.ref 0, .int p1, .int p2, .int p3, .int r13]) aX11_spare_44 (Nat.le_of_ble_eq_true rfl) rfl ?_
        refine g_ldin aX11_spare_46 rfl ?_
        by_cases hc68 : ¬ p3 = 0
        · rw [if_pos hc68] at hE
          refine g_if_ne_t aX11_spare_47 hc68 ?_
          refine g_ldi aX11_spare_58 rfl ?_
          exact tX11_spare_J60 hsh hE
        · rw [if_neg hc68] at hE
          refine g_if_ne_f aX11_spare_47 hc68 ?_
          refine g_ldi aX11_spare_50 rfl ?_
          obtain ⟨r69, s70, h71, hE⟩ := i_bd_some hE
          refine g_calS (As := [.int r13]) (rest := []) aX11_spare_52 (i_X_mono (by omega) (tJ6_bitCount_0f7a4 hsh h71)) rfl rfl (Nat.le_of_ble_eq_true rfl) rfl ?_
          refine g_goto aX11_spare_55 ?_
          exact tX11_spare_J60 hsh hE
      · rw [if_neg hc12] at hE
        refine g_if_ne_f aX11_spare_30 hc12 ?_
        refine g_iconst (x := (-1)) aX11_spare_33 rfl ?_
        cases hE
        exact g_iret aX11_spare_34 rfl rfl
theorem aX11_ruled_0 : i_at mX11_ruled.2.2.2.2.2 0 = some (.aload_n 0, 1, 0, 0, 0, 0) := by decide +kernel
theorem aX11_ruled_1 : i_at mX11_ruled.2.2.2.2.2 1 = some (.getfield 59, 3, 10, 6, 460, 0) := by decide +kernel
theorem aX11_ruled_4 : i_at mX11_ruled.2.2.2.2.2 4 = some (.getfield 95, 3, 9, 0, 347, 0) := by decide +kernel
theorem aX11_ruled_7 : i_at mX11_ruled.2.2.2.2.2 7 = some (.getfield 173, 3, 5, 0, 155, 0) := by decide +kernel
theorem aX11_ruled_10 : i_at mX11_ruled.2.2.2.2.2 10 = some (.ifCond .eq 12, 3, 22, 0, 0, 0) := by decide +kernel
theorem aX11_ruled_13 : i_at mX11_ruled.2.2.2.2.2 13 = some (.iload_n 1, 1, 0, 0, 0, 0) := by decide +kernel
theorem aX11_ruled_14 : i_at mX11_ruled.2.2.2.2.2 14 = some (.iconst 0, 1, 0, 0, 0, 0) := by decide +kernel
theorem aX11_ruled_15 : i_at mX11_ruled.2.2.2.2.2 15 = some (.iconst 1, 1, 0, 0, 0, 0) := by decide +kernel
theorem aX11_ruled_16 : i_at mX11_ruled.2.2.2.2.2 16 = some (.invokestatic 187, 3, 125, 3, 847, 0) := by decide +kernel
theorem aX11_ruled_19 : i_at mX11_ruled.2.2.2.2.2 19 = some (.ifCond .ne 6, 3, 25, 0, 0, 0) := by decide +kernel
theorem aX11_ruled_22 : i_at mX11_ruled.2.2.2.2.2 22 = some (.bipush (-3), 2, 0, 0, 0, 0) := by decide +kernel
theorem aX11_ruled_24 : i_at mX11_ruled.2.2.2.2.2 24 = some (.ireturn, 1, 0, 0, 0, 0) := by decide +kernel
theorem aX11_ruled_25 : i_at mX11_ruled.2.2.2.2.2 25 = some (.aload_n 0, 1, 0, 0, 0, 0) := by decide +kernel
theorem aX11_ruled_26 : i_at mX11_ruled.2.2.2.2.2 26 = some (.getfield 75, 3, 10, 8, 462, 0) := by decide +kernel
theorem aX11_ruled_29 : i_at mX11_ruled.2.2.2.2.2 29 = some (.aload_n 0, 1, 0, 0, 0, 0) := by decide +kernel
theorem aX11_ruled_30 : i_at mX11_ruled.2.2.2.2.2 30 = some (.getfield 120, 3, 10, 10, 464, 0) := by decide +kernel
theorem aX11_ruled_33 : i_at mX11_ruled.2.2.2.2.2 33 = some (.invokevirtual 269, 3, 19, 1, 1013, 0) := by decide +kernel
theorem aX11_ruled_36 : i_at mX11_ruled.2.2.2.2.2 36 = some (.iload_n 1, 1, 0, 0, 0, 0) := by decide +kernel
theorem aX11_ruled_37 : i_at mX11_ruled.2.2.2.2.2 37 = some (.ifCond .ne 13, 3, 50, 0, 0, 0) := by decide +kernel
theorem aX11_ruled_40 : i_at mX11_ruled.2.2.2.2.2 40 = some (.aload_n 0, 1, 0, 0, 0, 0) := by decide +kernel
theorem aX11_ruled_41 : i_at mX11_ruled.2.2.2.2.2 41 = some (.getfield 75, 3, 10, 8, 462, 0) := by decide +kernel
theorem aX11_ruled_44 : i_at mX11_ruled.2.2.2.2.2 44 = some (.getfield 272, 3, 2, 6, 436, 0) := by decide +kernel
theorem aX11_ruled_47 : i_at mX11_ruled.2.2.2.2.2 47 = some (.goto 10, 3, 57, 0, 0, 0) := by decide +kernel
theorem aX11_ruled_50 : i_at mX11_ruled.2.2.2.2.2 50 = some (.aload_n 0, 1, 0, 0, 0, 0) := by decide +kernel
theorem aX11_ruled_51 : i_at mX11_ruled.2.2.2.2.2 51 = some (.getfield 75, 3, 10, 8, 462, 0) := by decide +kernel
theorem aX11_ruled_54 : i_at mX11_ruled.2.2.2.2.2 54 = some (.invokevirtual 275, 3, 22, 0, 1027, 0) := by decide +kernel
theorem aX11_ruled_57 : i_at mX11_ruled.2.2.2.2.2 57 = some (.ireturn, 1, 0, 0, 0, 0) := by decide +kernel
noncomputable def fX11_ruled_J57 (sh : List kd) (p1 : Int32) (x59 : Int32) (s60 : St) : Option (Int32 × St) := some (x59, s60)
noncomputable def fX11_ruled (sh : List kd) (σ : St) (p1 : Int32) : Option (Int32 × St) := if (σ.1 20 0) = 0 then some ((-3), σ) else i_bd (fX11_isWithin sh σ p1 0 1) (fun r2 s3 => if ¬ r2 = 0 then i_bd (fX3_hear sh s3 (s3.1 0 10)) (fun r6 s7 => if ¬ p1 = 0 then i_bd (fX3_first sh s7) (fun r62 s63 => fX11_ruled_J57 sh p1 r62 s63) else fX11_ruled_J57 sh p1 (s7.1 143 6) s7) else some ((-3), s3))
set_option maxRecDepth 20000 in
set_option maxHeartbeats 2000000 in
theorem tX11_ruled_J57 {sh : List kd} {τ : St} {r : Int32} (hsh : cSh sh) {p1 : Int32} {x59 : Int32} {s60 : St} (hE : fX11_ruled_J57 sh p1 x59 s60 = some (r, τ)) : g_R sh 7 mX11_ruled (some (.int r)) τ 57 [.ref 0, .int p1] [.int x59] (s60) := by
  unfold fX11_ruled_J57 at hE
  cases hE
  exact g_iret aX11_ruled_57 rfl rfl
set_option maxRecDepth 20000 in
set_option maxHeartbeats 2000000 in
theorem tX11_ruled {sh : List kd} {σ τ : St} {r : Int32} (hsh : cSh sh) {p1 : Int32} (hE : fX11_ruled sh σ p1 = some (r, τ)) : i_X 8 118 [.ref 0, .int p1] (s_h sh σ) 0 0 (some (.int r)) (s_h sh τ) := by
  refine g_X (M := mX11_ruled) (loc := [.ref 0, .int p1]) rfl (Nat.le_of_ble_eq_true rfl) rfl ?_
  unfold fX11_ruled at hE
  refine g_ldan aX11_ruled_0 rfl ?_
  refine g_getR aX11_ruled_1 (sC_0 hsh) rfl ?_
  refine g_getR aX11_ruled_4 ((wShB_19 hsh).1) rfl ?_
  refine g_getI aX11_ruled_7 ((rShB_20 hsh).1) rfl ?_
  by_cases hc1 : (σ.1 20 0) = 0
  · rw [if_pos hc1] at hE
    refine g_if_eq_t aX11_ruled_10 hc1 ?_
    refine g_bipush (x := (-3)) aX11_ruled_22 rfl ?_
    cases hE
    exact g_iret aX11_ruled_24 rfl rfl
  · rw [if_neg hc1] at hE
    refine g_if_eq_f aX11_ruled_10 hc1 ?_
    refine g_ldin aX11_ruled_13 rfl ?_
    refine g_iconst (x := 0) aX11_ruled_14 rfl ?_
    refine g_iconst (x := 1) aX11_ruled_15 rfl ?_
    obtain ⟨r2, s3, h4, hE⟩ := i_bd_some hE
    refine g_calS (As := [.int p1, .int 0, .int 1]) (rest := []) aX11_ruled_16 (i_X_mono (by omega) (tX11_isWithin hsh h4)) rfl rfl (Nat.le_of_ble_eq_true rfl) rfl ?_
    by_cases hc5 : ¬ r2 = 0
    · rw [if_pos hc5] at hE
      refine g_if_ne_t aX11_ruled_19 hc5 ?_
      refine g_ldan aX11_ruled_25 rfl ?_
      refine g_getR aX11_ruled_26 (sC_0 hsh) rfl ?_
      refine g_ldan aX11_ruled_29 rfl ?_
      refine g_getI aX11_ruled_30 (sC_0 hsh) rfl ?_
      obtain ⟨r6, s7, h8, hE⟩ := i_bd_some hE
      refine g_calV (As := [.int (s3.1 0 10)]) (rest := []) aX11_ruled_33 (i_X_mono (by omega) (tX3_hear hsh h8)) (sC_143 hsh) (by decide +kernel) rfl rfl (Nat.le_of_ble_eq_true rfl) rfl ?_
      refine g_ldin aX11_ruled_36 rfl ?_
      by_cases hc61 : ¬ p1 = 0
      · rw [if_pos hc61] at hE
        refine g_if_ne_t aX11_ruled_37 hc61 ?_
        refine g_ldan aX11_ruled_50 rfl ?_
        refine g_getR aX11_ruled_51 (sC_0 hsh) rfl ?_
        obtain ⟨r62, s63, h64, hE⟩ := i_bd_some hE
        refine g_calV (As := []) (rest := []) aX11_ruled_54 (i_X_mono (by omega) (tX3_first hsh h64)) (sC_143 hsh) (by decide +kernel) rfl rfl (Nat.le_of_ble_eq_true rfl) rfl ?_
        exact tX11_ruled_J57 hsh hE
      · rw [if_neg hc61] at hE
        refine g_if_ne_f aX11_ruled_37 hc61 ?_
        refine g_ldan aX11_ruled_40 rfl ?_
        refine g_getR aX11_ruled_41 (sC_0 hsh) rfl ?_
        refine g_getI aX11_ruled_44 (sC_143 hsh) rfl ?_
        refine g_goto aX11_ruled_47 ?_
        exact tX11_ruled_J57 hsh hE
    · rw [if_neg hc5] at hE
      refine g_if_ne_f aX11_ruled_19 hc5 ?_
      refine g_bipush (x := (-3)) aX11_ruled_22 rfl ?_
      cases hE
      exact g_iret aX11_ruled_24 rfl rfl
theorem aX11_look_0 : i_at mX11_look.2.2.2.2.2 0 = some (.aload_n 0, 1, 0, 0, 0, 0) := by decide +kernel
theorem aX11_look_1 : i_at mX11_look.2.2.2.2.2 1 = some (.getfield 59, 3, 10, 6, 460, 0) := by decide +kernel
theorem aX11_look_4 : i_at mX11_look.2.2.2.2.2 4 = some (.getfield 95, 3, 9, 0, 347, 0) := by decide +kernel
theorem aX11_look_7 : i_at mX11_look.2.2.2.2.2 7 = some (.getfield 173, 3, 5, 0, 155, 0) := by decide +kernel
theorem aX11_look_10 : i_at mX11_look.2.2.2.2.2 10 = some (.ifCond .eq 12, 3, 22, 0, 0, 0) := by decide +kernel
theorem aX11_look_13 : i_at mX11_look.2.2.2.2.2 13 = some (.iload_n 1, 1, 0, 0, 0, 0) := by decide +kernel
theorem aX11_look_14 : i_at mX11_look.2.2.2.2.2 14 = some (.iconst 0, 1, 0, 0, 0, 0) := by decide +kernel
theorem aX11_look_15 : i_at mX11_look.2.2.2.2.2 15 = some (.iconst 1, 1, 0, 0, 0, 0) := by decide +kernel
theorem aX11_look_16 : i_at mX11_look.2.2.2.2.2 16 = some (.invokestatic 187, 3, 125, 3, 847, 0) := by decide +kernel
theorem aX11_look_19 : i_at mX11_look.2.2.2.2.2 19 = some (.ifCond .ne 5, 3, 24, 0, 0, 0) := by decide +kernel
theorem aX11_look_22 : i_at mX11_look.2.2.2.2.2 22 = some (.iconst (-1), 1, 0, 0, 0, 0) := by decide +kernel
theorem aX11_look_23 : i_at mX11_look.2.2.2.2.2 23 = some (.ireturn, 1, 0, 0, 0, 0) := by decide +kernel
theorem aX11_look_24 : i_at mX11_look.2.2.2.2.2 24 = some (.aload_n 0, 1, 0, 0, 0, 0) := by decide +kernel
theorem aX11_look_25 : i_at mX11_look.2.2.2.2.2 25 = some (.getfield 75, 3, 10, 8, 462, 0) := by decide +kernel
theorem aX11_look_28 : i_at mX11_look.2.2.2.2.2 28 = some (.aload_n 0, 1, 0, 0, 0, 0) := by decide +kernel
theorem aX11_look_29 : i_at mX11_look.2.2.2.2.2 29 = some (.getfield 120, 3, 10, 10, 464, 0) := by decide +kernel
theorem aX11_look_32 : i_at mX11_look.2.2.2.2.2 32 = some (.invokevirtual 269, 3, 19, 1, 1013, 0) := by decide +kernel
theorem aX11_look_35 : i_at mX11_look.2.2.2.2.2 35 = some (.aload_n 0, 1, 0, 0, 0, 0) := by decide +kernel
theorem aX11_look_36 : i_at mX11_look.2.2.2.2.2 36 = some (.getfield 75, 3, 10, 8, 462, 0) := by decide +kernel
theorem aX11_look_39 : i_at mX11_look.2.2.2.2.2 39 = some (.iload_n 1, 1, 0, 0, 0, 0) := by decide +kernel
theorem aX11_look_40 : i_at mX11_look.2.2.2.2.2 40 = some (.ifCond .ne 7, 3, 47, 0, 0, 0) := by decide +kernel
theorem aX11_look_43 : i_at mX11_look.2.2.2.2.2 43 = some (.iconst 1, 1, 0, 0, 0, 0) := by decide +kernel
theorem aX11_look_44 : i_at mX11_look.2.2.2.2.2 44 = some (.goto 4, 3, 48, 0, 0, 0) := by decide +kernel
theorem aX11_look_47 : i_at mX11_look.2.2.2.2.2 47 = some (.iconst 0, 1, 0, 0, 0, 0) := by decide +kernel
theorem aX11_look_48 : i_at mX11_look.2.2.2.2.2 48 = some (.invokevirtual 278, 3, 23, 1, 1035, 0) := by decide +kernel
theorem aX11_look_51 : i_at mX11_look.2.2.2.2.2 51 = some (.ireturn, 1, 0, 0, 0, 0) := by decide +kernel
noncomputable def fX11_look (sh : List kd) (σ : St) (p1 : Int32) : Option (Int32 × St) := if (σ.1 20 0) = 0 then some ((-1), σ) else i_bd (fX11_isWithin sh σ p1 0 1) (fun r2 s3 => if ¬ r2 = 0 then i_bd (fX3_hear sh s3 (s3.1 0 10)) (fun r6 s7 => i_bd (fX3_bestHour sh s7 ((if ¬ p1 = 0 then 0 else 1) : Int32)) (fun r9 s10 => some (r9, s10))) else some ((-1), s3))
set_option maxRecDepth 20000 in
set_option maxHeartbeats 2000000 in
theorem tX11_look {sh : List kd} {σ τ : St} {r : Int32} (hsh : cSh sh) {p1 : Int32} (hE : fX11_look sh σ p1 = some (r, τ)) : i_X 8 119 [.ref 0, .int p1] (s_h sh σ) 0 0 (some (.int r)) (s_h sh τ) := by
  refine g_X (M := mX11_look) (loc := [.ref 0, .int p1]) rfl (Nat.le_of_ble_eq_true rfl) rfl ?_
  unfold fX11_look at hE
  refine g_ldan aX11_look_0 rfl ?_
  refine g_getR aX11_look_1 (sC_0 hsh) rfl ?_
  refine g_getR aX11_look_4 ((wShB_19 hsh).1) rfl ?_
  refine g_getI aX11_look_7 ((rShB_20 hsh).1) rfl ?_
  by_cases hc1 : (σ.1 20 0) = 0
  · rw [if_pos hc1] at hE
    refine g_if_eq_t aX11_look_10 hc1 ?_
    refine g_iconst (x := (-1)) aX11_look_22 rfl ?_
    cases hE
    exact g_iret aX11_look_23 rfl rfl
  · rw [if_neg hc1] at hE
    refine g_if_eq_f aX11_look_10 hc1 ?_
    refine g_ldin aX11_look_13 rfl ?_
    refine g_iconst (x := 0) aX11_look_14 rfl ?_
    refine g_iconst (x := 1) aX11_look_15 rfl ?_
    obtain ⟨r2, s3, h4, hE⟩ := i_bd_some hE
    refine g_calS (As := [.int p1, .int 0, .int 1]) (rest := []) aX11_look_16 (i_X_mono (by omega) (tX11_isWithin hsh h4)) rfl rfl (Nat.le_of_ble_eq_true rfl) rfl ?_
    by_cases hc5 : ¬ r2 = 0
    · rw [if_pos hc5] at hE
      refine g_if_ne_t aX11_look_19 hc5 ?_
      refine g_ldan aX11_look_24 rfl ?_
      refine g_getR aX11_look_25 (sC_0 hsh) rfl ?_
      refine g_ldan aX11_look_28 rfl ?_
      refine g_getI aX11_look_29 (sC_0 hsh) rfl ?_
      obtain ⟨r6, s7, h8, hE⟩ := i_bd_some hE
      refine g_calV (As := [.int (s3.1 0 10)]) (rest := []) aX11_look_32 (i_X_mono (by omega) (tX3_hear hsh h8)) (sC_143 hsh) (by decide +kernel) rfl rfl (Nat.le_of_ble_eq_true rfl) rfl ?_
      refine g_ldan aX11_look_35 rfl ?_
      refine g_getR aX11_look_36 (sC_0 hsh) rfl ?_
      refine g_ldin aX11_look_39 rfl ?_
      have hJ : g_R sh 7 mX11_look (some (.int r)) τ 48 [.ref 0, .int p1] [.int ((if ¬ p1 = 0 then 0 else 1) : Int32), .ref 143] (s7) := by
        obtain ⟨r9, s10, h11, hE⟩ := i_bd_some hE
        refine g_calV (As := [.int ((if ¬ p1 = 0 then 0 else 1) : Int32)]) (rest := []) aX11_look_48 (i_X_mono (by omega) (tX3_bestHour hsh h11)) (sC_143 hsh) (by decide +kernel) rfl rfl (Nat.le_of_ble_eq_true rfl) rfl ?_
        cases hE
        exact g_iret aX11_look_51 rfl rfl
      clear hE
      by_cases hc11 : ¬ p1 = 0
      · (try rw [if_pos hc11] at hJ)
        refine g_if_ne_t aX11_look_40 hc11 ?_
        refine g_iconst (x := 0) aX11_look_47 rfl ?_
        exact hJ
      · (try rw [if_neg hc11] at hJ)
        refine g_if_ne_f aX11_look_40 hc11 ?_
        refine g_iconst (x := 1) aX11_look_43 rfl ?_
        refine g_goto aX11_look_44 ?_
        exact hJ
    · rw [if_neg hc5] at hE
      refine g_if_ne_f aX11_look_19 hc5 ?_
      refine g_iconst (x := (-1)) aX11_look_22 rfl ?_
      cases hE
      exact g_iret aX11_look_23 rfl rfl
