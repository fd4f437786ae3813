/-! X11_tray X11_strip X11_undo X11_seed X11_count X11_isWithin X12_in X12_bits X12_has X12_isCourt X12_isThing X12_isPerson X12_put X12_end X12_wordOf X12_fails X12_sign X12_blanks X12_isDigit X12_stood X12_takes X12_entry X12_isCounted -/
theorem aX11_tray_0 : i_at mX11_tray.2.2.2.2.2 0 = some (.aload_n 0, 1, 0, 0, 0, 0) := by decide +kernel
theorem aX11_tray_1 : i_at mX11_tray.2.2.2.2.2 1 = some (.getfield 59, 3, 10, 6, 460, 0) := by decide +kernel
theorem aX11_tray_4 : i_at mX11_tray.2.2.2.2.2 4 = some (.getfield 102, 3, 9, 1, 351, 0) := by decide +kernel
theorem aX11_tray_7 : i_at mX11_tray.2.2.2.2.2 7 = some (.getfield 195, 3, 3, 2, 304, 0) := by decide +kernel
theorem aX11_tray_10 : i_at mX11_tray.2.2.2.2.2 10 = some (.istore_n 2, 1, 0, 0, 0, 0) := by decide +kernel
theorem aX11_tray_11 : i_at mX11_tray.2.2.2.2.2 11 = some (.iload_n 1, 1, 0, 0, 0, 0) := by decide +kernel
theorem aX11_tray_12 : i_at mX11_tray.2.2.2.2.2 12 = some (.iload_n 2, 1, 0, 0, 0, 0) := by decide +kernel
theorem aX11_tray_13 : i_at mX11_tray.2.2.2.2.2 13 = some (.if_icmp .eq 22, 3, 35, 0, 0, 0) := by decide +kernel
theorem aX11_tray_16 : i_at mX11_tray.2.2.2.2.2 16 = some (.iload_n 1, 1, 0, 0, 0, 0) := by decide +kernel
theorem aX11_tray_17 : i_at mX11_tray.2.2.2.2.2 17 = some (.iconst (-1), 1, 0, 0, 0, 0) := by decide +kernel
theorem aX11_tray_18 : i_at mX11_tray.2.2.2.2.2 18 = some (.if_icmp .eq 20, 3, 38, 0, 0, 0) := by decide +kernel
theorem aX11_tray_21 : i_at mX11_tray.2.2.2.2.2 21 = some (.aload_n 0, 1, 0, 0, 0, 0) := by decide +kernel
theorem aX11_tray_22 : i_at mX11_tray.2.2.2.2.2 22 = some (.getfield 59, 3, 10, 6, 460, 0) := by decide +kernel
theorem aX11_tray_25 : i_at mX11_tray.2.2.2.2.2 25 = some (.getfield 95, 3, 9, 0, 347, 0) := by decide +kernel
theorem aX11_tray_28 : i_at mX11_tray.2.2.2.2.2 28 = some (.iload_n 1, 1, 0, 0, 0, 0) := by decide +kernel
theorem aX11_tray_29 : i_at mX11_tray.2.2.2.2.2 29 = some (.invokevirtual 131, 3, 53, 1, 757, 0) := by decide +kernel
theorem aX11_tray_32 : i_at mX11_tray.2.2.2.2.2 32 = some (.ifCond .ne 6, 3, 38, 0, 0, 0) := by decide +kernel
theorem aX11_tray_35 : i_at mX11_tray.2.2.2.2.2 35 = some (.bipush (-2), 2, 0, 0, 0, 0) := by decide +kernel
theorem aX11_tray_37 : i_at mX11_tray.2.2.2.2.2 37 = some (.ireturn, 1, 0, 0, 0, 0) := by decide +kernel
theorem aX11_tray_38 : i_at mX11_tray.2.2.2.2.2 38 = some (.aload_n 0, 1, 0, 0, 0, 0) := by decide +kernel
theorem aX11_tray_39 : i_at mX11_tray.2.2.2.2.2 39 = some (.getfield 59, 3, 10, 6, 460, 0) := by decide +kernel
theorem aX11_tray_42 : i_at mX11_tray.2.2.2.2.2 42 = some (.invokevirtual 180, 3, 87, 0, 785, 0) := by decide +kernel
theorem aX11_tray_45 : i_at mX11_tray.2.2.2.2.2 45 = some (.aload_n 0, 1, 0, 0, 0, 0) := by decide +kernel
theorem aX11_tray_46 : i_at mX11_tray.2.2.2.2.2 46 = some (.getfield 59, 3, 10, 6, 460, 0) := by decide +kernel
theorem aX11_tray_49 : i_at mX11_tray.2.2.2.2.2 49 = some (.getfield 102, 3, 9, 1, 351, 0) := by decide +kernel
theorem aX11_tray_52 : i_at mX11_tray.2.2.2.2.2 52 = some (.iload_n 1, 1, 0, 0, 0, 0) := by decide +kernel
theorem aX11_tray_53 : i_at mX11_tray.2.2.2.2.2 53 = some (.putfield 195, 3, 3, 2, 304, 0) := by decide +kernel
theorem aX11_tray_56 : i_at mX11_tray.2.2.2.2.2 56 = some (.iload_n 2, 1, 0, 0, 0, 0) := by decide +kernel
theorem aX11_tray_57 : i_at mX11_tray.2.2.2.2.2 57 = some (.ireturn, 1, 0, 0, 0, 0) := by decide +kernel
noncomputable def fX11_tray (sh : List kd) (σ : St) (p1 : Int32) : Option (Int32 × St) := if p1 = (σ.1 26 2) then some ((-2), σ) else if p1 = (-1) then i_bd (fX10_remember sh σ 19) (fun r3 s4 => some ((σ.1 26 2), s_F s4 26 2 p1)) else i_bd (fX6_hasThing sh σ 20 p1) (fun r6 s7 => if ¬ r6 = 0 then i_bd (fX10_remember sh s7 19) (fun r10 s11 => some ((σ.1 26 2), s_F s11 26 2 p1)) else some ((-2), s7))
set_option maxRecDepth 20000 in
set_option maxHeartbeats 2000000 in
theorem tX11_tray {sh : List kd} {σ τ : St} {r : Int32} (hsh : cSh sh) {p1 : Int32} (hE : fX11_tray sh σ p1 = some (r, τ)) : i_X 3 102 [.ref 0, .int p1] (s_h sh σ) 0 0 (some (.int r)) (s_h sh τ) := by
  refine g_X (M := mX11_tray) (loc := [.ref 0, .int p1, .retAddr 0]) rfl (Nat.le_of_ble_eq_true rfl) rfl ?_
  unfold fX11_tray at hE
  refine g_ldan aX11_tray_0 rfl ?_
  refine g_getR aX11_tray_1 (sC_0 hsh) rfl ?_
  refine g_getR aX11_tray_4 ((wShB_19 hsh).1) rfl ?_
  refine g_getI aX11_tray_7 ((lShB_26 hsh).1) rfl ?_
  refine g_stin (loc2 := [.ref 0, .int p1, .int (σ.1 26 2)]) aX11_tray_10 (Nat.le_of_ble_eq_true rfl) rfl ?_
  refine g_ldin aX11_tray_11 rfl ?_
  refine g_ldin aX11_tray_12 rfl ?_
  by_cases hc1 : p1 = (σ.1 26 2)
  · rw [if_pos hc1] at hE
    refine g_ic_eq_t aX11_tray_13 hc1 ?_
    refine g_bipush (x := (-2)) aX11_tray_35 rfl ?_
    obtain ⟨rfl, rfl⟩ := i_some_inj hE
    exact g_iret aX11_tray_37 rfl rfl
  · rw [if_neg hc1] at hE
    refine g_ic_eq_f aX11_tray_13 hc1 ?_
    refine g_ldin aX11_tray_16 rfl ?_
    refine g_iconst (x := (-1)) aX11_tray_17 rfl ?_
    by_cases hc2 : p1 = (-1)
    · rw [if_pos hc2] at hE
      refine g_ic_eq_t aX11_tray_18 hc2 ?_
      refine g_ldan aX11_tray_38 rfl ?_
      refine g_getR aX11_tray_39 (sC_0 hsh) rfl ?_
      obtain ⟨r3, s4, h5, hE⟩ := i_bd_some hE
      refine g_calV (As := []) (rest := []) aX11_tray_42 (i_X_mono (by omega) (tX10_remember hsh (wShB_19 hsh) h5)) ((wShB_19 hsh).1) (by decide +kernel) rfl rfl (Nat.le_of_ble_eq_true rfl) rfl ?_
      refine g_ldan aX11_tray_45 rfl ?_
      refine g_getR aX11_tray_46 (sC_0 hsh) rfl ?_
      refine g_getR aX11_tray_49 ((wShB_19 hsh).1) rfl ?_
      refine g_ldin aX11_tray_52 rfl ?_
      refine g_putI aX11_tray_53 ((lShB_26 hsh).1) rfl rfl ?_
      refine g_ldin aX11_tray_56 rfl ?_
      obtain ⟨rfl, rfl⟩ := i_some_inj hE
      exact g_iret aX11_tray_57 rfl rfl
    · rw [if_neg hc2] at hE
      refine g_ic_eq_f aX11_tray_18 hc2 ?_
      refine g_ldan aX11_tray_21 rfl ?_
      refine g_getR aX11_tray_22 (sC_0 hsh) rfl ?_
      refine g_getR aX11_tray_25 ((wShB_19 hsh).1) rfl ?_
      refine g_ldin aX11_tray_28 rfl ?_
      obtain ⟨r6, s7, h8, hE⟩ := i_bd_some hE
      refine g_calV (As := [.int p1]) (rest := []) aX11_tray_29 (i_X_mono (by omega) (tX6_hasThing hsh (rShB_20 hsh) h8)) ((rShB_20 hsh).1) (by decide +kernel) rfl rfl (Nat.le_of_ble_eq_true rfl) rfl ?_
      by_cases hc9 : ¬ r6 = 0
      · rw [if_pos hc9] at hE
        refine g_if_ne_t aX11_tray_32 hc9 ?_
        refine g_ldan aX11_tray_38 rfl ?_
        refine g_getR aX11_tray_39 (sC_0 hsh) rfl ?_
        obtain ⟨r10, s11, h12, hE⟩ := i_bd_some hE
        refine g_calV (As := []) (rest := []) aX11_tray_42 (i_X_mono (by omega) (tX10_remember hsh (wShB_19 hsh) h12)) ((wShB_19 hsh).1) (by decide +kernel) rfl rfl (Nat.le_of_ble_eq_true rfl) rfl ?_
        refine g_ldan aX11_tray_45 rfl ?_
        refine g_getR aX11_tray_46 (sC_0 hsh) rfl ?_
        refine g_getR aX11_tray_49 ((wShB_19 hsh).1) rfl ?_
        refine g_ldin aX11_tray_52 rfl ?_
        refine g_putI aX11_tray_53 ((lShB_26 hsh).1) rfl rfl ?_
        refine g_ldin aX11_tray_56 rfl ?_
        obtain ⟨rfl, rfl⟩ := i_some_inj hE
        exact g_iret aX11_tray_57 rfl rfl
      · rw [if_neg hc9] at hE
        refine g_if_ne_f aX11_tray_32 hc9 ?_
        refine g_bipush (x := (-2)) aX11_tray_35 rfl ?_
        obtain ⟨rfl, rfl⟩ := i_some_inj hE
        exact g_iret aX11_tray_37 rfl rfl
theorem aX11_strip_0 : i_at mX11_strip.2.2.2.2.2 0 = some (.aload_n 0, 1, 0, 0, 0, 0) := by decide +kernel
theorem aX11_strip_1 : i_at mX11_strip.2.2.2.2.2 1 = some (.getfield 59, 3, 10, 6, 460, 0) := by decide +kernel
theorem aX11_strip_4 : i_at mX11_strip.2.2.2.2.2 4 = some (.getfield 95, 3, 9, 0, 347, 0) := by decide +kernel
theorem aX11_strip_7 : i_at mX11_strip.2.2.2.2.2 7 = some (.iload_n 1, 1, 0, 0, 0, 0) := by decide +kernel
theorem aX11_strip_8 : i_at mX11_strip.2.2.2.2.2 8 = some (.invokevirtual 155, 3, 54, 1, 773, 0) := by decide +kernel
theorem aX11_strip_11 : i_at mX11_strip.2.2.2.2.2 11 = some (.ifCond .eq 32, 3, 43, 0, 0, 0) := by decide +kernel
theorem aX11_strip_14 : i_at mX11_strip.2.2.2.2.2 14 = some (.aload_n 0, 1, 0, 0, 0, 0) := by decide +kernel
theorem aX11_strip_15 : i_at mX11_strip.2.2.2.2.2 15 = some (.getfield 59, 3, 10, 6, 460, 0) := by decide +kernel
theorem aX11_strip_18 : i_at mX11_strip.2.2.2.2.2 18 = some (.getfield 95, 3, 9, 0, 347, 0) := by decide +kernel
theorem aX11_strip_21 : i_at mX11_strip.2.2.2.2.2 21 = some (.iload_n 2, 1, 0, 0, 0, 0) := by decide +kernel
theorem aX11_strip_22 : i_at mX11_strip.2.2.2.2.2 22 = some (.invokevirtual 131, 3, 53, 1, 757, 0) := by decide +kernel
theorem aX11_strip_25 : i_at mX11_strip.2.2.2.2.2 25 = some (.ifCond .eq 18, 3, 43, 0, 0, 0) := by decide +kernel
theorem aX11_strip_28 : i_at mX11_strip.2.2.2.2.2 28 = some (.aload_n 0, 1, 0, 0, 0, 0) := by decide +kernel
theorem aX11_strip_29 : i_at mX11_strip.2.2.2.2.2 29 = some (.getfield 59, 3, 10, 6, 460, 0) := by decide +kernel
theorem aX11_strip_32 : i_at mX11_strip.2.2.2.2.2 32 = some (.getfield 102, 3, 9, 1, 351, 0) := by decide +kernel
theorem aX11_strip_35 : i_at mX11_strip.2.2.2.2.2 35 = some (.iload_n 1, 1, 0, 0, 0, 0) := by decide +kernel
theorem aX11_strip_36 : i_at mX11_strip.2.2.2.2.2 36 = some (.iload_n 2, 1, 0, 0, 0, 0) := by decide +kernel
theorem aX11_strip_37 : i_at mX11_strip.2.2.2.2.2 37 = some (.invokevirtual 201, 3, 29, 2, 867, 0) := by decide +kernel
theorem aX11_strip_40 : i_at mX11_strip.2.2.2.2.2 40 = some (.ifCond .ne 5, 3, 45, 0, 0, 0) := by decide +kernel
theorem aX11_strip_43 : i_at mX11_strip.2.2.2.2.2 43 = some (.iconst (-1), 1, 0, 0, 0, 0) := by decide +kernel
theorem aX11_strip_44 : i_at mX11_strip.2.2.2.2.2 44 = some (.ireturn, 1, 0, 0, 0, 0) := by decide +kernel
theorem aX11_strip_45 : i_at mX11_strip.2.2.2.2.2 45 = some (.aload_n 0, 1, 0, 0, 0, 0) := by decide +kernel
theorem aX11_strip_46 : i_at mX11_strip.2.2.2.2.2 46 = some (.getfield 59, 3, 10, 6, 460, 0) := by decide +kernel
theorem aX11_strip_49 : i_at mX11_strip.2.2.2.2.2 49 = some (.invokevirtual 180, 3, 87, 0, 785, 0) := by decide +kernel
theorem aX11_strip_52 : i_at mX11_strip.2.2.2.2.2 52 = some (.aload_n 0, 1, 0, 0, 0, 0) := by decide +kernel
theorem aX11_strip_53 : i_at mX11_strip.2.2.2.2.2 53 = some (.getfield 59, 3, 10, 6, 460, 0) := by decide +kernel
theorem aX11_strip_56 : i_at mX11_strip.2.2.2.2.2 56 = some (.getfield 102, 3, 9, 1, 351, 0) := by decide +kernel
theorem aX11_strip_59 : i_at mX11_strip.2.2.2.2.2 59 = some (.getfield 164, 3, 3, 5, 317, 0) := by decide +kernel
theorem aX11_strip_62 : i_at mX11_strip.2.2.2.2.2 62 = some (.iload_n 1, 1, 0, 0, 0, 0) := by decide +kernel
theorem aX11_strip_63 : i_at mX11_strip.2.2.2.2.2 63 = some (.dup2, 1, 0, 0, 0, 0) := by decide +kernel
theorem aX11_strip_64 : i_at mX11_strip.2.2.2.2.2 64 = some (.iaload, 1, 0, 0, 0, 0) := by decide +kernel
theorem aX11_strip_65 : i_at mX11_strip.2.2.2.2.2 65 = some (.iconst 1, 1, 0, 0, 0, 0) := by decide +kernel
theorem aX11_strip_66 : i_at mX11_strip.2.2.2.2.2 66 = some (.iload_n 2, 1, 0, 0, 0, 0) := by decide +kernel
theorem aX11_strip_67 : i_at mX11_strip.2.2.2.2.2 67 = some (.ishl, 1, 0, 0, 0, 0) := by decide +kernel
theorem aX11_strip_68 : i_at mX11_strip.2.2.2.2.2 68 = some (.iconst (-1), 1, 0, 0, 0, 0) := by decide +kernel
theorem aX11_strip_69 : i_at mX11_strip.2.2.2.2.2 69 = some (.ixor, 1, 0, 0, 0, 0) := by decide +kernel
theorem aX11_strip_70 : i_at mX11_strip.2.2.2.2.2 70 = some (.iand, 1, 0, 0, 0, 0) := by decide +kernel
theorem aX11_strip_71 : i_at mX11_strip.2.2.2.2.2 71 = some (.iastore, 1, 0, 0, 0, 0) := by decide +kernel
theorem aX11_strip_72 : i_at mX11_strip.2.2.2.2.2 72 = some (.aload_n 0, 1, 0, 0, 0, 0) := by decide +kernel
theorem aX11_strip_73 : i_at mX11_strip.2.2.2.2.2 73 = some (.getfield 59, 3, 10, 6, 460, 0) := by decide +kernel
theorem aX11_strip_76 : i_at mX11_strip.2.2.2.2.2 76 = some (.getfield 102, 3, 9, 1, 351, 0) := by decide +kernel
theorem aX11_strip_79 : i_at mX11_strip.2.2.2.2.2 79 = some (.getfield 164, 3, 3, 5, 317, 0) := by decide +kernel
theorem aX11_strip_82 : i_at mX11_strip.2.2.2.2.2 82 = some (.iload_n 1, 1, 0, 0, 0, 0) := by decide +kernel
theorem aX11_strip_83 : i_at mX11_strip.2.2.2.2.2 83 = some (.iaload, 1, 0, 0, 0, 0) := by decide +kernel
theorem aX11_strip_84 : i_at mX11_strip.2.2.2.2.2 84 = some (.ireturn, 1, 0, 0, 0, 0) := by decide +kernel
noncomputable def fX11_strip (sh : List kd) (σ : St) (p1 : Int32) (p2 : Int32) : Option (Int32 × St) := i_bd (fX6_hasPerson sh σ 20 p1) (fun r1 s2 => if r1 = 0 then some ((-1), s2) else i_bd (fX6_hasThing sh s2 20 p2) (fun r5 s6 => if r5 = 0 then some ((-1), s6) else i_bd (fX4_hasTitle sh s6 26 p1 p2) (fun r9 s10 => if ¬ r9 = 0 then i_bd (fX10_remember sh s10 19) (fun r13 s14 => if i_ok p1 6 then if i_ok p1 6 then if i_ok p1 6 then some (((s_A s14 28 p1.toNatClampNeg ((s14.2.1 28 p1.toNatClampNeg) &&& ((1 <<< (p2 &&& 31)) ^^^ (-1)))).2.1 28 p1.toNatClampNeg), s_A s14 28 p1.toNatClampNeg ((s14.2.1 28 p1.toNatClampNeg) &&& ((1 <<< (p2 &&& 31)) ^^^ (-1)))) else none else none else none) else some ((-1), s10))))
set_option maxRecDepth 20000 in
set_option maxHeartbeats 2000000 in
theorem tX11_strip {sh : List kd} {σ τ : St} {r : Int32} (hsh : cSh sh) {p1 : Int32} {p2 : Int32} (hE : fX11_strip sh σ p1 p2 = some (r, τ)) : i_X 3 104 [.ref 0, .int p1, .int p2] (s_h sh σ) 0 0 (some (.int r)) (s_h sh τ) := by
  refine g_X (M := mX11_strip) (loc := [.ref 0, .int p1, .int p2]) rfl (Nat.le_of_ble_eq_true rfl) rfl ?_
  unfold fX11_strip at hE
  refine g_ldan aX11_strip_0 rfl ?_
  refine g_getR aX11_strip_1 (sC_0 hsh) rfl ?_
  refine g_getR aX11_strip_4 ((wShB_19 hsh).1) rfl ?_
  refine g_ldin aX11_strip_7 rfl ?_
  obtain ⟨r1, s2, h3, hE⟩ := i_bd_some hE
  refine g_calV (As := [.int p1]) (rest := []) aX11_strip_8 (i_X_mono (by omega) (tX6_hasPerson hsh (rShB_20 hsh) h3)) ((rShB_20 hsh).1) (by decide +kernel) rfl rfl (Nat.le_of_ble_eq_true rfl) rfl ?_
  by_cases hc4 : r1 = 0
  · rw [if_pos hc4] at hE
    refine g_if_eq_t aX11_strip_11 hc4 ?_
    refine g_iconst (x := (-1)) aX11_strip_43 rfl ?_
    obtain ⟨rfl, rfl⟩ := i_some_inj hE
    exact g_iret aX11_strip_44 rfl rfl
  · rw [if_neg hc4] at hE
    refine g_if_eq_f aX11_strip_11 hc4 ?_
    refine g_ldan aX11_strip_14 rfl ?_
    refine g_getR aX11_strip_15 (sC_0 hsh) rfl ?_
    refine g_getR aX11_strip_18 ((wShB_19 hsh).1) rfl ?_
    refine g_ldin aX11_strip_21 rfl ?_
    obtain ⟨r5, s6, h7, hE⟩ := i_bd_some hE
    refine g_calV (As := [.int p2]) (rest := []) aX11_strip_22 (i_X_mono (by omega) (tX6_hasThing hsh (rShB_20 hsh) h7)) ((rShB_20 hsh).1) (by decide +kernel) rfl rfl (Nat.le_of_ble_eq_true rfl) rfl ?_
    by_cases hc8 : r5 = 0
    · rw [if_pos hc8] at hE
      refine g_if_eq_t aX11_strip_25 hc8 ?_
      refine g_iconst (x := (-1)) aX11_strip_43 rfl ?_
      obtain ⟨rfl, rfl⟩ := i_some_inj hE
      exact g_iret aX11_strip_44 rfl rfl
    · rw [if_neg hc8] at hE
      refine g_if_eq_f aX11_strip_25 hc8 ?_
      refine g_ldan aX11_strip_28 rfl ?_
      refine g_getR aX11_strip_29 (sC_0 hsh) rfl ?_
      refine g_getR aX11_strip_32 ((wShB_19 hsh).1) rfl ?_
      refine g_ldin aX11_strip_35 rfl ?_
      refine g_ldin aX11_strip_36 rfl ?_
      obtain ⟨r9, s10, h11, hE⟩ := i_bd_some hE
      refine g_calV (As := [.int p1, .int p2]) (rest := []) aX11_strip_37 (i_X_mono (by omega) (tX4_hasTitle hsh (lShB_26 hsh) h11)) ((lShB_26 hsh).1) (by decide +kernel) rfl rfl (Nat.le_of_ble_eq_true rfl) rfl ?_
      by_cases hc12 : ¬ r9 = 0
      · rw [if_pos hc12] at hE
        refine g_if_ne_t aX11_strip_40 hc12 ?_
        refine g_ldan aX11_strip_45 rfl ?_
        refine g_getR aX11_strip_46 (sC_0 hsh) rfl ?_
        obtain ⟨r13, s14, h15, hE⟩ := i_bd_some hE
        refine g_calV (As := []) (rest := []) aX11_strip_49 (i_X_mono (by omega) (tX10_remember hsh (wShB_19 hsh) h15)) ((wShB_19 hsh).1) (by decide +kernel) rfl rfl (Nat.le_of_ble_eq_true rfl) rfl ?_
        refine g_ldan aX11_strip_52 rfl ?_
        refine g_getR aX11_strip_53 (sC_0 hsh) rfl ?_
        refine g_getR aX11_strip_56 ((wShB_19 hsh).1) rfl ?_
        refine g_getR aX11_strip_59 ((lShB_26 hsh).1) rfl ?_
        refine g_ldin aX11_strip_62 rfl ?_
        refine g_dup2 aX11_strip_63 ?_
        obtain ⟨h16, hE⟩ := i_ifn hE
        refine g_ild aX11_strip_64 (sC_28 hsh) h16 ?_
        refine g_iconst (x := 1) aX11_strip_65 rfl ?_
        refine g_ldin aX11_strip_66 rfl ?_
        refine g_ishl aX11_strip_67 ?_
        refine g_iconst (x := (-1)) aX11_strip_68 rfl ?_
        refine g_ixor aX11_strip_69 ?_
        refine g_iand aX11_strip_70 ?_
        obtain ⟨h17, hE⟩ := i_ifn hE
        refine g_ist aX11_strip_71 (sC_28 hsh) h17 ?_
        refine g_ldan aX11_strip_72 rfl ?_
        refine g_getR aX11_strip_73 (sC_0 hsh) rfl ?_
        refine g_getR aX11_strip_76 ((wShB_19 hsh).1) rfl ?_
        refine g_getR aX11_strip_79 ((lShB_26 hsh).1) rfl ?_
        refine g_ldin aX11_strip_82 rfl ?_
        obtain ⟨h18, hE⟩ := i_ifn hE
        refine g_ild aX11_strip_83 (sC_28 hsh) h18 ?_
        obtain ⟨rfl, rfl⟩ := i_some_inj hE
        exact g_iret aX11_strip_84 rfl rfl
      · rw [if_neg hc12] at hE
        refine g_if_ne_f aX11_strip_40 hc12 ?_
        refine g_iconst (x := (-1)) aX11_strip_43 rfl ?_
        obtain ⟨rfl, rfl⟩ := i_some_inj hE
        exact g_iret aX11_strip_44 rfl rfl
theorem aX11_undo_0 : i_at mX11_undo.2.2.2.2.2 0 = some (.aload_n 0, 1, 0, 0, 0, 0) := by decide +kernel
theorem aX11_undo_1 : i_at mX11_undo.2.2.2.2.2 1 = some (.getfield 59, 3, 10, 6, 460, 0) := by decide +kernel
theorem aX11_undo_4 : i_at mX11_undo.2.2.2.2.2 4 = some (.getfield 114, 3, 9, 4, 355, 0) := by decide +kernel
theorem aX11_undo_7 : i_at mX11_undo.2.2.2.2.2 7 = some (.ifCond .gt 6, 3, 13, 0, 0, 0) := by decide +kernel
theorem aX11_undo_10 : i_at mX11_undo.2.2.2.2.2 10 = some (.bipush (-2), 2, 0, 0, 0, 0) := by decide +kernel
theorem aX11_undo_12 : i_at mX11_undo.2.2.2.2.2 12 = some (.ireturn, 1, 0, 0, 0, 0) := by decide +kernel
theorem aX11_undo_13 : i_at mX11_undo.2.2.2.2.2 13 = some (.aload_n 0, 1, 0, 0, 0, 0) := by decide +kernel
theorem aX11_undo_14 : i_at mX11_undo.2.2.2.2.2 14 = some (.getfield 59, 3, 10, 6, 460, 0) := by decide +kernel
theorem aX11_undo_17 : i_at mX11_undo.2.2.2.2.2 17 = some (.invokevirtual 205, 3, 88, 0, 875, 0) := by decide +kernel
theorem aX11_undo_20 : i_at mX11_undo.2.2.2.2.2 20 = some (.aload_n 0, 1, 0, 0, 0, 0) := by decide +kernel
theorem aX11_undo_21 : i_at mX11_undo.2.2.2.2.2 21 = some (.getfield 59, 3, 10, 6, 460, 0) := by decide +kernel
theorem aX11_undo_24 : i_at mX11_undo.2.2.2.2.2 24 = some (.getfield 114, 3, 9, 4, 355, 0) := by decide +kernel
theorem aX11_undo_27 : i_at mX11_undo.2.2.2.2.2 27 = some (.ireturn, 1, 0, 0, 0, 0) := by decide +kernel
noncomputable def fX11_undo (sh : List kd) (σ : St) : Option (Int32 × St) := if 0 < (σ.1 19 4) then i_bd (fX10_takeBack sh σ 19) (fun r2 s3 => some ((s3.1 19 4), s3)) else some ((-2), σ)
set_option maxRecDepth 20000 in
set_option maxHeartbeats 2000000 in
theorem tX11_undo {sh : List kd} {σ τ : St} {r : Int32} (hsh : cSh sh) (hE : fX11_undo sh σ = some (r, τ)) : i_X 3 105 [.ref 0] (s_h sh σ) 0 0 (some (.int r)) (s_h sh τ) := by
  refine g_X (M := mX11_undo) (loc := [.ref 0]) rfl (Nat.le_of_ble_eq_true rfl) rfl ?_
  unfold fX11_undo at hE
  refine g_ldan aX11_undo_0 rfl ?_
  refine g_getR aX11_undo_1 (sC_0 hsh) rfl ?_
  refine g_getI aX11_undo_4 ((wShB_19 hsh).1) rfl ?_
  by_cases hc1 : 0 < (σ.1 19 4)
  · rw [if_pos hc1] at hE
    refine g_if_gt_t aX11_undo_7 hc1 ?_
    refine g_ldan aX11_undo_13 rfl ?_
    refine g_getR aX11_undo_14 (sC_0 hsh) rfl ?_
    obtain ⟨r2, s3, h4, hE⟩ := i_bd_some hE
    refine g_calV (As := []) (rest := []) aX11_undo_17 (i_X_mono (by omega) (tX10_takeBack hsh (wShB_19 hsh) h4)) ((wShB_19 hsh).1) (by decide +kernel) rfl rfl (Nat.le_of_ble_eq_true rfl) rfl ?_
    refine g_ldan aX11_undo_20 rfl ?_
    refine g_getR aX11_undo_21 (sC_0 hsh) rfl ?_
    refine g_getI aX11_undo_24 ((wShB_19 hsh).1) rfl ?_
    obtain ⟨rfl, rfl⟩ := i_some_inj hE
    exact g_iret aX11_undo_27 rfl rfl
  · rw [if_neg hc1] at hE
    refine g_if_gt_f aX11_undo_7 hc1 ?_
    refine g_bipush (x := (-2)) aX11_undo_10 rfl ?_
    obtain ⟨rfl, rfl⟩ := i_some_inj hE
    exact g_iret aX11_undo_12 rfl rfl
theorem aX11_seed_0 : i_at mX11_seed.2.2.2.2.2 0 = some (.iload_n 1, 1, 0, 0, 0, 0) := by decide +kernel
theorem aX11_seed_1 : i_at mX11_seed.2.2.2.2.2 1 = some (.ifCond .ge 5, 3, 6, 0, 0, 0) := by decide +kernel
theorem aX11_seed_4 : i_at mX11_seed.2.2.2.2.2 4 = some (.iconst (-1), 1, 0, 0, 0, 0) := by decide +kernel
theorem aX11_seed_5 : i_at mX11_seed.2.2.2.2.2 5 = some (.ireturn, 1, 0, 0, 0, 0) := by decide +kernel
theorem aX11_seed_6 : i_at mX11_seed.2.2.2.2.2 6 = some (.aload_n 0, 1, 0, 0, 0, 0) := by decide +kernel
theorem aX11_seed_7 : i_at mX11_seed.2.2.2.2.2 7 = some (.getfield 59, 3, 10, 6, 460, 0) := by decide +kernel
theorem aX11_seed_10 : i_at mX11_seed.2.2.2.2.2 10 = some (.getfield 281, 3, 9, 9, 370, 0) := by decide +kernel
theorem aX11_seed_13 : i_at mX11_seed.2.2.2.2.2 13 = some (.istore_n 2, 1, 0, 0, 0, 0) := by decide +kernel
theorem aX11_seed_14 : i_at mX11_seed.2.2.2.2.2 14 = some (.aload_n 0, 1, 0, 0, 0, 0) := by decide +kernel
theorem aX11_seed_15 : i_at mX11_seed.2.2.2.2.2 15 = some (.getfield 59, 3, 10, 6, 460, 0) := by decide +kernel
theorem aX11_seed_18 : i_at mX11_seed.2.2.2.2.2 18 = some (.iload_n 1, 1, 0, 0, 0, 0) := by decide +kernel
theorem aX11_seed_19 : i_at mX11_seed.2.2.2.2.2 19 = some (.putfield 281, 3, 9, 9, 370, 0) := by decide +kernel
theorem aX11_seed_22 : i_at mX11_seed.2.2.2.2.2 22 = some (.iload_n 2, 1, 0, 0, 0, 0) := by decide +kernel
theorem aX11_seed_23 : i_at mX11_seed.2.2.2.2.2 23 = some (.ireturn, 1, 0, 0, 0, 0) := by decide +kernel
noncomputable def fX11_seed (sh : List kd) (σ : St) (p1 : Int32) : Option (Int32 × St) := if 0 ≤ p1 then some ((σ.1 19 9), s_F σ 19 9 p1) else some ((-1), σ)
set_option maxRecDepth 20000 in
set_option maxHeartbeats 2000000 in
theorem tX11_seed {sh : List kd} {σ τ : St} {r : Int32} (hsh : cSh sh) {p1 : Int32} (hE : fX11_seed sh σ p1 = some (r, τ)) : i_X 1 120 [.ref 0, .int p1] (s_h sh σ) 0 0 (some (.int r)) (s_h sh τ) := by
  refine g_X (M := mX11_seed) (loc := [.ref 0, .int p1, .retAddr 0]) rfl (Nat.le_of_ble_eq_true rfl) rfl ?_
  unfold fX11_seed at hE
  refine g_ldin aX11_seed_0 rfl ?_
  by_cases hc1 : 0 ≤ p1
  · rw [if_pos hc1] at hE
    refine g_if_ge_t aX11_seed_1 hc1 ?_
    refine g_ldan aX11_seed_6 rfl ?_
    refine g_getR aX11_seed_7 (sC_0 hsh) rfl ?_
    refine g_getI aX11_seed_10 ((wShB_19 hsh).1) rfl ?_
    refine g_stin (loc2 := [.ref 0, .int p1, .int (σ.1 19 9)]) aX11_seed_13 (Nat.le_of_ble_eq_true rfl) rfl ?_
    refine g_ldan aX11_seed_14 rfl ?_
    refine g_getR aX11_seed_15 (sC_0 hsh) rfl ?_
    refine g_ldin aX11_seed_18 rfl ?_
    refine g_putI aX11_seed_19 ((wShB_19 hsh).1) rfl rfl ?_
    refine g_ldin aX11_seed_22 rfl ?_
    obtain ⟨rfl, rfl⟩ := i_some_inj hE
    exact g_iret aX11_seed_23 rfl rfl
  · rw [if_neg hc1] at hE
    refine g_if_ge_f aX11_seed_1 hc1 ?_
    refine g_iconst (x := (-1)) aX11_seed_4 rfl ?_
    obtain ⟨rfl, rfl⟩ := i_some_inj hE
    exact g_iret aX11_seed_5 rfl rfl
theorem aX11_count_0 : i_at mX11_count.2.2.2.2.2 0 = some (.iload_n 1, 1, 0, 0, 0, 0) := by decide +kernel
theorem aX11_count_1 : i_at mX11_count.2.2.2.2.2 1 = some (.tableswitch 219 0 14 #[75, 86, 97, 108, 119, 124, 132, 143, 154, 165, 176, 187, 195, 203, 211], 75, 0, 0, 0, 0) := by decide +kernel
theorem aX11_count_76 : i_at mX11_count.2.2.2.2.2 76 = some (.aload_n 0, 1, 0, 0, 0, 0) := by decide +kernel
theorem aX11_count_77 : i_at mX11_count.2.2.2.2.2 77 = some (.getfield 59, 3, 10, 6, 460, 0) := by decide +kernel
theorem aX11_count_80 : i_at mX11_count.2.2.2.2.2 80 = some (.getfield 95, 3, 9, 0, 347, 0) := by decide +kernel
theorem aX11_count_83 : i_at mX11_count.2.2.2.2.2 83 = some (.getfield 149, 3, 5, 1, 158, 0) := by decide +kernel
theorem aX11_count_86 : i_at mX11_count.2.2.2.2.2 86 = some (.ireturn, 1, 0, 0, 0, 0) := by decide +kernel
theorem aX11_count_87 : i_at mX11_count.2.2.2.2.2 87 = some (.aload_n 0, 1, 0, 0, 0, 0) := by decide +kernel
theorem aX11_count_88 : i_at mX11_count.2.2.2.2.2 88 = some (.getfield 59, 3, 10, 6, 460, 0) := by decide +kernel
theorem aX11_count_91 : i_at mX11_count.2.2.2.2.2 91 = some (.getfield 95, 3, 9, 0, 347, 0) := by decide +kernel
theorem aX11_count_94 : i_at mX11_count.2.2.2.2.2 94 = some (.getfield 288, 3, 5, 2, 162, 0) := by decide +kernel
theorem aX11_count_97 : i_at mX11_count.2.2.2.2.2 97 = some (.ireturn, 1, 0, 0, 0, 0) := by decide +kernel
theorem aX11_count_98 : i_at mX11_count.2.2.2.2.2 98 = some (.aload_n 0, 1, 0, 0, 0, 0) := by decide +kernel
theorem aX11_count_99 : i_at mX11_count.2.2.2.2.2 99 = some (.getfield 59, 3, 10, 6, 460, 0) := by decide +kernel
theorem aX11_count_102 : i_at mX11_count.2.2.2.2.2 102 = some (.getfield 95, 3, 9, 0, 347, 0) := by decide +kernel
theorem aX11_count_105 : i_at mX11_count.2.2.2.2.2 105 = some (.getfield 117, 3, 5, 3, 167, 0) := by decide +kernel
theorem aX11_count_108 : i_at mX11_count.2.2.2.2.2 108 = some (.ireturn, 1, 0, 0, 0, 0) := by decide +kernel
theorem aX11_count_109 : i_at mX11_count.2.2.2.2.2 109 = some (.aload_n 0, 1, 0, 0, 0, 0) := by decide +kernel
theorem aX11_count_110 : i_at mX11_count.2.2.2.2.2 110 = some (.getfield 59, 3, 10, 6, 460, 0) := by decide +kernel
theorem aX11_count_113 : i_at mX11_count.2.2.2.2.2 113 = some (.getfield 95, 3, 9, 0, 347, 0) := by decide +kernel
theorem aX11_count_116 : i_at mX11_count.2.2.2.2.2 116 = some (.getfield 291, 3, 5, 4, 174, 0) := by decide +kernel
theorem aX11_count_119 : i_at mX11_count.2.2.2.2.2 119 = some (.ireturn, 1, 0, 0, 0, 0) := by decide +kernel
theorem aX11_count_120 : i_at mX11_count.2.2.2.2.2 120 = some (.aload_n 0, 1, 0, 0, 0, 0) := by decide +kernel
theorem aX11_count_121 : i_at mX11_count.2.2.2.2.2 121 = some (.getfield 120, 3, 10, 10, 464, 0) := by decide +kernel
theorem aX11_count_124 : i_at mX11_count.2.2.2.2.2 124 = some (.ireturn, 1, 0, 0, 0, 0) := by decide +kernel
theorem aX11_count_125 : i_at mX11_count.2.2.2.2.2 125 = some (.aload_n 0, 1, 0, 0, 0, 0) := by decide +kernel
theorem aX11_count_126 : i_at mX11_count.2.2.2.2.2 126 = some (.getfield 59, 3, 10, 6, 460, 0) := by decide +kernel
theorem aX11_count_129 : i_at mX11_count.2.2.2.2.2 129 = some (.getfield 128, 3, 9, 8, 367, 0) := by decide +kernel
theorem aX11_count_132 : i_at mX11_count.2.2.2.2.2 132 = some (.ireturn, 1, 0, 0, 0, 0) := by decide +kernel
theorem aX11_count_133 : i_at mX11_count.2.2.2.2.2 133 = some (.aload_n 0, 1, 0, 0, 0, 0) := by decide +kernel
theorem aX11_count_134 : i_at mX11_count.2.2.2.2.2 134 = some (.getfield 59, 3, 10, 6, 460, 0) := by decide +kernel
theorem aX11_count_137 : i_at mX11_count.2.2.2.2.2 137 = some (.getfield 102, 3, 9, 1, 351, 0) := by decide +kernel
theorem aX11_count_140 : i_at mX11_count.2.2.2.2.2 140 = some (.getfield 177, 3, 3, 0, 295, 0) := by decide +kernel
theorem aX11_count_143 : i_at mX11_count.2.2.2.2.2 143 = some (.ireturn, 1, 0, 0, 0, 0) := by decide +kernel
theorem aX11_count_144 : i_at mX11_count.2.2.2.2.2 144 = some (.aload_n 0, 1, 0, 0, 0, 0) := by decide +kernel
theorem aX11_count_145 : i_at mX11_count.2.2.2.2.2 145 = some (.getfield 59, 3, 10, 6, 460, 0) := by decide +kernel
theorem aX11_count_148 : i_at mX11_count.2.2.2.2.2 148 = some (.getfield 102, 3, 9, 1, 351, 0) := by decide +kernel
theorem aX11_count_151 : i_at mX11_count.2.2.2.2.2 151 = some (.getfield 294, 3, 3, 1, 300, 0) := by decide +kernel
theorem aX11_count_154 : i_at mX11_count.2.2.2.2.2 154 = some (.ireturn, 1, 0, 0, 0, 0) := by decide +kernel
theorem aX11_count_155 : i_at mX11_count.2.2.2.2.2 155 = some (.aload_n 0, 1, 0, 0, 0, 0) := by decide +kernel
theorem aX11_count_156 : i_at mX11_count.2.2.2.2.2 156 = some (.getfield 59, 3, 10, 6, 460, 0) := by decide +kernel
theorem aX11_count_159 : i_at mX11_count.2.2.2.2.2 159 = some (.getfield 102, 3, 9, 1, 351, 0) := by decide +kernel
theorem aX11_count_162 : i_at mX11_count.2.2.2.2.2 162 = some (.getfield 195, 3, 3, 2, 304, 0) := by decide +kernel
theorem aX11_count_165 : i_at mX11_count.2.2.2.2.2 165 = some (.ireturn, 1, 0, 0, 0, 0) := by decide +kernel
theorem aX11_count_166 : i_at mX11_count.2.2.2.2.2 166 = some (.aload_n 0, 1, 0, 0, 0, 0) := by decide +kernel
theorem aX11_count_167 : i_at mX11_count.2.2.2.2.2 167 = some (.getfield 59, 3, 10, 6, 460, 0) := by decide +kernel
theorem aX11_count_170 : i_at mX11_count.2.2.2.2.2 170 = some (.getfield 102, 3, 9, 1, 351, 0) := by decide +kernel
theorem aX11_count_173 : i_at mX11_count.2.2.2.2.2 173 = some (.getfield 198, 3, 3, 3, 308, 0) := by decide +kernel
theorem aX11_count_176 : i_at mX11_count.2.2.2.2.2 176 = some (.ireturn, 1, 0, 0, 0, 0) := by decide +kernel
theorem aX11_count_177 : i_at mX11_count.2.2.2.2.2 177 = some (.aload_n 0, 1, 0, 0, 0, 0) := by decide +kernel
theorem aX11_count_178 : i_at mX11_count.2.2.2.2.2 178 = some (.getfield 59, 3, 10, 6, 460, 0) := by decide +kernel
theorem aX11_count_181 : i_at mX11_count.2.2.2.2.2 181 = some (.getfield 102, 3, 9, 1, 351, 0) := by decide +kernel
theorem aX11_count_184 : i_at mX11_count.2.2.2.2.2 184 = some (.invokevirtual 297, 3, 31, 0, 1067, 0) := by decide +kernel
theorem aX11_count_187 : i_at mX11_count.2.2.2.2.2 187 = some (.ireturn, 1, 0, 0, 0, 0) := by decide +kernel
theorem aX11_count_188 : i_at mX11_count.2.2.2.2.2 188 = some (.aload_n 0, 1, 0, 0, 0, 0) := by decide +kernel
theorem aX11_count_189 : i_at mX11_count.2.2.2.2.2 189 = some (.getfield 59, 3, 10, 6, 460, 0) := by decide +kernel
theorem aX11_count_192 : i_at mX11_count.2.2.2.2.2 192 = some (.getfield 111, 3, 9, 7, 363, 0) := by decide +kernel
theorem aX11_count_195 : i_at mX11_count.2.2.2.2.2 195 = some (.ireturn, 1, 0, 0, 0, 0) := by decide +kernel
theorem aX11_count_196 : i_at mX11_count.2.2.2.2.2 196 = some (.aload_n 0, 1, 0, 0, 0, 0) := by decide +kernel
theorem aX11_count_197 : i_at mX11_count.2.2.2.2.2 197 = some (.getfield 59, 3, 10, 6, 460, 0) := by decide +kernel
theorem aX11_count_200 : i_at mX11_count.2.2.2.2.2 200 = some (.getfield 114, 3, 9, 4, 355, 0) := by decide +kernel
theorem aX11_count_203 : i_at mX11_count.2.2.2.2.2 203 = some (.ireturn, 1, 0, 0, 0, 0) := by decide +kernel
theorem aX11_count_204 : i_at mX11_count.2.2.2.2.2 204 = some (.aload_n 0, 1, 0, 0, 0, 0) := by decide +kernel
theorem aX11_count_205 : i_at mX11_count.2.2.2.2.2 205 = some (.getfield 59, 3, 10, 6, 460, 0) := by decide +kernel
theorem aX11_count_208 : i_at mX11_count.2.2.2.2.2 208 = some (.getfield 281, 3, 9, 9, 370, 0) := by decide +kernel
theorem aX11_count_211 : i_at mX11_count.2.2.2.2.2 211 = some (.ireturn, 1, 0, 0, 0, 0) := by decide +kernel
theorem aX11_count_212 : i_at mX11_count.2.2.2.2.2 212 = some (.aload_n 0, 1, 0, 0, 0, 0) := by decide +kernel
theorem aX11_count_213 : i_at mX11_count.2.2.2.2.2 213 = some (.getfield 10, 3, 10, 0, 454, 0) := by decide +kernel
theorem aX11_count_216 : i_at mX11_count.2.2.2.2.2 216 = some (.getfield 83, 3, 8, 1, 128, 0) := by decide +kernel
theorem aX11_count_219 : i_at mX11_count.2.2.2.2.2 219 = some (.ireturn, 1, 0, 0, 0, 0) := by decide +kernel
theorem aX11_count_220 : i_at mX11_count.2.2.2.2.2 220 = some (.iconst (-1), 1, 0, 0, 0, 0) := by decide +kernel
theorem aX11_count_221 : i_at mX11_count.2.2.2.2.2 221 = some (.ireturn, 1, 0, 0, 0, 0) := by decide +kernel
noncomputable def fX11_count (sh : List kd) (σ : St) (p1 : Int32) : Option (Int32 × St) := if p1 = 0 then some ((σ.1 20 1), σ) else if p1 = 1 then some ((σ.1 20 2), σ) else if p1 = 2 then some ((σ.1 20 3), σ) else if p1 = 3 then some ((σ.1 20 4), σ) else if p1 = 4 then some ((σ.1 0 10), σ) else if p1 = 5 then some ((σ.1 19 8), σ) else if p1 = 6 then some ((σ.1 26 0), σ) else if p1 = 7 then some ((σ.1 26 1), σ) else if p1 = 8 then some ((σ.1 26 2), σ) else if p1 = 9 then some ((σ.1 26 3), σ) else if p1 = 10 then i_bd (fX4_knights sh σ 26) (fun r12 s13 => some (r12, s13)) else if p1 = 11 then some ((σ.1 19 7), σ) else if p1 = 12 then some ((σ.1 19 4), σ) else if p1 = 13 then some ((σ.1 19 9), σ) else if p1 = 14 then some ((σ.1 1 1), σ) else some ((-1), σ)
set_option maxRecDepth 20000 in
set_option maxHeartbeats 2000000 in
theorem tX11_count {sh : List kd} {σ τ : St} {r : Int32} (hsh : cSh sh) {p1 : Int32} (hE : fX11_count sh σ p1 = some (r, τ)) : i_X 2 122 [.ref 0, .int p1] (s_h sh σ) 0 0 (some (.int r)) (s_h sh τ) := by
  refine g_X (M := mX11_count) (loc := [.ref 0, .int p1]) rfl (Nat.le_of_ble_eq_true rfl) rfl ?_
  unfold fX11_count at hE
  refine g_ldin aX11_count_0 rfl ?_
  by_cases hc1 : p1 = 0
  · rw [if_pos hc1] at hE
    refine g_tabIn (i := 0) aX11_count_1 (by rw [hc1]; decide) (by decide) rfl rfl ?_
    refine g_ldan aX11_count_76 rfl ?_
    refine g_getR aX11_count_77 (sC_0 hsh) rfl ?_
    refine g_getR aX11_count_80 ((wShB_19 hsh).1) rfl ?_
    refine g_getI aX11_count_83 ((rShB_20 hsh).1) rfl ?_
    obtain ⟨rfl, rfl⟩ := i_some_inj hE
    exact g_iret aX11_count_86 rfl rfl
  · rw [if_neg hc1] at hE
    by_cases hc2 : p1 = 1
    · rw [if_pos hc2] at hE
      refine g_tabIn (i := 1) aX11_count_1 (by rw [hc2]; decide) (by decide) rfl rfl ?_
      refine g_ldan aX11_count_87 rfl ?_
      refine g_getR aX11_count_88 (sC_0 hsh) rfl ?_
      refine g_getR aX11_count_91 ((wShB_19 hsh).1) rfl ?_
      refine g_getI aX11_count_94 ((rShB_20 hsh).1) rfl ?_
      obtain ⟨rfl, rfl⟩ := i_some_inj hE
      exact g_iret aX11_count_97 rfl rfl
    · rw [if_neg hc2] at hE
      by_cases hc3 : p1 = 2
      · rw [if_pos hc3] at hE
        refine g_tabIn (i := 2) aX11_count_1 (by rw [hc3]; decide) (by decide) rfl rfl ?_
        refine g_ldan aX11_count_98 rfl ?_
        refine g_getR aX11_count_99 (sC_0 hsh) rfl ?_
        refine g_getR aX11_count_102 ((wShB_19 hsh).1) rfl ?_
        refine g_getI aX11_count_105 ((rShB_20 hsh).1) rfl ?_
        obtain ⟨rfl, rfl⟩ := i_some_inj hE
        exact g_iret aX11_count_108 rfl rfl
      · rw [if_neg hc3] at hE
        by_cases hc4 : p1 = 3
        · rw [if_pos hc4] at hE
          refine g_tabIn (i := 3) aX11_count_1 (by rw [hc4]; decide) (by decide) rfl rfl ?_
          refine g_ldan aX11_count_109 rfl ?_
          refine g_getR aX11_count_110 (sC_0 hsh) rfl ?_
          refine g_getR aX11_count_113 ((wShB_19 hsh).1) rfl ?_
          refine g_getI aX11_count_116 ((rShB_20 hsh).1) rfl ?_
          obtain ⟨rfl, rfl⟩ := i_some_inj hE
          exact g_iret aX11_count_119 rfl rfl
        · rw [if_neg hc4] at hE
          by_cases hc5 : p1 = 4
          · rw [if_pos hc5] at hE
            refine g_tabIn (i := 4) aX11_count_1 (by rw [hc5]; decide) (by decide) rfl rfl ?_
            refine g_ldan aX11_count_120 rfl ?_
            refine g_getI aX11_count_121 (sC_0 hsh) rfl ?_
            obtain ⟨rfl, rfl⟩ := i_some_inj hE
            exact g_iret aX11_count_124 rfl rfl
          · rw [if_neg hc5] at hE
            by_cases hc6 : p1 = 5
            · rw [if_pos hc6] at hE
              refine g_tabIn (i := 5) aX11_count_1 (by rw [hc6]; decide) (by decide) rfl rfl ?_
              refine g_ldan aX11_count_125 rfl ?_
              refine g_getR aX11_count_126 (sC_0 hsh) rfl ?_
              refine g_getI aX11_count_129 ((wShB_19 hsh).1) rfl ?_
              obtain ⟨rfl, rfl⟩ := i_some_inj hE
              exact g_iret aX11_count_132 rfl rfl
            · rw [if_neg hc6] at hE
              by_cases hc7 : p1 = 6
              · rw [if_pos hc7] at hE
                refine g_tabIn (i := 6) aX11_count_1 (by rw [hc7]; decide) (by decide) rfl rfl ?_
                refine g_ldan aX11_count_133 rfl ?_
                refine g_getR aX11_count_134 (sC_0 hsh) rfl ?_
                refine g_getR aX11_count_137 ((wShB_19 hsh).1) rfl ?_
                refine g_getI aX11_count_140 ((lShB_26 hsh).1) rfl ?_
                obtain ⟨rfl, rfl⟩ := i_some_inj hE
                exact g_iret aX11_count_143 rfl rfl
              · rw [if_neg hc7] at hE
                by_cases hc8 : p1 = 7
                · rw [if_pos hc8] at hE
                  refine g_tabIn (i := 7) aX11_count_1 (by rw [hc8]; decide) (by decide) rfl rfl ?_
                  refine g_ldan aX11_count_144 rfl ?_
                  refine g_getR aX11_count_145 (sC_0 hsh) rfl ?_
                  refine g_getR aX11_count_148 ((wShB_19 hsh).1) rfl ?_
                  refine g_getI aX11_count_151 ((lShB_26 hsh).1) rfl ?_
                  obtain ⟨rfl, rfl⟩ := i_some_inj hE
                  exact g_iret aX11_count_154 rfl rfl
                · rw [if_neg hc8] at hE
                  by_cases hc9 : p1 = 8
                  · rw [if_pos hc9] at hE
                    refine g_tabIn (i := 8) aX11_count_1 (by rw [hc9]; decide) (by decide) rfl rfl ?_
                    refine g_ldan aX11_count_155 rfl ?_
                    refine g_getR aX11_count_156 (sC_0 hsh) rfl ?_
                    refine g_getR aX11_count_159 ((wShB_19 hsh).1) rfl ?_
                    refine g_getI aX11_count_162 ((lShB_26 hsh).1) rfl ?_
                    obtain ⟨rfl, rfl⟩ := i_some_inj hE
                    exact g_iret aX11_count_165 rfl rfl
                  · rw [if_neg hc9] at hE
                    by_cases hc10 : p1 = 9
                    · rw [if_pos hc10] at hE
                      refine g_tabIn (i := 9) aX11_count_1 (by rw [hc10]; decide) (by decide) rfl rfl ?_
                      refine g_ldan aX11_count_166 rfl ?_
                      refine g_getR aX11_count_167 (sC_0 hsh) rfl ?_
                      refine g_getR aX11_count_170 ((wShB_19 hsh).1) rfl ?_
                      refine g_getI aX11_count_173 ((lShB_26 hsh).1) rfl ?_
                      obtain ⟨rfl, rfl⟩ := i_some_inj hE
                      exact g_iret aX11_count_176 rfl rfl
                    · rw [if_neg hc10] at hE
                      by_cases hc11 : p1 = 10
                      · rw [if_pos hc11] at hE
                        refine g_tabIn (i := 10) aX11_count_1 (by rw [hc11]; decide) (by decide) rfl rfl ?_
                        refine g_ldan aX11_count_177 rfl ?_
                        refine g_getR aX11_count_178 (sC_0 hsh) rfl ?_
                        refine g_getR aX11_count_181 ((wShB_19 hsh).1) rfl ?_
                        obtain ⟨r12, s13, h14, hE⟩ := i_bd_some hE
                        refine g_calV (As := []) (rest := []) aX11_count_184 (i_X_mono (by omega) (tX4_knights hsh (lShB_26 hsh) h14)) ((lShB_26 hsh).1) (by decide +kernel) rfl rfl (Nat.le_of_ble_eq_true rfl) rfl ?_
                        obtain ⟨rfl, rfl⟩ := i_some_inj hE
                        exact g_iret aX11_count_187 rfl rfl
                      · rw [if_neg hc11] at hE
                        by_cases hc15 : p1 = 11
                        · rw [if_pos hc15] at hE
                          refine g_tabIn (i := 11) aX11_count_1 (by rw [hc15]; decide) (by decide) rfl rfl ?_
                          refine g_ldan aX11_count_188 rfl ?_
                          refine g_getR aX11_count_189 (sC_0 hsh) rfl ?_
                          refine g_getI aX11_count_192 ((wShB_19 hsh).1) rfl ?_
                          obtain ⟨rfl, rfl⟩ := i_some_inj hE
                          exact g_iret aX11_count_195 rfl rfl
                        · rw [if_neg hc15] at hE
                          by_cases hc16 : p1 = 12
                          · rw [if_pos hc16] at hE
                            refine g_tabIn (i := 12) aX11_count_1 (by rw [hc16]; decide) (by decide) rfl rfl ?_
                            refine g_ldan aX11_count_196 rfl ?_
                            refine g_getR aX11_count_197 (sC_0 hsh) rfl ?_
                            refine g_getI aX11_count_200 ((wShB_19 hsh).1) rfl ?_
                            obtain ⟨rfl, rfl⟩ := i_some_inj hE
                            exact g_iret aX11_count_203 rfl rfl
                          · rw [if_neg hc16] at hE
                            by_cases hc17 : p1 = 13
                            · rw [if_pos hc17] at hE
                              refine g_tabIn (i := 13) aX11_count_1 (by rw [hc17]; decide) (by decide) rfl rfl ?_
                              refine g_ldan aX11_count_204 rfl ?_
                              refine g_getR aX11_count_205 (sC_0 hsh) rfl ?_
                              refine g_getI aX11_count_208 ((wShB_19 hsh).1) rfl ?_
                              obtain ⟨rfl, rfl⟩ := i_some_inj hE
                              exact g_iret aX11_count_211 rfl rfl
                            · rw [if_neg hc17] at hE
                              by_cases hc18 : p1 = 14
                              · rw [if_pos hc18] at hE
                                refine g_tabIn (i := 14) aX11_count_1 (by rw [hc18]; decide) (by decide) rfl rfl ?_
                                refine g_ldan aX11_count_212 rfl ?_
                                refine g_getR aX11_count_213 (sC_0 hsh) rfl ?_
                                refine g_getI aX11_count_216 (sC_1 hsh) rfl ?_
                                obtain ⟨rfl, rfl⟩ := i_some_inj hE
                                exact g_iret aX11_count_219 rfl rfl
                              · rw [if_neg hc18] at hE
                                have hto19 : p1.toInt < ((0 : Nat) : Int) ∨ ((14 : Nat) : Int) < p1.toInt := by
                                  refine i_tabo (x := p1) 0 14 (by decide) (fun k k1 k2 => ?_)
                                  rcases (show k = 0 ∨ k = 1 ∨ k = 2 ∨ k = 3 ∨ k = 4 ∨ k = 5 ∨ k = 6 ∨ k = 7 ∨ k = 8 ∨ k = 9 ∨ k = 10 ∨ k = 11 ∨ k = 12 ∨ k = 13 ∨ k = 14 by omega) with rfl | rfl | rfl | rfl | rfl | rfl | rfl | rfl | rfl | rfl | rfl | rfl | rfl | rfl | rfl
                                  · exact fun hz => hc1 hz
                                  · exact fun hz => hc2 hz
                                  · exact fun hz => hc3 hz
                                  · exact fun hz => hc4 hz
                                  · exact fun hz => hc5 hz
                                  · exact fun hz => hc6 hz
                                  · exact fun hz => hc7 hz
                                  · exact fun hz => hc8 hz
                                  · exact fun hz => hc9 hz
                                  · exact fun hz => hc10 hz
                                  · exact fun hz => hc11 hz
                                  · exact fun hz => hc15 hz
                                  · exact fun hz => hc16 hz
                                  · exact fun hz => hc17 hz
                                  · exact fun hz => hc18 hz
                                refine g_tabOut aX11_count_1 hto19 rfl ?_
                                refine g_iconst (x := (-1)) aX11_count_220 rfl ?_
                                obtain ⟨rfl, rfl⟩ := i_some_inj hE
                                exact g_iret aX11_count_221 rfl rfl
theorem aX11_isWithin_0 : i_at mX11_isWithin.2.2.2.2.2 0 = some (.iload_n 0, 1, 0, 0, 0, 0) := by decide +kernel
theorem aX11_isWithin_1 : i_at mX11_isWithin.2.2.2.2.2 1 = some (.iload_n 1, 1, 0, 0, 0, 0) := by decide +kernel
theorem aX11_isWithin_2 : i_at mX11_isWithin.2.2.2.2.2 2 = some (.if_icmp .lt 12, 3, 14, 0, 0, 0) := by decide +kernel
theorem aX11_isWithin_5 : i_at mX11_isWithin.2.2.2.2.2 5 = some (.iload_n 0, 1, 0, 0, 0, 0) := by decide +kernel
theorem aX11_isWithin_6 : i_at mX11_isWithin.2.2.2.2.2 6 = some (.iload_n 2, 1, 0, 0, 0, 0) := by decide +kernel
theorem aX11_isWithin_7 : i_at mX11_isWithin.2.2.2.2.2 7 = some (.if_icmp .gt 7, 3, 14, 0, 0, 0) := by decide +kernel
theorem aX11_isWithin_10 : i_at mX11_isWithin.2.2.2.2.2 10 = some (.iconst 1, 1, 0, 0, 0, 0) := by decide +kernel
theorem aX11_isWithin_11 : i_at mX11_isWithin.2.2.2.2.2 11 = some (.goto 4, 3, 15, 0, 0, 0) := by decide +kernel
theorem aX11_isWithin_14 : i_at mX11_isWithin.2.2.2.2.2 14 = some (.iconst 0, 1, 0, 0, 0, 0) := by decide +kernel
theorem aX11_isWithin_15 : i_at mX11_isWithin.2.2.2.2.2 15 = some (.ireturn, 1, 0, 0, 0, 0) := by decide +kernel
noncomputable def fX11_isWithin (sh : List kd) (σ : St) (p0 : Int32) (p1 : Int32) (p2 : Int32) : Option (Int32 × St) := if (((if p0 < p1 then 0 else (if p2 < p0 then 0 else 1)) : Int32) : Int32) &&& 1 = ((if p0 < p1 then 0 else (if p2 < p0 then 0 else 1)) : Int32) then some (((if p0 < p1 then 0 else (if p2 < p0 then 0 else 1)) : Int32), σ) else none
set_option maxRecDepth 20000 in
set_option maxHeartbeats 2000000 in
theorem tX11_isWithin {sh : List kd} {σ τ : St} {r : Int32} (hsh : cSh sh) {p0 : Int32} {p1 : Int32} {p2 : Int32} (hE : fX11_isWithin sh σ p0 p1 p2 = some (r, τ)) : i_X 1 125 [.int p0, .int p1, .int p2] (s_h sh σ) 0 0 (some (.int r)) (s_h sh τ) := by
  refine g_X (M := mX11_isWithin) (loc := [.int p0, .int p1, .int p2]) rfl (Nat.le_of_ble_eq_true rfl) rfl ?_
  unfold fX11_isWithin at hE
  refine g_ldin aX11_isWithin_0 rfl ?_
  refine g_ldin aX11_isWithin_1 rfl ?_
  have hJ : g_R sh 0 mX11_isWithin (some (.int r)) τ 15 [.int p0, .int p1, .int p2] [.int ((if p0 < p1 then 0 else (if p2 < p0 then 0 else 1)) : Int32)] (σ) := by
    obtain ⟨h1, hE⟩ := i_ifn hE
    obtain ⟨rfl, rfl⟩ := i_some_inj hE
    exact g_iret aX11_isWithin_15 rfl (congrArg Value.int h1)
  clear hE
  by_cases hc1 : p0 < p1
  · (try rw [if_pos hc1] at hJ)
    refine g_ic_lt_t aX11_isWithin_2 hc1 ?_
    refine g_iconst (x := 0) aX11_isWithin_14 rfl ?_
    exact hJ
  · (try rw [if_neg hc1] at hJ)
    refine g_ic_lt_f aX11_isWithin_2 hc1 ?_
    refine g_ldin aX11_isWithin_5 rfl ?_
    refine g_ldin aX11_isWithin_6 rfl ?_
    by_cases hc2 : p2 < p0
    · (try rw [if_pos hc2] at hJ)
      refine g_ic_gt_t aX11_isWithin_7 hc2 ?_
      refine g_iconst (x := 0) aX11_isWithin_14 rfl ?_
      exact hJ
    · (try rw [if_neg hc2] at hJ)
      refine g_ic_gt_f aX11_isWithin_7 hc2 ?_
      refine g_iconst (x := 1) aX11_isWithin_10 rfl ?_
      refine g_goto aX11_isWithin_11 ?_
      exact hJ
theorem aX12_in_0 : i_at mX12_in.2.2.2.2.2 0 = some (.lload_n 0, 1, 0, 0, 0, 0) := by decide +kernel
theorem aX12_in_1 : i_at mX12_in.2.2.2.2.2 1 = some (.lload_n 2, 1, 0, 0, 0, 0) := by decide +kernel
theorem aX12_in_2 : i_at mX12_in.2.2.2.2.2 2 = some (.lcmp, 1, 0, 0, 0, 0) := by decide +kernel
theorem aX12_in_3 : i_at mX12_in.2.2.2.2.2 3 = some (.ifCond .lt 14, 3, 17, 0, 0, 0) := by decide +kernel
theorem aX12_in_6 : i_at mX12_in.2.2.2.2.2 6 = some (.lload_n 0, 1, 0, 0, 0, 0) := by decide +kernel
theorem aX12_in_7 : i_at mX12_in.2.2.2.2.2 7 = some (.lload 4, 2, 0, 0, 0, 0) := by decide +kernel
theorem aX12_in_9 : i_at mX12_in.2.2.2.2.2 9 = some (.lcmp, 1, 0, 0, 0, 0) := by decide +kernel
theorem aX12_in_10 : i_at mX12_in.2.2.2.2.2 10 = some (.ifCond .gt 7, 3, 17, 0, 0, 0) := by decide +kernel
theorem aX12_in_13 : i_at mX12_in.2.2.2.2.2 13 = some (.iconst 1, 1, 0, 0, 0, 0) := by decide +kernel
theorem aX12_in_14 : i_at mX12_in.2.2.2.2.2 14 = some (.goto 4, 3, 18, 0, 0, 0) := by decide +kernel
theorem aX12_in_17 : i_at mX12_in.2.2.2.2.2 17 = some (.iconst 0, 1, 0, 0, 0, 0) := by decide +kernel
theorem aX12_in_18 : i_at mX12_in.2.2.2.2.2 18 = some (.ireturn, 1, 0, 0, 0, 0) := by decide +kernel
noncomputable def fX12_in (sh : List kd) (σ : St) (p0 : Int64) (p1 : Int64) (p2 : Int64) : Option (Int32 × St) := if (((if (lg_cmp p0 p1) < 0 then 0 else (if 0 < (lg_cmp p0 p2) then 0 else 1)) : Int32) : Int32) &&& 1 = ((if (lg_cmp p0 p1) < 0 then 0 else (if 0 < (lg_cmp p0 p2) then 0 else 1)) : Int32) then some (((if (lg_cmp p0 p1) < 0 then 0 else (if 0 < (lg_cmp p0 p2) then 0 else 1)) : Int32), σ) else none
set_option maxRecDepth 20000 in
set_option maxHeartbeats 2000000 in
theorem tX12_in {sh : List kd} {σ τ : St} {r : Int32} (hsh : rmSh sh) {p0 : Int64} {p1 : Int64} {p2 : Int64} (hE : fX12_in sh σ p0 p1 p2 = some (r, τ)) : i_X 1 127 [.long p0, .long p1, .long p2] (s_h sh σ) 0 0 (some (.int r)) (s_h sh τ) := by
  refine g_X (M := mX12_in) (loc := [.long p0, .retAddr 0, .long p1, .retAddr 0, .long p2, .retAddr 0]) rfl (Nat.le_of_ble_eq_true rfl) rfl ?_
  unfold fX12_in at hE
  refine g_ldln aX12_in_0 rfl ?_
  refine g_ldln aX12_in_1 rfl ?_
  refine g_lcmp aX12_in_2 ?_
  have hJ : g_R sh 0 mX12_in (some (.int r)) τ 18 [.long p0, .retAddr 0, .long p1, .retAddr 0, .long p2, .retAddr 0] [.int ((if (lg_cmp p0 p1) < 0 then 0 else (if 0 < (lg_cmp p0 p2) then 0 else 1)) : Int32)] (σ) := by
    obtain ⟨h1, hE⟩ := i_ifn hE
    obtain ⟨rfl, rfl⟩ := i_some_inj hE
    exact g_iret aX12_in_18 rfl (congrArg Value.int h1)
  clear hE
  by_cases hc1 : (lg_cmp p0 p1) < 0
  · (try rw [if_pos hc1] at hJ)
    refine g_if_lt_t aX12_in_3 hc1 ?_
    refine g_iconst (x := 0) aX12_in_17 rfl ?_
    exact hJ
  · (try rw [if_neg hc1] at hJ)
    refine g_if_lt_f aX12_in_3 hc1 ?_
    refine g_ldln aX12_in_6 rfl ?_
    refine g_ldl aX12_in_7 rfl ?_
    refine g_lcmp aX12_in_9 ?_
    by_cases hc2 : 0 < (lg_cmp p0 p2)
    · (try rw [if_pos hc2] at hJ)
      refine g_if_gt_t aX12_in_10 hc2 ?_
      refine g_iconst (x := 0) aX12_in_17 rfl ?_
      exact hJ
    · (try rw [if_neg hc2] at hJ)
      refine g_if_gt_f aX12_in_10 hc2 ?_
      refine g_iconst (x := 1) aX12_in_13 rfl ?_
      refine g_goto aX12_in_14 ?_
      exact hJ
theorem aX12_bits_0 : i_at mX12_bits.2.2.2.2.2 0 = some (.iconst 0, 1, 0, 0, 0, 0) := by decide +kernel
theorem aX12_bits_1 : i_at mX12_bits.2.2.2.2.2 1 = some (.istore_n 1, 1, 0, 0, 0, 0) := by decide +kernel
theorem aX12_bits_2 : i_at mX12_bits.2.2.2.2.2 2 = some (.iconst 0, 1, 0, 0, 0, 0) := by decide +kernel
theorem aX12_bits_3 : i_at mX12_bits.2.2.2.2.2 3 = some (.istore_n 2, 1, 0, 0, 0, 0) := by decide +kernel
theorem aX12_bits_4 : i_at mX12_bits.2.2.2.2.2 4 = some (.iload_n 2, 1, 0, 0, 0, 0) := by decide +kernel
theorem aX12_bits_5 : i_at mX12_bits.2.2.2.2.2 5 = some (.bipush 16, 2, 0, 0, 0, 0) := by decide +kernel
theorem aX12_bits_7 : i_at mX12_bits.2.2.2.2.2 7 = some (.if_icmp .ge 17, 3, 24, 0, 0, 0) := by decide +kernel
theorem aX12_bits_10 : i_at mX12_bits.2.2.2.2.2 10 = some (.iload_n 1, 1, 0, 0, 0, 0) := by decide +kernel
theorem aX12_bits_11 : i_at mX12_bits.2.2.2.2.2 11 = some (.iload_n 0, 1, 0, 0, 0, 0) := by decide +kernel
theorem aX12_bits_12 : i_at mX12_bits.2.2.2.2.2 12 = some (.iload_n 2, 1, 0, 0, 0, 0) := by decide +kernel
theorem aX12_bits_13 : i_at mX12_bits.2.2.2.2.2 13 = some (.ishr, 1, 0, 0, 0, 0) := by decide +kernel
theorem aX12_bits_14 : i_at mX12_bits.2.2.2.2.2 14 = some (.iconst 1, 1, 0, 0, 0, 0) := by decide +kernel
theorem aX12_bits_15 : i_at mX12_bits.2.2.2.2.2 15 = some (.iand, 1, 0, 0, 0, 0) := by decide +kernel
theorem aX12_bits_16 : i_at mX12_bits.2.2.2.2.2 16 = some (.iadd, 1, 0, 0, 0, 0) := by decide +kernel
theorem aX12_bits_17 : i_at mX12_bits.2.2.2.2.2 17 = some (.istore_n 1, 1, 0, 0, 0, 0) := by decide +kernel
theorem aX12_bits_18 : i_at mX12_bits.2.2.2.2.2 18 = some (.iinc 2 1, 3, 0, 0, 0, 0) := by decide +kernel
theorem aX12_bits_21 : i_at mX12_bits.2.2.2.2.2 21 = some (.goto (-17), 3, 4, 0, 0, 0) := by decide +kernel
theorem aX12_bits_24 : i_at mX12_bits.2.2.2.2.2 24 = some (.iload_n 1, 1, 0, 0, 0, 0) := by decide +kernel
theorem aX12_bits_25 : i_at mX12_bits.2.2.2.2.2 25 = some (.ireturn, 1, 0, 0, 0, 0) := by decide +kernel
noncomputable def fX12_bits_L4 (sh : List kd) (p0 : Int32) (σ : St) : Nat → Int32 → Int32 → Option (Int32 × St)
  | 0, _, _ => none
  | n3 + 1, x1, x2 => if 16 ≤ x2 then some (x1, σ) else (fX12_bits_L4 sh p0 σ n3 (x1 + ((p0 >>> (x2 &&& 31)) &&& 1)) (x2 + 1))
noncomputable def fX12_bits (sh : List kd) (σ : St) (p0 : Int32) : Option (Int32 × St) := fX12_bits_L4 sh p0 σ i_F 0 0
set_option maxRecDepth 20000 in
set_option maxHeartbeats 2000000 in
theorem tX12_bits_L4 {sh : List kd} {τ : St} {r : Int32} (hsh : rmSh sh) {p0 : Int32} {σ : St} : ∀ (n0 : Nat) (x1 : Int32) (x2 : Int32), fX12_bits_L4 sh p0 σ n0 x1 x2 = some (r, τ) → g_R sh 0 mX12_bits (some (.int r)) τ 4 [.int p0, .int x1, .int x2] [] (σ) := by
  intro n0
  induction n0 with
  | zero => intro _ _ hE; cases hE
  | succ n3 ih =>
    intro x1 x2 hE
    unfold fX12_bits_L4 at hE
    refine g_ldin aX12_bits_4 rfl ?_
    refine g_bipush (x := 16) aX12_bits_5 rfl ?_
    by_cases hc54 : 16 ≤ x2
    · rw [if_pos hc54] at hE
      refine g_ic_ge_t aX12_bits_7 hc54 ?_
      refine g_ldin aX12_bits_24 rfl ?_
      obtain ⟨rfl, rfl⟩ := i_some_inj hE
      exact g_iret aX12_bits_25 rfl rfl
    · rw [if_neg hc54] at hE
      refine g_ic_ge_f aX12_bits_7 hc54 ?_
      refine g_ldin aX12_bits_10 rfl ?_
      refine g_ldin aX12_bits_11 rfl ?_
      refine g_ldin aX12_bits_12 rfl ?_
      refine g_ishr aX12_bits_13 ?_
      refine g_iconst (x := 1) aX12_bits_14 rfl ?_
      refine g_iand aX12_bits_15 ?_
      refine g_iadd aX12_bits_16 ?_
      refine g_stin (loc2 := [.int p0, .int (x1 + ((p0 >>> (x2 &&& 31)) &&& 1)), .int x2]) aX12_bits_17 (Nat.le_of_ble_eq_true rfl) rfl ?_
      refine g_iinc (y := 1) (loc2 := [.int p0, .int (x1 + ((p0 >>> (x2 &&& 31)) &&& 1)), .int (x2 + 1)]) aX12_bits_18 rfl rfl rfl ?_
      refine g_goto aX12_bits_21 ?_
      exact ih _ _ hE
set_option maxRecDepth 20000 in
set_option maxHeartbeats 2000000 in
theorem tX12_bits {sh : List kd} {σ τ : St} {r : Int32} (hsh : rmSh sh) {p0 : Int32} (hE : fX12_bits sh σ p0 = some (r, τ)) : i_X 1 128 [.int p0] (s_h sh σ) 0 0 (some (.int r)) (s_h sh τ) := by
  refine g_X (M := mX12_bits) (loc := [.int p0, .retAddr 0, .retAddr 0]) rfl (Nat.le_of_ble_eq_true rfl) rfl ?_
  unfold fX12_bits at hE
  refine g_iconst (x := 0) aX12_bits_0 rfl ?_
  refine g_stin (loc2 := [.int p0, .int 0, .retAddr 0]) aX12_bits_1 (Nat.le_of_ble_eq_true rfl) rfl ?_
  refine g_iconst (x := 0) aX12_bits_2 rfl ?_
  refine g_stin (loc2 := [.int p0, .int 0, .int 0]) aX12_bits_3 (Nat.le_of_ble_eq_true rfl) rfl ?_
  exact tX12_bits_L4 hsh i_F _ _ hE
theorem aX12_has_0 : i_at mX12_has.2.2.2.2.2 0 = some (.iload_n 0, 1, 0, 0, 0, 0) := by decide +kernel
theorem aX12_has_1 : i_at mX12_has.2.2.2.2.2 1 = some (.iload_n 1, 1, 0, 0, 0, 0) := by decide +kernel
theorem aX12_has_2 : i_at mX12_has.2.2.2.2.2 2 = some (.ishr, 1, 0, 0, 0, 0) := by decide +kernel
theorem aX12_has_3 : i_at mX12_has.2.2.2.2.2 3 = some (.iconst 1, 1, 0, 0, 0, 0) := by decide +kernel
theorem aX12_has_4 : i_at mX12_has.2.2.2.2.2 4 = some (.iand, 1, 0, 0, 0, 0) := by decide +kernel
theorem aX12_has_5 : i_at mX12_has.2.2.2.2.2 5 = some (.iconst 1, 1, 0, 0, 0, 0) := by decide +kernel
theorem aX12_has_6 : i_at mX12_has.2.2.2.2.2 6 = some (.if_icmp .ne 7, 3, 13, 0, 0, 0) := by decide +kernel
theorem aX12_has_9 : i_at mX12_has.2.2.2.2.2 9 = some (.iconst 1, 1, 0, 0, 0, 0) := by decide +kernel
theorem aX12_has_10 : i_at mX12_has.2.2.2.2.2 10 = some (.goto 4, 3, 14, 0, 0, 0) := by decide +kernel
theorem aX12_has_13 : i_at mX12_has.2.2.2.2.2 13 = some (.iconst 0, 1, 0, 0, 0, 0) := by decide +kernel
theorem aX12_has_14 : i_at mX12_has.2.2.2.2.2 14 = some (.ireturn, 1, 0, 0, 0, 0) := by decide +kernel
noncomputable def fX12_has (sh : List kd) (σ : St) (p0 : Int32) (p1 : Int32) : Option (Int32 × St) := if (((if ¬ ((p0 >>> (p1 &&& 31)) &&& 1) = 1 then 0 else 1) : Int32) : Int32) &&& 1 = ((if ¬ ((p0 >>> (p1 &&& 31)) &&& 1) = 1 then 0 else 1) : Int32) then some (((if ¬ ((p0 >>> (p1 &&& 31)) &&& 1) = 1 then 0 else 1) : Int32), σ) else none
set_option maxRecDepth 20000 in
set_option maxHeartbeats 2000000 in
theorem tX12_has {sh : List kd} {σ τ : St} {r : Int32} (hsh : rmSh sh) {p0 : Int32} {p1 : Int32} (hE : fX12_has sh σ p0 p1 = some (r, τ)) : i_X 1 129 [.int p0, .int p1] (s_h sh σ) 0 0 (some (.int r)) (s_h sh τ) := by
  refine g_X (M := mX12_has) (loc := [.int p0, .int p1]) rfl (Nat.le_of_ble_eq_true rfl) rfl ?_
  unfold fX12_has at hE
  refine g_ldin aX12_has_0 rfl ?_
  refine g_ldin aX12_has_1 rfl ?_
  refine g_ishr aX12_has_2 ?_
  refine g_iconst (x := 1) aX12_has_3 rfl ?_
  refine g_iand aX12_has_4 ?_
  refine g_iconst (x := 1) aX12_has_5 rfl ?_
  have hJ : g_R sh 0 mX12_has (some (.int r)) τ 14 [.int p0, .int p1] [.int ((if ¬ ((p0 >>> (p1 &&& 31)) &&& 1) = 1 then 0 else 1) : Int32)] (σ) := by
    obtain ⟨h1, hE⟩ := i_ifn hE
    obtain ⟨rfl, rfl⟩ := i_some_inj hE
    exact g_iret aX12_has_14 rfl (congrArg Value.int h1)
  clear hE
  by_cases hc1 : ¬ ((p0 >>> (p1 &&& 31)) &&& 1) = 1
  · (try rw [if_pos hc1] at hJ)
    refine g_ic_ne_t aX12_has_6 hc1 ?_
    refine g_iconst (x := 0) aX12_has_13 rfl ?_
    exact hJ
  · (try rw [if_neg hc1] at hJ)
    refine g_ic_ne_f aX12_has_6 hc1 ?_
    refine g_iconst (x := 1) aX12_has_9 rfl ?_
    refine g_goto aX12_has_10 ?_
    exact hJ
theorem aX12_isCourt_0 : i_at mX12_isCourt.2.2.2.2.2 0 = some (.aload_n 0, 1, 0, 0, 0, 0) := by decide +kernel
theorem aX12_isCourt_1 : i_at mX12_isCourt.2.2.2.2.2 1 = some (.getfield 9, 3, 11, 1, 1088, 0) := by decide +kernel
theorem aX12_isCourt_4 : i_at mX12_isCourt.2.2.2.2.2 4 = some (.iconst 0, 1, 0, 0, 0, 0) := by decide +kernel
theorem aX12_isCourt_5 : i_at mX12_isCourt.2.2.2.2.2 5 = some (.iaload, 1, 0, 0, 0, 0) := by decide +kernel
theorem aX12_isCourt_6 : i_at mX12_isCourt.2.2.2.2.2 6 = some (.ifCond .le 7, 3, 13, 0, 0, 0) := by decide +kernel
theorem aX12_isCourt_9 : i_at mX12_isCourt.2.2.2.2.2 9 = some (.iconst 1, 1, 0, 0, 0, 0) := by decide +kernel
theorem aX12_isCourt_10 : i_at mX12_isCourt.2.2.2.2.2 10 = some (.goto 4, 3, 14, 0, 0, 0) := by decide +kernel
theorem aX12_isCourt_13 : i_at mX12_isCourt.2.2.2.2.2 13 = some (.iconst 0, 1, 0, 0, 0, 0) := by decide +kernel
theorem aX12_isCourt_14 : i_at mX12_isCourt.2.2.2.2.2 14 = some (.ireturn, 1, 0, 0, 0, 0) := by decide +kernel
noncomputable def fX12_isCourt (sh : List kd) (σ : St) : Option (Int32 × St) := if i_ok 0 11 then if (((if (σ.2.1 1 (0 : Int32).toNatClampNeg) ≤ 0 then 0 else 1) : Int32) : Int32) &&& 1 = ((if (σ.2.1 1 (0 : Int32).toNatClampNeg) ≤ 0 then 0 else 1) : Int32) then some (((if (σ.2.1 1 (0 : Int32).toNatClampNeg) ≤ 0 then 0 else 1) : Int32), σ) else none else none
set_option maxRecDepth 20000 in
set_option maxHeartbeats 2000000 in
theorem tX12_isCourt {sh : List kd} {σ τ : St} {r : Int32} (hsh : rmSh sh) (hE : fX12_isCourt sh σ = some (r, τ)) : i_X 1 130 [.ref 0] (s_h sh σ) 0 0 (some (.int r)) (s_h sh τ) := by
  refine g_X (M := mX12_isCourt) (loc := [.ref 0]) rfl (Nat.le_of_ble_eq_true rfl) rfl ?_
  unfold fX12_isCourt at hE
  refine g_ldan aX12_isCourt_0 rfl ?_
  refine g_getR aX12_isCourt_1 (sR_0 hsh) rfl ?_
  refine g_iconst (x := 0) aX12_isCourt_4 rfl ?_
  obtain ⟨h1, hE⟩ := i_ifn hE
  refine g_ild aX12_isCourt_5 (sR_1 hsh) h1 ?_
  have hJ : g_R sh 0 mX12_isCourt (some (.int r)) τ 14 [.ref 0] [.int ((if (σ.2.1 1 (0 : Int32).toNatClampNeg) ≤ 0 then 0 else 1) : Int32)] (σ) := by
    obtain ⟨h2, hE⟩ := i_ifn hE
    obtain ⟨rfl, rfl⟩ := i_some_inj hE
    exact g_iret aX12_isCourt_14 rfl (congrArg Value.int h2)
  clear hE
  by_cases hc2 : (σ.2.1 1 (0 : Int32).toNatClampNeg) ≤ 0
  · (try rw [if_pos hc2] at hJ)
    refine g_if_le_t aX12_isCourt_6 hc2 ?_
    refine g_iconst (x := 0) aX12_isCourt_13 rfl ?_
    exact hJ
  · (try rw [if_neg hc2] at hJ)
    refine g_if_le_f aX12_isCourt_6 hc2 ?_
    refine g_iconst (x := 1) aX12_isCourt_9 rfl ?_
    refine g_goto aX12_isCourt_10 ?_
    exact hJ
theorem aX12_isThing_0 : i_at mX12_isThing.2.2.2.2.2 0 = some (.iload_n 1, 1, 0, 0, 0, 0) := by decide +kernel
theorem aX12_isThing_1 : i_at mX12_isThing.2.2.2.2.2 1 = some (.i2l, 1, 0, 0, 0, 0) := by decide +kernel
theorem aX12_isThing_2 : i_at mX12_isThing.2.2.2.2.2 2 = some (.lconst 0, 1, 0, 0, 0, 0) := by decide +kernel
theorem aX12_isThing_3 : i_at mX12_isThing.2.2.2.2.2 3 = some (.aload_n 0, 1, 0, 0, 0, 0) := by decide +kernel
theorem aX12_isThing_4 : i_at mX12_isThing.2.2.2.2.2 4 = some (.getfield 9, 3, 11, 1, 1088, 0) := by decide +kernel
theorem aX12_isThing_7 : i_at mX12_isThing.2.2.2.2.2 7 = some (.iconst 2, 1, 0, 0, 0, 0) := by decide +kernel
theorem aX12_isThing_8 : i_at mX12_isThing.2.2.2.2.2 8 = some (.iaload, 1, 0, 0, 0, 0) := by decide +kernel
theorem aX12_isThing_9 : i_at mX12_isThing.2.2.2.2.2 9 = some (.iconst 1, 1, 0, 0, 0, 0) := by decide +kernel
theorem aX12_isThing_10 : i_at mX12_isThing.2.2.2.2.2 10 = some (.isub, 1, 0, 0, 0, 0) := by decide +kernel
theorem aX12_isThing_11 : i_at mX12_isThing.2.2.2.2.2 11 = some (.i2l, 1, 0, 0, 0, 0) := by decide +kernel
theorem aX12_isThing_12 : i_at mX12_isThing.2.2.2.2.2 12 = some (.invokestatic 131, 3, 127, 3, 1324, 0) := by decide +kernel
theorem aX12_isThing_15 : i_at mX12_isThing.2.2.2.2.2 15 = some (.ireturn, 1, 0, 0, 0, 0) := by decide +kernel
noncomputable def fX12_isThing (sh : List kd) (σ : St) (p1 : Int32) : Option (Int32 × St) := if i_ok 2 11 then i_bd (fX12_in sh σ p1.toInt64 0 (((σ.2.1 1 (2 : Int32).toNatClampNeg) - 1).toInt64)) (fun r2 s3 => if (r2 : Int32) &&& 1 = r2 then some (r2, s3) else none) else none
set_option maxRecDepth 20000 in
set_option maxHeartbeats 2000000 in
theorem tX12_isThing {sh : List kd} {σ τ : St} {r : Int32} (hsh : rmSh sh) {p1 : Int32} (hE : fX12_isThing sh σ p1 = some (r, τ)) : i_X 2 131 [.ref 0, .int p1] (s_h sh σ) 0 0 (some (.int r)) (s_h sh τ) := by
  refine g_X (M := mX12_isThing) (loc := [.ref 0, .int p1]) rfl (Nat.le_of_ble_eq_true rfl) rfl ?_
  unfold fX12_isThing at hE
  refine g_ldin aX12_isThing_0 rfl ?_
  refine g_i2l aX12_isThing_1 ?_
  refine g_lconst (x := 0) aX12_isThing_2 rfl ?_
  refine g_ldan aX12_isThing_3 rfl ?_
  refine g_getR aX12_isThing_4 (sR_0 hsh) rfl ?_
  refine g_iconst (x := 2) aX12_isThing_7 rfl ?_
  obtain ⟨h1, hE⟩ := i_ifn hE
  refine g_ild aX12_isThing_8 (sR_1 hsh) h1 ?_
  refine g_iconst (x := 1) aX12_isThing_9 rfl ?_
  refine g_isub aX12_isThing_10 ?_
  refine g_i2l aX12_isThing_11 ?_
  obtain ⟨r2, s3, h4, hE⟩ := i_bd_some hE
  refine g_calS (As := [.long p1.toInt64, .long 0, .long (((σ.2.1 1 (2 : Int32).toNatClampNeg) - 1).toInt64)]) (rest := []) aX12_isThing_12 (i_X_mono (by omega) (tX12_in hsh h4)) rfl rfl (Nat.le_of_ble_eq_true rfl) rfl ?_
  obtain ⟨h5, hE⟩ := i_ifn hE
  obtain ⟨rfl, rfl⟩ := i_some_inj hE
  exact g_iret aX12_isThing_15 rfl (congrArg Value.int h5)
theorem aX12_isPerson_0 : i_at mX12_isPerson.2.2.2.2.2 0 = some (.iload_n 1, 1, 0, 0, 0, 0) := by decide +kernel
theorem aX12_isPerson_1 : i_at mX12_isPerson.2.2.2.2.2 1 = some (.i2l, 1, 0, 0, 0, 0) := by decide +kernel
theorem aX12_isPerson_2 : i_at mX12_isPerson.2.2.2.2.2 2 = some (.lconst 0, 1, 0, 0, 0, 0) := by decide +kernel
theorem aX12_isPerson_3 : i_at mX12_isPerson.2.2.2.2.2 3 = some (.aload_n 0, 1, 0, 0, 0, 0) := by decide +kernel
theorem aX12_isPerson_4 : i_at mX12_isPerson.2.2.2.2.2 4 = some (.getfield 9, 3, 11, 1, 1088, 0) := by decide +kernel
theorem aX12_isPerson_7 : i_at mX12_isPerson.2.2.2.2.2 7 = some (.iconst 3, 1, 0, 0, 0, 0) := by decide +kernel
theorem aX12_isPerson_8 : i_at mX12_isPerson.2.2.2.2.2 8 = some (.iaload, 1, 0, 0, 0, 0) := by decide +kernel
theorem aX12_isPerson_9 : i_at mX12_isPerson.2.2.2.2.2 9 = some (.iconst 1, 1, 0, 0, 0, 0) := by decide +kernel
theorem aX12_isPerson_10 : i_at mX12_isPerson.2.2.2.2.2 10 = some (.isub, 1, 0, 0, 0, 0) := by decide +kernel
theorem aX12_isPerson_11 : i_at mX12_isPerson.2.2.2.2.2 11 = some (.i2l, 1, 0, 0, 0, 0) := by decide +kernel
theorem aX12_isPerson_12 : i_at mX12_isPerson.2.2.2.2.2 12 = some (.invokestatic 131, 3, 127, 3, 1324, 0) := by decide +kernel
theorem aX12_isPerson_15 : i_at mX12_isPerson.2.2.2.2.2 15 = some (.ireturn, 1, 0, 0, 0, 0) := by decide +kernel
noncomputable def fX12_isPerson (sh : List kd) (σ : St) (p1 : Int32) : Option (Int32 × St) := if i_ok 3 11 then i_bd (fX12_in sh σ p1.toInt64 0 (((σ.2.1 1 (3 : Int32).toNatClampNeg) - 1).toInt64)) (fun r2 s3 => if (r2 : Int32) &&& 1 = r2 then some (r2, s3) else none) else none
set_option maxRecDepth 20000 in
set_option maxHeartbeats 2000000 in
theorem tX12_isPerson {sh : List kd} {σ τ : St} {r : Int32} (hsh : rmSh sh) {p1 : Int32} (hE : fX12_isPerson sh σ p1 = some (r, τ)) : i_X 2 132 [.ref 0, .int p1] (s_h sh σ) 0 0 (some (.int r)) (s_h sh τ) := by
  refine g_X (M := mX12_isPerson) (loc := [.ref 0, .int p1]) rfl (Nat.le_of_ble_eq_true rfl) rfl ?_
  unfold fX12_isPerson at hE
  refine g_ldin aX12_isPerson_0 rfl ?_
  refine g_i2l aX12_isPerson_1 ?_
  refine g_lconst (x := 0) aX12_isPerson_2 rfl ?_
  refine g_ldan aX12_isPerson_3 rfl ?_
  refine g_getR aX12_isPerson_4 (sR_0 hsh) rfl ?_
  refine g_iconst (x := 3) aX12_isPerson_7 rfl ?_
  obtain ⟨h1, hE⟩ := i_ifn hE
  refine g_ild aX12_isPerson_8 (sR_1 hsh) h1 ?_
  refine g_iconst (x := 1) aX12_isPerson_9 rfl ?_
  refine g_isub aX12_isPerson_10 ?_
  refine g_i2l aX12_isPerson_11 ?_
  obtain ⟨r2, s3, h4, hE⟩ := i_bd_some hE
  refine g_calS (As := [.long p1.toInt64, .long 0, .long (((σ.2.1 1 (3 : Int32).toNatClampNeg) - 1).toInt64)]) (rest := []) aX12_isPerson_12 (i_X_mono (by omega) (tX12_in hsh h4)) rfl rfl (Nat.le_of_ble_eq_true rfl) rfl ?_
  obtain ⟨h5, hE⟩ := i_ifn hE
  obtain ⟨rfl, rfl⟩ := i_some_inj hE
  exact g_iret aX12_isPerson_15 rfl (congrArg Value.int h5)
theorem aX12_put_0 : i_at mX12_put.2.2.2.2.2 0 = some (.bipush 24, 2, 0, 0, 0, 0) := by decide +kernel
theorem aX12_put_2 : i_at mX12_put.2.2.2.2.2 2 = some (.istore_n 2, 1, 0, 0, 0, 0) := by decide +kernel
theorem aX12_put_3 : i_at mX12_put.2.2.2.2.2 3 = some (.iload_n 2, 1, 0, 0, 0, 0) := by decide +kernel
theorem aX12_put_4 : i_at mX12_put.2.2.2.2.2 4 = some (.ifCond .lt 32, 3, 36, 0, 0, 0) := by decide +kernel
theorem aX12_put_7 : i_at mX12_put.2.2.2.2.2 7 = some (.aload_n 0, 1, 0, 0, 0, 0) := by decide +kernel
theorem aX12_put_8 : i_at mX12_put.2.2.2.2.2 8 = some (.getfield 68, 3, 11, 29, 1116, 0) := by decide +kernel
theorem aX12_put_11 : i_at mX12_put.2.2.2.2.2 11 = some (.aload_n 0, 1, 0, 0, 0, 0) := by decide +kernel
theorem aX12_put_12 : i_at mX12_put.2.2.2.2.2 12 = some (.getfield 135, 3, 11, 19, 1106, 0) := by decide +kernel
theorem aX12_put_15 : i_at mX12_put.2.2.2.2.2 15 = some (.iload_n 1, 1, 0, 0, 0, 0) := by decide +kernel
theorem aX12_put_16 : i_at mX12_put.2.2.2.2.2 16 = some (.iload_n 2, 1, 0, 0, 0, 0) := by decide +kernel
theorem aX12_put_17 : i_at mX12_put.2.2.2.2.2 17 = some (.ishr, 1, 0, 0, 0, 0) := by decide +kernel
theorem aX12_put_18 : i_at mX12_put.2.2.2.2.2 18 = some (.i2b, 1, 0, 0, 0, 0) := by decide +kernel
theorem aX12_put_19 : i_at mX12_put.2.2.2.2.2 19 = some (.bastore, 1, 0, 0, 0, 0) := by decide +kernel
theorem aX12_put_20 : i_at mX12_put.2.2.2.2.2 20 = some (.aload_n 0, 1, 0, 0, 0, 0) := by decide +kernel
theorem aX12_put_21 : i_at mX12_put.2.2.2.2.2 21 = some (.dup, 1, 0, 0, 0, 0) := by decide +kernel
theorem aX12_put_22 : i_at mX12_put.2.2.2.2.2 22 = some (.getfield 135, 3, 11, 19, 1106, 0) := by decide +kernel
theorem aX12_put_25 : i_at mX12_put.2.2.2.2.2 25 = some (.iconst 1, 1, 0, 0, 0, 0) := by decide +kernel
theorem aX12_put_26 : i_at mX12_put.2.2.2.2.2 26 = some (.iadd, 1, 0, 0, 0, 0) := by decide +kernel
theorem aX12_put_27 : i_at mX12_put.2.2.2.2.2 27 = some (.putfield 135, 3, 11, 19, 1106, 0) := by decide +kernel
theorem aX12_put_30 : i_at mX12_put.2.2.2.2.2 30 = some (.iinc 2 (-8), 3, 0, 0, 0, 0) := by decide +kernel
theorem aX12_put_33 : i_at mX12_put.2.2.2.2.2 33 = some (.goto (-30), 3, 3, 0, 0, 0) := by decide +kernel
theorem aX12_put_36 : i_at mX12_put.2.2.2.2.2 36 = some (.return_, 1, 0, 0, 0, 0) := by decide +kernel
noncomputable def fX12_put_L3 (sh : List kd) (p1 : Int32) : Nat → Int32 → St → Option (Unit × St)
  | 0, _, _ => none
  | n3 + 1, x1, s2 => if x1 < 0 then some ((), s2) else if i_ok (s2.1 0 19) 400 then i_jp (s_F (s_A s2 19 (s2.1 0 19).toNatClampNeg (vp_nar .byte ((p1 >>> (x1 &&& 31)).toInt8.toInt32))) 0 19 (((s_A s2 19 (s2.1 0 19).toNatClampNeg (vp_nar .byte ((p1 >>> (x1 &&& 31)).toInt8.toInt32))).1 0 19) + 1)) (fun (s56 : St) => (fX12_put_L3 sh p1 n3 (x1 + (-8)) s56)) else none
noncomputable def fX12_put (sh : List kd) (σ : St) (p1 : Int32) : Option (Unit × St) := fX12_put_L3 sh p1 i_F 24 σ
set_option maxRecDepth 20000 in
set_option maxHeartbeats 2000000 in
theorem tX12_put_L3 {sh : List kd} {τ : St} {r : Unit} (hsh : rmSh sh) {p1 : Int32} : ∀ (n0 : Nat) (x1 : Int32) (s2 : St), fX12_put_L3 sh p1 n0 x1 s2 = some (r, τ) → g_R sh 0 mX12_put none τ 3 [.ref 0, .int p1, .int x1] [] (s2) := by
  intro n0
  induction n0 with
  | zero => intro _ _ hE; cases hE
  | succ n3 ih =>
    intro x1 s2 hE
    unfold fX12_put_L3 at hE
    refine g_ldin aX12_put_3 rfl ?_
    by_cases hc54 : x1 < 0
    · rw [if_pos hc54] at hE
      refine g_if_lt_t aX12_put_4 hc54 ?_
      obtain ⟨rfl, rfl⟩ := i_some_inj hE
      exact g_vret aX12_put_36 rfl
    · rw [if_neg hc54] at hE
      refine g_if_lt_f aX12_put_4 hc54 ?_
      refine g_ldan aX12_put_7 rfl ?_
      refine g_getR aX12_put_8 (sR_0 hsh) rfl ?_
      refine g_ldan aX12_put_11 rfl ?_
      refine g_getI aX12_put_12 (sR_0 hsh) rfl ?_
      refine g_ldin aX12_put_15 rfl ?_
      refine g_ldin aX12_put_16 rfl ?_
      refine g_ishr aX12_put_17 ?_
      refine g_i2b aX12_put_18 ?_
      obtain ⟨h55, hE⟩ := i_ifn hE
      refine g_bst aX12_put_19 (sR_19 hsh) h55 ?_
      refine g_ldan aX12_put_20 rfl ?_
      refine g_dupa aX12_put_21 ?_
      refine g_getI aX12_put_22 (sR_0 hsh) rfl ?_
      refine g_iconst (x := 1) aX12_put_25 rfl ?_
      refine g_iadd aX12_put_26 ?_
      refine g_putI aX12_put_27 (sR_0 hsh) rfl rfl ?_
      obtain ⟨s56, h57, hE⟩ := i_jp_some hE
      rw [← h57]
      refine g_iinc (y := (-8)) (loc2 := [.ref 0, .int p1, .int (x1 + (-8))]) aX12_put_30 rfl rfl rfl ?_
      refine g_goto aX12_put_33 ?_
      exact ih _ _ hE
set_option maxRecDepth 20000 in
set_option maxHeartbeats 2000000 in
theorem tX12_put {sh : List kd} {σ τ : St} {r : Unit} (hsh : rmSh sh) {p1 : Int32} (hE : fX12_put sh σ p1 = some (r, τ)) : i_X 1 134 [.ref 0, .int p1] (s_h sh σ) 0 0 none (s_h sh τ) := by
  refine g_X (M := mX12_put) (loc := [.ref 0, .int p1, .retAddr 0]) rfl (Nat.le_of_ble_eq_true rfl) rfl ?_
  unfold fX12_put at hE
  refine g_bipush (x := 24) aX12_put_0 rfl ?_
  refine g_stin (loc2 := [.ref 0, .int p1, .int 24]) aX12_put_2 (Nat.le_of_ble_eq_true rfl) rfl ?_
  exact tX12_put_L3 hsh i_F _ _ hE
theorem aX12_end_0 : i_at mX12_end.2.2.2.2.2 0 = some (.iload_n 1, 1, 0, 0, 0, 0) := by decide +kernel
theorem aX12_end_1 : i_at mX12_end.2.2.2.2.2 1 = some (.ifCond .lt 11, 3, 12, 0, 0, 0) := by decide +kernel
theorem aX12_end_4 : i_at mX12_end.2.2.2.2.2 4 = some (.iload_n 1, 1, 0, 0, 0, 0) := by decide +kernel
theorem aX12_end_5 : i_at mX12_end.2.2.2.2.2 5 = some (.aload_n 0, 1, 0, 0, 0, 0) := by decide +kernel
theorem aX12_end_6 : i_at mX12_end.2.2.2.2.2 6 = some (.getfield 135, 3, 11, 19, 1106, 0) := by decide +kernel
theorem aX12_end_9 : i_at mX12_end.2.2.2.2.2 9 = some (.if_icmp .le 5, 3, 14, 0, 0, 0) := by decide +kernel
theorem aX12_end_12 : i_at mX12_end.2.2.2.2.2 12 = some (.iconst (-1), 1, 0, 0, 0, 0) := by decide +kernel
theorem aX12_end_13 : i_at mX12_end.2.2.2.2.2 13 = some (.ireturn, 1, 0, 0, 0, 0) := by decide +kernel
theorem aX12_end_14 : i_at mX12_end.2.2.2.2.2 14 = some (.aload_n 0, 1, 0, 0, 0, 0) := by decide +kernel
theorem aX12_end_15 : i_at mX12_end.2.2.2.2.2 15 = some (.iload_n 1, 1, 0, 0, 0, 0) := by decide +kernel
theorem aX12_end_16 : i_at mX12_end.2.2.2.2.2 16 = some (.putfield 135, 3, 11, 19, 1106, 0) := by decide +kernel
theorem aX12_end_19 : i_at mX12_end.2.2.2.2.2 19 = some (.iload_n 1, 1, 0, 0, 0, 0) := by decide +kernel
theorem aX12_end_20 : i_at mX12_end.2.2.2.2.2 20 = some (.ireturn, 1, 0, 0, 0, 0) := by decide +kernel
noncomputable def fX12_end (sh : List kd) (σ : St) (p1 : Int32) : Option (Int32 × St) := if p1 < 0 then some ((-1), σ) else if p1 ≤ (σ.1 0 19) then some (p1, s_F σ 0 19 p1) else some ((-1), σ)
set_option maxRecDepth 20000 in
set_option maxHeartbeats 2000000 in
theorem tX12_end {sh : List kd} {σ τ : St} {r : Int32} (hsh : rmSh sh) {p1 : Int32} (hE : fX12_end sh σ p1 = some (r, τ)) : i_X 1 135 [.ref 0, .int p1] (s_h sh σ) 0 0 (some (.int r)) (s_h sh τ) := by
  refine g_X (M := mX12_end) (loc := [.ref 0, .int p1]) rfl (Nat.le_of_ble_eq_true rfl) rfl ?_
  unfold fX12_end at hE
  refine g_ldin aX12_end_0 rfl ?_
  by_cases hc1 : p1 < 0
  · rw [if_pos hc1] at hE
    refine g_if_lt_t aX12_end_1 hc1 ?_
    refine g_iconst (x := (-1)) aX12_end_12 rfl ?_
    obtain ⟨rfl, rfl⟩ := i_some_inj hE
    exact g_iret aX12_end_13 rfl rfl
  · rw [if_neg hc1] at hE
    refine g_if_lt_f aX12_end_1 hc1 ?_
    refine g_ldin aX12_end_4 rfl ?_
    refine g_ldan aX12_end_5 rfl ?_
    refine g_getI aX12_end_6 (sR_0 hsh) rfl ?_
    by_cases hc2 : p1 ≤ (σ.1 0 19)
    · rw [if_pos hc2] at hE
      refine g_ic_le_t aX12_end_9 hc2 ?_
      refine g_ldan aX12_end_14 rfl ?_
      refine g_ldin aX12_end_15 rfl ?_
      refine g_putI aX12_end_16 (sR_0 hsh) rfl rfl ?_
      refine g_ldin aX12_end_19 rfl ?_
      obtain ⟨rfl, rfl⟩ := i_some_inj hE
      exact g_iret aX12_end_20 rfl rfl
    · rw [if_neg hc2] at hE
      refine g_ic_le_f aX12_end_9 hc2 ?_
      refine g_iconst (x := (-1)) aX12_end_12 rfl ?_
      obtain ⟨rfl, rfl⟩ := i_some_inj hE
      exact g_iret aX12_end_13 rfl rfl
theorem aX12_wordOf_0 : i_at mX12_wordOf.2.2.2.2.2 0 = some (.iload_n 0, 1, 0, 0, 0, 0) := by decide +kernel
theorem aX12_wordOf_1 : i_at mX12_wordOf.2.2.2.2.2 1 = some (.tableswitch 92 0 10 #[59, 62, 65, 68, 71, 74, 77, 80, 83, 86, 89], 59, 0, 0, 0, 0) := by decide +kernel
theorem aX12_wordOf_60 : i_at mX12_wordOf.2.2.2.2.2 60 = some (.ldc 142, 2, 1, 8, 0, 0) := by decide +kernel
theorem aX12_wordOf_62 : i_at mX12_wordOf.2.2.2.2.2 62 = some (.areturn, 1, 0, 0, 0, 0) := by decide +kernel
theorem aX12_wordOf_63 : i_at mX12_wordOf.2.2.2.2.2 63 = some (.ldc 144, 2, 1, 13, 0, 0) := by decide +kernel
theorem aX12_wordOf_65 : i_at mX12_wordOf.2.2.2.2.2 65 = some (.areturn, 1, 0, 0, 0, 0) := by decide +kernel
theorem aX12_wordOf_66 : i_at mX12_wordOf.2.2.2.2.2 66 = some (.ldc 145, 2, 1, 14, 0, 0) := by decide +kernel
theorem aX12_wordOf_68 : i_at mX12_wordOf.2.2.2.2.2 68 = some (.areturn, 1, 0, 0, 0, 0) := by decide +kernel
theorem aX12_wordOf_69 : i_at mX12_wordOf.2.2.2.2.2 69 = some (.ldc 147, 2, 1, 15, 0, 0) := by decide +kernel
theorem aX12_wordOf_71 : i_at mX12_wordOf.2.2.2.2.2 71 = some (.areturn, 1, 0, 0, 0, 0) := by decide +kernel
theorem aX12_wordOf_72 : i_at mX12_wordOf.2.2.2.2.2 72 = some (.ldc 149, 2, 1, 16, 0, 0) := by decide +kernel
theorem aX12_wordOf_74 : i_at mX12_wordOf.2.2.2.2.2 74 = some (.areturn, 1, 0, 0, 0, 0) := by decide +kernel
theorem aX12_wordOf_75 : i_at mX12_wordOf.2.2.2.2.2 75 = some (.ldc 151, 2, 1, 17, 0, 0) := by decide +kernel
theorem aX12_wordOf_77 : i_at mX12_wordOf.2.2.2.2.2 77 = some (.areturn, 1, 0, 0, 0, 0) := by decide +kernel
theorem aX12_wordOf_78 : i_at mX12_wordOf.2.2.2.2.2 78 = some (.ldc 152, 2, 1, 18, 0, 0) := by decide +kernel
theorem aX12_wordOf_80 : i_at mX12_wordOf.2.2.2.2.2 80 = some (.areturn, 1, 0, 0, 0, 0) := by decide +kernel
theorem aX12_wordOf_81 : i_at mX12_wordOf.2.2.2.2.2 81 = some (.ldc 153, 2, 1, 19, 0, 0) := by decide +kernel
theorem aX12_wordOf_83 : i_at mX12_wordOf.2.2.2.2.2 83 = some (.areturn, 1, 0, 0, 0, 0) := by decide +kernel
theorem aX12_wordOf_84 : i_at mX12_wordOf.2.2.2.2.2 84 = some (.ldc 155, 2, 1, 20, 0, 0) := by decide +kernel
theorem aX12_wordOf_86 : i_at mX12_wordOf.2.2.2.2.2 86 = some (.areturn, 1, 0, 0, 0, 0) := by decide +kernel
theorem aX12_wordOf_87 : i_at mX12_wordOf.2.2.2.2.2 87 = some (.ldc 157, 2, 1, 21, 0, 0) := by decide +kernel
theorem aX12_wordOf_89 : i_at mX12_wordOf.2.2.2.2.2 89 = some (.areturn, 1, 0, 0, 0, 0) := by decide +kernel
theorem aX12_wordOf_90 : i_at mX12_wordOf.2.2.2.2.2 90 = some (.ldc 159, 2, 1, 22, 0, 0) := by decide +kernel
theorem aX12_wordOf_92 : i_at mX12_wordOf.2.2.2.2.2 92 = some (.areturn, 1, 0, 0, 0, 0) := by decide +kernel
theorem aX12_wordOf_93 : i_at mX12_wordOf.2.2.2.2.2 93 = some (.ldc 161, 2, 1, 23, 0, 0) := by decide +kernel
theorem aX12_wordOf_95 : i_at mX12_wordOf.2.2.2.2.2 95 = some (.areturn, 1, 0, 0, 0, 0) := by decide +kernel
noncomputable def fX12_wordOf (sh : List kd) (σ : St) (p0 : Int32) : Option (Nat × St) := if p0 = 0 then some (8, σ) else if p0 = 1 then some (13, σ) else if p0 = 2 then some (14, σ) else if p0 = 3 then some (15, σ) else if p0 = 4 then some (16, σ) else if p0 = 5 then some (17, σ) else if p0 = 6 then some (18, σ) else if p0 = 7 then some (19, σ) else if p0 = 8 then some (20, σ) else if p0 = 9 then some (21, σ) else if p0 = 10 then some (22, σ) else some (23, σ)
set_option maxRecDepth 20000 in
set_option maxHeartbeats 2000000 in
theorem tX12_wordOf {sh : List kd} {σ τ : St} {r : Nat} (hsh : rmSh sh) {p0 : Int32} (hE : fX12_wordOf sh σ p0 = some (r, τ)) : i_X 1 136 [.int p0] (s_h sh σ) 0 0 (some (.ref (i_SB + r))) (s_h sh τ) := by
  refine g_X (M := mX12_wordOf) (loc := [.int p0]) rfl (Nat.le_of_ble_eq_true rfl) rfl ?_
  unfold fX12_wordOf at hE
  refine g_ldin aX12_wordOf_0 rfl ?_
  by_cases hc1 : p0 = 0
  · rw [if_pos hc1] at hE
    refine g_tabIn (i := 0) aX12_wordOf_1 (by rw [hc1]; decide) (by decide) rfl rfl ?_
    refine g_ldcS aX12_wordOf_60 rfl ?_
    obtain ⟨rfl, rfl⟩ := i_some_inj hE
    exact g_aret aX12_wordOf_62 rfl rfl
  · rw [if_neg hc1] at hE
    by_cases hc2 : p0 = 1
    · rw [if_pos hc2] at hE
      refine g_tabIn (i := 1) aX12_wordOf_1 (by rw [hc2]; decide) (by decide) rfl rfl ?_
      refine g_ldcS aX12_wordOf_63 rfl ?_
      obtain ⟨rfl, rfl⟩ := i_some_inj hE
      exact g_aret aX12_wordOf_65 rfl rfl
    · rw [if_neg hc2] at hE
      by_cases hc3 : p0 = 2
      · rw [if_pos hc3] at hE
        refine g_tabIn (i := 2) aX12_wordOf_1 (by rw [hc3]; decide) (by decide) rfl rfl ?_
        refine g_ldcS aX12_wordOf_66 rfl ?_
        obtain ⟨rfl, rfl⟩ := i_some_inj hE
        exact g_aret aX12_wordOf_68 rfl rfl
      · rw [if_neg hc3] at hE
        by_cases hc4 : p0 = 3
        · rw [if_pos hc4] at hE
          refine g_tabIn (i := 3) aX12_wordOf_1 (by rw [hc4]; decide) (by decide) rfl rfl ?_
          refine g_ldcS aX12_wordOf_69 rfl ?_
          obtain ⟨rfl, rfl⟩ := i_some_inj hE
          exact g_aret aX12_wordOf_71 rfl rfl
        · rw [if_neg hc4] at hE
          by_cases hc5 : p0 = 4
          · rw [if_pos hc5] at hE
            refine g_tabIn (i := 4) aX12_wordOf_1 (by rw [hc5]; decide) (by decide) rfl rfl ?_
            refine g_ldcS aX12_wordOf_72 rfl ?_
            obtain ⟨rfl, rfl⟩ := i_some_inj hE
            exact g_aret aX12_wordOf_74 rfl rfl
          · rw [if_neg hc5] at hE
            by_cases hc6 : p0 = 5
            · rw [if_pos hc6] at hE
              refine g_tabIn (i := 5) aX12_wordOf_1 (by rw [hc6]; decide) (by decide) rfl rfl ?_
              refine g_ldcS aX12_wordOf_75 rfl ?_
              obtain ⟨rfl, rfl⟩ := i_some_inj hE
              exact g_aret aX12_wordOf_77 rfl rfl
            · rw [if_neg hc6] at hE
              by_cases hc7 : p0 = 6
              · rw [if_pos hc7] at hE
                refine g_tabIn (i := 6) aX12_wordOf_1 (by rw [hc7]; decide) (by decide) rfl rfl ?_
                refine g_ldcS aX12_wordOf_78 rfl ?_
                obtain ⟨rfl, rfl⟩ := i_some_inj hE
                exact g_aret aX12_wordOf_80 rfl rfl
              · rw [if_neg hc7] at hE
                by_cases hc8 : p0 = 7
                · rw [if_pos hc8] at hE
                  refine g_tabIn (i := 7) aX12_wordOf_1 (by rw [hc8]; decide) (by decide) rfl rfl ?_
                  refine g_ldcS aX12_wordOf_81 rfl ?_
                  obtain ⟨rfl, rfl⟩ := i_some_inj hE
                  exact g_aret aX12_wordOf_83 rfl rfl
                · rw [if_neg hc8] at hE
                  by_cases hc9 : p0 = 8
                  · rw [if_pos hc9] at hE
                    refine g_tabIn (i := 8) aX12_wordOf_1 (by rw [hc9]; decide) (by decide) rfl rfl ?_
                    refine g_ldcS aX12_wordOf_84 rfl ?_
                    obtain ⟨rfl, rfl⟩ := i_some_inj hE
                    exact g_aret aX12_wordOf_86 rfl rfl
                  · rw [if_neg hc9] at hE
                    by_cases hc10 : p0 = 9
                    · rw [if_pos hc10] at hE
                      refine g_tabIn (i := 9) aX12_wordOf_1 (by rw [hc10]; decide) (by decide) rfl rfl ?_
                      refine g_ldcS aX12_wordOf_87 rfl ?_
                      obtain ⟨rfl, rfl⟩ := i_some_inj hE
                      exact g_aret aX12_wordOf_89 rfl rfl
                    · rw [if_neg hc10] at hE
                      by_cases hc11 : p0 = 10
                      · rw [if_pos hc11] at hE
                        refine g_tabIn (i := 10) aX12_wordOf_1 (by rw [hc11]; decide) (by decide) rfl rfl ?_
                        refine g_ldcS aX12_wordOf_90 rfl ?_
                        obtain ⟨rfl, rfl⟩ := i_some_inj hE
                        exact g_aret aX12_wordOf_92 rfl rfl
                      · rw [if_neg hc11] at hE
                        have hto12 : p0.toInt < ((0 : Nat) : Int) ∨ ((10 : Nat) : Int) < p0.toInt := by
                          refine i_tabo (x := p0) 0 10 (by decide) (fun k k1 k2 => ?_)
                          rcases (show k = 0 ∨ k = 1 ∨ k = 2 ∨ k = 3 ∨ k = 4 ∨ k = 5 ∨ k = 6 ∨ k = 7 ∨ k = 8 ∨ k = 9 ∨ k = 10 by omega) with rfl | rfl | rfl | rfl | rfl | rfl | rfl | rfl | rfl | rfl | rfl
                          · exact fun hz => hc1 hz
                          · exact fun hz => hc2 hz
                          · exact fun hz => hc3 hz
                          · exact fun hz => hc4 hz
                          · exact fun hz => hc5 hz
                          · exact fun hz => hc6 hz
                          · exact fun hz => hc7 hz
                          · exact fun hz => hc8 hz
                          · exact fun hz => hc9 hz
                          · exact fun hz => hc10 hz
                          · exact fun hz => hc11 hz
                        refine g_tabOut aX12_wordOf_1 hto12 rfl ?_
                        refine g_ldcS aX12_wordOf_93 rfl ?_
                        obtain ⟨rfl, rfl⟩ := i_some_inj hE
                        exact g_aret aX12_wordOf_95 rfl rfl
theorem aX12_fails_0 : i_at mX12_fails.2.2.2.2.2 0 = some (.aload_n 0, 1, 0, 0, 0, 0) := by decide +kernel
theorem aX12_fails_1 : i_at mX12_fails.2.2.2.2.2 1 = some (.aload_n 0, 1, 0, 0, 0, 0) := by decide +kernel
theorem aX12_fails_2 : i_at mX12_fails.2.2.2.2.2 2 = some (.getfield 163, 3, 11, 21, 1108, 0) := by decide +kernel
theorem aX12_fails_5 : i_at mX12_fails.2.2.2.2.2 5 = some (.ifCond .ne 14, 3, 19, 0, 0, 0) := by decide +kernel
theorem aX12_fails_8 : i_at mX12_fails.2.2.2.2.2 8 = some (.iconst 1, 1, 0, 0, 0, 0) := by decide +kernel
theorem aX12_fails_9 : i_at mX12_fails.2.2.2.2.2 9 = some (.bipush 8, 2, 0, 0, 0, 0) := by decide +kernel
theorem aX12_fails_11 : i_at mX12_fails.2.2.2.2.2 11 = some (.iload_n 2, 1, 0, 0, 0, 0) := by decide +kernel
theorem aX12_fails_12 : i_at mX12_fails.2.2.2.2.2 12 = some (.imul, 1, 0, 0, 0, 0) := by decide +kernel
theorem aX12_fails_13 : i_at mX12_fails.2.2.2.2.2 13 = some (.iadd, 1, 0, 0, 0, 0) := by decide +kernel
theorem aX12_fails_14 : i_at mX12_fails.2.2.2.2.2 14 = some (.iload_n 1, 1, 0, 0, 0, 0) := by decide +kernel
theorem aX12_fails_15 : i_at mX12_fails.2.2.2.2.2 15 = some (.iadd, 1, 0, 0, 0, 0) := by decide +kernel
theorem aX12_fails_16 : i_at mX12_fails.2.2.2.2.2 16 = some (.goto 7, 3, 23, 0, 0, 0) := by decide +kernel
theorem aX12_fails_19 : i_at mX12_fails.2.2.2.2.2 19 = some (.aload_n 0, 1, 0, 0, 0, 0) := by decide +kernel
theorem aX12_fails_20 : i_at mX12_fails.2.2.2.2.2 20 = some (.getfield 163, 3, 11, 21, 1108, 0) := by decide +kernel
theorem aX12_fails_23 : i_at mX12_fails.2.2.2.2.2 23 = some (.putfield 163, 3, 11, 21, 1108, 0) := by decide +kernel
theorem aX12_fails_26 : i_at mX12_fails.2.2.2.2.2 26 = some (.return_, 1, 0, 0, 0, 0) := by decide +kernel
noncomputable def fX12_fails (sh : List kd) (σ : St) (p1 : Int32) (p2 : Int32) : Option (Unit × St) := some ((), s_F σ 0 21 ((if ¬ (σ.1 0 21) = 0 then (σ.1 0 21) else ((1 + (8 * p2)) + p1)) : Int32))
set_option maxRecDepth 20000 in
set_option maxHeartbeats 2000000 in
theorem tX12_fails {sh : List kd} {σ τ : St} {r : Unit} (hsh : rmSh sh) {p1 : Int32} {p2 : Int32} (hE : fX12_fails sh σ p1 p2 = some (r, τ)) : i_X 1 137 [.ref 0, .int p1, .int p2] (s_h sh σ) 0 0 none (s_h sh τ) := by
  refine g_X (M := mX12_fails) (loc := [.ref 0, .int p1, .int p2]) rfl (Nat.le_of_ble_eq_true rfl) rfl ?_
  unfold fX12_fails at hE
  refine g_ldan aX12_fails_0 rfl ?_
  refine g_ldan aX12_fails_1 rfl ?_
  refine g_getI aX12_fails_2 (sR_0 hsh) rfl ?_
  have hJ : g_R sh 0 mX12_fails none τ 23 [.ref 0, .int p1, .int p2] [.int ((if ¬ (σ.1 0 21) = 0 then (σ.1 0 21) else ((1 + (8 * p2)) + p1)) : Int32), .ref 0] (σ) := by
    refine g_putI aX12_fails_23 (sR_0 hsh) rfl rfl ?_
    obtain ⟨rfl, rfl⟩ := i_some_inj hE
    exact g_vret aX12_fails_26 rfl
  clear hE
  by_cases hc0 : ¬ (σ.1 0 21) = 0
  · (try rw [if_pos hc0] at hJ)
    refine g_if_ne_t aX12_fails_5 hc0 ?_
    refine g_ldan aX12_fails_19 rfl ?_
    refine g_getI aX12_fails_20 (sR_0 hsh) rfl ?_
    exact hJ
  · (try rw [if_neg hc0] at hJ)
    refine g_if_ne_f aX12_fails_5 hc0 ?_
    refine g_iconst (x := 1) aX12_fails_8 rfl ?_
    refine g_bipush (x := 8) aX12_fails_9 rfl ?_
    refine g_ldin aX12_fails_11 rfl ?_
    refine g_imul aX12_fails_12 ?_
    refine g_iadd aX12_fails_13 ?_
    refine g_ldin aX12_fails_14 rfl ?_
    refine g_iadd aX12_fails_15 ?_
    refine g_goto aX12_fails_16 ?_
    exact hJ
theorem aX12_sign_0 : i_at mX12_sign.2.2.2.2.2 0 = some (.aload_n 0, 1, 0, 0, 0, 0) := by decide +kernel
theorem aX12_sign_1 : i_at mX12_sign.2.2.2.2.2 1 = some (.getfield 166, 3, 11, 20, 1107, 0) := by decide +kernel
theorem aX12_sign_4 : i_at mX12_sign.2.2.2.2.2 4 = some (.aload_n 0, 1, 0, 0, 0, 0) := by decide +kernel
theorem aX12_sign_5 : i_at mX12_sign.2.2.2.2.2 5 = some (.getfield 135, 3, 11, 19, 1106, 0) := by decide +kernel
theorem aX12_sign_8 : i_at mX12_sign.2.2.2.2.2 8 = some (.if_icmp .ge 19, 3, 27, 0, 0, 0) := by decide +kernel
theorem aX12_sign_11 : i_at mX12_sign.2.2.2.2.2 11 = some (.aload_n 0, 1, 0, 0, 0, 0) := by decide +kernel
theorem aX12_sign_12 : i_at mX12_sign.2.2.2.2.2 12 = some (.getfield 68, 3, 11, 29, 1116, 0) := by decide +kernel
theorem aX12_sign_15 : i_at mX12_sign.2.2.2.2.2 15 = some (.aload_n 0, 1, 0, 0, 0, 0) := by decide +kernel
theorem aX12_sign_16 : i_at mX12_sign.2.2.2.2.2 16 = some (.getfield 166, 3, 11, 20, 1107, 0) := by decide +kernel
theorem aX12_sign_19 : i_at mX12_sign.2.2.2.2.2 19 = some (.baload, 1, 0, 0, 0, 0) := by decide +kernel
theorem aX12_sign_20 : i_at mX12_sign.2.2.2.2.2 20 = some (.sipush 255, 3, 0, 0, 0, 0) := by decide +kernel
theorem aX12_sign_23 : i_at mX12_sign.2.2.2.2.2 23 = some (.iand, 1, 0, 0, 0, 0) := by decide +kernel
theorem aX12_sign_24 : i_at mX12_sign.2.2.2.2.2 24 = some (.goto 4, 3, 28, 0, 0, 0) := by decide +kernel
theorem aX12_sign_27 : i_at mX12_sign.2.2.2.2.2 27 = some (.iconst (-1), 1, 0, 0, 0, 0) := by decide +kernel
theorem aX12_sign_28 : i_at mX12_sign.2.2.2.2.2 28 = some (.ireturn, 1, 0, 0, 0, 0) := by decide +kernel
noncomputable def fX12_sign_J28 (sh : List kd) (σ : St) (x51 : Int32) : Option (Int32 × St) := some (x51, σ)
noncomputable def fX12_sign (sh : List kd) (σ : St) : Option (Int32 × St) := if (σ.1 0 19) ≤ (σ.1 0 20) then fX12_sign_J28 sh σ (-1) else if i_ok (σ.1 0 20) 400 then fX12_sign_J28 sh σ ((σ.2.1 19 (σ.1 0 20).toNatClampNeg) &&& 255) else none
set_option maxRecDepth 20000 in
set_option maxHeartbeats 2000000 in
theorem tX12_sign_J28 {sh : List kd} {τ : St} {r : Int32} (hsh : rmSh sh) {σ : St} {x51 : Int32} (hE : fX12_sign_J28 sh σ x51 = some (r, τ)) : g_R sh 0 mX12_sign (some (.int r)) τ 28 [.ref 0] [.int x51] (σ) := by
  unfold fX12_sign_J28 at hE
  obtain ⟨rfl, rfl⟩ := i_some_inj hE
  exact g_iret aX12_sign_28 rfl rfl
set_option maxRecDepth 20000 in
set_option maxHeartbeats 2000000 in
theorem tX12_sign {sh : List kd} {σ τ : St} {r : Int32} (hsh : rmSh sh) (hE : fX12_sign sh σ = some (r, τ)) : i_X 1 138 [.ref 0] (s_h sh σ) 0 0 (some (.int r)) (s_h sh τ) := by
  refine g_X (M := mX12_sign) (loc := [.ref 0]) rfl (Nat.le_of_ble_eq_true rfl) rfl ?_
  unfold fX12_sign at hE
  refine g_ldan aX12_sign_0 rfl ?_
  refine g_getI aX12_sign_1 (sR_0 hsh) rfl ?_
  refine g_ldan aX12_sign_4 rfl ?_
  refine g_getI aX12_sign_5 (sR_0 hsh) rfl ?_
  by_cases hc52 : (σ.1 0 19) ≤ (σ.1 0 20)
  · rw [if_pos hc52] at hE
    refine g_ic_ge_t aX12_sign_8 hc52 ?_
    refine g_iconst (x := (-1)) aX12_sign_27 rfl ?_
    exact tX12_sign_J28 hsh hE
  · rw [if_neg hc52] at hE
    refine g_ic_ge_f aX12_sign_8 hc52 ?_
    refine g_ldan aX12_sign_11 rfl ?_
    refine g_getR aX12_sign_12 (sR_0 hsh) rfl ?_
    refine g_ldan aX12_sign_15 rfl ?_
    refine g_getI aX12_sign_16 (sR_0 hsh) rfl ?_
    obtain ⟨h53, hE⟩ := i_ifn hE
    refine g_bld aX12_sign_19 (sR_19 hsh) h53 ?_
    refine g_sipush (x := 255) aX12_sign_20 rfl ?_
    refine g_iand aX12_sign_23 ?_
    refine g_goto aX12_sign_24 ?_
    exact tX12_sign_J28 hsh hE
theorem aX12_blanks_0 : i_at mX12_blanks.2.2.2.2.2 0 = some (.aload_n 0, 1, 0, 0, 0, 0) := by decide +kernel
theorem aX12_blanks_1 : i_at mX12_blanks.2.2.2.2.2 1 = some (.invokevirtual 169, 3, 138, 0, 1279, 0) := by decide +kernel
theorem aX12_blanks_4 : i_at mX12_blanks.2.2.2.2.2 4 = some (.bipush 32, 2, 0, 0, 0, 0) := by decide +kernel
theorem aX12_blanks_6 : i_at mX12_blanks.2.2.2.2.2 6 = some (.if_icmp .ne 16, 3, 22, 0, 0, 0) := by decide +kernel
theorem aX12_blanks_9 : i_at mX12_blanks.2.2.2.2.2 9 = some (.aload_n 0, 1, 0, 0, 0, 0) := by decide +kernel
theorem aX12_blanks_10 : i_at mX12_blanks.2.2.2.2.2 10 = some (.dup, 1, 0, 0, 0, 0) := by decide +kernel
theorem aX12_blanks_11 : i_at mX12_blanks.2.2.2.2.2 11 = some (.getfield 166, 3, 11, 20, 1107, 0) := by decide +kernel
theorem aX12_blanks_14 : i_at mX12_blanks.2.2.2.2.2 14 = some (.iconst 1, 1, 0, 0, 0, 0) := by decide +kernel
theorem aX12_blanks_15 : i_at mX12_blanks.2.2.2.2.2 15 = some (.iadd, 1, 0, 0, 0, 0) := by decide +kernel
theorem aX12_blanks_16 : i_at mX12_blanks.2.2.2.2.2 16 = some (.putfield 166, 3, 11, 20, 1107, 0) := by decide +kernel
theorem aX12_blanks_19 : i_at mX12_blanks.2.2.2.2.2 19 = some (.goto (-19), 3, 0, 0, 0, 0) := by decide +kernel
theorem aX12_blanks_22 : i_at mX12_blanks.2.2.2.2.2 22 = some (.return_, 1, 0, 0, 0, 0) := by decide +kernel
noncomputable def fX12_blanks_L0 (sh : List kd) : Nat → St → Option (Unit × St)
  | 0, _ => none
  | n2 + 1, s1 => i_bd (fX12_sign sh s1) (fun r3 s4 => if ¬ r3 = 32 then some ((), s4) else (fX12_blanks_L0 sh n2 (s_F s4 0 20 ((s4.1 0 20) + 1))))
noncomputable def fX12_blanks (sh : List kd) (σ : St) : Option (Unit × St) := fX12_blanks_L0 sh i_F σ
set_option maxRecDepth 20000 in
set_option maxHeartbeats 2000000 in
theorem tX12_blanks_L0 {sh : List kd} {τ : St} {r : Unit} (hsh : rmSh sh) : ∀ (n0 : Nat) (s1 : St), fX12_blanks_L0 sh n0 s1 = some (r, τ) → g_R sh 1 mX12_blanks none τ 0 [.ref 0] [] (s1) := by
  intro n0
  induction n0 with
  | zero => intro _ hE; cases hE
  | succ n2 ih =>
    intro s1 hE
    unfold fX12_blanks_L0 at hE
    refine g_ldan aX12_blanks_0 rfl ?_
    obtain ⟨r3, s4, h5, hE⟩ := i_bd_some hE
    refine g_calV (As := []) (rest := []) aX12_blanks_1 (i_X_mono (by omega) (tX12_sign hsh h5)) (sR_0 hsh) (by decide +kernel) rfl rfl (Nat.le_of_ble_eq_true rfl) rfl ?_
    refine g_bipush (x := 32) aX12_blanks_4 rfl ?_
    by_cases hc56 : ¬ r3 = 32
    · rw [if_pos hc56] at hE
      refine g_ic_ne_t aX12_blanks_6 hc56 ?_
      obtain ⟨rfl, rfl⟩ := i_some_inj hE
      exact g_vret aX12_blanks_22 rfl
    · rw [if_neg hc56] at hE
      refine g_ic_ne_f aX12_blanks_6 hc56 ?_
      refine g_ldan aX12_blanks_9 rfl ?_
      refine g_dupa aX12_blanks_10 ?_
      refine g_getI aX12_blanks_11 (sR_0 hsh) rfl ?_
      refine g_iconst (x := 1) aX12_blanks_14 rfl ?_
      refine g_iadd aX12_blanks_15 ?_
      refine g_putI aX12_blanks_16 (sR_0 hsh) rfl rfl ?_
      refine g_goto aX12_blanks_19 ?_
      exact ih _ hE
set_option maxRecDepth 20000 in
set_option maxHeartbeats 2000000 in
theorem tX12_blanks {sh : List kd} {σ τ : St} {r : Unit} (hsh : rmSh sh) (hE : fX12_blanks sh σ = some (r, τ)) : i_X 2 139 [.ref 0] (s_h sh σ) 0 0 none (s_h sh τ) := by
  refine g_X (M := mX12_blanks) (loc := [.ref 0]) rfl (Nat.le_of_ble_eq_true rfl) rfl ?_
  unfold fX12_blanks at hE
  exact tX12_blanks_L0 hsh i_F _ hE
theorem aX12_isDigit_0 : i_at mX12_isDigit.2.2.2.2.2 0 = some (.aload_n 0, 1, 0, 0, 0, 0) := by decide +kernel
theorem aX12_isDigit_1 : i_at mX12_isDigit.2.2.2.2.2 1 = some (.invokevirtual 169, 3, 138, 0, 1279, 0) := by decide +kernel
theorem aX12_isDigit_4 : i_at mX12_isDigit.2.2.2.2.2 4 = some (.i2l, 1, 0, 0, 0, 0) := by decide +kernel
theorem aX12_isDigit_5 : i_at mX12_isDigit.2.2.2.2.2 5 = some (.ldc2_w 173, 3, 0, 0, 1322, 48) := by decide +kernel
theorem aX12_isDigit_8 : i_at mX12_isDigit.2.2.2.2.2 8 = some (.ldc2_w 175, 3, 0, 0, 1323, 57) := by decide +kernel
theorem aX12_isDigit_11 : i_at mX12_isDigit.2.2.2.2.2 11 = some (.invokestatic 131, 3, 127, 3, 1324, 0) := by decide +kernel
theorem aX12_isDigit_14 : i_at mX12_isDigit.2.2.2.2.2 14 = some (.ireturn, 1, 0, 0, 0, 0) := by decide +kernel
noncomputable def fX12_isDigit (sh : List kd) (σ : St) : Option (Int32 × St) := i_bd (fX12_sign sh σ) (fun r1 s2 => i_bd (fX12_in sh s2 r1.toInt64 48 57) (fun r4 s5 => if (r4 : Int32) &&& 1 = r4 then some (r4, s5) else none))
set_option maxRecDepth 20000 in
set_option maxHeartbeats 2000000 in
theorem tX12_isDigit {sh : List kd} {σ τ : St} {r : Int32} (hsh : rmSh sh) (hE : fX12_isDigit sh σ = some (r, τ)) : i_X 2 140 [.ref 0] (s_h sh σ) 0 0 (some (.int r)) (s_h sh τ) := by
  refine g_X (M := mX12_isDigit) (loc := [.ref 0]) rfl (Nat.le_of_ble_eq_true rfl) rfl ?_
  unfold fX12_isDigit at hE
  refine g_ldan aX12_isDigit_0 rfl ?_
  obtain ⟨r1, s2, h3, hE⟩ := i_bd_some hE
  refine g_calV (As := []) (rest := []) aX12_isDigit_1 (i_X_mono (by omega) (tX12_sign hsh h3)) (sR_0 hsh) (by decide +kernel) rfl rfl (Nat.le_of_ble_eq_true rfl) rfl ?_
  refine g_i2l aX12_isDigit_4 ?_
  refine g_ldc2 (x := 48) aX12_isDigit_5 rfl ?_
  refine g_ldc2 (x := 57) aX12_isDigit_8 rfl ?_
  obtain ⟨r4, s5, h6, hE⟩ := i_bd_some hE
  refine g_calS (As := [.long r1.toInt64, .long 48, .long 57]) (rest := []) aX12_isDigit_11 (i_X_mono (by omega) (tX12_in hsh h6)) rfl rfl (Nat.le_of_ble_eq_true rfl) rfl ?_
  obtain ⟨h7, hE⟩ := i_ifn hE
  obtain ⟨rfl, rfl⟩ := i_some_inj hE
  exact g_iret aX12_isDigit_14 rfl (congrArg Value.int h7)
theorem aX12_stood_0 : i_at mX12_stood.2.2.2.2.2 0 = some (.aload_n 0, 1, 0, 0, 0, 0) := by decide +kernel
theorem aX12_stood_1 : i_at mX12_stood.2.2.2.2.2 1 = some (.getfield 166, 3, 11, 20, 1107, 0) := by decide +kernel
theorem aX12_stood_4 : i_at mX12_stood.2.2.2.2.2 4 = some (.istore_n 2, 1, 0, 0, 0, 0) := by decide +kernel
theorem aX12_stood_5 : i_at mX12_stood.2.2.2.2.2 5 = some (.iload_n 2, 1, 0, 0, 0, 0) := by decide +kernel
theorem aX12_stood_6 : i_at mX12_stood.2.2.2.2.2 6 = some (.aload_n 0, 1, 0, 0, 0, 0) := by decide +kernel
theorem aX12_stood_7 : i_at mX12_stood.2.2.2.2.2 7 = some (.getfield 135, 3, 11, 19, 1106, 0) := by decide +kernel
theorem aX12_stood_10 : i_at mX12_stood.2.2.2.2.2 10 = some (.if_icmp .ge 31, 3, 41, 0, 0, 0) := by decide +kernel
theorem aX12_stood_13 : i_at mX12_stood.2.2.2.2.2 13 = some (.aload_n 0, 1, 0, 0, 0, 0) := by decide +kernel
theorem aX12_stood_14 : i_at mX12_stood.2.2.2.2.2 14 = some (.getfield 68, 3, 11, 29, 1116, 0) := by decide +kernel
theorem aX12_stood_17 : i_at mX12_stood.2.2.2.2.2 17 = some (.iload_n 2, 1, 0, 0, 0, 0) := by decide +kernel
theorem aX12_stood_18 : i_at mX12_stood.2.2.2.2.2 18 = some (.baload, 1, 0, 0, 0, 0) := by decide +kernel
theorem aX12_stood_19 : i_at mX12_stood.2.2.2.2.2 19 = some (.bipush 97, 2, 0, 0, 0, 0) := by decide +kernel
theorem aX12_stood_21 : i_at mX12_stood.2.2.2.2.2 21 = some (.if_icmp .lt 20, 3, 41, 0, 0, 0) := by decide +kernel
theorem aX12_stood_24 : i_at mX12_stood.2.2.2.2.2 24 = some (.aload_n 0, 1, 0, 0, 0, 0) := by decide +kernel
theorem aX12_stood_25 : i_at mX12_stood.2.2.2.2.2 25 = some (.getfield 68, 3, 11, 29, 1116, 0) := by decide +kernel
theorem aX12_stood_28 : i_at mX12_stood.2.2.2.2.2 28 = some (.iload_n 2, 1, 0, 0, 0, 0) := by decide +kernel
theorem aX12_stood_29 : i_at mX12_stood.2.2.2.2.2 29 = some (.baload, 1, 0, 0, 0, 0) := by decide +kernel
theorem aX12_stood_30 : i_at mX12_stood.2.2.2.2.2 30 = some (.bipush 122, 2, 0, 0, 0, 0) := by decide +kernel
theorem aX12_stood_32 : i_at mX12_stood.2.2.2.2.2 32 = some (.if_icmp .gt 9, 3, 41, 0, 0, 0) := by decide +kernel
theorem aX12_stood_35 : i_at mX12_stood.2.2.2.2.2 35 = some (.iinc 2 1, 3, 0, 0, 0, 0) := by decide +kernel
theorem aX12_stood_38 : i_at mX12_stood.2.2.2.2.2 38 = some (.goto (-33), 3, 5, 0, 0, 0) := by decide +kernel
theorem aX12_stood_41 : i_at mX12_stood.2.2.2.2.2 41 = some (.iload_n 2, 1, 0, 0, 0, 0) := by decide +kernel
theorem aX12_stood_42 : i_at mX12_stood.2.2.2.2.2 42 = some (.aload_n 0, 1, 0, 0, 0, 0) := by decide +kernel
theorem aX12_stood_43 : i_at mX12_stood.2.2.2.2.2 43 = some (.getfield 166, 3, 11, 20, 1107, 0) := by decide +kernel
theorem aX12_stood_46 : i_at mX12_stood.2.2.2.2.2 46 = some (.isub, 1, 0, 0, 0, 0) := by decide +kernel
theorem aX12_stood_47 : i_at mX12_stood.2.2.2.2.2 47 = some (.aload_n 1, 1, 0, 0, 0, 0) := by decide +kernel
theorem aX12_stood_48 : i_at mX12_stood.2.2.2.2.2 48 = some (.invokevirtual 177, 3, 1004, 0, 1295, 0) := by decide +kernel
theorem aX12_stood_51 : i_at mX12_stood.2.2.2.2.2 51 = some (.if_icmp .ne 7, 3, 58, 0, 0, 0) := by decide +kernel
theorem aX12_stood_54 : i_at mX12_stood.2.2.2.2.2 54 = some (.iconst 1, 1, 0, 0, 0, 0) := by decide +kernel
theorem aX12_stood_55 : i_at mX12_stood.2.2.2.2.2 55 = some (.goto 4, 3, 59, 0, 0, 0) := by decide +kernel
theorem aX12_stood_58 : i_at mX12_stood.2.2.2.2.2 58 = some (.iconst 0, 1, 0, 0, 0, 0) := by decide +kernel
theorem aX12_stood_59 : i_at mX12_stood.2.2.2.2.2 59 = some (.istore_n 3, 1, 0, 0, 0, 0) := by decide +kernel
theorem aX12_stood_60 : i_at mX12_stood.2.2.2.2.2 60 = some (.iconst 0, 1, 0, 0, 0, 0) := by decide +kernel
theorem aX12_stood_61 : i_at mX12_stood.2.2.2.2.2 61 = some (.istore 4, 2, 0, 0, 0, 0) := by decide +kernel
theorem aX12_stood_63 : i_at mX12_stood.2.2.2.2.2 63 = some (.iload 4, 2, 0, 0, 0, 0) := by decide +kernel
theorem aX12_stood_65 : i_at mX12_stood.2.2.2.2.2 65 = some (.aload_n 1, 1, 0, 0, 0, 0) := by decide +kernel
theorem aX12_stood_66 : i_at mX12_stood.2.2.2.2.2 66 = some (.invokevirtual 177, 3, 1004, 0, 1295, 0) := by decide +kernel
theorem aX12_stood_69 : i_at mX12_stood.2.2.2.2.2 69 = some (.if_icmp .ge 40, 3, 109, 0, 0, 0) := by decide +kernel
theorem aX12_stood_72 : i_at mX12_stood.2.2.2.2.2 72 = some (.iload_n 3, 1, 0, 0, 0, 0) := by decide +kernel
theorem aX12_stood_73 : i_at mX12_stood.2.2.2.2.2 73 = some (.ifCond .eq 36, 3, 109, 0, 0, 0) := by decide +kernel
theorem aX12_stood_76 : i_at mX12_stood.2.2.2.2.2 76 = some (.aload_n 0, 1, 0, 0, 0, 0) := by decide +kernel
theorem aX12_stood_77 : i_at mX12_stood.2.2.2.2.2 77 = some (.getfield 68, 3, 11, 29, 1116, 0) := by decide +kernel
theorem aX12_stood_80 : i_at mX12_stood.2.2.2.2.2 80 = some (.aload_n 0, 1, 0, 0, 0, 0) := by decide +kernel
theorem aX12_stood_81 : i_at mX12_stood.2.2.2.2.2 81 = some (.getfield 166, 3, 11, 20, 1107, 0) := by decide +kernel
theorem aX12_stood_84 : i_at mX12_stood.2.2.2.2.2 84 = some (.iload 4, 2, 0, 0, 0, 0) := by decide +kernel
theorem aX12_stood_86 : i_at mX12_stood.2.2.2.2.2 86 = some (.iadd, 1, 0, 0, 0, 0) := by decide +kernel
theorem aX12_stood_87 : i_at mX12_stood.2.2.2.2.2 87 = some (.baload, 1, 0, 0, 0, 0) := by decide +kernel
theorem aX12_stood_88 : i_at mX12_stood.2.2.2.2.2 88 = some (.aload_n 1, 1, 0, 0, 0, 0) := by decide +kernel
theorem aX12_stood_89 : i_at mX12_stood.2.2.2.2.2 89 = some (.iload 4, 2, 0, 0, 0, 0) := by decide +kernel
theorem aX12_stood_91 : i_at mX12_stood.2.2.2.2.2 91 = some (.invokevirtual 182, 3, 1005, 1, 1296, 0) := by decide +kernel
theorem aX12_stood_94 : i_at mX12_stood.2.2.2.2.2 94 = some (.if_icmp .ne 7, 3, 101, 0, 0, 0) := by decide +kernel
theorem aX12_stood_97 : i_at mX12_stood.2.2.2.2.2 97 = some (.iconst 1, 1, 0, 0, 0, 0) := by decide +kernel
theorem aX12_stood_98 : i_at mX12_stood.2.2.2.2.2 98 = some (.goto 4, 3, 102, 0, 0, 0) := by decide +kernel
theorem aX12_stood_101 : i_at mX12_stood.2.2.2.2.2 101 = some (.iconst 0, 1, 0, 0, 0, 0) := by decide +kernel
theorem aX12_stood_102 : i_at mX12_stood.2.2.2.2.2 102 = some (.istore_n 3, 1, 0, 0, 0, 0) := by decide +kernel
theorem aX12_stood_103 : i_at mX12_stood.2.2.2.2.2 103 = some (.iinc 4 1, 3, 0, 0, 0, 0) := by decide +kernel
theorem aX12_stood_106 : i_at mX12_stood.2.2.2.2.2 106 = some (.goto (-43), 3, 63, 0, 0, 0) := by decide +kernel
theorem aX12_stood_109 : i_at mX12_stood.2.2.2.2.2 109 = some (.iload_n 3, 1, 0, 0, 0, 0) := by decide +kernel
theorem aX12_stood_110 : i_at mX12_stood.2.2.2.2.2 110 = some (.ireturn, 1, 0, 0, 0, 0) := by decide +kernel
noncomputable def fX12_stood_L5 (sh : List kd) (p1 : Nat) (σ : St) (k41 : Int32 → Option (Int32 × St)) : Nat → Int32 → Option (Int32 × St)
  | 0, _ => none
  | n53 + 1, x1 => if (σ.1 0 19) ≤ x1 then k41 x1 else if i_ok x1 400 then if (σ.2.1 19 x1.toNatClampNeg) < 97 then k41 x1 else if i_ok x1 400 then if 122 < (σ.2.1 19 x1.toNatClampNeg) then k41 x1 else (fX12_stood_L5 sh p1 σ k41 n53 (x1 + 1)) else none else none
noncomputable def fX12_stood_J109 (sh : List kd) (p1 : Nat) (σ : St) (x52 : Int32) (x60 : Int32) (x61 : Int32) : Option (Int32 × St) := if (x60 : Int32) &&& 1 = x60 then some (x60, σ) else none
noncomputable def fX12_stood_L63 (sh : List kd) (p1 : Nat) (σ : St) (x52 : Int32) : Nat → Int32 → Int32 → Option (Int32 × St)
  | 0, _, _ => none
  | n62 + 1, x60, x61 => if p1 < 28 then if (Int32.ofNat (i_slen p1)) ≤ x61 then fX12_stood_J109 sh p1 σ x52 x60 x61 else if x60 = 0 then fX12_stood_J109 sh p1 σ x52 x60 x61 else if i_ok ((σ.1 0 20) + x61) 400 then if p1 < 28 then if i_ok x61 (i_slen p1) then (fX12_stood_L63 sh p1 σ x52 n62 ((if ¬ (σ.2.1 19 ((σ.1 0 20) + x61).toNatClampNeg) = (i_schr p1 x61.toNatClampNeg) then 0 else 1) : Int32) (x61 + 1)) else none else none else none else none
noncomputable def fX12_stood_X41 (sh : List kd) (p1 : Nat) (σ : St) (x52 : Int32) : Option (Int32 × St) := if p1 < 28 then fX12_stood_L63 sh p1 σ x52 i_F ((if ¬ (x52 - (σ.1 0 20)) = (Int32.ofNat (i_slen p1)) then 0 else 1) : Int32) 0 else none
noncomputable def fX12_stood (sh : List kd) (σ : St) (p1 : Nat) : Option (Int32 × St) := fX12_stood_L5 sh p1 σ (fun (x52 : Int32) => fX12_stood_X41 sh p1 σ x52) i_F (σ.1 0 20)
set_option maxRecDepth 20000 in
set_option maxHeartbeats 2000000 in
theorem tX12_stood_L5 {sh : List kd} {τ : St} {r : Int32} (hsh : rmSh sh) {p1 : Nat} {σ : St} {k41 : Int32 → Option (Int32 × St)} (hk41 : ∀ (x52 : Int32), k41 x52 = some (r, τ) → g_R sh 0 mX12_stood (some (.int r)) τ 41 [.ref 0, .ref (i_SB + p1), .int x52, .retAddr 0, .retAddr 0] [] (σ)) : ∀ (n0 : Nat) (x1 : Int32), fX12_stood_L5 sh p1 σ k41 n0 x1 = some (r, τ) → g_R sh 0 mX12_stood (some (.int r)) τ 5 [.ref 0, .ref (i_SB + p1), .int x1, .retAddr 0, .retAddr 0] [] (σ) := by
  intro n0
  induction n0 with
  | zero => intro _ hE; cases hE
  | succ n53 ih =>
    intro x1 hE
    unfold fX12_stood_L5 at hE
    refine g_ldin aX12_stood_5 rfl ?_
    refine g_ldan aX12_stood_6 rfl ?_
    refine g_getI aX12_stood_7 (sR_0 hsh) rfl ?_
    by_cases hc54 : (σ.1 0 19) ≤ x1
    · rw [if_pos hc54] at hE
      refine g_ic_ge_t aX12_stood_10 hc54 ?_
      exact hk41 _ hE
    · rw [if_neg hc54] at hE
      refine g_ic_ge_f aX12_stood_10 hc54 ?_
      refine g_ldan aX12_stood_13 rfl ?_
      refine g_getR aX12_stood_14 (sR_0 hsh) rfl ?_
      refine g_ldin aX12_stood_17 rfl ?_
      obtain ⟨h55, hE⟩ := i_ifn hE
      refine g_bld aX12_stood_18 (sR_19 hsh) h55 ?_
      refine g_bipush (x := 97) aX12_stood_19 rfl ?_
      by_cases hc56 : (σ.2.1 19 x1.toNatClampNeg) < 97
      · rw [if_pos hc56] at hE
        refine g_ic_lt_t aX12_stood_21 hc56 ?_
        exact hk41 _ hE
      · rw [if_neg hc56] at hE
        refine g_ic_lt_f aX12_stood_21 hc56 ?_
        refine g_ldan aX12_stood_24 rfl ?_
        refine g_getR aX12_stood_25 (sR_0 hsh) rfl ?_
        refine g_ldin aX12_stood_28 rfl ?_
        obtain ⟨h57, hE⟩ := i_ifn hE
        refine g_bld aX12_stood_29 (sR_19 hsh) h57 ?_
        refine g_bipush (x := 122) aX12_stood_30 rfl ?_
        by_cases hc58 : 122 < (σ.2.1 19 x1.toNatClampNeg)
        · rw [if_pos hc58] at hE
          refine g_ic_gt_t aX12_stood_32 hc58 ?_
          exact hk41 _ hE
        · rw [if_neg hc58] at hE
          refine g_ic_gt_f aX12_stood_32 hc58 ?_
          refine g_iinc (y := 1) (loc2 := [.ref 0, .ref (i_SB + p1), .int (x1 + 1), .retAddr 0, .retAddr 0]) aX12_stood_35 rfl rfl rfl ?_
          refine g_goto aX12_stood_38 ?_
          exact ih _ hE
set_option maxRecDepth 20000 in
set_option maxHeartbeats 2000000 in
theorem tX12_stood_J109 {sh : List kd} {τ : St} {r : Int32} (hsh : rmSh sh) {p1 : Nat} {σ : St} {x52 : Int32} {x60 : Int32} {x61 : Int32} (hE : fX12_stood_J109 sh p1 σ x52 x60 x61 = some (r, τ)) : g_R sh 0 mX12_stood (some (.int r)) τ 109 [.ref 0, .ref (i_SB + p1), .int x52, .int x60, .int x61] [] (σ) := by
  unfold fX12_stood_J109 at hE
  refine g_ldin aX12_stood_109 rfl ?_
  obtain ⟨h114, hE⟩ := i_ifn hE
  obtain ⟨rfl, rfl⟩ := i_some_inj hE
  exact g_iret aX12_stood_110 rfl (congrArg Value.int h114)
set_option maxRecDepth 20000 in
set_option maxHeartbeats 2000000 in
theorem tX12_stood_L63 {sh : List kd} {τ : St} {r : Int32} (hsh : rmSh sh) {p1 : Nat} {σ : St} {x52 : Int32} : ∀ (n0 : Nat) (x60 : Int32) (x61 : Int32), fX12_stood_L63 sh p1 σ x52 n0 x60 x61 = some (r, τ) → g_R sh 0 mX12_stood (some (.int r)) τ 63 [.ref 0, .ref (i_SB + p1), .int x52, .int x60, .int x61] [] (σ) := by
  intro n0
  induction n0 with
  | zero => intro _ _ hE; cases hE
  | succ n62 ih =>
    intro x60 x61 hE
    unfold fX12_stood_L63 at hE
    refine g_ldi aX12_stood_63 rfl ?_
    refine g_ldan aX12_stood_65 rfl ?_
    obtain ⟨h63, hE⟩ := i_ifn hE
    refine g_slen aX12_stood_66 h63 (Nat.le_of_ble_eq_true rfl) ?_
    by_cases hc115 : (Int32.ofNat (i_slen p1)) ≤ x61
    · rw [if_pos hc115] at hE
      refine g_ic_ge_t aX12_stood_69 hc115 ?_
      exact tX12_stood_J109 hsh hE
    · rw [if_neg hc115] at hE
      refine g_ic_ge_f aX12_stood_69 hc115 ?_
      refine g_ldin aX12_stood_72 rfl ?_
      by_cases hc116 : x60 = 0
      · rw [if_pos hc116] at hE
        refine g_if_eq_t aX12_stood_73 hc116 ?_
        exact tX12_stood_J109 hsh hE
      · rw [if_neg hc116] at hE
        refine g_if_eq_f aX12_stood_73 hc116 ?_
        refine g_ldan aX12_stood_76 rfl ?_
        refine g_getR aX12_stood_77 (sR_0 hsh) rfl ?_
        refine g_ldan aX12_stood_80 rfl ?_
        refine g_getI aX12_stood_81 (sR_0 hsh) rfl ?_
        refine g_ldi aX12_stood_84 rfl ?_
        refine g_iadd aX12_stood_86 ?_
        obtain ⟨h117, hE⟩ := i_ifn hE
        refine g_bld aX12_stood_87 (sR_19 hsh) h117 ?_
        refine g_ldan aX12_stood_88 rfl ?_
        refine g_ldi aX12_stood_89 rfl ?_
        obtain ⟨h118, hE⟩ := i_ifn hE
        obtain ⟨h119, hE⟩ := i_ifn hE
        refine g_schr aX12_stood_91 h118 h119 (Nat.le_of_ble_eq_true rfl) ?_
        have hJ : g_R sh 0 mX12_stood (some (.int r)) τ 102 [.ref 0, .ref (i_SB + p1), .int x52, .int x60, .int x61] [.int ((if ¬ (σ.2.1 19 ((σ.1 0 20) + x61).toNatClampNeg) = (i_schr p1 x61.toNatClampNeg) then 0 else 1) : Int32)] (σ) := by
          refine g_stin (loc2 := [.ref 0, .ref (i_SB + p1), .int x52, .int ((if ¬ (σ.2.1 19 ((σ.1 0 20) + x61).toNatClampNeg) = (i_schr p1 x61.toNatClampNeg) then 0 else 1) : Int32), .int x61]) aX12_stood_102 (Nat.le_of_ble_eq_true rfl) rfl ?_
          refine g_iinc (y := 1) (loc2 := [.ref 0, .ref (i_SB + p1), .int x52, .int ((if ¬ (σ.2.1 19 ((σ.1 0 20) + x61).toNatClampNeg) = (i_schr p1 x61.toNatClampNeg) then 0 else 1) : Int32), .int (x61 + 1)]) aX12_stood_103 rfl rfl rfl ?_
          refine g_goto aX12_stood_106 ?_
          exact ih _ _ hE
        clear hE
        by_cases hc119 : ¬ (σ.2.1 19 ((σ.1 0 20) + x61).toNatClampNeg) = (i_schr p1 x61.toNatClampNeg)
        · (try rw [if_pos hc119] at hJ)
          refine g_ic_ne_t aX12_stood_94 hc119 ?_
          refine g_iconst (x := 0) aX12_stood_101 rfl ?_
          exact hJ
        · (try rw [if_neg hc119] at hJ)
          refine g_ic_ne_f aX12_stood_94 hc119 ?_
          refine g_iconst (x := 1) aX12_stood_97 rfl ?_
          refine g_goto aX12_stood_98 ?_
          exact hJ
set_option maxRecDepth 20000 in
set_option maxHeartbeats 2000000 in
theorem tX12_stood_X41 {sh : List kd} {τ : St} {r : Int32} (hsh : rmSh sh) {p1 : Nat} {σ : St} {x52 : Int32} (hE : fX12_stood_X41 sh p1 σ x52 = some (r, τ)) : g_R sh 0 mX12_stood (some (.int r)) τ 41 [.ref 0, .ref (i_SB + p1), .int x52, .retAddr 0, .retAddr 0] [] (σ) := by
  unfold fX12_stood_X41 at hE
  refine g_ldin aX12_stood_41 rfl ?_
  refine g_ldan aX12_stood_42 rfl ?_
  refine g_getI aX12_stood_43 (sR_0 hsh) rfl ?_
  refine g_isub aX12_stood_46 ?_
  refine g_ldan aX12_stood_47 rfl ?_
  obtain ⟨h59, hE⟩ := i_ifn hE
  refine g_slen aX12_stood_48 h59 (Nat.le_of_ble_eq_true rfl) ?_
  have hJ : g_R sh 0 mX12_stood (some (.int r)) τ 59 [.ref 0, .ref (i_SB + p1), .int x52, .retAddr 0, .retAddr 0] [.int ((if ¬ (x52 - (σ.1 0 20)) = (Int32.ofNat (i_slen p1)) then 0 else 1) : Int32)] (σ) := by
    refine g_stin (loc2 := [.ref 0, .ref (i_SB + p1), .int x52, .int ((if ¬ (x52 - (σ.1 0 20)) = (Int32.ofNat (i_slen p1)) then 0 else 1) : Int32), .retAddr 0]) aX12_stood_59 (Nat.le_of_ble_eq_true rfl) rfl ?_
    refine g_iconst (x := 0) aX12_stood_60 rfl ?_
    refine g_sti (loc2 := [.ref 0, .ref (i_SB + p1), .int x52, .int ((if ¬ (x52 - (σ.1 0 20)) = (Int32.ofNat (i_slen p1)) then 0 else 1) : Int32), .int 0]) aX12_stood_61 (Nat.le_of_ble_eq_true rfl) rfl ?_
    exact tX12_stood_L63 hsh i_F _ _ hE
  clear hE
  by_cases hc120 : ¬ (x52 - (σ.1 0 20)) = (Int32.ofNat (i_slen p1))
  · (try rw [if_pos hc120] at hJ)
    refine g_ic_ne_t aX12_stood_51 hc120 ?_
    refine g_iconst (x := 0) aX12_stood_58 rfl ?_
    exact hJ
  · (try rw [if_neg hc120] at hJ)
    refine g_ic_ne_f aX12_stood_51 hc120 ?_
    refine g_iconst (x := 1) aX12_stood_54 rfl ?_
    refine g_goto aX12_stood_55 ?_
    exact hJ
set_option maxRecDepth 20000 in
set_option maxHeartbeats 2000000 in
theorem tX12_stood {sh : List kd} {σ τ : St} {r : Int32} (hsh : rmSh sh) {p1 : Nat} (hE : fX12_stood sh σ p1 = some (r, τ)) : i_X 1 141 [.ref 0, .ref (i_SB + p1)] (s_h sh σ) 0 0 (some (.int r)) (s_h sh τ) := by
  refine g_X (M := mX12_stood) (loc := [.ref 0, .ref (i_SB + p1), .retAddr 0, .retAddr 0, .retAddr 0]) rfl (Nat.le_of_ble_eq_true rfl) rfl ?_
  unfold fX12_stood at hE
  refine g_ldan aX12_stood_0 rfl ?_
  refine g_getI aX12_stood_1 (sR_0 hsh) rfl ?_
  refine g_stin (loc2 := [.ref 0, .ref (i_SB + p1), .int (σ.1 0 20), .retAddr 0, .retAddr 0]) aX12_stood_4 (Nat.le_of_ble_eq_true rfl) rfl ?_
  exact tX12_stood_L5 hsh (fun x52 hE => tX12_stood_X41 hsh hE) i_F _ hE
theorem aX12_takes_0 : i_at mX12_takes.2.2.2.2.2 0 = some (.aload_n 0, 1, 0, 0, 0, 0) := by decide +kernel
theorem aX12_takes_1 : i_at mX12_takes.2.2.2.2.2 1 = some (.invokevirtual 186, 3, 139, 0, 1275, 0) := by decide +kernel
theorem aX12_takes_4 : i_at mX12_takes.2.2.2.2.2 4 = some (.aload_n 0, 1, 0, 0, 0, 0) := by decide +kernel
theorem aX12_takes_5 : i_at mX12_takes.2.2.2.2.2 5 = some (.aload_n 1, 1, 0, 0, 0, 0) := by decide +kernel
theorem aX12_takes_6 : i_at mX12_takes.2.2.2.2.2 6 = some (.invokevirtual 189, 3, 141, 1, 1291, 0) := by decide +kernel
theorem aX12_takes_9 : i_at mX12_takes.2.2.2.2.2 9 = some (.istore_n 2, 1, 0, 0, 0, 0) := by decide +kernel
theorem aX12_takes_10 : i_at mX12_takes.2.2.2.2.2 10 = some (.aload_n 0, 1, 0, 0, 0, 0) := by decide +kernel
theorem aX12_takes_11 : i_at mX12_takes.2.2.2.2.2 11 = some (.dup, 1, 0, 0, 0, 0) := by decide +kernel
theorem aX12_takes_12 : i_at mX12_takes.2.2.2.2.2 12 = some (.getfield 166, 3, 11, 20, 1107, 0) := by decide +kernel
theorem aX12_takes_15 : i_at mX12_takes.2.2.2.2.2 15 = some (.iload_n 2, 1, 0, 0, 0, 0) := by decide +kernel
theorem aX12_takes_16 : i_at mX12_takes.2.2.2.2.2 16 = some (.ifCond .eq 10, 3, 26, 0, 0, 0) := by decide +kernel
theorem aX12_takes_19 : i_at mX12_takes.2.2.2.2.2 19 = some (.aload_n 1, 1, 0, 0, 0, 0) := by decide +kernel
theorem aX12_takes_20 : i_at mX12_takes.2.2.2.2.2 20 = some (.invokevirtual 177, 3, 1004, 0, 1295, 0) := by decide +kernel
theorem aX12_takes_23 : i_at mX12_takes.2.2.2.2.2 23 = some (.goto 4, 3, 27, 0, 0, 0) := by decide +kernel
theorem aX12_takes_26 : i_at mX12_takes.2.2.2.2.2 26 = some (.iconst 0, 1, 0, 0, 0, 0) := by decide +kernel
theorem aX12_takes_27 : i_at mX12_takes.2.2.2.2.2 27 = some (.iadd, 1, 0, 0, 0, 0) := by decide +kernel
theorem aX12_takes_28 : i_at mX12_takes.2.2.2.2.2 28 = some (.putfield 166, 3, 11, 20, 1107, 0) := by decide +kernel
theorem aX12_takes_31 : i_at mX12_takes.2.2.2.2.2 31 = some (.iload_n 2, 1, 0, 0, 0, 0) := by decide +kernel
theorem aX12_takes_32 : i_at mX12_takes.2.2.2.2.2 32 = some (.ireturn, 1, 0, 0, 0, 0) := by decide +kernel
noncomputable def fX12_takes_J27 (sh : List kd) (p1 : Nat) (r4 : Int32) (s5 : St) (x57 : Int32) : Option (Int32 × St) := if (r4 : Int32) &&& 1 = r4 then some (r4, s_F s5 0 20 ((s5.1 0 20) + x57)) else none
noncomputable def fX12_takes (sh : List kd) (σ : St) (p1 : Nat) : Option (Int32 × St) := i_bd (fX12_blanks sh σ) (fun r1 s2 => i_bd (fX12_stood sh s2 p1) (fun r4 s5 => if r4 = 0 then fX12_takes_J27 sh p1 r4 s5 0 else if p1 < 28 then fX12_takes_J27 sh p1 r4 s5 (Int32.ofNat (i_slen p1)) else none))
set_option maxRecDepth 20000 in
set_option maxHeartbeats 2000000 in
theorem tX12_takes_J27 {sh : List kd} {τ : St} {r : Int32} (hsh : rmSh sh) {p1 : Nat} {r4 : Int32} {s5 : St} {x57 : Int32} (hE : fX12_takes_J27 sh p1 r4 s5 x57 = some (r, τ)) : g_R sh 2 mX12_takes (some (.int r)) τ 27 [.ref 0, .ref (i_SB + p1), .int r4] [.int x57, .int (s5.1 0 20), .ref 0] (s5) := by
  unfold fX12_takes_J27 at hE
  refine g_iadd aX12_takes_27 ?_
  refine g_putI aX12_takes_28 (sR_0 hsh) rfl rfl ?_
  refine g_ldin aX12_takes_31 rfl ?_
  obtain ⟨h58, hE⟩ := i_ifn hE
  obtain ⟨rfl, rfl⟩ := i_some_inj hE
  exact g_iret aX12_takes_32 rfl (congrArg Value.int h58)
set_option maxRecDepth 20000 in
set_option maxHeartbeats 2000000 in
theorem tX12_takes {sh : List kd} {σ τ : St} {r : Int32} (hsh : rmSh sh) {p1 : Nat} (hE : fX12_takes sh σ p1 = some (r, τ)) : i_X 3 142 [.ref 0, .ref (i_SB + p1)] (s_h sh σ) 0 0 (some (.int r)) (s_h sh τ) := by
  refine g_X (M := mX12_takes) (loc := [.ref 0, .ref (i_SB + p1), .retAddr 0]) rfl (Nat.le_of_ble_eq_true rfl) rfl ?_
  unfold fX12_takes at hE
  refine g_ldan aX12_takes_0 rfl ?_
  obtain ⟨r1, s2, h3, hE⟩ := i_bd_some hE
  refine g_calV (As := []) (rest := []) aX12_takes_1 (i_X_mono (by omega) (tX12_blanks hsh h3)) (sR_0 hsh) (by decide +kernel) rfl rfl (Nat.le_of_ble_eq_true rfl) rfl ?_
  refine g_ldan aX12_takes_4 rfl ?_
  refine g_ldan aX12_takes_5 rfl ?_
  obtain ⟨r4, s5, h6, hE⟩ := i_bd_some hE
  refine g_calV (As := [.ref (i_SB + p1)]) (rest := []) aX12_takes_6 (i_X_mono (by omega) (tX12_stood hsh h6)) (sR_0 hsh) (by decide +kernel) rfl rfl (Nat.le_of_ble_eq_true rfl) rfl ?_
  refine g_stin (loc2 := [.ref 0, .ref (i_SB + p1), .int r4]) aX12_takes_9 (Nat.le_of_ble_eq_true rfl) rfl ?_
  refine g_ldan aX12_takes_10 rfl ?_
  refine g_dupa aX12_takes_11 ?_
  refine g_getI aX12_takes_12 (sR_0 hsh) rfl ?_
  refine g_ldin aX12_takes_15 rfl ?_
  by_cases hc59 : r4 = 0
  · rw [if_pos hc59] at hE
    refine g_if_eq_t aX12_takes_16 hc59 ?_
    refine g_iconst (x := 0) aX12_takes_26 rfl ?_
    exact tX12_takes_J27 hsh hE
  · rw [if_neg hc59] at hE
    refine g_if_eq_f aX12_takes_16 hc59 ?_
    refine g_ldan aX12_takes_19 rfl ?_
    obtain ⟨h60, hE⟩ := i_ifn hE
    refine g_slen aX12_takes_20 h60 (Nat.le_of_ble_eq_true rfl) ?_
    refine g_goto aX12_takes_23 ?_
    exact tX12_takes_J27 hsh hE
theorem aX12_entry_0 : i_at mX12_entry.2.2.2.2.2 0 = some (.aload_n 0, 1, 0, 0, 0, 0) := by decide +kernel
theorem aX12_entry_1 : i_at mX12_entry.2.2.2.2.2 1 = some (.getfield 163, 3, 11, 21, 1108, 0) := by decide +kernel
theorem aX12_entry_4 : i_at mX12_entry.2.2.2.2.2 4 = some (.ifCond .ne 51, 3, 55, 0, 0, 0) := by decide +kernel
theorem aX12_entry_7 : i_at mX12_entry.2.2.2.2.2 7 = some (.aload_n 0, 1, 0, 0, 0, 0) := by decide +kernel
theorem aX12_entry_8 : i_at mX12_entry.2.2.2.2.2 8 = some (.getfield 72, 3, 11, 30, 1117, 0) := by decide +kernel
theorem aX12_entry_11 : i_at mX12_entry.2.2.2.2.2 11 = some (.sipush 300, 3, 0, 0, 0, 0) := by decide +kernel
theorem aX12_entry_14 : i_at mX12_entry.2.2.2.2.2 14 = some (.aload_n 0, 1, 0, 0, 0, 0) := by decide +kernel
theorem aX12_entry_15 : i_at mX12_entry.2.2.2.2.2 15 = some (.getfield 193, 3, 11, 22, 1109, 0) := by decide +kernel
theorem aX12_entry_18 : i_at mX12_entry.2.2.2.2.2 18 = some (.imul, 1, 0, 0, 0, 0) := by decide +kernel
theorem aX12_entry_19 : i_at mX12_entry.2.2.2.2.2 19 = some (.aload_n 0, 1, 0, 0, 0, 0) := by decide +kernel
theorem aX12_entry_20 : i_at mX12_entry.2.2.2.2.2 20 = some (.getfield 196, 3, 11, 24, 1111, 0) := by decide +kernel
theorem aX12_entry_23 : i_at mX12_entry.2.2.2.2.2 23 = some (.iadd, 1, 0, 0, 0, 0) := by decide +kernel
theorem aX12_entry_24 : i_at mX12_entry.2.2.2.2.2 24 = some (.iload_n 1, 1, 0, 0, 0, 0) := by decide +kernel
theorem aX12_entry_25 : i_at mX12_entry.2.2.2.2.2 25 = some (.iastore, 1, 0, 0, 0, 0) := by decide +kernel
theorem aX12_entry_26 : i_at mX12_entry.2.2.2.2.2 26 = some (.aload_n 0, 1, 0, 0, 0, 0) := by decide +kernel
theorem aX12_entry_27 : i_at mX12_entry.2.2.2.2.2 27 = some (.getfield 75, 3, 11, 31, 1118, 0) := by decide +kernel
theorem aX12_entry_30 : i_at mX12_entry.2.2.2.2.2 30 = some (.sipush 300, 3, 0, 0, 0, 0) := by decide +kernel
theorem aX12_entry_33 : i_at mX12_entry.2.2.2.2.2 33 = some (.aload_n 0, 1, 0, 0, 0, 0) := by decide +kernel
theorem aX12_entry_34 : i_at mX12_entry.2.2.2.2.2 34 = some (.getfield 193, 3, 11, 22, 1109, 0) := by decide +kernel
theorem aX12_entry_37 : i_at mX12_entry.2.2.2.2.2 37 = some (.imul, 1, 0, 0, 0, 0) := by decide +kernel
theorem aX12_entry_38 : i_at mX12_entry.2.2.2.2.2 38 = some (.aload_n 0, 1, 0, 0, 0, 0) := by decide +kernel
theorem aX12_entry_39 : i_at mX12_entry.2.2.2.2.2 39 = some (.getfield 196, 3, 11, 24, 1111, 0) := by decide +kernel
theorem aX12_entry_42 : i_at mX12_entry.2.2.2.2.2 42 = some (.iadd, 1, 0, 0, 0, 0) := by decide +kernel
theorem aX12_entry_43 : i_at mX12_entry.2.2.2.2.2 43 = some (.iload_n 2, 1, 0, 0, 0, 0) := by decide +kernel
theorem aX12_entry_44 : i_at mX12_entry.2.2.2.2.2 44 = some (.iastore, 1, 0, 0, 0, 0) := by decide +kernel
theorem aX12_entry_45 : i_at mX12_entry.2.2.2.2.2 45 = some (.aload_n 0, 1, 0, 0, 0, 0) := by decide +kernel
theorem aX12_entry_46 : i_at mX12_entry.2.2.2.2.2 46 = some (.dup, 1, 0, 0, 0, 0) := by decide +kernel
theorem aX12_entry_47 : i_at mX12_entry.2.2.2.2.2 47 = some (.getfield 196, 3, 11, 24, 1111, 0) := by decide +kernel
theorem aX12_entry_50 : i_at mX12_entry.2.2.2.2.2 50 = some (.iconst 1, 1, 0, 0, 0, 0) := by decide +kernel
theorem aX12_entry_51 : i_at mX12_entry.2.2.2.2.2 51 = some (.iadd, 1, 0, 0, 0, 0) := by decide +kernel
theorem aX12_entry_52 : i_at mX12_entry.2.2.2.2.2 52 = some (.putfield 196, 3, 11, 24, 1111, 0) := by decide +kernel
theorem aX12_entry_55 : i_at mX12_entry.2.2.2.2.2 55 = some (.return_, 1, 0, 0, 0, 0) := by decide +kernel
noncomputable def fX12_entry_J55 (sh : List kd) (p1 : Int32) (p2 : Int32) (s51 : St) : Option (Unit × St) := some ((), s51)
noncomputable def fX12_entry (sh : List kd) (σ : St) (p1 : Int32) (p2 : Int32) : Option (Unit × St) := if ¬ (σ.1 0 21) = 0 then fX12_entry_J55 sh p1 p2 σ else if i_ok ((300 * (σ.1 0 22)) + (σ.1 0 24)) 1800 then if i_ok ((300 * ((s_A σ 20 ((300 * (σ.1 0 22)) + (σ.1 0 24)).toNatClampNeg p1).1 0 22)) + ((s_A σ 20 ((300 * (σ.1 0 22)) + (σ.1 0 24)).toNatClampNeg p1).1 0 24)) 1800 then i_jp (s_A (s_A σ 20 ((300 * (σ.1 0 22)) + (σ.1 0 24)).toNatClampNeg p1) 21 ((300 * ((s_A σ 20 ((300 * (σ.1 0 22)) + (σ.1 0 24)).toNatClampNeg p1).1 0 22)) + ((s_A σ 20 ((300 * (σ.1 0 22)) + (σ.1 0 24)).toNatClampNeg p1).1 0 24)).toNatClampNeg p2) (fun (s55 : St) => fX12_entry_J55 sh p1 p2 (s_F s55 0 24 ((s55.1 0 24) + 1))) else none else none
set_option maxRecDepth 20000 in
set_option maxHeartbeats 2000000 in
theorem tX12_entry_J55 {sh : List kd} {τ : St} {r : Unit} (hsh : rmSh sh) {p1 : Int32} {p2 : Int32} {s51 : St} (hE : fX12_entry_J55 sh p1 p2 s51 = some (r, τ)) : g_R sh 0 mX12_entry none τ 55 [.ref 0, .int p1, .int p2] [] (s51) := by
  unfold fX12_entry_J55 at hE
  obtain ⟨rfl, rfl⟩ := i_some_inj hE
  exact g_vret aX12_entry_55 rfl
set_option maxRecDepth 20000 in
set_option maxHeartbeats 2000000 in
theorem tX12_entry {sh : List kd} {σ τ : St} {r : Unit} (hsh : rmSh sh) {p1 : Int32} {p2 : Int32} (hE : fX12_entry sh σ p1 p2 = some (r, τ)) : i_X 1 143 [.ref 0, .int p1, .int p2] (s_h sh σ) 0 0 none (s_h sh τ) := by
  refine g_X (M := mX12_entry) (loc := [.ref 0, .int p1, .int p2]) rfl (Nat.le_of_ble_eq_true rfl) rfl ?_
  unfold fX12_entry at hE
  refine g_ldan aX12_entry_0 rfl ?_
  refine g_getI aX12_entry_1 (sR_0 hsh) rfl ?_
  by_cases hc52 : ¬ (σ.1 0 21) = 0
  · rw [if_pos hc52] at hE
    refine g_if_ne_t aX12_entry_4 hc52 ?_
    exact tX12_entry_J55 hsh hE
  · rw [if_neg hc52] at hE
    refine g_if_ne_f aX12_entry_4 hc52 ?_
    refine g_ldan aX12_entry_7 rfl ?_
    refine g_getR aX12_entry_8 (sR_0 hsh) rfl ?_
    refine g_sipush (x := 300) aX12_entry_11 rfl ?_
    refine g_ldan aX12_entry_14 rfl ?_
    refine g_getI aX12_entry_15 (sR_0 hsh) rfl ?_
    refine g_imul aX12_entry_18 ?_
    refine g_ldan aX12_entry_19 rfl ?_
    refine g_getI aX12_entry_20 (sR_0 hsh) rfl ?_
    refine g_iadd aX12_entry_23 ?_
    refine g_ldin aX12_entry_24 rfl ?_
    obtain ⟨h53, hE⟩ := i_ifn hE
    refine g_ist aX12_entry_25 (sR_20 hsh) h53 ?_
    refine g_ldan aX12_entry_26 rfl ?_
    refine g_getR aX12_entry_27 (sR_0 hsh) rfl ?_
    refine g_sipush (x := 300) aX12_entry_30 rfl ?_
    refine g_ldan aX12_entry_33 rfl ?_
    refine g_getI aX12_entry_34 (sR_0 hsh) rfl ?_
    refine g_imul aX12_entry_37 ?_
    refine g_ldan aX12_entry_38 rfl ?_
    refine g_getI aX12_entry_39 (sR_0 hsh) rfl ?_
    refine g_iadd aX12_entry_42 ?_
    refine g_ldin aX12_entry_43 rfl ?_
    obtain ⟨h54, hE⟩ := i_ifn hE
    refine g_ist aX12_entry_44 (sR_21 hsh) h54 ?_
    obtain ⟨s55, h56, hE⟩ := i_jp_some hE
    rw [← h56]
    refine g_ldan aX12_entry_45 rfl ?_
    refine g_dupa aX12_entry_46 ?_
    refine g_getI aX12_entry_47 (sR_0 hsh) rfl ?_
    refine g_iconst (x := 1) aX12_entry_50 rfl ?_
    refine g_iadd aX12_entry_51 ?_
    refine g_putI aX12_entry_52 (sR_0 hsh) rfl rfl ?_
    exact tX12_entry_J55 hsh hE
theorem aX12_isCounted_0 : i_at mX12_isCounted.2.2.2.2.2 0 = some (.aload_n 0, 1, 0, 0, 0, 0) := by decide +kernel
theorem aX12_isCounted_1 : i_at mX12_isCounted.2.2.2.2.2 1 = some (.getfield 199, 3, 11, 26, 1113, 0) := by decide +kernel
theorem aX12_isCounted_4 : i_at mX12_isCounted.2.2.2.2.2 4 = some (.bipush 60, 2, 0, 0, 0, 0) := by decide +kernel
theorem aX12_isCounted_6 : i_at mX12_isCounted.2.2.2.2.2 6 = some (.if_icmp .ne 9, 3, 15, 0, 0, 0) := by decide +kernel
theorem aX12_isCounted_9 : i_at mX12_isCounted.2.2.2.2.2 9 = some (.aload_n 0, 1, 0, 0, 0, 0) := by decide +kernel
theorem aX12_isCounted_10 : i_at mX12_isCounted.2.2.2.2.2 10 = some (.iconst 3, 1, 0, 0, 0, 0) := by decide +kernel
theorem aX12_isCounted_11 : i_at mX12_isCounted.2.2.2.2.2 11 = some (.iload_n 1, 1, 0, 0, 0, 0) := by decide +kernel
theorem aX12_isCounted_12 : i_at mX12_isCounted.2.2.2.2.2 12 = some (.invokevirtual 202, 3, 137, 2, 1297, 0) := by decide +kernel
theorem aX12_isCounted_15 : i_at mX12_isCounted.2.2.2.2.2 15 = some (.aload_n 0, 1, 0, 0, 0, 0) := by decide +kernel
theorem aX12_isCounted_16 : i_at mX12_isCounted.2.2.2.2.2 16 = some (.dup, 1, 0, 0, 0, 0) := by decide +kernel
theorem aX12_isCounted_17 : i_at mX12_isCounted.2.2.2.2.2 17 = some (.getfield 199, 3, 11, 26, 1113, 0) := by decide +kernel
theorem aX12_isCounted_20 : i_at mX12_isCounted.2.2.2.2.2 20 = some (.iconst 1, 1, 0, 0, 0, 0) := by decide +kernel
theorem aX12_isCounted_21 : i_at mX12_isCounted.2.2.2.2.2 21 = some (.iadd, 1, 0, 0, 0, 0) := by decide +kernel
theorem aX12_isCounted_22 : i_at mX12_isCounted.2.2.2.2.2 22 = some (.putfield 199, 3, 11, 26, 1113, 0) := by decide +kernel
theorem aX12_isCounted_25 : i_at mX12_isCounted.2.2.2.2.2 25 = some (.return_, 1, 0, 0, 0, 0) := by decide +kernel
noncomputable def fX12_isCounted_J15 (sh : List kd) (p1 : Int32) (s51 : St) : Option (Unit × St) := some ((), s_F s51 0 26 ((s51.1 0 26) + 1))
noncomputable def fX12_isCounted (sh : List kd) (σ : St) (p1 : Int32) : Option (Unit × St) := if ¬ (σ.1 0 26) = 60 then fX12_isCounted_J15 sh p1 σ else i_bd (fX12_fails sh σ 3 p1) (fun r53 s54 => fX12_isCounted_J15 sh p1 s54)
set_option maxRecDepth 20000 in
set_option maxHeartbeats 2000000 in
theorem tX12_isCounted_J15 {sh : List kd} {τ : St} {r : Unit} (hsh : rmSh sh) {p1 : Int32} {s51 : St} (hE : fX12_isCounted_J15 sh p1 s51 = some (r, τ)) : g_R sh 1 mX12_isCounted none τ 15 [.ref 0, .int p1] [] (s51) := by
  unfold fX12_isCounted_J15 at hE
  refine g_ldan aX12_isCounted_15 rfl ?_
  refine g_dupa aX12_isCounted_16 ?_
  refine g_getI aX12_isCounted_17 (sR_0 hsh) rfl ?_
  refine g_iconst (x := 1) aX12_isCounted_20 rfl ?_
  refine g_iadd aX12_isCounted_21 ?_
  refine g_putI aX12_isCounted_22 (sR_0 hsh) rfl rfl ?_
  obtain ⟨rfl, rfl⟩ := i_some_inj hE
  exact g_vret aX12_isCounted_25 rfl
set_option maxRecDepth 20000 in
set_option maxHeartbeats 2000000 in
theorem tX12_isCounted {sh : List kd} {σ τ : St} {r : Unit} (hsh : rmSh sh) {p1 : Int32} (hE : fX12_isCounted sh σ p1 = some (r, τ)) : i_X 2 144 [.ref 0, .int p1] (s_h sh σ) 0 0 none (s_h sh τ) := by
  refine g_X (M := mX12_isCounted) (loc := [.ref 0, .int p1]) rfl (Nat.le_of_ble_eq_true rfl) rfl ?_
  unfold fX12_isCounted at hE
  refine g_ldan aX12_isCounted_0 rfl ?_
  refine g_getI aX12_isCounted_1 (sR_0 hsh) rfl ?_
  refine g_bipush (x := 60) aX12_isCounted_4 rfl ?_
  by_cases hc52 : ¬ (σ.1 0 26) = 60
  · rw [if_pos hc52] at hE
    refine g_ic_ne_t aX12_isCounted_6 hc52 ?_
    exact tX12_isCounted_J15 hsh hE
  · rw [if_neg hc52] at hE
    refine g_ic_ne_f aX12_isCounted_6 hc52 ?_
    refine g_ldan aX12_isCounted_9 rfl ?_
    refine g_iconst (x := 3) aX12_isCounted_10 rfl ?_
    refine g_ldin aX12_isCounted_11 rfl ?_
    obtain ⟨r53, s54, h55, hE⟩ := i_bd_some hE
    refine g_calV (As := [.int 3, .int p1]) (rest := []) aX12_isCounted_12 (i_X_mono (by omega) (tX12_fails hsh h55)) (sR_0 hsh) (by decide +kernel) rfl rfl (Nat.le_of_ble_eq_true rfl) rfl ?_
    exact tX12_isCounted_J15 hsh hE
