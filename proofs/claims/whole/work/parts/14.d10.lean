/-! X11_gloves X11_place X11_stripped X11_gold X11_note X11_back X12_feed X12_wanted X12_sumOf X12_holds -/
theorem aX11_gloves_0 : i_at mX11_gloves.2.2.2.2.2 0 = some (.aload_n 0, 1, 0, 0, 0, 0) := by decide +kernel
theorem aX11_gloves_1 : i_at mX11_gloves.2.2.2.2.2 1 = some (.getfield 59, 3, 10, 6, 460, 0) := by decide +kernel
theorem aX11_gloves_4 : i_at mX11_gloves.2.2.2.2.2 4 = some (.getfield 95, 3, 9, 0, 347, 0) := by decide +kernel
theorem aX11_gloves_7 : i_at mX11_gloves.2.2.2.2.2 7 = some (.getfield 173, 3, 5, 0, 155, 0) := by decide +kernel
theorem aX11_gloves_10 : i_at mX11_gloves.2.2.2.2.2 10 = some (.ifCond .eq 13, 3, 23, 0, 0, 0) := by decide +kernel
theorem aX11_gloves_13 : i_at mX11_gloves.2.2.2.2.2 13 = some (.iload_n 1, 1, 0, 0, 0, 0) := by decide +kernel
theorem aX11_gloves_14 : i_at mX11_gloves.2.2.2.2.2 14 = some (.iconst 1, 1, 0, 0, 0, 0) := by decide +kernel
theorem aX11_gloves_15 : i_at mX11_gloves.2.2.2.2.2 15 = some (.bipush 9, 2, 0, 0, 0, 0) := by decide +kernel
theorem aX11_gloves_17 : i_at mX11_gloves.2.2.2.2.2 17 = some (.invokestatic 187, 3, 125, 3, 847, 0) := by decide +kernel
theorem aX11_gloves_20 : i_at mX11_gloves.2.2.2.2.2 20 = some (.ifCond .ne 5, 3, 25, 0, 0, 0) := by decide +kernel
theorem aX11_gloves_23 : i_at mX11_gloves.2.2.2.2.2 23 = some (.iconst (-1), 1, 0, 0, 0, 0) := by decide +kernel
theorem aX11_gloves_24 : i_at mX11_gloves.2.2.2.2.2 24 = some (.ireturn, 1, 0, 0, 0, 0) := by decide +kernel
theorem aX11_gloves_25 : i_at mX11_gloves.2.2.2.2.2 25 = some (.aload_n 0, 1, 0, 0, 0, 0) := by decide +kernel
theorem aX11_gloves_26 : i_at mX11_gloves.2.2.2.2.2 26 = some (.getfield 59, 3, 10, 6, 460, 0) := by decide +kernel
theorem aX11_gloves_29 : i_at mX11_gloves.2.2.2.2.2 29 = some (.getfield 102, 3, 9, 1, 351, 0) := by decide +kernel
theorem aX11_gloves_32 : i_at mX11_gloves.2.2.2.2.2 32 = some (.getfield 198, 3, 3, 3, 308, 0) := by decide +kernel
theorem aX11_gloves_35 : i_at mX11_gloves.2.2.2.2.2 35 = some (.istore_n 2, 1, 0, 0, 0, 0) := by decide +kernel
theorem aX11_gloves_36 : i_at mX11_gloves.2.2.2.2.2 36 = some (.aload_n 0, 1, 0, 0, 0, 0) := by decide +kernel
theorem aX11_gloves_37 : i_at mX11_gloves.2.2.2.2.2 37 = some (.getfield 59, 3, 10, 6, 460, 0) := by decide +kernel
theorem aX11_gloves_40 : i_at mX11_gloves.2.2.2.2.2 40 = some (.invokevirtual 180, 3, 87, 0, 785, 0) := by decide +kernel
theorem aX11_gloves_43 : i_at mX11_gloves.2.2.2.2.2 43 = some (.aload_n 0, 1, 0, 0, 0, 0) := by decide +kernel
theorem aX11_gloves_44 : i_at mX11_gloves.2.2.2.2.2 44 = some (.getfield 59, 3, 10, 6, 460, 0) := by decide +kernel
theorem aX11_gloves_47 : i_at mX11_gloves.2.2.2.2.2 47 = some (.getfield 102, 3, 9, 1, 351, 0) := by decide +kernel
theorem aX11_gloves_50 : i_at mX11_gloves.2.2.2.2.2 50 = some (.iload_n 1, 1, 0, 0, 0, 0) := by decide +kernel
theorem aX11_gloves_51 : i_at mX11_gloves.2.2.2.2.2 51 = some (.putfield 198, 3, 3, 3, 308, 0) := by decide +kernel
theorem aX11_gloves_54 : i_at mX11_gloves.2.2.2.2.2 54 = some (.iload_n 2, 1, 0, 0, 0, 0) := by decide +kernel
theorem aX11_gloves_55 : i_at mX11_gloves.2.2.2.2.2 55 = some (.ireturn, 1, 0, 0, 0, 0) := by decide +kernel
noncomputable def fX11_gloves (sh : List kd) (σ : St) (p1 : Int32) : Option (Int32 × St) := if (σ.1 20 0) = 0 then some ((-1), σ) else i_bd (fX11_isWithin sh σ p1 1 9) (fun r2 s3 => if ¬ r2 = 0 then i_bd (fX10_remember sh s3 19) (fun r6 s7 => some ((s3.1 26 3), s_F s7 26 3 p1)) else some ((-1), s3))
set_option maxRecDepth 20000 in
set_option maxHeartbeats 2000000 in
theorem tX11_gloves {sh : List kd} {σ τ : St} {r : Int32} (hsh : cSh sh) {p1 : Int32} (hE : fX11_gloves sh σ p1 = some (r, τ)) : i_X 3 103 [.ref 0, .int p1] (s_h sh σ) 0 0 (some (.int r)) (s_h sh τ) := by
  refine g_X (M := mX11_gloves) (loc := [.ref 0, .int p1, .retAddr 0]) rfl (Nat.le_of_ble_eq_true rfl) rfl ?_
  unfold fX11_gloves at hE
  refine g_ldan aX11_gloves_0 rfl ?_
  refine g_getR aX11_gloves_1 (sC_0 hsh) rfl ?_
  refine g_getR aX11_gloves_4 ((wShB_19 hsh).1) rfl ?_
  refine g_getI aX11_gloves_7 ((rShB_20 hsh).1) rfl ?_
  by_cases hc1 : (σ.1 20 0) = 0
  · rw [if_pos hc1] at hE
    refine g_if_eq_t aX11_gloves_10 hc1 ?_
    refine g_iconst (x := (-1)) aX11_gloves_23 rfl ?_
    obtain ⟨rfl, rfl⟩ := i_some_inj hE
    exact g_iret aX11_gloves_24 rfl rfl
  · rw [if_neg hc1] at hE
    refine g_if_eq_f aX11_gloves_10 hc1 ?_
    refine g_ldin aX11_gloves_13 rfl ?_
    refine g_iconst (x := 1) aX11_gloves_14 rfl ?_
    refine g_bipush (x := 9) aX11_gloves_15 rfl ?_
    obtain ⟨r2, s3, h4, hE⟩ := i_bd_some hE
    refine g_calS (As := [.int p1, .int 1, .int 9]) (rest := []) aX11_gloves_17 (i_X_mono (by omega) (tX11_isWithin hsh h4)) rfl rfl (Nat.le_of_ble_eq_true rfl) rfl ?_
    by_cases hc5 : ¬ r2 = 0
    · rw [if_pos hc5] at hE
      refine g_if_ne_t aX11_gloves_20 hc5 ?_
      refine g_ldan aX11_gloves_25 rfl ?_
      refine g_getR aX11_gloves_26 (sC_0 hsh) rfl ?_
      refine g_getR aX11_gloves_29 ((wShB_19 hsh).1) rfl ?_
      refine g_getI aX11_gloves_32 ((lShB_26 hsh).1) rfl ?_
      refine g_stin (loc2 := [.ref 0, .int p1, .int (s3.1 26 3)]) aX11_gloves_35 (Nat.le_of_ble_eq_true rfl) rfl ?_
      refine g_ldan aX11_gloves_36 rfl ?_
      refine g_getR aX11_gloves_37 (sC_0 hsh) rfl ?_
      obtain ⟨r6, s7, h8, hE⟩ := i_bd_some hE
      refine g_calV (As := []) (rest := []) aX11_gloves_40 (i_X_mono (by omega) (tX10_remember hsh (wShB_19 hsh) h8)) ((wShB_19 hsh).1) (by decide +kernel) rfl rfl (Nat.le_of_ble_eq_true rfl) rfl ?_
      refine g_ldan aX11_gloves_43 rfl ?_
      refine g_getR aX11_gloves_44 (sC_0 hsh) rfl ?_
      refine g_getR aX11_gloves_47 ((wShB_19 hsh).1) rfl ?_
      refine g_ldin aX11_gloves_50 rfl ?_
      refine g_putI aX11_gloves_51 ((lShB_26 hsh).1) rfl rfl ?_
      refine g_ldin aX11_gloves_54 rfl ?_
      obtain ⟨rfl, rfl⟩ := i_some_inj hE
      exact g_iret aX11_gloves_55 rfl rfl
    · rw [if_neg hc5] at hE
      refine g_if_ne_f aX11_gloves_20 hc5 ?_
      refine g_iconst (x := (-1)) aX11_gloves_23 rfl ?_
      obtain ⟨rfl, rfl⟩ := i_some_inj hE
      exact g_iret aX11_gloves_24 rfl rfl
theorem aX11_place_0 : i_at mX11_place.2.2.2.2.2 0 = some (.aload_n 0, 1, 0, 0, 0, 0) := by decide +kernel
theorem aX11_place_1 : i_at mX11_place.2.2.2.2.2 1 = some (.getfield 59, 3, 10, 6, 460, 0) := by decide +kernel
theorem aX11_place_4 : i_at mX11_place.2.2.2.2.2 4 = some (.getfield 95, 3, 9, 0, 347, 0) := by decide +kernel
theorem aX11_place_7 : i_at mX11_place.2.2.2.2.2 7 = some (.iload_n 1, 1, 0, 0, 0, 0) := by decide +kernel
theorem aX11_place_8 : i_at mX11_place.2.2.2.2.2 8 = some (.invokevirtual 155, 3, 54, 1, 773, 0) := by decide +kernel
theorem aX11_place_11 : i_at mX11_place.2.2.2.2.2 11 = some (.ifCond .eq 14, 3, 25, 0, 0, 0) := by decide +kernel
theorem aX11_place_14 : i_at mX11_place.2.2.2.2.2 14 = some (.aload_n 0, 1, 0, 0, 0, 0) := by decide +kernel
theorem aX11_place_15 : i_at mX11_place.2.2.2.2.2 15 = some (.getfield 59, 3, 10, 6, 460, 0) := by decide +kernel
theorem aX11_place_18 : i_at mX11_place.2.2.2.2.2 18 = some (.iload_n 1, 1, 0, 0, 0, 0) := by decide +kernel
theorem aX11_place_19 : i_at mX11_place.2.2.2.2.2 19 = some (.invokestatic 238, 3, 14, 2, 955, 0) := by decide +kernel
theorem aX11_place_22 : i_at mX11_place.2.2.2.2.2 22 = some (.goto 4, 3, 26, 0, 0, 0) := by decide +kernel
theorem aX11_place_25 : i_at mX11_place.2.2.2.2.2 25 = some (.iconst (-1), 1, 0, 0, 0, 0) := by decide +kernel
theorem aX11_place_26 : i_at mX11_place.2.2.2.2.2 26 = some (.ireturn, 1, 0, 0, 0, 0) := by decide +kernel
noncomputable def fX11_place_J26 (sh : List kd) (p1 : Int32) (x54 : Int32) (s55 : St) : Option (Int32 × St) := some (x54, s55)
noncomputable def fX11_place (sh : List kd) (σ : St) (p1 : Int32) : Option (Int32 × St) := i_bd (fX6_hasPerson sh σ 20 p1) (fun r1 s2 => if r1 = 0 then fX11_place_J26 sh p1 (-1) s2 else i_bd (fX2_placeOf sh s2 19 p1) (fun r57 s58 => fX11_place_J26 sh p1 r57 s58))
set_option maxRecDepth 20000 in
set_option maxHeartbeats 2000000 in
theorem tX11_place_J26 {sh : List kd} {τ : St} {r : Int32} (hsh : cSh sh) {p1 : Int32} {x54 : Int32} {s55 : St} (hE : fX11_place_J26 sh p1 x54 s55 = some (r, τ)) : g_R sh 2 mX11_place (some (.int r)) τ 26 [.ref 0, .int p1] [.int x54] (s55) := by
  unfold fX11_place_J26 at hE
  obtain ⟨rfl, rfl⟩ := i_some_inj hE
  exact g_iret aX11_place_26 rfl rfl
set_option maxRecDepth 20000 in
set_option maxHeartbeats 2000000 in
theorem tX11_place {sh : List kd} {σ τ : St} {r : Int32} (hsh : cSh sh) {p1 : Int32} (hE : fX11_place sh σ p1 = some (r, τ)) : i_X 3 112 [.ref 0, .int p1] (s_h sh σ) 0 0 (some (.int r)) (s_h sh τ) := by
  refine g_X (M := mX11_place) (loc := [.ref 0, .int p1]) rfl (Nat.le_of_ble_eq_true rfl) rfl ?_
  unfold fX11_place at hE
  refine g_ldan aX11_place_0 rfl ?_
  refine g_getR aX11_place_1 (sC_0 hsh) rfl ?_
  refine g_getR aX11_place_4 ((wShB_19 hsh).1) rfl ?_
  refine g_ldin aX11_place_7 rfl ?_
  obtain ⟨r1, s2, h3, hE⟩ := i_bd_some hE
  refine g_calV (As := [.int p1]) (rest := []) aX11_place_8 (i_X_mono (by omega) (tX6_hasPerson hsh (rShB_20 hsh) h3)) ((rShB_20 hsh).1) (by decide +kernel) rfl rfl (Nat.le_of_ble_eq_true rfl) rfl ?_
  by_cases hc56 : r1 = 0
  · rw [if_pos hc56] at hE
    refine g_if_eq_t aX11_place_11 hc56 ?_
    refine g_iconst (x := (-1)) aX11_place_25 rfl ?_
    exact tX11_place_J26 hsh hE
  · rw [if_neg hc56] at hE
    refine g_if_eq_f aX11_place_11 hc56 ?_
    refine g_ldan aX11_place_14 rfl ?_
    refine g_getR aX11_place_15 (sC_0 hsh) rfl ?_
    refine g_ldin aX11_place_18 rfl ?_
    obtain ⟨r57, s58, h59, hE⟩ := i_bd_some hE
    refine g_calS (As := [.ref 19, .int p1]) (rest := []) aX11_place_19 (i_X_mono (by omega) (tX2_placeOf hsh (wShB_19 hsh) h59)) rfl rfl (Nat.le_of_ble_eq_true rfl) rfl ?_
    refine g_goto aX11_place_22 ?_
    exact tX11_place_J26 hsh hE
theorem aX11_stripped_0 : i_at mX11_stripped.2.2.2.2.2 0 = some (.aload_n 0, 1, 0, 0, 0, 0) := by decide +kernel
theorem aX11_stripped_1 : i_at mX11_stripped.2.2.2.2.2 1 = some (.getfield 59, 3, 10, 6, 460, 0) := by decide +kernel
theorem aX11_stripped_4 : i_at mX11_stripped.2.2.2.2.2 4 = some (.getfield 95, 3, 9, 0, 347, 0) := by decide +kernel
theorem aX11_stripped_7 : i_at mX11_stripped.2.2.2.2.2 7 = some (.getfield 173, 3, 5, 0, 155, 0) := by decide +kernel
theorem aX11_stripped_10 : i_at mX11_stripped.2.2.2.2.2 10 = some (.ifCond .eq 12, 3, 22, 0, 0, 0) := by decide +kernel
theorem aX11_stripped_13 : i_at mX11_stripped.2.2.2.2.2 13 = some (.iload_n 1, 1, 0, 0, 0, 0) := by decide +kernel
theorem aX11_stripped_14 : i_at mX11_stripped.2.2.2.2.2 14 = some (.iconst 0, 1, 0, 0, 0, 0) := by decide +kernel
theorem aX11_stripped_15 : i_at mX11_stripped.2.2.2.2.2 15 = some (.iconst 1, 1, 0, 0, 0, 0) := by decide +kernel
theorem aX11_stripped_16 : i_at mX11_stripped.2.2.2.2.2 16 = some (.invokestatic 187, 3, 125, 3, 847, 0) := by decide +kernel
theorem aX11_stripped_19 : i_at mX11_stripped.2.2.2.2.2 19 = some (.ifCond .ne 5, 3, 24, 0, 0, 0) := by decide +kernel
theorem aX11_stripped_22 : i_at mX11_stripped.2.2.2.2.2 22 = some (.iconst (-1), 1, 0, 0, 0, 0) := by decide +kernel
theorem aX11_stripped_23 : i_at mX11_stripped.2.2.2.2.2 23 = some (.ireturn, 1, 0, 0, 0, 0) := by decide +kernel
theorem aX11_stripped_24 : i_at mX11_stripped.2.2.2.2.2 24 = some (.aload_n 0, 1, 0, 0, 0, 0) := by decide +kernel
theorem aX11_stripped_25 : i_at mX11_stripped.2.2.2.2.2 25 = some (.getfield 59, 3, 10, 6, 460, 0) := by decide +kernel
theorem aX11_stripped_28 : i_at mX11_stripped.2.2.2.2.2 28 = some (.invokestatic 244, 3, 15, 1, 963, 0) := by decide +kernel
theorem aX11_stripped_31 : i_at mX11_stripped.2.2.2.2.2 31 = some (.istore_n 2, 1, 0, 0, 0, 0) := by decide +kernel
theorem aX11_stripped_32 : i_at mX11_stripped.2.2.2.2.2 32 = some (.iload_n 1, 1, 0, 0, 0, 0) := by decide +kernel
theorem aX11_stripped_33 : i_at mX11_stripped.2.2.2.2.2 33 = some (.ifCond .ne 10, 3, 43, 0, 0, 0) := by decide +kernel
theorem aX11_stripped_36 : i_at mX11_stripped.2.2.2.2.2 36 = some (.iload_n 2, 1, 0, 0, 0, 0) := by decide +kernel
theorem aX11_stripped_37 : i_at mX11_stripped.2.2.2.2.2 37 = some (.invokestatic 223, 3, 230, 1, 929, 0) := by decide +kernel
theorem aX11_stripped_40 : i_at mX11_stripped.2.2.2.2.2 40 = some (.goto 4, 3, 44, 0, 0, 0) := by decide +kernel
theorem aX11_stripped_43 : i_at mX11_stripped.2.2.2.2.2 43 = some (.iload_n 2, 1, 0, 0, 0, 0) := by decide +kernel
theorem aX11_stripped_44 : i_at mX11_stripped.2.2.2.2.2 44 = some (.ireturn, 1, 0, 0, 0, 0) := by decide +kernel
noncomputable def fX11_stripped_J44 (sh : List kd) (p1 : Int32) (r6 : Int32) (x59 : Int32) (s60 : St) : Option (Int32 × St) := some (x59, s60)
noncomputable def fX11_stripped (sh : List kd) (σ : St) (p1 : Int32) : Option (Int32 × St) := if (σ.1 20 0) = 0 then some ((-1), σ) else i_bd (fX11_isWithin sh σ p1 0 1) (fun r2 s3 => if ¬ r2 = 0 then i_bd (fX2_fewestToStrip sh s3 19) (fun r6 s7 => if ¬ p1 = 0 then fX11_stripped_J44 sh p1 r6 r6 s7 else i_bd (fJ6_bitCount_0f7a4 sh s7 r6) (fun r62 s63 => fX11_stripped_J44 sh p1 r6 r62 s63)) else some ((-1), s3))
set_option maxRecDepth 20000 in
set_option maxHeartbeats 2000000 in
theorem tX11_stripped_J44 {sh : List kd} {τ : St} {r : Int32} (hsh : cSh sh) {p1 : Int32} {r6 : Int32} {x59 : Int32} {s60 : St} (hE : fX11_stripped_J44 sh p1 r6 x59 s60 = some (r, τ)) : g_R sh 2 mX11_stripped (some (.int r)) τ 44 [.ref 0, .int p1, .int r6] [.int x59] (s60) := by
  unfold fX11_stripped_J44 at hE
  obtain ⟨rfl, rfl⟩ := i_some_inj hE
  exact g_iret aX11_stripped_44 rfl rfl
set_option maxRecDepth 20000 in
set_option maxHeartbeats 2000000 in
theorem tX11_stripped {sh : List kd} {σ τ : St} {r : Int32} (hsh : cSh sh) {p1 : Int32} (hE : fX11_stripped sh σ p1 = some (r, τ)) : i_X 3 113 [.ref 0, .int p1] (s_h sh σ) 0 0 (some (.int r)) (s_h sh τ) := by
  refine g_X (M := mX11_stripped) (loc := [.ref 0, .int p1, .retAddr 0]) rfl (Nat.le_of_ble_eq_true rfl) rfl ?_
  unfold fX11_stripped at hE
  refine g_ldan aX11_stripped_0 rfl ?_
  refine g_getR aX11_stripped_1 (sC_0 hsh) rfl ?_
  refine g_getR aX11_stripped_4 ((wShB_19 hsh).1) rfl ?_
  refine g_getI aX11_stripped_7 ((rShB_20 hsh).1) rfl ?_
  by_cases hc1 : (σ.1 20 0) = 0
  · rw [if_pos hc1] at hE
    refine g_if_eq_t aX11_stripped_10 hc1 ?_
    refine g_iconst (x := (-1)) aX11_stripped_22 rfl ?_
    obtain ⟨rfl, rfl⟩ := i_some_inj hE
    exact g_iret aX11_stripped_23 rfl rfl
  · rw [if_neg hc1] at hE
    refine g_if_eq_f aX11_stripped_10 hc1 ?_
    refine g_ldin aX11_stripped_13 rfl ?_
    refine g_iconst (x := 0) aX11_stripped_14 rfl ?_
    refine g_iconst (x := 1) aX11_stripped_15 rfl ?_
    obtain ⟨r2, s3, h4, hE⟩ := i_bd_some hE
    refine g_calS (As := [.int p1, .int 0, .int 1]) (rest := []) aX11_stripped_16 (i_X_mono (by omega) (tX11_isWithin hsh h4)) rfl rfl (Nat.le_of_ble_eq_true rfl) rfl ?_
    by_cases hc5 : ¬ r2 = 0
    · rw [if_pos hc5] at hE
      refine g_if_ne_t aX11_stripped_19 hc5 ?_
      refine g_ldan aX11_stripped_24 rfl ?_
      refine g_getR aX11_stripped_25 (sC_0 hsh) rfl ?_
      obtain ⟨r6, s7, h8, hE⟩ := i_bd_some hE
      refine g_calS (As := [.ref 19]) (rest := []) aX11_stripped_28 (i_X_mono (by omega) (tX2_fewestToStrip hsh (wShB_19 hsh) h8)) rfl rfl (Nat.le_of_ble_eq_true rfl) rfl ?_
      refine g_stin (loc2 := [.ref 0, .int p1, .int r6]) aX11_stripped_31 (Nat.le_of_ble_eq_true rfl) rfl ?_
      refine g_ldin aX11_stripped_32 rfl ?_
      by_cases hc61 : ¬ p1 = 0
      · rw [if_pos hc61] at hE
        refine g_if_ne_t aX11_stripped_33 hc61 ?_
        refine g_ldin aX11_stripped_43 rfl ?_
        exact tX11_stripped_J44 hsh hE
      · rw [if_neg hc61] at hE
        refine g_if_ne_f aX11_stripped_33 hc61 ?_
        refine g_ldin aX11_stripped_36 rfl ?_
        obtain ⟨r62, s63, h64, hE⟩ := i_bd_some hE
        refine g_calS (As := [.int r6]) (rest := []) aX11_stripped_37 (i_X_mono (by omega) (tJ6_bitCount_0f7a4 hsh h64)) rfl rfl (Nat.le_of_ble_eq_true rfl) rfl ?_
        refine g_goto aX11_stripped_40 ?_
        exact tX11_stripped_J44 hsh hE
    · rw [if_neg hc5] at hE
      refine g_if_ne_f aX11_stripped_19 hc5 ?_
      refine g_iconst (x := (-1)) aX11_stripped_22 rfl ?_
      obtain ⟨rfl, rfl⟩ := i_some_inj hE
      exact g_iret aX11_stripped_23 rfl rfl
theorem aX11_gold_0 : i_at mX11_gold.2.2.2.2.2 0 = some (.aload_n 0, 1, 0, 0, 0, 0) := by decide +kernel
theorem aX11_gold_1 : i_at mX11_gold.2.2.2.2.2 1 = some (.getfield 59, 3, 10, 6, 460, 0) := by decide +kernel
theorem aX11_gold_4 : i_at mX11_gold.2.2.2.2.2 4 = some (.getfield 95, 3, 9, 0, 347, 0) := by decide +kernel
theorem aX11_gold_7 : i_at mX11_gold.2.2.2.2.2 7 = some (.iload_n 2, 1, 0, 0, 0, 0) := by decide +kernel
theorem aX11_gold_8 : i_at mX11_gold.2.2.2.2.2 8 = some (.invokevirtual 155, 3, 54, 1, 773, 0) := by decide +kernel
theorem aX11_gold_11 : i_at mX11_gold.2.2.2.2.2 11 = some (.ifCond .eq 14, 3, 25, 0, 0, 0) := by decide +kernel
theorem aX11_gold_14 : i_at mX11_gold.2.2.2.2.2 14 = some (.iload_n 1, 1, 0, 0, 0, 0) := by decide +kernel
theorem aX11_gold_15 : i_at mX11_gold.2.2.2.2.2 15 = some (.iconst 0, 1, 0, 0, 0, 0) := by decide +kernel
theorem aX11_gold_16 : i_at mX11_gold.2.2.2.2.2 16 = some (.sipush 9999, 3, 0, 0, 0, 0) := by decide +kernel
theorem aX11_gold_19 : i_at mX11_gold.2.2.2.2.2 19 = some (.invokestatic 187, 3, 125, 3, 847, 0) := by decide +kernel
theorem aX11_gold_22 : i_at mX11_gold.2.2.2.2.2 22 = some (.ifCond .ne 5, 3, 27, 0, 0, 0) := by decide +kernel
theorem aX11_gold_25 : i_at mX11_gold.2.2.2.2.2 25 = some (.iconst (-1), 1, 0, 0, 0, 0) := by decide +kernel
theorem aX11_gold_26 : i_at mX11_gold.2.2.2.2.2 26 = some (.ireturn, 1, 0, 0, 0, 0) := by decide +kernel
theorem aX11_gold_27 : i_at mX11_gold.2.2.2.2.2 27 = some (.aload_n 0, 1, 0, 0, 0, 0) := by decide +kernel
theorem aX11_gold_28 : i_at mX11_gold.2.2.2.2.2 28 = some (.getfield 59, 3, 10, 6, 460, 0) := by decide +kernel
theorem aX11_gold_31 : i_at mX11_gold.2.2.2.2.2 31 = some (.iload_n 1, 1, 0, 0, 0, 0) := by decide +kernel
theorem aX11_gold_32 : i_at mX11_gold.2.2.2.2.2 32 = some (.iload_n 2, 1, 0, 0, 0, 0) := by decide +kernel
theorem aX11_gold_33 : i_at mX11_gold.2.2.2.2.2 33 = some (.invokestatic 248, 3, 17, 3, 974, 0) := by decide +kernel
theorem aX11_gold_36 : i_at mX11_gold.2.2.2.2.2 36 = some (.ireturn, 1, 0, 0, 0, 0) := by decide +kernel
noncomputable def fX11_gold (sh : List kd) (σ : St) (p1 : Int32) (p2 : Int32) : Option (Int32 × St) := i_bd (fX6_hasPerson sh σ 20 p2) (fun r1 s2 => if r1 = 0 then some ((-1), s2) else i_bd (fX11_isWithin sh s2 p1 0 9999) (fun r5 s6 => if ¬ r5 = 0 then i_bd (fX2_goldOf sh s6 19 p1 p2) (fun r9 s10 => some (r9, s10)) else some ((-1), s6)))
set_option maxRecDepth 20000 in
set_option maxHeartbeats 2000000 in
theorem tX11_gold {sh : List kd} {σ τ : St} {r : Int32} (hsh : cSh sh) {p1 : Int32} {p2 : Int32} (hE : fX11_gold sh σ p1 p2 = some (r, τ)) : i_X 3 114 [.ref 0, .int p1, .int p2] (s_h sh σ) 0 0 (some (.int r)) (s_h sh τ) := by
  refine g_X (M := mX11_gold) (loc := [.ref 0, .int p1, .int p2]) rfl (Nat.le_of_ble_eq_true rfl) rfl ?_
  unfold fX11_gold at hE
  refine g_ldan aX11_gold_0 rfl ?_
  refine g_getR aX11_gold_1 (sC_0 hsh) rfl ?_
  refine g_getR aX11_gold_4 ((wShB_19 hsh).1) rfl ?_
  refine g_ldin aX11_gold_7 rfl ?_
  obtain ⟨r1, s2, h3, hE⟩ := i_bd_some hE
  refine g_calV (As := [.int p2]) (rest := []) aX11_gold_8 (i_X_mono (by omega) (tX6_hasPerson hsh (rShB_20 hsh) h3)) ((rShB_20 hsh).1) (by decide +kernel) rfl rfl (Nat.le_of_ble_eq_true rfl) rfl ?_
  by_cases hc4 : r1 = 0
  · rw [if_pos hc4] at hE
    refine g_if_eq_t aX11_gold_11 hc4 ?_
    refine g_iconst (x := (-1)) aX11_gold_25 rfl ?_
    obtain ⟨rfl, rfl⟩ := i_some_inj hE
    exact g_iret aX11_gold_26 rfl rfl
  · rw [if_neg hc4] at hE
    refine g_if_eq_f aX11_gold_11 hc4 ?_
    refine g_ldin aX11_gold_14 rfl ?_
    refine g_iconst (x := 0) aX11_gold_15 rfl ?_
    refine g_sipush (x := 9999) aX11_gold_16 rfl ?_
    obtain ⟨r5, s6, h7, hE⟩ := i_bd_some hE
    refine g_calS (As := [.int p1, .int 0, .int 9999]) (rest := []) aX11_gold_19 (i_X_mono (by omega) (tX11_isWithin hsh h7)) rfl rfl (Nat.le_of_ble_eq_true rfl) rfl ?_
    by_cases hc8 : ¬ r5 = 0
    · rw [if_pos hc8] at hE
      refine g_if_ne_t aX11_gold_22 hc8 ?_
      refine g_ldan aX11_gold_27 rfl ?_
      refine g_getR aX11_gold_28 (sC_0 hsh) rfl ?_
      refine g_ldin aX11_gold_31 rfl ?_
      refine g_ldin aX11_gold_32 rfl ?_
      obtain ⟨r9, s10, h11, hE⟩ := i_bd_some hE
      refine g_calS (As := [.ref 19, .int p1, .int p2]) (rest := []) aX11_gold_33 (i_X_mono (by omega) (tX2_goldOf hsh (wShB_19 hsh) h11)) rfl rfl (Nat.le_of_ble_eq_true rfl) rfl ?_
      obtain ⟨rfl, rfl⟩ := i_some_inj hE
      exact g_iret aX11_gold_36 rfl rfl
    · rw [if_neg hc8] at hE
      refine g_if_ne_f aX11_gold_22 hc8 ?_
      refine g_iconst (x := (-1)) aX11_gold_25 rfl ?_
      obtain ⟨rfl, rfl⟩ := i_some_inj hE
      exact g_iret aX11_gold_26 rfl rfl
theorem aX11_note_0 : i_at mX11_note.2.2.2.2.2 0 = some (.iload_n 1, 1, 0, 0, 0, 0) := by decide +kernel
theorem aX11_note_1 : i_at mX11_note.2.2.2.2.2 1 = some (.iconst (-1), 1, 0, 0, 0, 0) := by decide +kernel
theorem aX11_note_2 : i_at mX11_note.2.2.2.2.2 2 = some (.if_icmp .ne 13, 3, 15, 0, 0, 0) := by decide +kernel
theorem aX11_note_5 : i_at mX11_note.2.2.2.2.2 5 = some (.aload_n 0, 1, 0, 0, 0, 0) := by decide +kernel
theorem aX11_note_6 : i_at mX11_note.2.2.2.2.2 6 = some (.getfield 59, 3, 10, 6, 460, 0) := by decide +kernel
theorem aX11_note_9 : i_at mX11_note.2.2.2.2.2 9 = some (.iconst 0, 1, 0, 0, 0, 0) := by decide +kernel
theorem aX11_note_10 : i_at mX11_note.2.2.2.2.2 10 = some (.putfield 111, 3, 9, 7, 363, 0) := by decide +kernel
theorem aX11_note_13 : i_at mX11_note.2.2.2.2.2 13 = some (.iconst 0, 1, 0, 0, 0, 0) := by decide +kernel
theorem aX11_note_14 : i_at mX11_note.2.2.2.2.2 14 = some (.ireturn, 1, 0, 0, 0, 0) := by decide +kernel
theorem aX11_note_15 : i_at mX11_note.2.2.2.2.2 15 = some (.aload_n 0, 1, 0, 0, 0, 0) := by decide +kernel
theorem aX11_note_16 : i_at mX11_note.2.2.2.2.2 16 = some (.getfield 59, 3, 10, 6, 460, 0) := by decide +kernel
theorem aX11_note_19 : i_at mX11_note.2.2.2.2.2 19 = some (.getfield 95, 3, 9, 0, 347, 0) := by decide +kernel
theorem aX11_note_22 : i_at mX11_note.2.2.2.2.2 22 = some (.getfield 173, 3, 5, 0, 155, 0) := by decide +kernel
theorem aX11_note_25 : i_at mX11_note.2.2.2.2.2 25 = some (.ifCond .eq 44, 3, 69, 0, 0, 0) := by decide +kernel
theorem aX11_note_28 : i_at mX11_note.2.2.2.2.2 28 = some (.iload_n 1, 1, 0, 0, 0, 0) := by decide +kernel
theorem aX11_note_29 : i_at mX11_note.2.2.2.2.2 29 = some (.iconst 0, 1, 0, 0, 0, 0) := by decide +kernel
theorem aX11_note_30 : i_at mX11_note.2.2.2.2.2 30 = some (.bipush 60, 2, 0, 0, 0, 0) := by decide +kernel
theorem aX11_note_32 : i_at mX11_note.2.2.2.2.2 32 = some (.invokestatic 187, 3, 125, 3, 847, 0) := by decide +kernel
theorem aX11_note_35 : i_at mX11_note.2.2.2.2.2 35 = some (.ifCond .eq 34, 3, 69, 0, 0, 0) := by decide +kernel
theorem aX11_note_38 : i_at mX11_note.2.2.2.2.2 38 = some (.aload_n 0, 1, 0, 0, 0, 0) := by decide +kernel
theorem aX11_note_39 : i_at mX11_note.2.2.2.2.2 39 = some (.getfield 59, 3, 10, 6, 460, 0) := by decide +kernel
theorem aX11_note_42 : i_at mX11_note.2.2.2.2.2 42 = some (.getfield 111, 3, 9, 7, 363, 0) := by decide +kernel
theorem aX11_note_45 : i_at mX11_note.2.2.2.2.2 45 = some (.bipush 10, 2, 0, 0, 0, 0) := by decide +kernel
theorem aX11_note_47 : i_at mX11_note.2.2.2.2.2 47 = some (.if_icmp .ge 22, 3, 69, 0, 0, 0) := by decide +kernel
theorem aX11_note_50 : i_at mX11_note.2.2.2.2.2 50 = some (.iload_n 2, 1, 0, 0, 0, 0) := by decide +kernel
theorem aX11_note_51 : i_at mX11_note.2.2.2.2.2 51 = some (.iconst (-1), 1, 0, 0, 0, 0) := by decide +kernel
theorem aX11_note_52 : i_at mX11_note.2.2.2.2.2 52 = some (.if_icmp .eq 20, 3, 72, 0, 0, 0) := by decide +kernel
theorem aX11_note_55 : i_at mX11_note.2.2.2.2.2 55 = some (.aload_n 0, 1, 0, 0, 0, 0) := by decide +kernel
theorem aX11_note_56 : i_at mX11_note.2.2.2.2.2 56 = some (.getfield 59, 3, 10, 6, 460, 0) := by decide +kernel
theorem aX11_note_59 : i_at mX11_note.2.2.2.2.2 59 = some (.getfield 95, 3, 9, 0, 347, 0) := by decide +kernel
theorem aX11_note_62 : i_at mX11_note.2.2.2.2.2 62 = some (.iload_n 2, 1, 0, 0, 0, 0) := by decide +kernel
theorem aX11_note_63 : i_at mX11_note.2.2.2.2.2 63 = some (.invokevirtual 131, 3, 53, 1, 757, 0) := by decide +kernel
theorem aX11_note_66 : i_at mX11_note.2.2.2.2.2 66 = some (.ifCond .ne 6, 3, 72, 0, 0, 0) := by decide +kernel
theorem aX11_note_69 : i_at mX11_note.2.2.2.2.2 69 = some (.bipush (-2), 2, 0, 0, 0, 0) := by decide +kernel
theorem aX11_note_71 : i_at mX11_note.2.2.2.2.2 71 = some (.ireturn, 1, 0, 0, 0, 0) := by decide +kernel
theorem aX11_note_72 : i_at mX11_note.2.2.2.2.2 72 = some (.aload_n 0, 1, 0, 0, 0, 0) := by decide +kernel
theorem aX11_note_73 : i_at mX11_note.2.2.2.2.2 73 = some (.getfield 59, 3, 10, 6, 460, 0) := by decide +kernel
theorem aX11_note_76 : i_at mX11_note.2.2.2.2.2 76 = some (.getfield 263, 3, 9, 5, 358, 0) := by decide +kernel
theorem aX11_note_79 : i_at mX11_note.2.2.2.2.2 79 = some (.aload_n 0, 1, 0, 0, 0, 0) := by decide +kernel
theorem aX11_note_80 : i_at mX11_note.2.2.2.2.2 80 = some (.getfield 59, 3, 10, 6, 460, 0) := by decide +kernel
theorem aX11_note_83 : i_at mX11_note.2.2.2.2.2 83 = some (.getfield 111, 3, 9, 7, 363, 0) := by decide +kernel
theorem aX11_note_86 : i_at mX11_note.2.2.2.2.2 86 = some (.iload_n 1, 1, 0, 0, 0, 0) := by decide +kernel
theorem aX11_note_87 : i_at mX11_note.2.2.2.2.2 87 = some (.iastore, 1, 0, 0, 0, 0) := by decide +kernel
theorem aX11_note_88 : i_at mX11_note.2.2.2.2.2 88 = some (.aload_n 0, 1, 0, 0, 0, 0) := by decide +kernel
theorem aX11_note_89 : i_at mX11_note.2.2.2.2.2 89 = some (.getfield 59, 3, 10, 6, 460, 0) := by decide +kernel
theorem aX11_note_92 : i_at mX11_note.2.2.2.2.2 92 = some (.getfield 266, 3, 9, 6, 361, 0) := by decide +kernel
theorem aX11_note_95 : i_at mX11_note.2.2.2.2.2 95 = some (.aload_n 0, 1, 0, 0, 0, 0) := by decide +kernel
theorem aX11_note_96 : i_at mX11_note.2.2.2.2.2 96 = some (.getfield 59, 3, 10, 6, 460, 0) := by decide +kernel
theorem aX11_note_99 : i_at mX11_note.2.2.2.2.2 99 = some (.getfield 111, 3, 9, 7, 363, 0) := by decide +kernel
theorem aX11_note_102 : i_at mX11_note.2.2.2.2.2 102 = some (.iload_n 2, 1, 0, 0, 0, 0) := by decide +kernel
theorem aX11_note_103 : i_at mX11_note.2.2.2.2.2 103 = some (.iastore, 1, 0, 0, 0, 0) := by decide +kernel
theorem aX11_note_104 : i_at mX11_note.2.2.2.2.2 104 = some (.aload_n 0, 1, 0, 0, 0, 0) := by decide +kernel
theorem aX11_note_105 : i_at mX11_note.2.2.2.2.2 105 = some (.getfield 59, 3, 10, 6, 460, 0) := by decide +kernel
theorem aX11_note_108 : i_at mX11_note.2.2.2.2.2 108 = some (.dup, 1, 0, 0, 0, 0) := by decide +kernel
theorem aX11_note_109 : i_at mX11_note.2.2.2.2.2 109 = some (.getfield 111, 3, 9, 7, 363, 0) := by decide +kernel
theorem aX11_note_112 : i_at mX11_note.2.2.2.2.2 112 = some (.iconst 1, 1, 0, 0, 0, 0) := by decide +kernel
theorem aX11_note_113 : i_at mX11_note.2.2.2.2.2 113 = some (.iadd, 1, 0, 0, 0, 0) := by decide +kernel
theorem aX11_note_114 : i_at mX11_note.2.2.2.2.2 114 = some (.putfield 111, 3, 9, 7, 363, 0) := by decide +kernel
theorem aX11_note_117 : i_at mX11_note.2.2.2.2.2 117 = some (.aload_n 0, 1, 0, 0, 0, 0) := by decide +kernel
theorem aX11_note_118 : i_at mX11_note.2.2.2.2.2 118 = some (.getfield 59, 3, 10, 6, 460, 0) := by decide +kernel
theorem aX11_note_121 : i_at mX11_note.2.2.2.2.2 121 = some (.getfield 111, 3, 9, 7, 363, 0) := by decide +kernel
theorem aX11_note_124 : i_at mX11_note.2.2.2.2.2 124 = some (.ireturn, 1, 0, 0, 0, 0) := by decide +kernel
noncomputable def fX11_note (sh : List kd) (σ : St) (p1 : Int32) (p2 : Int32) : Option (Int32 × St) := if ¬ p1 = (-1) then if (σ.1 20 0) = 0 then some ((-2), σ) else i_bd (fX11_isWithin sh σ p1 0 60) (fun r3 s4 => if r3 = 0 then some ((-2), s4) else if 10 ≤ (s4.1 19 7) then some ((-2), s4) else if p2 = (-1) then if i_ok (s4.1 19 7) 10 then if i_ok ((s_A s4 32 (s4.1 19 7).toNatClampNeg p1).1 19 7) 10 then i_jp (s_F (s_A (s_A s4 32 (s4.1 19 7).toNatClampNeg p1) 33 ((s_A s4 32 (s4.1 19 7).toNatClampNeg p1).1 19 7).toNatClampNeg p2) 19 7 (((s_A (s_A s4 32 (s4.1 19 7).toNatClampNeg p1) 33 ((s_A s4 32 (s4.1 19 7).toNatClampNeg p1).1 19 7).toNatClampNeg p2).1 19 7) + 1)) (fun (s11 : St) => some ((s11.1 19 7), s11)) else none else none else i_bd (fX6_hasThing sh s4 20 p2) (fun r13 s14 => if ¬ r13 = 0 then if i_ok (s14.1 19 7) 10 then if i_ok ((s_A s14 32 (s14.1 19 7).toNatClampNeg p1).1 19 7) 10 then i_jp (s_F (s_A (s_A s14 32 (s14.1 19 7).toNatClampNeg p1) 33 ((s_A s14 32 (s14.1 19 7).toNatClampNeg p1).1 19 7).toNatClampNeg p2) 19 7 (((s_A (s_A s14 32 (s14.1 19 7).toNatClampNeg p1) 33 ((s_A s14 32 (s14.1 19 7).toNatClampNeg p1).1 19 7).toNatClampNeg p2).1 19 7) + 1)) (fun (s19 : St) => some ((s19.1 19 7), s19)) else none else none else some ((-2), s14))) else some (0, s_F σ 19 7 0)
set_option maxRecDepth 20000 in
set_option maxHeartbeats 2000000 in
theorem tX11_note {sh : List kd} {σ τ : St} {r : Int32} (hsh : cSh sh) {p1 : Int32} {p2 : Int32} (hE : fX11_note sh σ p1 p2 = some (r, τ)) : i_X 2 117 [.ref 0, .int p1, .int p2] (s_h sh σ) 0 0 (some (.int r)) (s_h sh τ) := by
  refine g_X (M := mX11_note) (loc := [.ref 0, .int p1, .int p2]) rfl (Nat.le_of_ble_eq_true rfl) rfl ?_
  unfold fX11_note at hE
  refine g_ldin aX11_note_0 rfl ?_
  refine g_iconst (x := (-1)) aX11_note_1 rfl ?_
  by_cases hc1 : ¬ p1 = (-1)
  · rw [if_pos hc1] at hE
    refine g_ic_ne_t aX11_note_2 hc1 ?_
    refine g_ldan aX11_note_15 rfl ?_
    refine g_getR aX11_note_16 (sC_0 hsh) rfl ?_
    refine g_getR aX11_note_19 ((wShB_19 hsh).1) rfl ?_
    refine g_getI aX11_note_22 ((rShB_20 hsh).1) rfl ?_
    by_cases hc2 : (σ.1 20 0) = 0
    · rw [if_pos hc2] at hE
      refine g_if_eq_t aX11_note_25 hc2 ?_
      refine g_bipush (x := (-2)) aX11_note_69 rfl ?_
      obtain ⟨rfl, rfl⟩ := i_some_inj hE
      exact g_iret aX11_note_71 rfl rfl
    · rw [if_neg hc2] at hE
      refine g_if_eq_f aX11_note_25 hc2 ?_
      refine g_ldin aX11_note_28 rfl ?_
      refine g_iconst (x := 0) aX11_note_29 rfl ?_
      refine g_bipush (x := 60) aX11_note_30 rfl ?_
      obtain ⟨r3, s4, h5, hE⟩ := i_bd_some hE
      refine g_calS (As := [.int p1, .int 0, .int 60]) (rest := []) aX11_note_32 (i_X_mono (by omega) (tX11_isWithin hsh h5)) rfl rfl (Nat.le_of_ble_eq_true rfl) rfl ?_
      by_cases hc6 : r3 = 0
      · rw [if_pos hc6] at hE
        refine g_if_eq_t aX11_note_35 hc6 ?_
        refine g_bipush (x := (-2)) aX11_note_69 rfl ?_
        obtain ⟨rfl, rfl⟩ := i_some_inj hE
        exact g_iret aX11_note_71 rfl rfl
      · rw [if_neg hc6] at hE
        refine g_if_eq_f aX11_note_35 hc6 ?_
        refine g_ldan aX11_note_38 rfl ?_
        refine g_getR aX11_note_39 (sC_0 hsh) rfl ?_
        refine g_getI aX11_note_42 ((wShB_19 hsh).1) rfl ?_
        refine g_bipush (x := 10) aX11_note_45 rfl ?_
        by_cases hc7 : 10 ≤ (s4.1 19 7)
        · rw [if_pos hc7] at hE
          refine g_ic_ge_t aX11_note_47 hc7 ?_
          refine g_bipush (x := (-2)) aX11_note_69 rfl ?_
          obtain ⟨rfl, rfl⟩ := i_some_inj hE
          exact g_iret aX11_note_71 rfl rfl
        · rw [if_neg hc7] at hE
          refine g_ic_ge_f aX11_note_47 hc7 ?_
          refine g_ldin aX11_note_50 rfl ?_
          refine g_iconst (x := (-1)) aX11_note_51 rfl ?_
          by_cases hc8 : p2 = (-1)
          · rw [if_pos hc8] at hE
            refine g_ic_eq_t aX11_note_52 hc8 ?_
            refine g_ldan aX11_note_72 rfl ?_
            refine g_getR aX11_note_73 (sC_0 hsh) rfl ?_
            refine g_getR aX11_note_76 ((wShB_19 hsh).1) rfl ?_
            refine g_ldan aX11_note_79 rfl ?_
            refine g_getR aX11_note_80 (sC_0 hsh) rfl ?_
            refine g_getI aX11_note_83 ((wShB_19 hsh).1) rfl ?_
            refine g_ldin aX11_note_86 rfl ?_
            obtain ⟨h9, hE⟩ := i_ifn hE
            refine g_ist aX11_note_87 (sC_32 hsh) h9 ?_
            refine g_ldan aX11_note_88 rfl ?_
            refine g_getR aX11_note_89 (sC_0 hsh) rfl ?_
            refine g_getR aX11_note_92 ((wShB_19 hsh).1) rfl ?_
            refine g_ldan aX11_note_95 rfl ?_
            refine g_getR aX11_note_96 (sC_0 hsh) rfl ?_
            refine g_getI aX11_note_99 ((wShB_19 hsh).1) rfl ?_
            refine g_ldin aX11_note_102 rfl ?_
            obtain ⟨h10, hE⟩ := i_ifn hE
            refine g_ist aX11_note_103 (sC_33 hsh) h10 ?_
            refine g_ldan aX11_note_104 rfl ?_
            refine g_getR aX11_note_105 (sC_0 hsh) rfl ?_
            refine g_dupa aX11_note_108 ?_
            refine g_getI aX11_note_109 ((wShB_19 hsh).1) rfl ?_
            refine g_iconst (x := 1) aX11_note_112 rfl ?_
            refine g_iadd aX11_note_113 ?_
            refine g_putI aX11_note_114 ((wShB_19 hsh).1) rfl rfl ?_
            obtain ⟨s11, h12, hE⟩ := i_jp_some hE
            rw [← h12]
            refine g_ldan aX11_note_117 rfl ?_
            refine g_getR aX11_note_118 (sC_0 hsh) rfl ?_
            refine g_getI aX11_note_121 ((wShB_19 hsh).1) rfl ?_
            obtain ⟨rfl, rfl⟩ := i_some_inj hE
            exact g_iret aX11_note_124 rfl rfl
          · rw [if_neg hc8] at hE
            refine g_ic_eq_f aX11_note_52 hc8 ?_
            refine g_ldan aX11_note_55 rfl ?_
            refine g_getR aX11_note_56 (sC_0 hsh) rfl ?_
            refine g_getR aX11_note_59 ((wShB_19 hsh).1) rfl ?_
            refine g_ldin aX11_note_62 rfl ?_
            obtain ⟨r13, s14, h15, hE⟩ := i_bd_some hE
            refine g_calV (As := [.int p2]) (rest := []) aX11_note_63 (i_X_mono (by omega) (tX6_hasThing hsh (rShB_20 hsh) h15)) ((rShB_20 hsh).1) (by decide +kernel) rfl rfl (Nat.le_of_ble_eq_true rfl) rfl ?_
            by_cases hc16 : ¬ r13 = 0
            · rw [if_pos hc16] at hE
              refine g_if_ne_t aX11_note_66 hc16 ?_
              refine g_ldan aX11_note_72 rfl ?_
              refine g_getR aX11_note_73 (sC_0 hsh) rfl ?_
              refine g_getR aX11_note_76 ((wShB_19 hsh).1) rfl ?_
              refine g_ldan aX11_note_79 rfl ?_
              refine g_getR aX11_note_80 (sC_0 hsh) rfl ?_
              refine g_getI aX11_note_83 ((wShB_19 hsh).1) rfl ?_
              refine g_ldin aX11_note_86 rfl ?_
              obtain ⟨h17, hE⟩ := i_ifn hE
              refine g_ist aX11_note_87 (sC_32 hsh) h17 ?_
              refine g_ldan aX11_note_88 rfl ?_
              refine g_getR aX11_note_89 (sC_0 hsh) rfl ?_
              refine g_getR aX11_note_92 ((wShB_19 hsh).1) rfl ?_
              refine g_ldan aX11_note_95 rfl ?_
              refine g_getR aX11_note_96 (sC_0 hsh) rfl ?_
              refine g_getI aX11_note_99 ((wShB_19 hsh).1) rfl ?_
              refine g_ldin aX11_note_102 rfl ?_
              obtain ⟨h18, hE⟩ := i_ifn hE
              refine g_ist aX11_note_103 (sC_33 hsh) h18 ?_
              refine g_ldan aX11_note_104 rfl ?_
              refine g_getR aX11_note_105 (sC_0 hsh) rfl ?_
              refine g_dupa aX11_note_108 ?_
              refine g_getI aX11_note_109 ((wShB_19 hsh).1) rfl ?_
              refine g_iconst (x := 1) aX11_note_112 rfl ?_
              refine g_iadd aX11_note_113 ?_
              refine g_putI aX11_note_114 ((wShB_19 hsh).1) rfl rfl ?_
              obtain ⟨s19, h20, hE⟩ := i_jp_some hE
              rw [← h20]
              refine g_ldan aX11_note_117 rfl ?_
              refine g_getR aX11_note_118 (sC_0 hsh) rfl ?_
              refine g_getI aX11_note_121 ((wShB_19 hsh).1) rfl ?_
              obtain ⟨rfl, rfl⟩ := i_some_inj hE
              exact g_iret aX11_note_124 rfl rfl
            · rw [if_neg hc16] at hE
              refine g_if_ne_f aX11_note_66 hc16 ?_
              refine g_bipush (x := (-2)) aX11_note_69 rfl ?_
              obtain ⟨rfl, rfl⟩ := i_some_inj hE
              exact g_iret aX11_note_71 rfl rfl
  · rw [if_neg hc1] at hE
    refine g_ic_ne_f aX11_note_2 hc1 ?_
    refine g_ldan aX11_note_5 rfl ?_
    refine g_getR aX11_note_6 (sC_0 hsh) rfl ?_
    refine g_iconst (x := 0) aX11_note_9 rfl ?_
    refine g_putI aX11_note_10 ((wShB_19 hsh).1) rfl rfl ?_
    refine g_iconst (x := 0) aX11_note_13 rfl ?_
    obtain ⟨rfl, rfl⟩ := i_some_inj hE
    exact g_iret aX11_note_14 rfl rfl
theorem aX11_back_0 : i_at mX11_back.2.2.2.2.2 0 = some (.iload_n 1, 1, 0, 0, 0, 0) := by decide +kernel
theorem aX11_back_1 : i_at mX11_back.2.2.2.2.2 1 = some (.iconst 0, 1, 0, 0, 0, 0) := by decide +kernel
theorem aX11_back_2 : i_at mX11_back.2.2.2.2.2 2 = some (.iconst 3, 1, 0, 0, 0, 0) := by decide +kernel
theorem aX11_back_3 : i_at mX11_back.2.2.2.2.2 3 = some (.invokestatic 187, 3, 125, 3, 847, 0) := by decide +kernel
theorem aX11_back_6 : i_at mX11_back.2.2.2.2.2 6 = some (.ifCond .eq 12, 3, 18, 0, 0, 0) := by decide +kernel
theorem aX11_back_9 : i_at mX11_back.2.2.2.2.2 9 = some (.aload_n 0, 1, 0, 0, 0, 0) := by decide +kernel
theorem aX11_back_10 : i_at mX11_back.2.2.2.2.2 10 = some (.getfield 79, 3, 10, 9, 463, 0) := by decide +kernel
theorem aX11_back_13 : i_at mX11_back.2.2.2.2.2 13 = some (.iload_n 1, 1, 0, 0, 0, 0) := by decide +kernel
theorem aX11_back_14 : i_at mX11_back.2.2.2.2.2 14 = some (.aaload, 1, 0, 0, 0, 0) := by decide +kernel
theorem aX11_back_15 : i_at mX11_back.2.2.2.2.2 15 = some (.ifnonnull 5, 3, 20, 0, 0, 0) := by decide +kernel
theorem aX11_back_18 : i_at mX11_back.2.2.2.2.2 18 = some (.iconst (-1), 1, 0, 0, 0, 0) := by decide +kernel
theorem aX11_back_19 : i_at mX11_back.2.2.2.2.2 19 = some (.ireturn, 1, 0, 0, 0, 0) := by decide +kernel
theorem aX11_back_20 : i_at mX11_back.2.2.2.2.2 20 = some (.aload_n 0, 1, 0, 0, 0, 0) := by decide +kernel
theorem aX11_back_21 : i_at mX11_back.2.2.2.2.2 21 = some (.getfield 59, 3, 10, 6, 460, 0) := by decide +kernel
theorem aX11_back_24 : i_at mX11_back.2.2.2.2.2 24 = some (.aload_n 0, 1, 0, 0, 0, 0) := by decide +kernel
theorem aX11_back_25 : i_at mX11_back.2.2.2.2.2 25 = some (.getfield 79, 3, 10, 9, 463, 0) := by decide +kernel
theorem aX11_back_28 : i_at mX11_back.2.2.2.2.2 28 = some (.iload_n 1, 1, 0, 0, 0, 0) := by decide +kernel
theorem aX11_back_29 : i_at mX11_back.2.2.2.2.2 29 = some (.aaload, 1, 0, 0, 0, 0) := by decide +kernel
theorem aX11_back_30 : i_at mX11_back.2.2.2.2.2 30 = some (.invokevirtual 300, 3, 89, 1, 1072, 0) := by decide +kernel
theorem aX11_back_33 : i_at mX11_back.2.2.2.2.2 33 = some (.aload_n 0, 1, 0, 0, 0, 0) := by decide +kernel
theorem aX11_back_34 : i_at mX11_back.2.2.2.2.2 34 = some (.getfield 59, 3, 10, 6, 460, 0) := by decide +kernel
theorem aX11_back_37 : i_at mX11_back.2.2.2.2.2 37 = some (.getfield 102, 3, 9, 1, 351, 0) := by decide +kernel
theorem aX11_back_40 : i_at mX11_back.2.2.2.2.2 40 = some (.getfield 177, 3, 3, 0, 295, 0) := by decide +kernel
theorem aX11_back_43 : i_at mX11_back.2.2.2.2.2 43 = some (.ireturn, 1, 0, 0, 0, 0) := by decide +kernel
noncomputable def fX11_back (sh : List kd) (σ : St) (p1 : Int32) : Option (Int32 × St) := i_bd (fX11_isWithin sh σ p1 0 3) (fun r1 s2 => if r1 = 0 then some ((-1), s2) else if i_ok p1 4 then i_oe (s2.2.2.2 159 p1.toNatClampNeg) (fun q6 => i_ck (wSh sh q6) (if i_ok p1 4 then i_om (s2.2.2.2 159 p1.toNatClampNeg) (fun q10 => i_ck (wSh sh q10) (i_bd (fX10_copyFrom sh s2 19 q10) (fun r13 s14 => some ((s14.1 26 0), s14)))) else none)) (some ((-1), s2)) else none)
set_option maxRecDepth 20000 in
set_option maxHeartbeats 2000000 in
theorem tX11_back {sh : List kd} {σ τ : St} {r : Int32} (hsh : cSh sh) {p1 : Int32} (hE : fX11_back sh σ p1 = some (r, τ)) : i_X 3 124 [.ref 0, .int p1] (s_h sh σ) 0 0 (some (.int r)) (s_h sh τ) := by
  refine g_X (M := mX11_back) (loc := [.ref 0, .int p1]) rfl (Nat.le_of_ble_eq_true rfl) rfl ?_
  unfold fX11_back at hE
  refine g_ldin aX11_back_0 rfl ?_
  refine g_iconst (x := 0) aX11_back_1 rfl ?_
  refine g_iconst (x := 3) aX11_back_2 rfl ?_
  obtain ⟨r1, s2, h3, hE⟩ := i_bd_some hE
  refine g_calS (As := [.int p1, .int 0, .int 3]) (rest := []) aX11_back_3 (i_X_mono (by omega) (tX11_isWithin hsh h3)) rfl rfl (Nat.le_of_ble_eq_true rfl) rfl ?_
  by_cases hc4 : r1 = 0
  · rw [if_pos hc4] at hE
    refine g_if_eq_t aX11_back_6 hc4 ?_
    refine g_iconst (x := (-1)) aX11_back_18 rfl ?_
    obtain ⟨rfl, rfl⟩ := i_some_inj hE
    exact g_iret aX11_back_19 rfl rfl
  · rw [if_neg hc4] at hE
    refine g_if_eq_f aX11_back_6 hc4 ?_
    refine g_ldan aX11_back_9 rfl ?_
    refine g_getR aX11_back_10 (sC_0 hsh) rfl ?_
    refine g_ldin aX11_back_13 rfl ?_
    obtain ⟨h5, hE⟩ := i_ifn hE
    refine g_ald aX11_back_14 (sC_159 hsh) h5 ?_
    rcases i_oe_some hE with ⟨q6, h7, hE⟩ | ⟨h7, hE⟩
    · rw [h7]
      obtain ⟨h8, hE⟩ := i_ck_some hE
      refine g_nn_t aX11_back_15 ?_
      refine g_ldan aX11_back_20 rfl ?_
      refine g_getR aX11_back_21 (sC_0 hsh) rfl ?_
      refine g_ldan aX11_back_24 rfl ?_
      refine g_getR aX11_back_25 (sC_0 hsh) rfl ?_
      refine g_ldin aX11_back_28 rfl ?_
      obtain ⟨h9, hE⟩ := i_ifn hE
      refine g_ald aX11_back_29 (sC_159 hsh) h9 ?_
      obtain ⟨q10, h11, hE⟩ := i_om_some hE
      rw [h11]
      obtain ⟨h12, hE⟩ := i_ck_some hE
      obtain ⟨r13, s14, h15, hE⟩ := i_bd_some hE
      refine g_calV (As := [.ref q10]) (rest := []) aX11_back_30 (i_X_mono (by omega) (tX10_copyFrom hsh (wShB_19 hsh) h12 h15)) ((wShB_19 hsh).1) (by decide +kernel) rfl rfl (Nat.le_of_ble_eq_true rfl) rfl ?_
      refine g_ldan aX11_back_33 rfl ?_
      refine g_getR aX11_back_34 (sC_0 hsh) rfl ?_
      refine g_getR aX11_back_37 ((wShB_19 hsh).1) rfl ?_
      refine g_getI aX11_back_40 ((lShB_26 hsh).1) rfl ?_
      obtain ⟨rfl, rfl⟩ := i_some_inj hE
      exact g_iret aX11_back_43 rfl rfl
    · rw [h7]
      refine g_nn_f aX11_back_15 ?_
      refine g_iconst (x := (-1)) aX11_back_18 rfl ?_
      obtain ⟨rfl, rfl⟩ := i_some_inj hE
      exact g_iret aX11_back_19 rfl rfl
theorem aX12_feed_0 : i_at mX12_feed.2.2.2.2.2 0 = some (.aload_n 0, 1, 0, 0, 0, 0) := by decide +kernel
theorem aX12_feed_1 : i_at mX12_feed.2.2.2.2.2 1 = some (.getfield 135, 3, 11, 19, 1106, 0) := by decide +kernel
theorem aX12_feed_4 : i_at mX12_feed.2.2.2.2.2 4 = some (.bipush 20, 2, 0, 0, 0, 0) := by decide +kernel
theorem aX12_feed_6 : i_at mX12_feed.2.2.2.2.2 6 = some (.iadd, 1, 0, 0, 0, 0) := by decide +kernel
theorem aX12_feed_7 : i_at mX12_feed.2.2.2.2.2 7 = some (.sipush 400, 3, 0, 0, 0, 0) := by decide +kernel
theorem aX12_feed_10 : i_at mX12_feed.2.2.2.2.2 10 = some (.if_icmp .le 5, 3, 15, 0, 0, 0) := by decide +kernel
theorem aX12_feed_13 : i_at mX12_feed.2.2.2.2.2 13 = some (.iconst (-1), 1, 0, 0, 0, 0) := by decide +kernel
theorem aX12_feed_14 : i_at mX12_feed.2.2.2.2.2 14 = some (.ireturn, 1, 0, 0, 0, 0) := by decide +kernel
theorem aX12_feed_15 : i_at mX12_feed.2.2.2.2.2 15 = some (.aload_n 0, 1, 0, 0, 0, 0) := by decide +kernel
theorem aX12_feed_16 : i_at mX12_feed.2.2.2.2.2 16 = some (.iload_n 1, 1, 0, 0, 0, 0) := by decide +kernel
theorem aX12_feed_17 : i_at mX12_feed.2.2.2.2.2 17 = some (.invokevirtual 138, 3, 134, 1, 1251, 0) := by decide +kernel
theorem aX12_feed_20 : i_at mX12_feed.2.2.2.2.2 20 = some (.aload_n 0, 1, 0, 0, 0, 0) := by decide +kernel
theorem aX12_feed_21 : i_at mX12_feed.2.2.2.2.2 21 = some (.iload_n 2, 1, 0, 0, 0, 0) := by decide +kernel
theorem aX12_feed_22 : i_at mX12_feed.2.2.2.2.2 22 = some (.invokevirtual 138, 3, 134, 1, 1251, 0) := by decide +kernel
theorem aX12_feed_25 : i_at mX12_feed.2.2.2.2.2 25 = some (.aload_n 0, 1, 0, 0, 0, 0) := by decide +kernel
theorem aX12_feed_26 : i_at mX12_feed.2.2.2.2.2 26 = some (.iload_n 3, 1, 0, 0, 0, 0) := by decide +kernel
theorem aX12_feed_27 : i_at mX12_feed.2.2.2.2.2 27 = some (.invokevirtual 138, 3, 134, 1, 1251, 0) := by decide +kernel
theorem aX12_feed_30 : i_at mX12_feed.2.2.2.2.2 30 = some (.aload_n 0, 1, 0, 0, 0, 0) := by decide +kernel
theorem aX12_feed_31 : i_at mX12_feed.2.2.2.2.2 31 = some (.iload 4, 2, 0, 0, 0, 0) := by decide +kernel
theorem aX12_feed_33 : i_at mX12_feed.2.2.2.2.2 33 = some (.invokevirtual 138, 3, 134, 1, 1251, 0) := by decide +kernel
theorem aX12_feed_36 : i_at mX12_feed.2.2.2.2.2 36 = some (.aload_n 0, 1, 0, 0, 0, 0) := by decide +kernel
theorem aX12_feed_37 : i_at mX12_feed.2.2.2.2.2 37 = some (.iload 5, 2, 0, 0, 0, 0) := by decide +kernel
theorem aX12_feed_39 : i_at mX12_feed.2.2.2.2.2 39 = some (.invokevirtual 138, 3, 134, 1, 1251, 0) := by decide +kernel
theorem aX12_feed_42 : i_at mX12_feed.2.2.2.2.2 42 = some (.aload_n 0, 1, 0, 0, 0, 0) := by decide +kernel
theorem aX12_feed_43 : i_at mX12_feed.2.2.2.2.2 43 = some (.getfield 135, 3, 11, 19, 1106, 0) := by decide +kernel
theorem aX12_feed_46 : i_at mX12_feed.2.2.2.2.2 46 = some (.ireturn, 1, 0, 0, 0, 0) := by decide +kernel
noncomputable def fX12_feed (sh : List kd) (σ : St) (p1 : Int32) (p2 : Int32) (p3 : Int32) (p4 : Int32) (p5 : Int32) : Option (Int32 × St) := if ((σ.1 0 19) + 20) ≤ 400 then i_bd (fX12_put sh σ p1) (fun r2 s3 => i_bd (fX12_put sh s3 p2) (fun r5 s6 => i_bd (fX12_put sh s6 p3) (fun r8 s9 => i_bd (fX12_put sh s9 p4) (fun r11 s12 => i_bd (fX12_put sh s12 p5) (fun r14 s15 => some ((s15.1 0 19), s15)))))) else some ((-1), σ)
set_option maxRecDepth 20000 in
set_option maxHeartbeats 2000000 in
theorem tX12_feed {sh : List kd} {σ τ : St} {r : Int32} (hsh : rmSh sh) {p1 : Int32} {p2 : Int32} {p3 : Int32} {p4 : Int32} {p5 : Int32} (hE : fX12_feed sh σ p1 p2 p3 p4 p5 = some (r, τ)) : i_X 2 133 [.ref 0, .int p1, .int p2, .int p3, .int p4, .int p5] (s_h sh σ) 0 0 (some (.int r)) (s_h sh τ) := by
  refine g_X (M := mX12_feed) (loc := [.ref 0, .int p1, .int p2, .int p3, .int p4, .int p5]) rfl (Nat.le_of_ble_eq_true rfl) rfl ?_
  unfold fX12_feed at hE
  refine g_ldan aX12_feed_0 rfl ?_
  refine g_getI aX12_feed_1 (sR_0 hsh) rfl ?_
  refine g_bipush (x := 20) aX12_feed_4 rfl ?_
  refine g_iadd aX12_feed_6 ?_
  refine g_sipush (x := 400) aX12_feed_7 rfl ?_
  by_cases hc1 : ((σ.1 0 19) + 20) ≤ 400
  · rw [if_pos hc1] at hE
    refine g_ic_le_t aX12_feed_10 hc1 ?_
    refine g_ldan aX12_feed_15 rfl ?_
    refine g_ldin aX12_feed_16 rfl ?_
    obtain ⟨r2, s3, h4, hE⟩ := i_bd_some hE
    refine g_calV (As := [.int p1]) (rest := []) aX12_feed_17 (i_X_mono (by omega) (tX12_put hsh h4)) (sR_0 hsh) (by decide +kernel) rfl rfl (Nat.le_of_ble_eq_true rfl) rfl ?_
    refine g_ldan aX12_feed_20 rfl ?_
    refine g_ldin aX12_feed_21 rfl ?_
    obtain ⟨r5, s6, h7, hE⟩ := i_bd_some hE
    refine g_calV (As := [.int p2]) (rest := []) aX12_feed_22 (i_X_mono (by omega) (tX12_put hsh h7)) (sR_0 hsh) (by decide +kernel) rfl rfl (Nat.le_of_ble_eq_true rfl) rfl ?_
    refine g_ldan aX12_feed_25 rfl ?_
    refine g_ldin aX12_feed_26 rfl ?_
    obtain ⟨r8, s9, h10, hE⟩ := i_bd_some hE
    refine g_calV (As := [.int p3]) (rest := []) aX12_feed_27 (i_X_mono (by omega) (tX12_put hsh h10)) (sR_0 hsh) (by decide +kernel) rfl rfl (Nat.le_of_ble_eq_true rfl) rfl ?_
    refine g_ldan aX12_feed_30 rfl ?_
    refine g_ldi aX12_feed_31 rfl ?_
    obtain ⟨r11, s12, h13, hE⟩ := i_bd_some hE
    refine g_calV (As := [.int p4]) (rest := []) aX12_feed_33 (i_X_mono (by omega) (tX12_put hsh h13)) (sR_0 hsh) (by decide +kernel) rfl rfl (Nat.le_of_ble_eq_true rfl) rfl ?_
    refine g_ldan aX12_feed_36 rfl ?_
    refine g_ldi aX12_feed_37 rfl ?_
    obtain ⟨r14, s15, h16, hE⟩ := i_bd_some hE
    refine g_calV (As := [.int p5]) (rest := []) aX12_feed_39 (i_X_mono (by omega) (tX12_put hsh h16)) (sR_0 hsh) (by decide +kernel) rfl rfl (Nat.le_of_ble_eq_true rfl) rfl ?_
    refine g_ldan aX12_feed_42 rfl ?_
    refine g_getI aX12_feed_43 (sR_0 hsh) rfl ?_
    obtain ⟨rfl, rfl⟩ := i_some_inj hE
    exact g_iret aX12_feed_46 rfl rfl
  · rw [if_neg hc1] at hE
    refine g_ic_le_f aX12_feed_10 hc1 ?_
    refine g_iconst (x := (-1)) aX12_feed_13 rfl ?_
    obtain ⟨rfl, rfl⟩ := i_some_inj hE
    exact g_iret aX12_feed_14 rfl rfl
theorem aX12_wanted_0 : i_at mX12_wanted.2.2.2.2.2 0 = some (.aload_n 0, 1, 0, 0, 0, 0) := by decide +kernel
theorem aX12_wanted_1 : i_at mX12_wanted.2.2.2.2.2 1 = some (.getfield 9, 3, 11, 1, 1088, 0) := by decide +kernel
theorem aX12_wanted_4 : i_at mX12_wanted.2.2.2.2.2 4 = some (.bipush 10, 2, 0, 0, 0, 0) := by decide +kernel
theorem aX12_wanted_6 : i_at mX12_wanted.2.2.2.2.2 6 = some (.iaload, 1, 0, 0, 0, 0) := by decide +kernel
theorem aX12_wanted_7 : i_at mX12_wanted.2.2.2.2.2 7 = some (.istore_n 1, 1, 0, 0, 0, 0) := by decide +kernel
theorem aX12_wanted_8 : i_at mX12_wanted.2.2.2.2.2 8 = some (.bipush 12, 2, 0, 0, 0, 0) := by decide +kernel
theorem aX12_wanted_10 : i_at mX12_wanted.2.2.2.2.2 10 = some (.iload_n 1, 1, 0, 0, 0, 0) := by decide +kernel
theorem aX12_wanted_11 : i_at mX12_wanted.2.2.2.2.2 11 = some (.imul, 1, 0, 0, 0, 0) := by decide +kernel
theorem aX12_wanted_12 : i_at mX12_wanted.2.2.2.2.2 12 = some (.istore_n 2, 1, 0, 0, 0, 0) := by decide +kernel
theorem aX12_wanted_13 : i_at mX12_wanted.2.2.2.2.2 13 = some (.iload_n 2, 1, 0, 0, 0, 0) := by decide +kernel
theorem aX12_wanted_14 : i_at mX12_wanted.2.2.2.2.2 14 = some (.bipush 12, 2, 0, 0, 0, 0) := by decide +kernel
theorem aX12_wanted_16 : i_at mX12_wanted.2.2.2.2.2 16 = some (.iload_n 1, 1, 0, 0, 0, 0) := by decide +kernel
theorem aX12_wanted_17 : i_at mX12_wanted.2.2.2.2.2 17 = some (.imul, 1, 0, 0, 0, 0) := by decide +kernel
theorem aX12_wanted_18 : i_at mX12_wanted.2.2.2.2.2 18 = some (.aload_n 0, 1, 0, 0, 0, 0) := by decide +kernel
theorem aX12_wanted_19 : i_at mX12_wanted.2.2.2.2.2 19 = some (.getfield 78, 3, 11, 32, 1119, 0) := by decide +kernel
theorem aX12_wanted_22 : i_at mX12_wanted.2.2.2.2.2 22 = some (.iload_n 1, 1, 0, 0, 0, 0) := by decide +kernel
theorem aX12_wanted_23 : i_at mX12_wanted.2.2.2.2.2 23 = some (.iaload, 1, 0, 0, 0, 0) := by decide +kernel
theorem aX12_wanted_24 : i_at mX12_wanted.2.2.2.2.2 24 = some (.iadd, 1, 0, 0, 0, 0) := by decide +kernel
theorem aX12_wanted_25 : i_at mX12_wanted.2.2.2.2.2 25 = some (.if_icmp .ge 64, 3, 89, 0, 0, 0) := by decide +kernel
theorem aX12_wanted_28 : i_at mX12_wanted.2.2.2.2.2 28 = some (.aload_n 0, 1, 0, 0, 0, 0) := by decide +kernel
theorem aX12_wanted_29 : i_at mX12_wanted.2.2.2.2.2 29 = some (.getfield 84, 3, 11, 34, 1121, 0) := by decide +kernel
theorem aX12_wanted_32 : i_at mX12_wanted.2.2.2.2.2 32 = some (.iload_n 2, 1, 0, 0, 0, 0) := by decide +kernel
theorem aX12_wanted_33 : i_at mX12_wanted.2.2.2.2.2 33 = some (.iaload, 1, 0, 0, 0, 0) := by decide +kernel
theorem aX12_wanted_34 : i_at mX12_wanted.2.2.2.2.2 34 = some (.aload_n 0, 1, 0, 0, 0, 0) := by decide +kernel
theorem aX12_wanted_35 : i_at mX12_wanted.2.2.2.2.2 35 = some (.getfield 87, 3, 11, 35, 1122, 0) := by decide +kernel
theorem aX12_wanted_38 : i_at mX12_wanted.2.2.2.2.2 38 = some (.iload_n 2, 1, 0, 0, 0, 0) := by decide +kernel
theorem aX12_wanted_39 : i_at mX12_wanted.2.2.2.2.2 39 = some (.iaload, 1, 0, 0, 0, 0) := by decide +kernel
theorem aX12_wanted_40 : i_at mX12_wanted.2.2.2.2.2 40 = some (.if_icmp .eq 25, 3, 65, 0, 0, 0) := by decide +kernel
theorem aX12_wanted_43 : i_at mX12_wanted.2.2.2.2.2 43 = some (.aload_n 0, 1, 0, 0, 0, 0) := by decide +kernel
theorem aX12_wanted_44 : i_at mX12_wanted.2.2.2.2.2 44 = some (.iload_n 1, 1, 0, 0, 0, 0) := by decide +kernel
theorem aX12_wanted_45 : i_at mX12_wanted.2.2.2.2.2 45 = some (.aload_n 0, 1, 0, 0, 0, 0) := by decide +kernel
theorem aX12_wanted_46 : i_at mX12_wanted.2.2.2.2.2 46 = some (.getfield 84, 3, 11, 34, 1121, 0) := by decide +kernel
theorem aX12_wanted_49 : i_at mX12_wanted.2.2.2.2.2 49 = some (.iload_n 2, 1, 0, 0, 0, 0) := by decide +kernel
theorem aX12_wanted_50 : i_at mX12_wanted.2.2.2.2.2 50 = some (.iaload, 1, 0, 0, 0, 0) := by decide +kernel
theorem aX12_wanted_51 : i_at mX12_wanted.2.2.2.2.2 51 = some (.aload_n 0, 1, 0, 0, 0, 0) := by decide +kernel
theorem aX12_wanted_52 : i_at mX12_wanted.2.2.2.2.2 52 = some (.getfield 87, 3, 11, 35, 1122, 0) := by decide +kernel
theorem aX12_wanted_55 : i_at mX12_wanted.2.2.2.2.2 55 = some (.iload_n 2, 1, 0, 0, 0, 0) := by decide +kernel
theorem aX12_wanted_56 : i_at mX12_wanted.2.2.2.2.2 56 = some (.iaload, 1, 0, 0, 0, 0) := by decide +kernel
theorem aX12_wanted_57 : i_at mX12_wanted.2.2.2.2.2 57 = some (.invokevirtual 326, 3, 173, 3, 1504, 0) := by decide +kernel
theorem aX12_wanted_60 : i_at mX12_wanted.2.2.2.2.2 60 = some (.lconst 1, 1, 0, 0, 0, 0) := by decide +kernel
theorem aX12_wanted_61 : i_at mX12_wanted.2.2.2.2.2 61 = some (.lcmp, 1, 0, 0, 0, 0) := by decide +kernel
theorem aX12_wanted_62 : i_at mX12_wanted.2.2.2.2.2 62 = some (.ifCond .ne 21, 3, 83, 0, 0, 0) := by decide +kernel
theorem aX12_wanted_65 : i_at mX12_wanted.2.2.2.2.2 65 = some (.aload_n 0, 1, 0, 0, 0, 0) := by decide +kernel
theorem aX12_wanted_66 : i_at mX12_wanted.2.2.2.2.2 66 = some (.iload_n 1, 1, 0, 0, 0, 0) := by decide +kernel
theorem aX12_wanted_67 : i_at mX12_wanted.2.2.2.2.2 67 = some (.aload_n 0, 1, 0, 0, 0, 0) := by decide +kernel
theorem aX12_wanted_68 : i_at mX12_wanted.2.2.2.2.2 68 = some (.getfield 81, 3, 11, 33, 1120, 0) := by decide +kernel
theorem aX12_wanted_71 : i_at mX12_wanted.2.2.2.2.2 71 = some (.iload_n 2, 1, 0, 0, 0, 0) := by decide +kernel
theorem aX12_wanted_72 : i_at mX12_wanted.2.2.2.2.2 72 = some (.iaload, 1, 0, 0, 0, 0) := by decide +kernel
theorem aX12_wanted_73 : i_at mX12_wanted.2.2.2.2.2 73 = some (.aload_n 0, 1, 0, 0, 0, 0) := by decide +kernel
theorem aX12_wanted_74 : i_at mX12_wanted.2.2.2.2.2 74 = some (.getfield 84, 3, 11, 34, 1121, 0) := by decide +kernel
theorem aX12_wanted_77 : i_at mX12_wanted.2.2.2.2.2 77 = some (.iload_n 2, 1, 0, 0, 0, 0) := by decide +kernel
theorem aX12_wanted_78 : i_at mX12_wanted.2.2.2.2.2 78 = some (.iaload, 1, 0, 0, 0, 0) := by decide +kernel
theorem aX12_wanted_79 : i_at mX12_wanted.2.2.2.2.2 79 = some (.invokevirtual 326, 3, 173, 3, 1504, 0) := by decide +kernel
theorem aX12_wanted_82 : i_at mX12_wanted.2.2.2.2.2 82 = some (.lreturn, 1, 0, 0, 0, 0) := by decide +kernel
theorem aX12_wanted_83 : i_at mX12_wanted.2.2.2.2.2 83 = some (.iinc 2 1, 3, 0, 0, 0, 0) := by decide +kernel
theorem aX12_wanted_86 : i_at mX12_wanted.2.2.2.2.2 86 = some (.goto (-73), 3, 13, 0, 0, 0) := by decide +kernel
theorem aX12_wanted_89 : i_at mX12_wanted.2.2.2.2.2 89 = some (.lconst 0, 1, 0, 0, 0, 0) := by decide +kernel
theorem aX12_wanted_90 : i_at mX12_wanted.2.2.2.2.2 90 = some (.lreturn, 1, 0, 0, 0, 0) := by decide +kernel
noncomputable def fX12_wanted_L13 (sh : List kd) (σ : St) (k65 : Int32 → St → Option (Int64 × St)) : Nat → Int32 → St → Option (Int64 × St)
  | 0, _, _ => none
  | n56 + 1, x2, s3 => if i_ok (σ.2.1 1 (10 : Int32).toNatClampNeg) 6 then if ((12 * (σ.2.1 1 (10 : Int32).toNatClampNeg)) + (s3.2.1 22 (σ.2.1 1 (10 : Int32).toNatClampNeg).toNatClampNeg)) ≤ x2 then some (0, s3) else if i_ok x2 72 then if i_ok x2 72 then if (s3.2.1 24 x2.toNatClampNeg) = (s3.2.1 25 x2.toNatClampNeg) then k65 x2 s3 else if i_ok x2 72 then if i_ok x2 72 then i_bd (fX12_answer sh s3 (σ.2.1 1 (10 : Int32).toNatClampNeg) (s3.2.1 24 x2.toNatClampNeg) (s3.2.1 25 x2.toNatClampNeg)) (fun r64 s65 => if ¬ (lg_cmp r64 1) = 0 then (fX12_wanted_L13 sh σ k65 n56 (x2 + 1) s65) else k65 x2 s65) else none else none else none else none else none
noncomputable def fX12_wanted_X65 (sh : List kd) (σ : St) (x54 : Int32) (s55 : St) : Option (Int64 × St) := if i_ok x54 72 then if i_ok x54 72 then i_bd (fX12_answer sh s55 (σ.2.1 1 (10 : Int32).toNatClampNeg) (s55.2.1 23 x54.toNatClampNeg) (s55.2.1 24 x54.toNatClampNeg)) (fun r70 s71 => some (r70, s71)) else none else none
noncomputable def fX12_wanted (sh : List kd) (σ : St) : Option (Int64 × St) := if i_ok 10 11 then fX12_wanted_L13 sh σ (fun (x54 : Int32) (s55 : St) => fX12_wanted_X65 sh σ x54 s55) i_F (12 * (σ.2.1 1 (10 : Int32).toNatClampNeg)) σ else none
set_option maxRecDepth 20000 in
set_option maxHeartbeats 2000000 in
theorem tX12_wanted_L13 {sh : List kd} {τ : St} {r : Int64} (hsh : rmSh sh) {σ : St} {k65 : Int32 → St → Option (Int64 × St)} (hk65 : ∀ (x54 : Int32) (s55 : St), k65 x54 s55 = some (r, τ) → g_R sh 3 mX12_wanted (some (.long r)) τ 65 [.ref 0, .int (σ.2.1 1 (10 : Int32).toNatClampNeg), .int x54] [] (s55)) : ∀ (n0 : Nat) (x2 : Int32) (s3 : St), fX12_wanted_L13 sh σ k65 n0 x2 s3 = some (r, τ) → g_R sh 3 mX12_wanted (some (.long r)) τ 13 [.ref 0, .int (σ.2.1 1 (10 : Int32).toNatClampNeg), .int x2] [] (s3) := by
  intro n0
  induction n0 with
  | zero => intro _ _ hE; cases hE
  | succ n56 ih =>
    intro x2 s3 hE
    unfold fX12_wanted_L13 at hE
    refine g_ldin aX12_wanted_13 rfl ?_
    refine g_bipush (x := 12) aX12_wanted_14 rfl ?_
    refine g_ldin aX12_wanted_16 rfl ?_
    refine g_imul aX12_wanted_17 ?_
    refine g_ldan aX12_wanted_18 rfl ?_
    refine g_getR aX12_wanted_19 (sR_0 hsh) rfl ?_
    refine g_ldin aX12_wanted_22 rfl ?_
    obtain ⟨h57, hE⟩ := i_ifn hE
    refine g_ild aX12_wanted_23 (sR_22 hsh) h57 ?_
    refine g_iadd aX12_wanted_24 ?_
    by_cases hc58 : ((12 * (σ.2.1 1 (10 : Int32).toNatClampNeg)) + (s3.2.1 22 (σ.2.1 1 (10 : Int32).toNatClampNeg).toNatClampNeg)) ≤ x2
    · rw [if_pos hc58] at hE
      refine g_ic_ge_t aX12_wanted_25 hc58 ?_
      refine g_lconst (x := 0) aX12_wanted_89 rfl ?_
      obtain ⟨rfl, rfl⟩ := i_some_inj hE
      exact g_lret aX12_wanted_90 rfl
    · rw [if_neg hc58] at hE
      refine g_ic_ge_f aX12_wanted_25 hc58 ?_
      refine g_ldan aX12_wanted_28 rfl ?_
      refine g_getR aX12_wanted_29 (sR_0 hsh) rfl ?_
      refine g_ldin aX12_wanted_32 rfl ?_
      obtain ⟨h59, hE⟩ := i_ifn hE
      refine g_ild aX12_wanted_33 (sR_24 hsh) h59 ?_
      refine g_ldan aX12_wanted_34 rfl ?_
      refine g_getR aX12_wanted_35 (sR_0 hsh) rfl ?_
      refine g_ldin aX12_wanted_38 rfl ?_
      obtain ⟨h60, hE⟩ := i_ifn hE
      refine g_ild aX12_wanted_39 (sR_25 hsh) h60 ?_
      by_cases hc61 : (s3.2.1 24 x2.toNatClampNeg) = (s3.2.1 25 x2.toNatClampNeg)
      · rw [if_pos hc61] at hE
        refine g_ic_eq_t aX12_wanted_40 hc61 ?_
        exact hk65 _ _ hE
      · rw [if_neg hc61] at hE
        refine g_ic_eq_f aX12_wanted_40 hc61 ?_
        refine g_ldan aX12_wanted_43 rfl ?_
        refine g_ldin aX12_wanted_44 rfl ?_
        refine g_ldan aX12_wanted_45 rfl ?_
        refine g_getR aX12_wanted_46 (sR_0 hsh) rfl ?_
        refine g_ldin aX12_wanted_49 rfl ?_
        obtain ⟨h62, hE⟩ := i_ifn hE
        refine g_ild aX12_wanted_50 (sR_24 hsh) h62 ?_
        refine g_ldan aX12_wanted_51 rfl ?_
        refine g_getR aX12_wanted_52 (sR_0 hsh) rfl ?_
        refine g_ldin aX12_wanted_55 rfl ?_
        obtain ⟨h63, hE⟩ := i_ifn hE
        refine g_ild aX12_wanted_56 (sR_25 hsh) h63 ?_
        obtain ⟨r64, s65, h66, hE⟩ := i_bd_some hE
        refine g_calV (As := [.int (σ.2.1 1 (10 : Int32).toNatClampNeg), .int (s3.2.1 24 x2.toNatClampNeg), .int (s3.2.1 25 x2.toNatClampNeg)]) (rest := []) aX12_wanted_57 (i_X_mono (by omega) (tX12_answer hsh h66)) (sR_0 hsh) (by decide +kernel) rfl rfl (Nat.le_of_ble_eq_true rfl) rfl ?_
        refine g_lconst (x := 1) aX12_wanted_60 rfl ?_
        refine g_lcmp aX12_wanted_61 ?_
        by_cases hc67 : ¬ (lg_cmp r64 1) = 0
        · rw [if_pos hc67] at hE
          refine g_if_ne_t aX12_wanted_62 hc67 ?_
          refine g_iinc (y := 1) (loc2 := [.ref 0, .int (σ.2.1 1 (10 : Int32).toNatClampNeg), .int (x2 + 1)]) aX12_wanted_83 rfl rfl rfl ?_
          refine g_goto aX12_wanted_86 ?_
          exact ih _ _ hE
        · rw [if_neg hc67] at hE
          refine g_if_ne_f aX12_wanted_62 hc67 ?_
          exact hk65 _ _ hE
set_option maxRecDepth 20000 in
set_option maxHeartbeats 2000000 in
theorem tX12_wanted_X65 {sh : List kd} {τ : St} {r : Int64} (hsh : rmSh sh) {σ : St} {x54 : Int32} {s55 : St} (hE : fX12_wanted_X65 sh σ x54 s55 = some (r, τ)) : g_R sh 3 mX12_wanted (some (.long r)) τ 65 [.ref 0, .int (σ.2.1 1 (10 : Int32).toNatClampNeg), .int x54] [] (s55) := by
  unfold fX12_wanted_X65 at hE
  refine g_ldan aX12_wanted_65 rfl ?_
  refine g_ldin aX12_wanted_66 rfl ?_
  refine g_ldan aX12_wanted_67 rfl ?_
  refine g_getR aX12_wanted_68 (sR_0 hsh) rfl ?_
  refine g_ldin aX12_wanted_71 rfl ?_
  obtain ⟨h68, hE⟩ := i_ifn hE
  refine g_ild aX12_wanted_72 (sR_23 hsh) h68 ?_
  refine g_ldan aX12_wanted_73 rfl ?_
  refine g_getR aX12_wanted_74 (sR_0 hsh) rfl ?_
  refine g_ldin aX12_wanted_77 rfl ?_
  obtain ⟨h69, hE⟩ := i_ifn hE
  refine g_ild aX12_wanted_78 (sR_24 hsh) h69 ?_
  obtain ⟨r70, s71, h72, hE⟩ := i_bd_some hE
  refine g_calV (As := [.int (σ.2.1 1 (10 : Int32).toNatClampNeg), .int (s55.2.1 23 x54.toNatClampNeg), .int (s55.2.1 24 x54.toNatClampNeg)]) (rest := []) aX12_wanted_79 (i_X_mono (by omega) (tX12_answer hsh h72)) (sR_0 hsh) (by decide +kernel) rfl rfl (Nat.le_of_ble_eq_true rfl) rfl ?_
  obtain ⟨rfl, rfl⟩ := i_some_inj hE
  exact g_lret aX12_wanted_82 rfl
set_option maxRecDepth 20000 in
set_option maxHeartbeats 2000000 in
theorem tX12_wanted {sh : List kd} {σ τ : St} {r : Int64} (hsh : rmSh sh) (hE : fX12_wanted sh σ = some (r, τ)) : i_X 4 170 [.ref 0] (s_h sh σ) 0 0 (some (.long r)) (s_h sh τ) := by
  refine g_X (M := mX12_wanted) (loc := [.ref 0, .retAddr 0, .retAddr 0]) rfl (Nat.le_of_ble_eq_true rfl) rfl ?_
  unfold fX12_wanted at hE
  refine g_ldan aX12_wanted_0 rfl ?_
  refine g_getR aX12_wanted_1 (sR_0 hsh) rfl ?_
  refine g_bipush (x := 10) aX12_wanted_4 rfl ?_
  obtain ⟨h1, hE⟩ := i_ifn hE
  refine g_ild aX12_wanted_6 (sR_1 hsh) h1 ?_
  refine g_stin (loc2 := [.ref 0, .int (σ.2.1 1 (10 : Int32).toNatClampNeg), .retAddr 0]) aX12_wanted_7 (Nat.le_of_ble_eq_true rfl) rfl ?_
  refine g_bipush (x := 12) aX12_wanted_8 rfl ?_
  refine g_ldin aX12_wanted_10 rfl ?_
  refine g_imul aX12_wanted_11 ?_
  refine g_stin (loc2 := [.ref 0, .int (σ.2.1 1 (10 : Int32).toNatClampNeg), .int (12 * (σ.2.1 1 (10 : Int32).toNatClampNeg))]) aX12_wanted_12 (Nat.le_of_ble_eq_true rfl) rfl ?_
  exact tX12_wanted_L13 hsh (fun x54 s55 hE => tX12_wanted_X65 hsh hE) i_F _ _ hE
theorem aX12_sumOf_0 : i_at mX12_sumOf.2.2.2.2.2 0 = some (.iconst 0, 1, 0, 0, 0, 0) := by decide +kernel
theorem aX12_sumOf_1 : i_at mX12_sumOf.2.2.2.2.2 1 = some (.istore_n 2, 1, 0, 0, 0, 0) := by decide +kernel
theorem aX12_sumOf_2 : i_at mX12_sumOf.2.2.2.2.2 2 = some (.iconst 0, 1, 0, 0, 0, 0) := by decide +kernel
theorem aX12_sumOf_3 : i_at mX12_sumOf.2.2.2.2.2 3 = some (.istore_n 3, 1, 0, 0, 0, 0) := by decide +kernel
theorem aX12_sumOf_4 : i_at mX12_sumOf.2.2.2.2.2 4 = some (.iconst 0, 1, 0, 0, 0, 0) := by decide +kernel
theorem aX12_sumOf_5 : i_at mX12_sumOf.2.2.2.2.2 5 = some (.istore 4, 2, 0, 0, 0, 0) := by decide +kernel
theorem aX12_sumOf_7 : i_at mX12_sumOf.2.2.2.2.2 7 = some (.iload 4, 2, 0, 0, 0, 0) := by decide +kernel
theorem aX12_sumOf_9 : i_at mX12_sumOf.2.2.2.2.2 9 = some (.aload_n 0, 1, 0, 0, 0, 0) := by decide +kernel
theorem aX12_sumOf_10 : i_at mX12_sumOf.2.2.2.2.2 10 = some (.getfield 9, 3, 11, 1, 1088, 0) := by decide +kernel
theorem aX12_sumOf_13 : i_at mX12_sumOf.2.2.2.2.2 13 = some (.iconst 3, 1, 0, 0, 0, 0) := by decide +kernel
theorem aX12_sumOf_14 : i_at mX12_sumOf.2.2.2.2.2 14 = some (.iaload, 1, 0, 0, 0, 0) := by decide +kernel
theorem aX12_sumOf_15 : i_at mX12_sumOf.2.2.2.2.2 15 = some (.if_icmp .ge 56, 3, 71, 0, 0, 0) := by decide +kernel
theorem aX12_sumOf_18 : i_at mX12_sumOf.2.2.2.2.2 18 = some (.iload_n 2, 1, 0, 0, 0, 0) := by decide +kernel
theorem aX12_sumOf_19 : i_at mX12_sumOf.2.2.2.2.2 19 = some (.aload_n 0, 1, 0, 0, 0, 0) := by decide +kernel
theorem aX12_sumOf_20 : i_at mX12_sumOf.2.2.2.2.2 20 = some (.getfield 25, 3, 11, 6, 1093, 0) := by decide +kernel
theorem aX12_sumOf_23 : i_at mX12_sumOf.2.2.2.2.2 23 = some (.iload 4, 2, 0, 0, 0, 0) := by decide +kernel
theorem aX12_sumOf_25 : i_at mX12_sumOf.2.2.2.2.2 25 = some (.iaload, 1, 0, 0, 0, 0) := by decide +kernel
theorem aX12_sumOf_26 : i_at mX12_sumOf.2.2.2.2.2 26 = some (.aload_n 0, 1, 0, 0, 0, 0) := by decide +kernel
theorem aX12_sumOf_27 : i_at mX12_sumOf.2.2.2.2.2 27 = some (.getfield 9, 3, 11, 1, 1088, 0) := by decide +kernel
theorem aX12_sumOf_30 : i_at mX12_sumOf.2.2.2.2.2 30 = some (.iconst 1, 1, 0, 0, 0, 0) := by decide +kernel
theorem aX12_sumOf_31 : i_at mX12_sumOf.2.2.2.2.2 31 = some (.iaload, 1, 0, 0, 0, 0) := by decide +kernel
theorem aX12_sumOf_32 : i_at mX12_sumOf.2.2.2.2.2 32 = some (.if_icmp .lt 7, 3, 39, 0, 0, 0) := by decide +kernel
theorem aX12_sumOf_35 : i_at mX12_sumOf.2.2.2.2.2 35 = some (.iconst 1, 1, 0, 0, 0, 0) := by decide +kernel
theorem aX12_sumOf_36 : i_at mX12_sumOf.2.2.2.2.2 36 = some (.goto 4, 3, 40, 0, 0, 0) := by decide +kernel
theorem aX12_sumOf_39 : i_at mX12_sumOf.2.2.2.2.2 39 = some (.iconst 0, 1, 0, 0, 0, 0) := by decide +kernel
theorem aX12_sumOf_40 : i_at mX12_sumOf.2.2.2.2.2 40 = some (.iadd, 1, 0, 0, 0, 0) := by decide +kernel
theorem aX12_sumOf_41 : i_at mX12_sumOf.2.2.2.2.2 41 = some (.istore_n 2, 1, 0, 0, 0, 0) := by decide +kernel
theorem aX12_sumOf_42 : i_at mX12_sumOf.2.2.2.2.2 42 = some (.aload_n 0, 1, 0, 0, 0, 0) := by decide +kernel
theorem aX12_sumOf_43 : i_at mX12_sumOf.2.2.2.2.2 43 = some (.getfield 25, 3, 11, 6, 1093, 0) := by decide +kernel
theorem aX12_sumOf_46 : i_at mX12_sumOf.2.2.2.2.2 46 = some (.iload 4, 2, 0, 0, 0, 0) := by decide +kernel
theorem aX12_sumOf_48 : i_at mX12_sumOf.2.2.2.2.2 48 = some (.iaload, 1, 0, 0, 0, 0) := by decide +kernel
theorem aX12_sumOf_49 : i_at mX12_sumOf.2.2.2.2.2 49 = some (.iload_n 3, 1, 0, 0, 0, 0) := by decide +kernel
theorem aX12_sumOf_50 : i_at mX12_sumOf.2.2.2.2.2 50 = some (.if_icmp .le 13, 3, 63, 0, 0, 0) := by decide +kernel
theorem aX12_sumOf_53 : i_at mX12_sumOf.2.2.2.2.2 53 = some (.aload_n 0, 1, 0, 0, 0, 0) := by decide +kernel
theorem aX12_sumOf_54 : i_at mX12_sumOf.2.2.2.2.2 54 = some (.getfield 25, 3, 11, 6, 1093, 0) := by decide +kernel
theorem aX12_sumOf_57 : i_at mX12_sumOf.2.2.2.2.2 57 = some (.iload 4, 2, 0, 0, 0, 0) := by decide +kernel
theorem aX12_sumOf_59 : i_at mX12_sumOf.2.2.2.2.2 59 = some (.iaload, 1, 0, 0, 0, 0) := by decide +kernel
theorem aX12_sumOf_60 : i_at mX12_sumOf.2.2.2.2.2 60 = some (.goto 4, 3, 64, 0, 0, 0) := by decide +kernel
theorem aX12_sumOf_63 : i_at mX12_sumOf.2.2.2.2.2 63 = some (.iload_n 3, 1, 0, 0, 0, 0) := by decide +kernel
theorem aX12_sumOf_64 : i_at mX12_sumOf.2.2.2.2.2 64 = some (.istore_n 3, 1, 0, 0, 0, 0) := by decide +kernel
theorem aX12_sumOf_65 : i_at mX12_sumOf.2.2.2.2.2 65 = some (.iinc 4 1, 3, 0, 0, 0, 0) := by decide +kernel
theorem aX12_sumOf_68 : i_at mX12_sumOf.2.2.2.2.2 68 = some (.goto (-61), 3, 7, 0, 0, 0) := by decide +kernel
theorem aX12_sumOf_71 : i_at mX12_sumOf.2.2.2.2.2 71 = some (.aload_n 0, 1, 0, 0, 0, 0) := by decide +kernel
theorem aX12_sumOf_72 : i_at mX12_sumOf.2.2.2.2.2 72 = some (.getfield 9, 3, 11, 1, 1088, 0) := by decide +kernel
theorem aX12_sumOf_75 : i_at mX12_sumOf.2.2.2.2.2 75 = some (.iconst 4, 1, 0, 0, 0, 0) := by decide +kernel
theorem aX12_sumOf_76 : i_at mX12_sumOf.2.2.2.2.2 76 = some (.iaload, 1, 0, 0, 0, 0) := by decide +kernel
theorem aX12_sumOf_77 : i_at mX12_sumOf.2.2.2.2.2 77 = some (.aload_n 0, 1, 0, 0, 0, 0) := by decide +kernel
theorem aX12_sumOf_78 : i_at mX12_sumOf.2.2.2.2.2 78 = some (.getfield 9, 3, 11, 1, 1088, 0) := by decide +kernel
theorem aX12_sumOf_81 : i_at mX12_sumOf.2.2.2.2.2 81 = some (.iconst 0, 1, 0, 0, 0, 0) := by decide +kernel
theorem aX12_sumOf_82 : i_at mX12_sumOf.2.2.2.2.2 82 = some (.iaload, 1, 0, 0, 0, 0) := by decide +kernel
theorem aX12_sumOf_83 : i_at mX12_sumOf.2.2.2.2.2 83 = some (.irem, 1, 0, 0, 0, 0) := by decide +kernel
theorem aX12_sumOf_84 : i_at mX12_sumOf.2.2.2.2.2 84 = some (.istore 4, 2, 0, 0, 0, 0) := by decide +kernel
theorem aX12_sumOf_86 : i_at mX12_sumOf.2.2.2.2.2 86 = some (.aload_n 0, 1, 0, 0, 0, 0) := by decide +kernel
theorem aX12_sumOf_87 : i_at mX12_sumOf.2.2.2.2.2 87 = some (.getfield 93, 3, 11, 37, 1124, 0) := by decide +kernel
theorem aX12_sumOf_90 : i_at mX12_sumOf.2.2.2.2.2 90 = some (.iconst 0, 1, 0, 0, 0, 0) := by decide +kernel
theorem aX12_sumOf_91 : i_at mX12_sumOf.2.2.2.2.2 91 = some (.iload_n 1, 1, 0, 0, 0, 0) := by decide +kernel
theorem aX12_sumOf_92 : i_at mX12_sumOf.2.2.2.2.2 92 = some (.i2l, 1, 0, 0, 0, 0) := by decide +kernel
theorem aX12_sumOf_93 : i_at mX12_sumOf.2.2.2.2.2 93 = some (.lastore, 1, 0, 0, 0, 0) := by decide +kernel
theorem aX12_sumOf_94 : i_at mX12_sumOf.2.2.2.2.2 94 = some (.aload_n 0, 1, 0, 0, 0, 0) := by decide +kernel
theorem aX12_sumOf_95 : i_at mX12_sumOf.2.2.2.2.2 95 = some (.getfield 93, 3, 11, 37, 1124, 0) := by decide +kernel
theorem aX12_sumOf_98 : i_at mX12_sumOf.2.2.2.2.2 98 = some (.iconst 1, 1, 0, 0, 0, 0) := by decide +kernel
theorem aX12_sumOf_99 : i_at mX12_sumOf.2.2.2.2.2 99 = some (.aload_n 0, 1, 0, 0, 0, 0) := by decide +kernel
theorem aX12_sumOf_100 : i_at mX12_sumOf.2.2.2.2.2 100 = some (.getfield 13, 3, 11, 2, 1089, 0) := by decide +kernel
theorem aX12_sumOf_103 : i_at mX12_sumOf.2.2.2.2.2 103 = some (.iload_n 1, 1, 0, 0, 0, 0) := by decide +kernel
theorem aX12_sumOf_104 : i_at mX12_sumOf.2.2.2.2.2 104 = some (.iaload, 1, 0, 0, 0, 0) := by decide +kernel
theorem aX12_sumOf_105 : i_at mX12_sumOf.2.2.2.2.2 105 = some (.i2l, 1, 0, 0, 0, 0) := by decide +kernel
theorem aX12_sumOf_106 : i_at mX12_sumOf.2.2.2.2.2 106 = some (.lastore, 1, 0, 0, 0, 0) := by decide +kernel
theorem aX12_sumOf_107 : i_at mX12_sumOf.2.2.2.2.2 107 = some (.aload_n 0, 1, 0, 0, 0, 0) := by decide +kernel
theorem aX12_sumOf_108 : i_at mX12_sumOf.2.2.2.2.2 108 = some (.getfield 93, 3, 11, 37, 1124, 0) := by decide +kernel
theorem aX12_sumOf_111 : i_at mX12_sumOf.2.2.2.2.2 111 = some (.iconst 2, 1, 0, 0, 0, 0) := by decide +kernel
theorem aX12_sumOf_112 : i_at mX12_sumOf.2.2.2.2.2 112 = some (.iload 4, 2, 0, 0, 0, 0) := by decide +kernel
theorem aX12_sumOf_114 : i_at mX12_sumOf.2.2.2.2.2 114 = some (.i2l, 1, 0, 0, 0, 0) := by decide +kernel
theorem aX12_sumOf_115 : i_at mX12_sumOf.2.2.2.2.2 115 = some (.lastore, 1, 0, 0, 0, 0) := by decide +kernel
theorem aX12_sumOf_116 : i_at mX12_sumOf.2.2.2.2.2 116 = some (.aload_n 0, 1, 0, 0, 0, 0) := by decide +kernel
theorem aX12_sumOf_117 : i_at mX12_sumOf.2.2.2.2.2 117 = some (.getfield 93, 3, 11, 37, 1124, 0) := by decide +kernel
theorem aX12_sumOf_120 : i_at mX12_sumOf.2.2.2.2.2 120 = some (.iconst 3, 1, 0, 0, 0, 0) := by decide +kernel
theorem aX12_sumOf_121 : i_at mX12_sumOf.2.2.2.2.2 121 = some (.aload_n 0, 1, 0, 0, 0, 0) := by decide +kernel
theorem aX12_sumOf_122 : i_at mX12_sumOf.2.2.2.2.2 122 = some (.getfield 22, 3, 11, 5, 1092, 0) := by decide +kernel
theorem aX12_sumOf_125 : i_at mX12_sumOf.2.2.2.2.2 125 = some (.iload 4, 2, 0, 0, 0, 0) := by decide +kernel
theorem aX12_sumOf_127 : i_at mX12_sumOf.2.2.2.2.2 127 = some (.iaload, 1, 0, 0, 0, 0) := by decide +kernel
theorem aX12_sumOf_128 : i_at mX12_sumOf.2.2.2.2.2 128 = some (.iload_n 1, 1, 0, 0, 0, 0) := by decide +kernel
theorem aX12_sumOf_129 : i_at mX12_sumOf.2.2.2.2.2 129 = some (.if_icmp .ne 7, 3, 136, 0, 0, 0) := by decide +kernel
theorem aX12_sumOf_132 : i_at mX12_sumOf.2.2.2.2.2 132 = some (.lconst 1, 1, 0, 0, 0, 0) := by decide +kernel
theorem aX12_sumOf_133 : i_at mX12_sumOf.2.2.2.2.2 133 = some (.goto 4, 3, 137, 0, 0, 0) := by decide +kernel
theorem aX12_sumOf_136 : i_at mX12_sumOf.2.2.2.2.2 136 = some (.lconst 0, 1, 0, 0, 0, 0) := by decide +kernel
theorem aX12_sumOf_137 : i_at mX12_sumOf.2.2.2.2.2 137 = some (.lastore, 1, 0, 0, 0, 0) := by decide +kernel
theorem aX12_sumOf_138 : i_at mX12_sumOf.2.2.2.2.2 138 = some (.aload_n 0, 1, 0, 0, 0, 0) := by decide +kernel
theorem aX12_sumOf_139 : i_at mX12_sumOf.2.2.2.2.2 139 = some (.getfield 93, 3, 11, 37, 1124, 0) := by decide +kernel
theorem aX12_sumOf_142 : i_at mX12_sumOf.2.2.2.2.2 142 = some (.iconst 4, 1, 0, 0, 0, 0) := by decide +kernel
theorem aX12_sumOf_143 : i_at mX12_sumOf.2.2.2.2.2 143 = some (.aload_n 0, 1, 0, 0, 0, 0) := by decide +kernel
theorem aX12_sumOf_144 : i_at mX12_sumOf.2.2.2.2.2 144 = some (.getfield 9, 3, 11, 1, 1088, 0) := by decide +kernel
theorem aX12_sumOf_147 : i_at mX12_sumOf.2.2.2.2.2 147 = some (.iconst 5, 1, 0, 0, 0, 0) := by decide +kernel
theorem aX12_sumOf_148 : i_at mX12_sumOf.2.2.2.2.2 148 = some (.iaload, 1, 0, 0, 0, 0) := by decide +kernel
theorem aX12_sumOf_149 : i_at mX12_sumOf.2.2.2.2.2 149 = some (.iload_n 1, 1, 0, 0, 0, 0) := by decide +kernel
theorem aX12_sumOf_150 : i_at mX12_sumOf.2.2.2.2.2 150 = some (.if_icmp .ne 7, 3, 157, 0, 0, 0) := by decide +kernel
theorem aX12_sumOf_153 : i_at mX12_sumOf.2.2.2.2.2 153 = some (.lconst 1, 1, 0, 0, 0, 0) := by decide +kernel
theorem aX12_sumOf_154 : i_at mX12_sumOf.2.2.2.2.2 154 = some (.goto 4, 3, 158, 0, 0, 0) := by decide +kernel
theorem aX12_sumOf_157 : i_at mX12_sumOf.2.2.2.2.2 157 = some (.lconst 0, 1, 0, 0, 0, 0) := by decide +kernel
theorem aX12_sumOf_158 : i_at mX12_sumOf.2.2.2.2.2 158 = some (.lastore, 1, 0, 0, 0, 0) := by decide +kernel
theorem aX12_sumOf_159 : i_at mX12_sumOf.2.2.2.2.2 159 = some (.aload_n 0, 1, 0, 0, 0, 0) := by decide +kernel
theorem aX12_sumOf_160 : i_at mX12_sumOf.2.2.2.2.2 160 = some (.getfield 93, 3, 11, 37, 1124, 0) := by decide +kernel
theorem aX12_sumOf_163 : i_at mX12_sumOf.2.2.2.2.2 163 = some (.iconst 5, 1, 0, 0, 0, 0) := by decide +kernel
theorem aX12_sumOf_164 : i_at mX12_sumOf.2.2.2.2.2 164 = some (.aload_n 0, 1, 0, 0, 0, 0) := by decide +kernel
theorem aX12_sumOf_165 : i_at mX12_sumOf.2.2.2.2.2 165 = some (.getfield 19, 3, 11, 4, 1091, 0) := by decide +kernel
theorem aX12_sumOf_168 : i_at mX12_sumOf.2.2.2.2.2 168 = some (.iload_n 1, 1, 0, 0, 0, 0) := by decide +kernel
theorem aX12_sumOf_169 : i_at mX12_sumOf.2.2.2.2.2 169 = some (.iaload, 1, 0, 0, 0, 0) := by decide +kernel
theorem aX12_sumOf_170 : i_at mX12_sumOf.2.2.2.2.2 170 = some (.i2l, 1, 0, 0, 0, 0) := by decide +kernel
theorem aX12_sumOf_171 : i_at mX12_sumOf.2.2.2.2.2 171 = some (.lastore, 1, 0, 0, 0, 0) := by decide +kernel
theorem aX12_sumOf_172 : i_at mX12_sumOf.2.2.2.2.2 172 = some (.aload_n 0, 1, 0, 0, 0, 0) := by decide +kernel
theorem aX12_sumOf_173 : i_at mX12_sumOf.2.2.2.2.2 173 = some (.getfield 93, 3, 11, 37, 1124, 0) := by decide +kernel
theorem aX12_sumOf_176 : i_at mX12_sumOf.2.2.2.2.2 176 = some (.bipush 6, 2, 0, 0, 0, 0) := by decide +kernel
theorem aX12_sumOf_178 : i_at mX12_sumOf.2.2.2.2.2 178 = some (.aload_n 0, 1, 0, 0, 0, 0) := by decide +kernel
theorem aX12_sumOf_179 : i_at mX12_sumOf.2.2.2.2.2 179 = some (.iload_n 1, 1, 0, 0, 0, 0) := by decide +kernel
theorem aX12_sumOf_180 : i_at mX12_sumOf.2.2.2.2.2 180 = some (.invokevirtual 342, 3, 174, 1, 1430, 0) := by decide +kernel
theorem aX12_sumOf_183 : i_at mX12_sumOf.2.2.2.2.2 183 = some (.i2l, 1, 0, 0, 0, 0) := by decide +kernel
theorem aX12_sumOf_184 : i_at mX12_sumOf.2.2.2.2.2 184 = some (.lastore, 1, 0, 0, 0, 0) := by decide +kernel
theorem aX12_sumOf_185 : i_at mX12_sumOf.2.2.2.2.2 185 = some (.aload_n 0, 1, 0, 0, 0, 0) := by decide +kernel
theorem aX12_sumOf_186 : i_at mX12_sumOf.2.2.2.2.2 186 = some (.getfield 93, 3, 11, 37, 1124, 0) := by decide +kernel
theorem aX12_sumOf_189 : i_at mX12_sumOf.2.2.2.2.2 189 = some (.bipush 7, 2, 0, 0, 0, 0) := by decide +kernel
theorem aX12_sumOf_191 : i_at mX12_sumOf.2.2.2.2.2 191 = some (.iload_n 2, 1, 0, 0, 0, 0) := by decide +kernel
theorem aX12_sumOf_192 : i_at mX12_sumOf.2.2.2.2.2 192 = some (.i2l, 1, 0, 0, 0, 0) := by decide +kernel
theorem aX12_sumOf_193 : i_at mX12_sumOf.2.2.2.2.2 193 = some (.lastore, 1, 0, 0, 0, 0) := by decide +kernel
theorem aX12_sumOf_194 : i_at mX12_sumOf.2.2.2.2.2 194 = some (.aload_n 0, 1, 0, 0, 0, 0) := by decide +kernel
theorem aX12_sumOf_195 : i_at mX12_sumOf.2.2.2.2.2 195 = some (.getfield 93, 3, 11, 37, 1124, 0) := by decide +kernel
theorem aX12_sumOf_198 : i_at mX12_sumOf.2.2.2.2.2 198 = some (.bipush 8, 2, 0, 0, 0, 0) := by decide +kernel
theorem aX12_sumOf_200 : i_at mX12_sumOf.2.2.2.2.2 200 = some (.aload_n 0, 1, 0, 0, 0, 0) := by decide +kernel
theorem aX12_sumOf_201 : i_at mX12_sumOf.2.2.2.2.2 201 = some (.invokevirtual 357, 3, 179, 0, 1493, 0) := by decide +kernel
theorem aX12_sumOf_204 : i_at mX12_sumOf.2.2.2.2.2 204 = some (.invokestatic 359, 3, 128, 1, 1497, 0) := by decide +kernel
theorem aX12_sumOf_207 : i_at mX12_sumOf.2.2.2.2.2 207 = some (.i2l, 1, 0, 0, 0, 0) := by decide +kernel
theorem aX12_sumOf_208 : i_at mX12_sumOf.2.2.2.2.2 208 = some (.lastore, 1, 0, 0, 0, 0) := by decide +kernel
theorem aX12_sumOf_209 : i_at mX12_sumOf.2.2.2.2.2 209 = some (.aload_n 0, 1, 0, 0, 0, 0) := by decide +kernel
theorem aX12_sumOf_210 : i_at mX12_sumOf.2.2.2.2.2 210 = some (.getfield 93, 3, 11, 37, 1124, 0) := by decide +kernel
theorem aX12_sumOf_213 : i_at mX12_sumOf.2.2.2.2.2 213 = some (.bipush 9, 2, 0, 0, 0, 0) := by decide +kernel
theorem aX12_sumOf_215 : i_at mX12_sumOf.2.2.2.2.2 215 = some (.iload_n 3, 1, 0, 0, 0, 0) := by decide +kernel
theorem aX12_sumOf_216 : i_at mX12_sumOf.2.2.2.2.2 216 = some (.i2l, 1, 0, 0, 0, 0) := by decide +kernel
theorem aX12_sumOf_217 : i_at mX12_sumOf.2.2.2.2.2 217 = some (.lastore, 1, 0, 0, 0, 0) := by decide +kernel
theorem aX12_sumOf_218 : i_at mX12_sumOf.2.2.2.2.2 218 = some (.aload_n 0, 1, 0, 0, 0, 0) := by decide +kernel
theorem aX12_sumOf_219 : i_at mX12_sumOf.2.2.2.2.2 219 = some (.getfield 93, 3, 11, 37, 1124, 0) := by decide +kernel
theorem aX12_sumOf_222 : i_at mX12_sumOf.2.2.2.2.2 222 = some (.bipush 10, 2, 0, 0, 0, 0) := by decide +kernel
theorem aX12_sumOf_224 : i_at mX12_sumOf.2.2.2.2.2 224 = some (.aload_n 0, 1, 0, 0, 0, 0) := by decide +kernel
theorem aX12_sumOf_225 : i_at mX12_sumOf.2.2.2.2.2 225 = some (.getfield 9, 3, 11, 1, 1088, 0) := by decide +kernel
theorem aX12_sumOf_228 : i_at mX12_sumOf.2.2.2.2.2 228 = some (.iconst 3, 1, 0, 0, 0, 0) := by decide +kernel
theorem aX12_sumOf_229 : i_at mX12_sumOf.2.2.2.2.2 229 = some (.iaload, 1, 0, 0, 0, 0) := by decide +kernel
theorem aX12_sumOf_230 : i_at mX12_sumOf.2.2.2.2.2 230 = some (.i2l, 1, 0, 0, 0, 0) := by decide +kernel
theorem aX12_sumOf_231 : i_at mX12_sumOf.2.2.2.2.2 231 = some (.lastore, 1, 0, 0, 0, 0) := by decide +kernel
theorem aX12_sumOf_232 : i_at mX12_sumOf.2.2.2.2.2 232 = some (.aload_n 0, 1, 0, 0, 0, 0) := by decide +kernel
theorem aX12_sumOf_233 : i_at mX12_sumOf.2.2.2.2.2 233 = some (.getfield 93, 3, 11, 37, 1124, 0) := by decide +kernel
theorem aX12_sumOf_236 : i_at mX12_sumOf.2.2.2.2.2 236 = some (.bipush 11, 2, 0, 0, 0, 0) := by decide +kernel
theorem aX12_sumOf_238 : i_at mX12_sumOf.2.2.2.2.2 238 = some (.aload_n 0, 1, 0, 0, 0, 0) := by decide +kernel
theorem aX12_sumOf_239 : i_at mX12_sumOf.2.2.2.2.2 239 = some (.getfield 9, 3, 11, 1, 1088, 0) := by decide +kernel
theorem aX12_sumOf_242 : i_at mX12_sumOf.2.2.2.2.2 242 = some (.iconst 4, 1, 0, 0, 0, 0) := by decide +kernel
theorem aX12_sumOf_243 : i_at mX12_sumOf.2.2.2.2.2 243 = some (.iaload, 1, 0, 0, 0, 0) := by decide +kernel
theorem aX12_sumOf_244 : i_at mX12_sumOf.2.2.2.2.2 244 = some (.i2l, 1, 0, 0, 0, 0) := by decide +kernel
theorem aX12_sumOf_245 : i_at mX12_sumOf.2.2.2.2.2 245 = some (.lastore, 1, 0, 0, 0, 0) := by decide +kernel
theorem aX12_sumOf_246 : i_at mX12_sumOf.2.2.2.2.2 246 = some (.aload_n 0, 1, 0, 0, 0, 0) := by decide +kernel
theorem aX12_sumOf_247 : i_at mX12_sumOf.2.2.2.2.2 247 = some (.invokevirtual 362, 3, 170, 0, 1500, 0) := by decide +kernel
theorem aX12_sumOf_250 : i_at mX12_sumOf.2.2.2.2.2 250 = some (.lreturn, 1, 0, 0, 0, 0) := by decide +kernel
noncomputable def fX12_sumOf_J64 (sh : List kd) (p1 : Int32) (σ : St) (x1 : Int32) (x2 : Int32) (x3 : Int32) (k7 : Int32 → Int32 → Int32 → Option (Int64 × St)) (x113 : Int32) : Option (Int64 × St) := k7 (x1 + ((if (σ.2.1 6 x3.toNatClampNeg) < (σ.2.1 1 (1 : Int32).toNatClampNeg) then 0 else 1) : Int32)) x113 (x3 + 1)
noncomputable def fX12_sumOf_L7 (sh : List kd) (p1 : Int32) (σ : St) (k71 : Int32 → Int32 → Int32 → Option (Int64 × St)) : Nat → Int32 → Int32 → Int32 → Option (Int64 × St)
  | 0, _, _, _ => none
  | n57 + 1, x1, x2, x3 => if i_ok 3 11 then if (σ.2.1 1 (3 : Int32).toNatClampNeg) ≤ x3 then k71 x1 x2 x3 else if i_ok x3 6 then if i_ok 1 11 then if i_ok x3 6 then if (σ.2.1 6 x3.toNatClampNeg) ≤ x2 then fX12_sumOf_J64 sh p1 σ x1 x2 x3 (fX12_sumOf_L7 sh p1 σ k71 n57) x2 else if i_ok x3 6 then fX12_sumOf_J64 sh p1 σ x1 x2 x3 (fX12_sumOf_L7 sh p1 σ k71 n57) (σ.2.1 6 x3.toNatClampNeg) else none else none else none else none else none
noncomputable def fX12_sumOf_X71 (sh : List kd) (p1 : Int32) (σ : St) (x54 : Int32) (x55 : Int32) (x56 : Int32) : Option (Int64 × St) := if i_ok 4 11 then if i_ok 0 11 then if (σ.2.1 1 (0 : Int32).toNatClampNeg) = 0 then none else if i_ok 0 12 then if i_ok p1 6 then if i_ok 1 12 then i_jp (s_L (s_L σ 27 (0 : Int32).toNatClampNeg p1.toInt64) 27 (1 : Int32).toNatClampNeg (((s_L σ 27 (0 : Int32).toNatClampNeg p1.toInt64).2.1 2 p1.toNatClampNeg).toInt64)) (fun (s123 : St) => if i_ok 2 12 then i_jp (s_L s123 27 (2 : Int32).toNatClampNeg (((σ.2.1 1 (4 : Int32).toNatClampNeg) - (σ.2.1 1 (4 : Int32).toNatClampNeg) / (σ.2.1 1 (0 : Int32).toNatClampNeg) * (σ.2.1 1 (0 : Int32).toNatClampNeg)).toInt64)) (fun (s126 : St) => if i_ok ((σ.2.1 1 (4 : Int32).toNatClampNeg) - (σ.2.1 1 (4 : Int32).toNatClampNeg) / (σ.2.1 1 (0 : Int32).toNatClampNeg) * (σ.2.1 1 (0 : Int32).toNatClampNeg)) 12 then if i_ok 3 12 then i_jp (s_L s126 27 (3 : Int32).toNatClampNeg ((if ¬ (s126.2.1 5 ((σ.2.1 1 (4 : Int32).toNatClampNeg) - (σ.2.1 1 (4 : Int32).toNatClampNeg) / (σ.2.1 1 (0 : Int32).toNatClampNeg) * (σ.2.1 1 (0 : Int32).toNatClampNeg)).toNatClampNeg) = p1 then 0 else 1) : Int64)) (fun (s130 : St) => if i_ok 5 11 then if i_ok 4 12 then if i_ok p1 6 then if i_ok 5 12 then i_jp (s_L (s_L s130 27 (4 : Int32).toNatClampNeg ((if ¬ (s130.2.1 1 (5 : Int32).toNatClampNeg) = p1 then 0 else 1) : Int64)) 27 (5 : Int32).toNatClampNeg (((s_L s130 27 (4 : Int32).toNatClampNeg ((if ¬ (s130.2.1 1 (5 : Int32).toNatClampNeg) = p1 then 0 else 1) : Int64)).2.1 4 p1.toNatClampNeg).toInt64)) (fun (s136 : St) => i_bd (fX12_knightsOf sh s136 p1) (fun r138 s139 => if i_ok 6 12 then if i_ok 7 12 then i_bd (fX12_knights sh (s_L (s_L s139 27 (6 : Int32).toNatClampNeg r138.toInt64) 27 (7 : Int32).toNatClampNeg x54.toInt64)) (fun r143 s144 => i_bd (fX12_bits sh s144 r143) (fun r146 s147 => if i_ok 8 12 then if i_ok 9 12 then if i_ok 3 11 then if i_ok 10 12 then i_jp (s_L (s_L (s_L s147 27 (8 : Int32).toNatClampNeg r146.toInt64) 27 (9 : Int32).toNatClampNeg x55.toInt64) 27 (10 : Int32).toNatClampNeg (((s_L (s_L s147 27 (8 : Int32).toNatClampNeg r146.toInt64) 27 (9 : Int32).toNatClampNeg x55.toInt64).2.1 1 (3 : Int32).toNatClampNeg).toInt64)) (fun (s153 : St) => if i_ok 4 11 then if i_ok 11 12 then i_bd (fX12_wanted sh (s_L s153 27 (11 : Int32).toNatClampNeg ((s153.2.1 1 (4 : Int32).toNatClampNeg).toInt64))) (fun r157 s158 => some (r157, s158)) else none else none) else none else none else none else none)) else none else none)) else none else none else none else none) else none else none) else none) else none else none else none else none else none
noncomputable def fX12_sumOf (sh : List kd) (σ : St) (p1 : Int32) : Option (Int64 × St) := fX12_sumOf_L7 sh p1 σ (fun (x54 : Int32) (x55 : Int32) (x56 : Int32) => fX12_sumOf_X71 sh p1 σ x54 x55 x56) i_F 0 0 0
set_option maxRecDepth 20000 in
set_option maxHeartbeats 2000000 in
theorem tX12_sumOf_J64 {sh : List kd} {τ : St} {r : Int64} (hsh : rmSh sh) {p1 : Int32} {σ : St} {x1 : Int32} {x2 : Int32} {x3 : Int32} {x113 : Int32} {k7 : Int32 → Int32 → Int32 → Option (Int64 × St)} (hk7 : ∀ (x1 : Int32) (x2 : Int32) (x3 : Int32), k7 x1 x2 x3 = some (r, τ) → g_R sh 4 mX12_sumOf (some (.long r)) τ 7 [.ref 0, .int p1, .int x1, .int x2, .int x3] [] (σ)) (hE : fX12_sumOf_J64 sh p1 σ x1 x2 x3 k7 x113 = some (r, τ)) : g_R sh 4 mX12_sumOf (some (.long r)) τ 64 [.ref 0, .int p1, .int (x1 + ((if (σ.2.1 6 x3.toNatClampNeg) < (σ.2.1 1 (1 : Int32).toNatClampNeg) then 0 else 1) : Int32)), .int x2, .int x3] [.int x113] (σ) := by
  unfold fX12_sumOf_J64 at hE
  refine g_stin (loc2 := [.ref 0, .int p1, .int (x1 + ((if (σ.2.1 6 x3.toNatClampNeg) < (σ.2.1 1 (1 : Int32).toNatClampNeg) then 0 else 1) : Int32)), .int x113, .int x3]) aX12_sumOf_64 (Nat.le_of_ble_eq_true rfl) rfl ?_
  refine g_iinc (y := 1) (loc2 := [.ref 0, .int p1, .int (x1 + ((if (σ.2.1 6 x3.toNatClampNeg) < (σ.2.1 1 (1 : Int32).toNatClampNeg) then 0 else 1) : Int32)), .int x113, .int (x3 + 1)]) aX12_sumOf_65 rfl rfl rfl ?_
  refine g_goto aX12_sumOf_68 ?_
  exact hk7 _ _ _ hE
set_option maxRecDepth 20000 in
set_option maxHeartbeats 2000000 in
theorem tX12_sumOf_L7 {sh : List kd} {τ : St} {r : Int64} (hsh : rmSh sh) {p1 : Int32} {σ : St} {k71 : Int32 → Int32 → Int32 → Option (Int64 × St)} (hk71 : ∀ (x54 : Int32) (x55 : Int32) (x56 : Int32), k71 x54 x55 x56 = some (r, τ) → g_R sh 4 mX12_sumOf (some (.long r)) τ 71 [.ref 0, .int p1, .int x54, .int x55, .int x56] [] (σ)) : ∀ (n0 : Nat) (x1 : Int32) (x2 : Int32) (x3 : Int32), fX12_sumOf_L7 sh p1 σ k71 n0 x1 x2 x3 = some (r, τ) → g_R sh 4 mX12_sumOf (some (.long r)) τ 7 [.ref 0, .int p1, .int x1, .int x2, .int x3] [] (σ) := by
  intro n0
  induction n0 with
  | zero => intro _ _ _ hE; cases hE
  | succ n57 ih =>
    intro x1 x2 x3 hE
    unfold fX12_sumOf_L7 at hE
    refine g_ldi aX12_sumOf_7 rfl ?_
    refine g_ldan aX12_sumOf_9 rfl ?_
    refine g_getR aX12_sumOf_10 (sR_0 hsh) rfl ?_
    refine g_iconst (x := 3) aX12_sumOf_13 rfl ?_
    obtain ⟨h58, hE⟩ := i_ifn hE
    refine g_ild aX12_sumOf_14 (sR_1 hsh) h58 ?_
    by_cases hc59 : (σ.2.1 1 (3 : Int32).toNatClampNeg) ≤ x3
    · rw [if_pos hc59] at hE
      refine g_ic_ge_t aX12_sumOf_15 hc59 ?_
      exact hk71 _ _ _ hE
    · rw [if_neg hc59] at hE
      refine g_ic_ge_f aX12_sumOf_15 hc59 ?_
      refine g_ldin aX12_sumOf_18 rfl ?_
      refine g_ldan aX12_sumOf_19 rfl ?_
      refine g_getR aX12_sumOf_20 (sR_0 hsh) rfl ?_
      refine g_ldi aX12_sumOf_23 rfl ?_
      obtain ⟨h60, hE⟩ := i_ifn hE
      refine g_ild aX12_sumOf_25 (sR_6 hsh) h60 ?_
      refine g_ldan aX12_sumOf_26 rfl ?_
      refine g_getR aX12_sumOf_27 (sR_0 hsh) rfl ?_
      refine g_iconst (x := 1) aX12_sumOf_30 rfl ?_
      obtain ⟨h61, hE⟩ := i_ifn hE
      refine g_ild aX12_sumOf_31 (sR_1 hsh) h61 ?_
      have hJ : g_R sh 4 mX12_sumOf (some (.long r)) τ 40 [.ref 0, .int p1, .int x1, .int x2, .int x3] [.int ((if (σ.2.1 6 x3.toNatClampNeg) < (σ.2.1 1 (1 : Int32).toNatClampNeg) then 0 else 1) : Int32), .int x1] (σ) := by
        refine g_iadd aX12_sumOf_40 ?_
        refine g_stin (loc2 := [.ref 0, .int p1, .int (x1 + ((if (σ.2.1 6 x3.toNatClampNeg) < (σ.2.1 1 (1 : Int32).toNatClampNeg) then 0 else 1) : Int32)), .int x2, .int x3]) aX12_sumOf_41 (Nat.le_of_ble_eq_true rfl) rfl ?_
        refine g_ldan aX12_sumOf_42 rfl ?_
        refine g_getR aX12_sumOf_43 (sR_0 hsh) rfl ?_
        refine g_ldi aX12_sumOf_46 rfl ?_
        obtain ⟨h62, hE⟩ := i_ifn hE
        refine g_ild aX12_sumOf_48 (sR_6 hsh) h62 ?_
        refine g_ldin aX12_sumOf_49 rfl ?_
        by_cases hc114 : (σ.2.1 6 x3.toNatClampNeg) ≤ x2
        · rw [if_pos hc114] at hE
          refine g_ic_le_t aX12_sumOf_50 hc114 ?_
          refine g_ldin aX12_sumOf_63 rfl ?_
          exact tX12_sumOf_J64 hsh ih hE
        · rw [if_neg hc114] at hE
          refine g_ic_le_f aX12_sumOf_50 hc114 ?_
          refine g_ldan aX12_sumOf_53 rfl ?_
          refine g_getR aX12_sumOf_54 (sR_0 hsh) rfl ?_
          refine g_ldi aX12_sumOf_57 rfl ?_
          obtain ⟨h115, hE⟩ := i_ifn hE
          refine g_ild aX12_sumOf_59 (sR_6 hsh) h115 ?_
          refine g_goto aX12_sumOf_60 ?_
          exact tX12_sumOf_J64 hsh ih hE
      clear hE
      by_cases hc115 : (σ.2.1 6 x3.toNatClampNeg) < (σ.2.1 1 (1 : Int32).toNatClampNeg)
      · (try rw [if_pos hc115] at hJ)
        refine g_ic_lt_t aX12_sumOf_32 hc115 ?_
        refine g_iconst (x := 0) aX12_sumOf_39 rfl ?_
        exact hJ
      · (try rw [if_neg hc115] at hJ)
        refine g_ic_lt_f aX12_sumOf_32 hc115 ?_
        refine g_iconst (x := 1) aX12_sumOf_35 rfl ?_
        refine g_goto aX12_sumOf_36 ?_
        exact hJ
set_option maxRecDepth 20000 in
set_option maxHeartbeats 2000000 in
theorem tX12_sumOf_X71 {sh : List kd} {τ : St} {r : Int64} (hsh : rmSh sh) {p1 : Int32} {σ : St} {x54 : Int32} {x55 : Int32} {x56 : Int32} (hE : fX12_sumOf_X71 sh p1 σ x54 x55 x56 = some (r, τ)) : g_R sh 4 mX12_sumOf (some (.long r)) τ 71 [.ref 0, .int p1, .int x54, .int x55, .int x56] [] (σ) := by
  unfold fX12_sumOf_X71 at hE
  refine g_ldan aX12_sumOf_71 rfl ?_
  refine g_getR aX12_sumOf_72 (sR_0 hsh) rfl ?_
  refine g_iconst (x := 4) aX12_sumOf_75 rfl ?_
  obtain ⟨h117, hE⟩ := i_ifn hE
  refine g_ild aX12_sumOf_76 (sR_1 hsh) h117 ?_
  refine g_ldan aX12_sumOf_77 rfl ?_
  refine g_getR aX12_sumOf_78 (sR_0 hsh) rfl ?_
  refine g_iconst (x := 0) aX12_sumOf_81 rfl ?_
  obtain ⟨h118, hE⟩ := i_ifn hE
  refine g_ild aX12_sumOf_82 (sR_1 hsh) h118 ?_
  obtain ⟨h119, hE⟩ := i_nif hE
  refine g_irem aX12_sumOf_83 h119 ?_
  refine g_sti (loc2 := [.ref 0, .int p1, .int x54, .int x55, .int ((σ.2.1 1 (4 : Int32).toNatClampNeg) - (σ.2.1 1 (4 : Int32).toNatClampNeg) / (σ.2.1 1 (0 : Int32).toNatClampNeg) * (σ.2.1 1 (0 : Int32).toNatClampNeg))]) aX12_sumOf_84 (Nat.le_of_ble_eq_true rfl) rfl ?_
  refine g_ldan aX12_sumOf_86 rfl ?_
  refine g_getR aX12_sumOf_87 (sR_0 hsh) rfl ?_
  refine g_iconst (x := 0) aX12_sumOf_90 rfl ?_
  refine g_ldin aX12_sumOf_91 rfl ?_
  refine g_i2l aX12_sumOf_92 ?_
  obtain ⟨h120, hE⟩ := i_ifn hE
  refine g_lst aX12_sumOf_93 (sR_27 hsh) h120 ?_
  refine g_ldan aX12_sumOf_94 rfl ?_
  refine g_getR aX12_sumOf_95 (sR_0 hsh) rfl ?_
  refine g_iconst (x := 1) aX12_sumOf_98 rfl ?_
  refine g_ldan aX12_sumOf_99 rfl ?_
  refine g_getR aX12_sumOf_100 (sR_0 hsh) rfl ?_
  refine g_ldin aX12_sumOf_103 rfl ?_
  obtain ⟨h121, hE⟩ := i_ifn hE
  refine g_ild aX12_sumOf_104 (sR_2 hsh) h121 ?_
  refine g_i2l aX12_sumOf_105 ?_
  obtain ⟨h122, hE⟩ := i_ifn hE
  refine g_lst aX12_sumOf_106 (sR_27 hsh) h122 ?_
  obtain ⟨s123, h124, hE⟩ := i_jp_some hE
  rw [← h124]
  refine g_ldan aX12_sumOf_107 rfl ?_
  refine g_getR aX12_sumOf_108 (sR_0 hsh) rfl ?_
  refine g_iconst (x := 2) aX12_sumOf_111 rfl ?_
  refine g_ldi aX12_sumOf_112 rfl ?_
  refine g_i2l aX12_sumOf_114 ?_
  obtain ⟨h125, hE⟩ := i_ifn hE
  refine g_lst aX12_sumOf_115 (sR_27 hsh) h125 ?_
  obtain ⟨s126, h127, hE⟩ := i_jp_some hE
  rw [← h127]
  refine g_ldan aX12_sumOf_116 rfl ?_
  refine g_getR aX12_sumOf_117 (sR_0 hsh) rfl ?_
  refine g_iconst (x := 3) aX12_sumOf_120 rfl ?_
  refine g_ldan aX12_sumOf_121 rfl ?_
  refine g_getR aX12_sumOf_122 (sR_0 hsh) rfl ?_
  refine g_ldi aX12_sumOf_125 rfl ?_
  obtain ⟨h128, hE⟩ := i_ifn hE
  refine g_ild aX12_sumOf_127 (sR_5 hsh) h128 ?_
  refine g_ldin aX12_sumOf_128 rfl ?_
  have hJ : g_R sh 4 mX12_sumOf (some (.long r)) τ 137 [.ref 0, .int p1, .int x54, .int x55, .int ((σ.2.1 1 (4 : Int32).toNatClampNeg) - (σ.2.1 1 (4 : Int32).toNatClampNeg) / (σ.2.1 1 (0 : Int32).toNatClampNeg) * (σ.2.1 1 (0 : Int32).toNatClampNeg))] [.long ((if ¬ (s126.2.1 5 ((σ.2.1 1 (4 : Int32).toNatClampNeg) - (σ.2.1 1 (4 : Int32).toNatClampNeg) / (σ.2.1 1 (0 : Int32).toNatClampNeg) * (σ.2.1 1 (0 : Int32).toNatClampNeg)).toNatClampNeg) = p1 then 0 else 1) : Int64), .int 3, .ref 27] (s126) := by
    obtain ⟨h129, hE⟩ := i_ifn hE
    refine g_lst aX12_sumOf_137 (sR_27 hsh) h129 ?_
    obtain ⟨s130, h131, hE⟩ := i_jp_some hE
    rw [← h131]
    refine g_ldan aX12_sumOf_138 rfl ?_
    refine g_getR aX12_sumOf_139 (sR_0 hsh) rfl ?_
    refine g_iconst (x := 4) aX12_sumOf_142 rfl ?_
    refine g_ldan aX12_sumOf_143 rfl ?_
    refine g_getR aX12_sumOf_144 (sR_0 hsh) rfl ?_
    refine g_iconst (x := 5) aX12_sumOf_147 rfl ?_
    obtain ⟨h132, hE⟩ := i_ifn hE
    refine g_ild aX12_sumOf_148 (sR_1 hsh) h132 ?_
    refine g_ldin aX12_sumOf_149 rfl ?_
    have hJ : g_R sh 4 mX12_sumOf (some (.long r)) τ 158 [.ref 0, .int p1, .int x54, .int x55, .int ((σ.2.1 1 (4 : Int32).toNatClampNeg) - (σ.2.1 1 (4 : Int32).toNatClampNeg) / (σ.2.1 1 (0 : Int32).toNatClampNeg) * (σ.2.1 1 (0 : Int32).toNatClampNeg))] [.long ((if ¬ (s130.2.1 1 (5 : Int32).toNatClampNeg) = p1 then 0 else 1) : Int64), .int 4, .ref 27] (s130) := by
      obtain ⟨h133, hE⟩ := i_ifn hE
      refine g_lst aX12_sumOf_158 (sR_27 hsh) h133 ?_
      refine g_ldan aX12_sumOf_159 rfl ?_
      refine g_getR aX12_sumOf_160 (sR_0 hsh) rfl ?_
      refine g_iconst (x := 5) aX12_sumOf_163 rfl ?_
      refine g_ldan aX12_sumOf_164 rfl ?_
      refine g_getR aX12_sumOf_165 (sR_0 hsh) rfl ?_
      refine g_ldin aX12_sumOf_168 rfl ?_
      obtain ⟨h134, hE⟩ := i_ifn hE
      refine g_ild aX12_sumOf_169 (sR_4 hsh) h134 ?_
      refine g_i2l aX12_sumOf_170 ?_
      obtain ⟨h135, hE⟩ := i_ifn hE
      refine g_lst aX12_sumOf_171 (sR_27 hsh) h135 ?_
      obtain ⟨s136, h137, hE⟩ := i_jp_some hE
      rw [← h137]
      refine g_ldan aX12_sumOf_172 rfl ?_
      refine g_getR aX12_sumOf_173 (sR_0 hsh) rfl ?_
      refine g_bipush (x := 6) aX12_sumOf_176 rfl ?_
      refine g_ldan aX12_sumOf_178 rfl ?_
      refine g_ldin aX12_sumOf_179 rfl ?_
      obtain ⟨r138, s139, h140, hE⟩ := i_bd_some hE
      refine g_calV (As := [.int p1]) (rest := [.int 6, .ref 27]) aX12_sumOf_180 (i_X_mono (by omega) (tX12_knightsOf hsh h140)) (sR_0 hsh) (by decide +kernel) rfl rfl (Nat.le_of_ble_eq_true rfl) rfl ?_
      refine g_i2l aX12_sumOf_183 ?_
      obtain ⟨h141, hE⟩ := i_ifn hE
      refine g_lst aX12_sumOf_184 (sR_27 hsh) h141 ?_
      refine g_ldan aX12_sumOf_185 rfl ?_
      refine g_getR aX12_sumOf_186 (sR_0 hsh) rfl ?_
      refine g_bipush (x := 7) aX12_sumOf_189 rfl ?_
      refine g_ldin aX12_sumOf_191 rfl ?_
      refine g_i2l aX12_sumOf_192 ?_
      obtain ⟨h142, hE⟩ := i_ifn hE
      refine g_lst aX12_sumOf_193 (sR_27 hsh) h142 ?_
      refine g_ldan aX12_sumOf_194 rfl ?_
      refine g_getR aX12_sumOf_195 (sR_0 hsh) rfl ?_
      refine g_bipush (x := 8) aX12_sumOf_198 rfl ?_
      refine g_ldan aX12_sumOf_200 rfl ?_
      obtain ⟨r143, s144, h145, hE⟩ := i_bd_some hE
      refine g_calV (As := []) (rest := [.int 8, .ref 27]) aX12_sumOf_201 (i_X_mono (by omega) (tX12_knights hsh h145)) (sR_0 hsh) (by decide +kernel) rfl rfl (Nat.le_of_ble_eq_true rfl) rfl ?_
      obtain ⟨r146, s147, h148, hE⟩ := i_bd_some hE
      refine g_calS (As := [.int r143]) (rest := [.int 8, .ref 27]) aX12_sumOf_204 (i_X_mono (by omega) (tX12_bits hsh h148)) rfl rfl (Nat.le_of_ble_eq_true rfl) rfl ?_
      refine g_i2l aX12_sumOf_207 ?_
      obtain ⟨h149, hE⟩ := i_ifn hE
      refine g_lst aX12_sumOf_208 (sR_27 hsh) h149 ?_
      refine g_ldan aX12_sumOf_209 rfl ?_
      refine g_getR aX12_sumOf_210 (sR_0 hsh) rfl ?_
      refine g_bipush (x := 9) aX12_sumOf_213 rfl ?_
      refine g_ldin aX12_sumOf_215 rfl ?_
      refine g_i2l aX12_sumOf_216 ?_
      obtain ⟨h150, hE⟩ := i_ifn hE
      refine g_lst aX12_sumOf_217 (sR_27 hsh) h150 ?_
      refine g_ldan aX12_sumOf_218 rfl ?_
      refine g_getR aX12_sumOf_219 (sR_0 hsh) rfl ?_
      refine g_bipush (x := 10) aX12_sumOf_222 rfl ?_
      refine g_ldan aX12_sumOf_224 rfl ?_
      refine g_getR aX12_sumOf_225 (sR_0 hsh) rfl ?_
      refine g_iconst (x := 3) aX12_sumOf_228 rfl ?_
      obtain ⟨h151, hE⟩ := i_ifn hE
      refine g_ild aX12_sumOf_229 (sR_1 hsh) h151 ?_
      refine g_i2l aX12_sumOf_230 ?_
      obtain ⟨h152, hE⟩ := i_ifn hE
      refine g_lst aX12_sumOf_231 (sR_27 hsh) h152 ?_
      obtain ⟨s153, h154, hE⟩ := i_jp_some hE
      rw [← h154]
      refine g_ldan aX12_sumOf_232 rfl ?_
      refine g_getR aX12_sumOf_233 (sR_0 hsh) rfl ?_
      refine g_bipush (x := 11) aX12_sumOf_236 rfl ?_
      refine g_ldan aX12_sumOf_238 rfl ?_
      refine g_getR aX12_sumOf_239 (sR_0 hsh) rfl ?_
      refine g_iconst (x := 4) aX12_sumOf_242 rfl ?_
      obtain ⟨h155, hE⟩ := i_ifn hE
      refine g_ild aX12_sumOf_243 (sR_1 hsh) h155 ?_
      refine g_i2l aX12_sumOf_244 ?_
      obtain ⟨h156, hE⟩ := i_ifn hE
      refine g_lst aX12_sumOf_245 (sR_27 hsh) h156 ?_
      refine g_ldan aX12_sumOf_246 rfl ?_
      obtain ⟨r157, s158, h159, hE⟩ := i_bd_some hE
      refine g_calV (As := []) (rest := []) aX12_sumOf_247 (i_X_mono (by omega) (tX12_wanted hsh h159)) (sR_0 hsh) (by decide +kernel) rfl rfl (Nat.le_of_ble_eq_true rfl) rfl ?_
      obtain ⟨rfl, rfl⟩ := i_some_inj hE
      exact g_lret aX12_sumOf_250 rfl
    clear hE
    by_cases hc159 : ¬ (s130.2.1 1 (5 : Int32).toNatClampNeg) = p1
    · (try rw [if_pos hc159] at hJ)
      refine g_ic_ne_t aX12_sumOf_150 hc159 ?_
      refine g_lconst (x := 0) aX12_sumOf_157 rfl ?_
      exact hJ
    · (try rw [if_neg hc159] at hJ)
      refine g_ic_ne_f aX12_sumOf_150 hc159 ?_
      refine g_lconst (x := 1) aX12_sumOf_153 rfl ?_
      refine g_goto aX12_sumOf_154 ?_
      exact hJ
  clear hE
  by_cases hc160 : ¬ (s126.2.1 5 ((σ.2.1 1 (4 : Int32).toNatClampNeg) - (σ.2.1 1 (4 : Int32).toNatClampNeg) / (σ.2.1 1 (0 : Int32).toNatClampNeg) * (σ.2.1 1 (0 : Int32).toNatClampNeg)).toNatClampNeg) = p1
  · (try rw [if_pos hc160] at hJ)
    refine g_ic_ne_t aX12_sumOf_129 hc160 ?_
    refine g_lconst (x := 0) aX12_sumOf_136 rfl ?_
    exact hJ
  · (try rw [if_neg hc160] at hJ)
    refine g_ic_ne_f aX12_sumOf_129 hc160 ?_
    refine g_lconst (x := 1) aX12_sumOf_132 rfl ?_
    refine g_goto aX12_sumOf_133 ?_
    exact hJ
set_option maxRecDepth 20000 in
set_option maxHeartbeats 2000000 in
theorem tX12_sumOf {sh : List kd} {σ τ : St} {r : Int64} (hsh : rmSh sh) {p1 : Int32} (hE : fX12_sumOf sh σ p1 = some (r, τ)) : i_X 5 180 [.ref 0, .int p1] (s_h sh σ) 0 0 (some (.long r)) (s_h sh τ) := by
  refine g_X (M := mX12_sumOf) (loc := [.ref 0, .int p1, .retAddr 0, .retAddr 0, .retAddr 0]) rfl (Nat.le_of_ble_eq_true rfl) rfl ?_
  unfold fX12_sumOf at hE
  refine g_iconst (x := 0) aX12_sumOf_0 rfl ?_
  refine g_stin (loc2 := [.ref 0, .int p1, .int 0, .retAddr 0, .retAddr 0]) aX12_sumOf_1 (Nat.le_of_ble_eq_true rfl) rfl ?_
  refine g_iconst (x := 0) aX12_sumOf_2 rfl ?_
  refine g_stin (loc2 := [.ref 0, .int p1, .int 0, .int 0, .retAddr 0]) aX12_sumOf_3 (Nat.le_of_ble_eq_true rfl) rfl ?_
  refine g_iconst (x := 0) aX12_sumOf_4 rfl ?_
  refine g_sti (loc2 := [.ref 0, .int p1, .int 0, .int 0, .int 0]) aX12_sumOf_5 (Nat.le_of_ble_eq_true rfl) rfl ?_
  exact tX12_sumOf_L7 hsh (fun x54 x55 x56 hE => tX12_sumOf_X71 hsh hE) i_F _ _ _ hE
theorem aX12_holds_0 : i_at mX12_holds.2.2.2.2.2 0 = some (.aload_n 0, 1, 0, 0, 0, 0) := by decide +kernel
theorem aX12_holds_1 : i_at mX12_holds.2.2.2.2.2 1 = some (.getfield 9, 3, 11, 1, 1088, 0) := by decide +kernel
theorem aX12_holds_4 : i_at mX12_holds.2.2.2.2.2 4 = some (.bipush 7, 2, 0, 0, 0, 0) := by decide +kernel
theorem aX12_holds_6 : i_at mX12_holds.2.2.2.2.2 6 = some (.iaload, 1, 0, 0, 0, 0) := by decide +kernel
theorem aX12_holds_7 : i_at mX12_holds.2.2.2.2.2 7 = some (.ifCond .le 5, 3, 12, 0, 0, 0) := by decide +kernel
theorem aX12_holds_10 : i_at mX12_holds.2.2.2.2.2 10 = some (.iconst (-1), 1, 0, 0, 0, 0) := by decide +kernel
theorem aX12_holds_11 : i_at mX12_holds.2.2.2.2.2 11 = some (.ireturn, 1, 0, 0, 0, 0) := by decide +kernel
theorem aX12_holds_12 : i_at mX12_holds.2.2.2.2.2 12 = some (.aload_n 0, 1, 0, 0, 0, 0) := by decide +kernel
theorem aX12_holds_13 : i_at mX12_holds.2.2.2.2.2 13 = some (.getfield 9, 3, 11, 1, 1088, 0) := by decide +kernel
theorem aX12_holds_16 : i_at mX12_holds.2.2.2.2.2 16 = some (.bipush 6, 2, 0, 0, 0, 0) := by decide +kernel
theorem aX12_holds_18 : i_at mX12_holds.2.2.2.2.2 18 = some (.iaload, 1, 0, 0, 0, 0) := by decide +kernel
theorem aX12_holds_19 : i_at mX12_holds.2.2.2.2.2 19 = some (.iconst (-1), 1, 0, 0, 0, 0) := by decide +kernel
theorem aX12_holds_20 : i_at mX12_holds.2.2.2.2.2 20 = some (.if_icmp .eq 11, 3, 31, 0, 0, 0) := by decide +kernel
theorem aX12_holds_23 : i_at mX12_holds.2.2.2.2.2 23 = some (.aload_n 0, 1, 0, 0, 0, 0) := by decide +kernel
theorem aX12_holds_24 : i_at mX12_holds.2.2.2.2.2 24 = some (.getfield 9, 3, 11, 1, 1088, 0) := by decide +kernel
theorem aX12_holds_27 : i_at mX12_holds.2.2.2.2.2 27 = some (.bipush 6, 2, 0, 0, 0, 0) := by decide +kernel
theorem aX12_holds_29 : i_at mX12_holds.2.2.2.2.2 29 = some (.iaload, 1, 0, 0, 0, 0) := by decide +kernel
theorem aX12_holds_30 : i_at mX12_holds.2.2.2.2.2 30 = some (.ireturn, 1, 0, 0, 0, 0) := by decide +kernel
theorem aX12_holds_31 : i_at mX12_holds.2.2.2.2.2 31 = some (.aload_n 0, 1, 0, 0, 0, 0) := by decide +kernel
theorem aX12_holds_32 : i_at mX12_holds.2.2.2.2.2 32 = some (.getfield 9, 3, 11, 1, 1088, 0) := by decide +kernel
theorem aX12_holds_35 : i_at mX12_holds.2.2.2.2.2 35 = some (.bipush 10, 2, 0, 0, 0, 0) := by decide +kernel
theorem aX12_holds_37 : i_at mX12_holds.2.2.2.2.2 37 = some (.iaload, 1, 0, 0, 0, 0) := by decide +kernel
theorem aX12_holds_38 : i_at mX12_holds.2.2.2.2.2 38 = some (.iconst (-1), 1, 0, 0, 0, 0) := by decide +kernel
theorem aX12_holds_39 : i_at mX12_holds.2.2.2.2.2 39 = some (.if_icmp .ne 22, 3, 61, 0, 0, 0) := by decide +kernel
theorem aX12_holds_42 : i_at mX12_holds.2.2.2.2.2 42 = some (.aload_n 0, 1, 0, 0, 0, 0) := by decide +kernel
theorem aX12_holds_43 : i_at mX12_holds.2.2.2.2.2 43 = some (.getfield 22, 3, 11, 5, 1092, 0) := by decide +kernel
theorem aX12_holds_46 : i_at mX12_holds.2.2.2.2.2 46 = some (.aload_n 0, 1, 0, 0, 0, 0) := by decide +kernel
theorem aX12_holds_47 : i_at mX12_holds.2.2.2.2.2 47 = some (.getfield 9, 3, 11, 1, 1088, 0) := by decide +kernel
theorem aX12_holds_50 : i_at mX12_holds.2.2.2.2.2 50 = some (.iconst 4, 1, 0, 0, 0, 0) := by decide +kernel
theorem aX12_holds_51 : i_at mX12_holds.2.2.2.2.2 51 = some (.iaload, 1, 0, 0, 0, 0) := by decide +kernel
theorem aX12_holds_52 : i_at mX12_holds.2.2.2.2.2 52 = some (.aload_n 0, 1, 0, 0, 0, 0) := by decide +kernel
theorem aX12_holds_53 : i_at mX12_holds.2.2.2.2.2 53 = some (.getfield 9, 3, 11, 1, 1088, 0) := by decide +kernel
theorem aX12_holds_56 : i_at mX12_holds.2.2.2.2.2 56 = some (.iconst 0, 1, 0, 0, 0, 0) := by decide +kernel
theorem aX12_holds_57 : i_at mX12_holds.2.2.2.2.2 57 = some (.iaload, 1, 0, 0, 0, 0) := by decide +kernel
theorem aX12_holds_58 : i_at mX12_holds.2.2.2.2.2 58 = some (.irem, 1, 0, 0, 0, 0) := by decide +kernel
theorem aX12_holds_59 : i_at mX12_holds.2.2.2.2.2 59 = some (.iaload, 1, 0, 0, 0, 0) := by decide +kernel
theorem aX12_holds_60 : i_at mX12_holds.2.2.2.2.2 60 = some (.ireturn, 1, 0, 0, 0, 0) := by decide +kernel
theorem aX12_holds_61 : i_at mX12_holds.2.2.2.2.2 61 = some (.iconst (-1), 1, 0, 0, 0, 0) := by decide +kernel
theorem aX12_holds_62 : i_at mX12_holds.2.2.2.2.2 62 = some (.istore_n 1, 1, 0, 0, 0, 0) := by decide +kernel
theorem aX12_holds_63 : i_at mX12_holds.2.2.2.2.2 63 = some (.lconst 0, 1, 0, 0, 0, 0) := by decide +kernel
theorem aX12_holds_64 : i_at mX12_holds.2.2.2.2.2 64 = some (.lstore_n 2, 1, 0, 0, 0, 0) := by decide +kernel
theorem aX12_holds_65 : i_at mX12_holds.2.2.2.2.2 65 = some (.iconst 0, 1, 0, 0, 0, 0) := by decide +kernel
theorem aX12_holds_66 : i_at mX12_holds.2.2.2.2.2 66 = some (.istore 4, 2, 0, 0, 0, 0) := by decide +kernel
theorem aX12_holds_68 : i_at mX12_holds.2.2.2.2.2 68 = some (.iload 4, 2, 0, 0, 0, 0) := by decide +kernel
theorem aX12_holds_70 : i_at mX12_holds.2.2.2.2.2 70 = some (.aload_n 0, 1, 0, 0, 0, 0) := by decide +kernel
theorem aX12_holds_71 : i_at mX12_holds.2.2.2.2.2 71 = some (.getfield 9, 3, 11, 1, 1088, 0) := by decide +kernel
theorem aX12_holds_74 : i_at mX12_holds.2.2.2.2.2 74 = some (.iconst 2, 1, 0, 0, 0, 0) := by decide +kernel
theorem aX12_holds_75 : i_at mX12_holds.2.2.2.2.2 75 = some (.iaload, 1, 0, 0, 0, 0) := by decide +kernel
theorem aX12_holds_76 : i_at mX12_holds.2.2.2.2.2 76 = some (.if_icmp .ge 30, 3, 106, 0, 0, 0) := by decide +kernel
theorem aX12_holds_79 : i_at mX12_holds.2.2.2.2.2 79 = some (.aload_n 0, 1, 0, 0, 0, 0) := by decide +kernel
theorem aX12_holds_80 : i_at mX12_holds.2.2.2.2.2 80 = some (.iload 4, 2, 0, 0, 0, 0) := by decide +kernel
theorem aX12_holds_82 : i_at mX12_holds.2.2.2.2.2 82 = some (.invokevirtual 366, 3, 180, 1, 1489, 0) := by decide +kernel
theorem aX12_holds_85 : i_at mX12_holds.2.2.2.2.2 85 = some (.lstore 5, 2, 0, 0, 0, 0) := by decide +kernel
theorem aX12_holds_87 : i_at mX12_holds.2.2.2.2.2 87 = some (.lload 5, 2, 0, 0, 0, 0) := by decide +kernel
theorem aX12_holds_89 : i_at mX12_holds.2.2.2.2.2 89 = some (.lload_n 2, 1, 0, 0, 0, 0) := by decide +kernel
theorem aX12_holds_90 : i_at mX12_holds.2.2.2.2.2 90 = some (.lcmp, 1, 0, 0, 0, 0) := by decide +kernel
theorem aX12_holds_91 : i_at mX12_holds.2.2.2.2.2 91 = some (.ifCond .le 9, 3, 100, 0, 0, 0) := by decide +kernel
theorem aX12_holds_94 : i_at mX12_holds.2.2.2.2.2 94 = some (.iload 4, 2, 0, 0, 0, 0) := by decide +kernel
theorem aX12_holds_96 : i_at mX12_holds.2.2.2.2.2 96 = some (.istore_n 1, 1, 0, 0, 0, 0) := by decide +kernel
theorem aX12_holds_97 : i_at mX12_holds.2.2.2.2.2 97 = some (.lload 5, 2, 0, 0, 0, 0) := by decide +kernel
theorem aX12_holds_99 : i_at mX12_holds.2.2.2.2.2 99 = some (.lstore_n 2, 1, 0, 0, 0, 0) := by decide +kernel
theorem aX12_holds_100 : i_at mX12_holds.2.2.2.2.2 100 = some (.iinc 4 1, 3, 0, 0, 0, 0) := by decide +kernel
theorem aX12_holds_103 : i_at mX12_holds.2.2.2.2.2 103 = some (.goto (-35), 3, 68, 0, 0, 0) := by decide +kernel
theorem aX12_holds_106 : i_at mX12_holds.2.2.2.2.2 106 = some (.iload_n 1, 1, 0, 0, 0, 0) := by decide +kernel
theorem aX12_holds_107 : i_at mX12_holds.2.2.2.2.2 107 = some (.ireturn, 1, 0, 0, 0, 0) := by decide +kernel
noncomputable def fX12_holds_J100 (sh : List kd) (x9 : Int32) (r65 : Int64) (s66 : St) (k68 : Int32 → Int64 → Int32 → Value → St → Option (Int32 × St)) (x118 : Int32) (x119 : Int64) : Option (Int32 × St) := k68 x118 x119 (x9 + 1) (.long r65) s66
noncomputable def fX12_holds_L68 (sh : List kd) : Nat → Int32 → Int64 → Int32 → Value → St → Option (Int32 × St)
  | 0, _, _, _, _, _ => none
  | n12 + 1, x7, x8, x9, x10, s11 => if i_ok 2 11 then if (s11.2.1 1 (2 : Int32).toNatClampNeg) ≤ x9 then some (x7, s11) else i_bd (fX12_sumOf sh s11 x9) (fun r65 s66 => if (lg_cmp r65 x8) ≤ 0 then fX12_holds_J100 sh x9 r65 s66 (fX12_holds_L68 sh n12) x7 x8 else fX12_holds_J100 sh x9 r65 s66 (fX12_holds_L68 sh n12) x9 r65) else none
noncomputable def fX12_holds (sh : List kd) (σ : St) : Option (Int32 × St) := if i_ok 7 11 then if (σ.2.1 1 (7 : Int32).toNatClampNeg) ≤ 0 then if i_ok 6 11 then if (σ.2.1 1 (6 : Int32).toNatClampNeg) = (-1) then if i_ok 10 11 then if ¬ (σ.2.1 1 (10 : Int32).toNatClampNeg) = (-1) then fX12_holds_L68 sh i_F (-1) 0 0 (.retAddr 0) σ else if i_ok 4 11 then if i_ok 0 11 then if (σ.2.1 1 (0 : Int32).toNatClampNeg) = 0 then none else if i_ok ((σ.2.1 1 (4 : Int32).toNatClampNeg) - (σ.2.1 1 (4 : Int32).toNatClampNeg) / (σ.2.1 1 (0 : Int32).toNatClampNeg) * (σ.2.1 1 (0 : Int32).toNatClampNeg)) 12 then some ((σ.2.1 5 ((σ.2.1 1 (4 : Int32).toNatClampNeg) - (σ.2.1 1 (4 : Int32).toNatClampNeg) / (σ.2.1 1 (0 : Int32).toNatClampNeg) * (σ.2.1 1 (0 : Int32).toNatClampNeg)).toNatClampNeg), σ) else none else none else none else none else if i_ok 6 11 then some ((σ.2.1 1 (6 : Int32).toNatClampNeg), σ) else none else none else some ((-1), σ) else none
set_option maxRecDepth 20000 in
set_option maxHeartbeats 2000000 in
theorem tX12_holds_J100 {sh : List kd} {τ : St} {r : Int32} (hsh : rmSh sh) {x9 : Int32} {r65 : Int64} {s66 : St} {x118 : Int32} {x119 : Int64} {k68 : Int32 → Int64 → Int32 → Value → St → Option (Int32 × St)} (hk68 : ∀ (x7 : Int32) (x8 : Int64) (x9 : Int32) (x10 : Value) (s11 : St), k68 x7 x8 x9 x10 s11 = some (r, τ) → g_R sh 5 mX12_holds (some (.int r)) τ 68 [.ref 0, .int x7, .long x8, .retAddr 0, .int x9, x10, .retAddr 0] [] (s11)) (hE : fX12_holds_J100 sh x9 r65 s66 k68 x118 x119 = some (r, τ)) : g_R sh 5 mX12_holds (some (.int r)) τ 100 [.ref 0, .int x118, .long x119, .retAddr 0, .int x9, .long r65, .retAddr 0] [] (s66) := by
  unfold fX12_holds_J100 at hE
  refine g_iinc (y := 1) (loc2 := [.ref 0, .int x118, .long x119, .retAddr 0, .int (x9 + 1), .long r65, .retAddr 0]) aX12_holds_100 rfl rfl rfl ?_
  refine g_goto aX12_holds_103 ?_
  exact hk68 _ _ _ _ _ hE
set_option maxRecDepth 20000 in
set_option maxHeartbeats 2000000 in
theorem tX12_holds_L68 {sh : List kd} {τ : St} {r : Int32} (hsh : rmSh sh) : ∀ (n0 : Nat) (x7 : Int32) (x8 : Int64) (x9 : Int32) (x10 : Value) (s11 : St), fX12_holds_L68 sh n0 x7 x8 x9 x10 s11 = some (r, τ) → g_R sh 5 mX12_holds (some (.int r)) τ 68 [.ref 0, .int x7, .long x8, .retAddr 0, .int x9, x10, .retAddr 0] [] (s11) := by
  intro n0
  induction n0 with
  | zero => intro _ _ _ _ _ hE; cases hE
  | succ n12 ih =>
    intro x7 x8 x9 x10 s11 hE
    unfold fX12_holds_L68 at hE
    refine g_ldi aX12_holds_68 rfl ?_
    refine g_ldan aX12_holds_70 rfl ?_
    refine g_getR aX12_holds_71 (sR_0 hsh) rfl ?_
    refine g_iconst (x := 2) aX12_holds_74 rfl ?_
    obtain ⟨h13, hE⟩ := i_ifn hE
    refine g_ild aX12_holds_75 (sR_1 hsh) h13 ?_
    by_cases hc64 : (s11.2.1 1 (2 : Int32).toNatClampNeg) ≤ x9
    · rw [if_pos hc64] at hE
      refine g_ic_ge_t aX12_holds_76 hc64 ?_
      refine g_ldin aX12_holds_106 rfl ?_
      obtain ⟨rfl, rfl⟩ := i_some_inj hE
      exact g_iret aX12_holds_107 rfl rfl
    · rw [if_neg hc64] at hE
      refine g_ic_ge_f aX12_holds_76 hc64 ?_
      refine g_ldan aX12_holds_79 rfl ?_
      refine g_ldi aX12_holds_80 rfl ?_
      obtain ⟨r65, s66, h67, hE⟩ := i_bd_some hE
      refine g_calV (As := [.int x9]) (rest := []) aX12_holds_82 (i_X_mono (by omega) (tX12_sumOf hsh h67)) (sR_0 hsh) (by decide +kernel) rfl rfl (Nat.le_of_ble_eq_true rfl) rfl ?_
      refine g_stl (loc2 := [.ref 0, .int x7, .long x8, .retAddr 0, .int x9, .long r65, .retAddr 0]) aX12_holds_85 (Nat.le_of_ble_eq_true rfl) rfl ?_
      refine g_ldl aX12_holds_87 rfl ?_
      refine g_ldln aX12_holds_89 rfl ?_
      refine g_lcmp aX12_holds_90 ?_
      by_cases hc120 : (lg_cmp r65 x8) ≤ 0
      · rw [if_pos hc120] at hE
        refine g_if_le_t aX12_holds_91 hc120 ?_
        exact tX12_holds_J100 hsh ih hE
      · rw [if_neg hc120] at hE
        refine g_if_le_f aX12_holds_91 hc120 ?_
        refine g_ldi aX12_holds_94 rfl ?_
        refine g_stin (loc2 := [.ref 0, .int x9, .long x8, .retAddr 0, .int x9, .long r65, .retAddr 0]) aX12_holds_96 (Nat.le_of_ble_eq_true rfl) rfl ?_
        refine g_ldl aX12_holds_97 rfl ?_
        refine g_stln (loc2 := [.ref 0, .int x9, .long r65, .retAddr 0, .int x9, .long r65, .retAddr 0]) aX12_holds_99 (Nat.le_of_ble_eq_true rfl) rfl ?_
        exact tX12_holds_J100 hsh ih hE
set_option maxRecDepth 20000 in
set_option maxHeartbeats 2000000 in
theorem tX12_holds {sh : List kd} {σ τ : St} {r : Int32} (hsh : rmSh sh) (hE : fX12_holds sh σ = some (r, τ)) : i_X 6 181 [.ref 0] (s_h sh σ) 0 0 (some (.int r)) (s_h sh τ) := by
  refine g_X (M := mX12_holds) (loc := [.ref 0, .retAddr 0, .retAddr 0, .retAddr 0, .retAddr 0, .retAddr 0, .retAddr 0]) rfl (Nat.le_of_ble_eq_true rfl) rfl ?_
  unfold fX12_holds at hE
  refine g_ldan aX12_holds_0 rfl ?_
  refine g_getR aX12_holds_1 (sR_0 hsh) rfl ?_
  refine g_bipush (x := 7) aX12_holds_4 rfl ?_
  obtain ⟨h1, hE⟩ := i_ifn hE
  refine g_ild aX12_holds_6 (sR_1 hsh) h1 ?_
  by_cases hc2 : (σ.2.1 1 (7 : Int32).toNatClampNeg) ≤ 0
  · rw [if_pos hc2] at hE
    refine g_if_le_t aX12_holds_7 hc2 ?_
    refine g_ldan aX12_holds_12 rfl ?_
    refine g_getR aX12_holds_13 (sR_0 hsh) rfl ?_
    refine g_bipush (x := 6) aX12_holds_16 rfl ?_
    obtain ⟨h3, hE⟩ := i_ifn hE
    refine g_ild aX12_holds_18 (sR_1 hsh) h3 ?_
    refine g_iconst (x := (-1)) aX12_holds_19 rfl ?_
    by_cases hc4 : (σ.2.1 1 (6 : Int32).toNatClampNeg) = (-1)
    · rw [if_pos hc4] at hE
      refine g_ic_eq_t aX12_holds_20 hc4 ?_
      refine g_ldan aX12_holds_31 rfl ?_
      refine g_getR aX12_holds_32 (sR_0 hsh) rfl ?_
      refine g_bipush (x := 10) aX12_holds_35 rfl ?_
      obtain ⟨h5, hE⟩ := i_ifn hE
      refine g_ild aX12_holds_37 (sR_1 hsh) h5 ?_
      refine g_iconst (x := (-1)) aX12_holds_38 rfl ?_
      by_cases hc6 : ¬ (σ.2.1 1 (10 : Int32).toNatClampNeg) = (-1)
      · rw [if_pos hc6] at hE
        refine g_ic_ne_t aX12_holds_39 hc6 ?_
        refine g_iconst (x := (-1)) aX12_holds_61 rfl ?_
        refine g_stin (loc2 := [.ref 0, .int (-1), .retAddr 0, .retAddr 0, .retAddr 0, .retAddr 0, .retAddr 0]) aX12_holds_62 (Nat.le_of_ble_eq_true rfl) rfl ?_
        refine g_lconst (x := 0) aX12_holds_63 rfl ?_
        refine g_stln (loc2 := [.ref 0, .int (-1), .long 0, .retAddr 0, .retAddr 0, .retAddr 0, .retAddr 0]) aX12_holds_64 (Nat.le_of_ble_eq_true rfl) rfl ?_
        refine g_iconst (x := 0) aX12_holds_65 rfl ?_
        refine g_sti (loc2 := [.ref 0, .int (-1), .long 0, .retAddr 0, .int 0, .retAddr 0, .retAddr 0]) aX12_holds_66 (Nat.le_of_ble_eq_true rfl) rfl ?_
        exact tX12_holds_L68 hsh i_F _ _ _ _ _ hE
      · rw [if_neg hc6] at hE
        refine g_ic_ne_f aX12_holds_39 hc6 ?_
        refine g_ldan aX12_holds_42 rfl ?_
        refine g_getR aX12_holds_43 (sR_0 hsh) rfl ?_
        refine g_ldan aX12_holds_46 rfl ?_
        refine g_getR aX12_holds_47 (sR_0 hsh) rfl ?_
        refine g_iconst (x := 4) aX12_holds_50 rfl ?_
        obtain ⟨h121, hE⟩ := i_ifn hE
        refine g_ild aX12_holds_51 (sR_1 hsh) h121 ?_
        refine g_ldan aX12_holds_52 rfl ?_
        refine g_getR aX12_holds_53 (sR_0 hsh) rfl ?_
        refine g_iconst (x := 0) aX12_holds_56 rfl ?_
        obtain ⟨h122, hE⟩ := i_ifn hE
        refine g_ild aX12_holds_57 (sR_1 hsh) h122 ?_
        obtain ⟨h123, hE⟩ := i_nif hE
        refine g_irem aX12_holds_58 h123 ?_
        obtain ⟨h124, hE⟩ := i_ifn hE
        refine g_ild aX12_holds_59 (sR_5 hsh) h124 ?_
        obtain ⟨rfl, rfl⟩ := i_some_inj hE
        exact g_iret aX12_holds_60 rfl rfl
    · rw [if_neg hc4] at hE
      refine g_ic_eq_f aX12_holds_20 hc4 ?_
      refine g_ldan aX12_holds_23 rfl ?_
      refine g_getR aX12_holds_24 (sR_0 hsh) rfl ?_
      refine g_bipush (x := 6) aX12_holds_27 rfl ?_
      obtain ⟨h125, hE⟩ := i_ifn hE
      refine g_ild aX12_holds_29 (sR_1 hsh) h125 ?_
      obtain ⟨rfl, rfl⟩ := i_some_inj hE
      exact g_iret aX12_holds_30 rfl rfl
  · rw [if_neg hc2] at hE
    refine g_if_le_f aX12_holds_7 hc2 ?_
    refine g_iconst (x := (-1)) aX12_holds_10 rfl ?_
    obtain ⟨rfl, rfl⟩ := i_some_inj hE
    exact g_iret aX12_holds_11 rfl rfl
