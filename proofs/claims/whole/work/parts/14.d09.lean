/-! X5_restOfTwos X6_clear X7_outcome X8_countPart X9_wordIn X9_skipWord X11_deed X11_slight -/
theorem aX5_restOfTwos_0 : i_at mX5_restOfTwos.2.2.2.2.2 0 = some (.iconst 0, 1, 0, 0, 0, 0) := by decide +kernel
theorem aX5_restOfTwos_1 : i_at mX5_restOfTwos.2.2.2.2.2 1 = some (.istore_n 2, 1, 0, 0, 0, 0) := by decide +kernel
theorem aX5_restOfTwos_2 : i_at mX5_restOfTwos.2.2.2.2.2 2 = some (.iconst (-1), 1, 0, 0, 0, 0) := by decide +kernel
theorem aX5_restOfTwos_3 : i_at mX5_restOfTwos.2.2.2.2.2 3 = some (.istore_n 3, 1, 0, 0, 0, 0) := by decide +kernel
theorem aX5_restOfTwos_4 : i_at mX5_restOfTwos.2.2.2.2.2 4 = some (.iconst 0, 1, 0, 0, 0, 0) := by decide +kernel
theorem aX5_restOfTwos_5 : i_at mX5_restOfTwos.2.2.2.2.2 5 = some (.istore 4, 2, 0, 0, 0, 0) := by decide +kernel
theorem aX5_restOfTwos_7 : i_at mX5_restOfTwos.2.2.2.2.2 7 = some (.iload 4, 2, 0, 0, 0, 0) := by decide +kernel
theorem aX5_restOfTwos_9 : i_at mX5_restOfTwos.2.2.2.2.2 9 = some (.bipush 25, 2, 0, 0, 0, 0) := by decide +kernel
theorem aX5_restOfTwos_11 : i_at mX5_restOfTwos.2.2.2.2.2 11 = some (.if_icmp .ge 39, 3, 50, 0, 0, 0) := by decide +kernel
theorem aX5_restOfTwos_14 : i_at mX5_restOfTwos.2.2.2.2.2 14 = some (.aload_n 0, 1, 0, 0, 0, 0) := by decide +kernel
theorem aX5_restOfTwos_15 : i_at mX5_restOfTwos.2.2.2.2.2 15 = some (.iload 4, 2, 0, 0, 0, 0) := by decide +kernel
theorem aX5_restOfTwos_17 : i_at mX5_restOfTwos.2.2.2.2.2 17 = some (.iconst 5, 1, 0, 0, 0, 0) := by decide +kernel
theorem aX5_restOfTwos_18 : i_at mX5_restOfTwos.2.2.2.2.2 18 = some (.idiv, 1, 0, 0, 0, 0) := by decide +kernel
theorem aX5_restOfTwos_19 : i_at mX5_restOfTwos.2.2.2.2.2 19 = some (.iload 4, 2, 0, 0, 0, 0) := by decide +kernel
theorem aX5_restOfTwos_21 : i_at mX5_restOfTwos.2.2.2.2.2 21 = some (.iconst 5, 1, 0, 0, 0, 0) := by decide +kernel
theorem aX5_restOfTwos_22 : i_at mX5_restOfTwos.2.2.2.2.2 22 = some (.irem, 1, 0, 0, 0, 0) := by decide +kernel
theorem aX5_restOfTwos_23 : i_at mX5_restOfTwos.2.2.2.2.2 23 = some (.invokevirtual 116, 3, 45, 2, 989, 0) := by decide +kernel
theorem aX5_restOfTwos_26 : i_at mX5_restOfTwos.2.2.2.2.2 26 = some (.ifCond .eq 18, 3, 44, 0, 0, 0) := by decide +kernel
theorem aX5_restOfTwos_29 : i_at mX5_restOfTwos.2.2.2.2.2 29 = some (.iinc 2 1, 3, 0, 0, 0, 0) := by decide +kernel
theorem aX5_restOfTwos_32 : i_at mX5_restOfTwos.2.2.2.2.2 32 = some (.iload_n 3, 1, 0, 0, 0, 0) := by decide +kernel
theorem aX5_restOfTwos_33 : i_at mX5_restOfTwos.2.2.2.2.2 33 = some (.iconst (-1), 1, 0, 0, 0, 0) := by decide +kernel
theorem aX5_restOfTwos_34 : i_at mX5_restOfTwos.2.2.2.2.2 34 = some (.if_icmp .ne 8, 3, 42, 0, 0, 0) := by decide +kernel
theorem aX5_restOfTwos_37 : i_at mX5_restOfTwos.2.2.2.2.2 37 = some (.iload 4, 2, 0, 0, 0, 0) := by decide +kernel
theorem aX5_restOfTwos_39 : i_at mX5_restOfTwos.2.2.2.2.2 39 = some (.goto 4, 3, 43, 0, 0, 0) := by decide +kernel
theorem aX5_restOfTwos_42 : i_at mX5_restOfTwos.2.2.2.2.2 42 = some (.iload_n 3, 1, 0, 0, 0, 0) := by decide +kernel
theorem aX5_restOfTwos_43 : i_at mX5_restOfTwos.2.2.2.2.2 43 = some (.istore_n 3, 1, 0, 0, 0, 0) := by decide +kernel
theorem aX5_restOfTwos_44 : i_at mX5_restOfTwos.2.2.2.2.2 44 = some (.iinc 4 1, 3, 0, 0, 0, 0) := by decide +kernel
theorem aX5_restOfTwos_47 : i_at mX5_restOfTwos.2.2.2.2.2 47 = some (.goto (-40), 3, 7, 0, 0, 0) := by decide +kernel
theorem aX5_restOfTwos_50 : i_at mX5_restOfTwos.2.2.2.2.2 50 = some (.iload_n 1, 1, 0, 0, 0, 0) := by decide +kernel
theorem aX5_restOfTwos_51 : i_at mX5_restOfTwos.2.2.2.2.2 51 = some (.ifCond .ne 5, 3, 56, 0, 0, 0) := by decide +kernel
theorem aX5_restOfTwos_54 : i_at mX5_restOfTwos.2.2.2.2.2 54 = some (.iload_n 2, 1, 0, 0, 0, 0) := by decide +kernel
theorem aX5_restOfTwos_55 : i_at mX5_restOfTwos.2.2.2.2.2 55 = some (.ireturn, 1, 0, 0, 0, 0) := by decide +kernel
theorem aX5_restOfTwos_56 : i_at mX5_restOfTwos.2.2.2.2.2 56 = some (.iload_n 3, 1, 0, 0, 0, 0) := by decide +kernel
theorem aX5_restOfTwos_57 : i_at mX5_restOfTwos.2.2.2.2.2 57 = some (.iconst (-1), 1, 0, 0, 0, 0) := by decide +kernel
theorem aX5_restOfTwos_58 : i_at mX5_restOfTwos.2.2.2.2.2 58 = some (.if_icmp .ne 6, 3, 64, 0, 0, 0) := by decide +kernel
theorem aX5_restOfTwos_61 : i_at mX5_restOfTwos.2.2.2.2.2 61 = some (.bipush (-2), 2, 0, 0, 0, 0) := by decide +kernel
theorem aX5_restOfTwos_63 : i_at mX5_restOfTwos.2.2.2.2.2 63 = some (.ireturn, 1, 0, 0, 0, 0) := by decide +kernel
theorem aX5_restOfTwos_64 : i_at mX5_restOfTwos.2.2.2.2.2 64 = some (.bipush 10, 2, 0, 0, 0, 0) := by decide +kernel
theorem aX5_restOfTwos_66 : i_at mX5_restOfTwos.2.2.2.2.2 66 = some (.iload_n 1, 1, 0, 0, 0, 0) := by decide +kernel
theorem aX5_restOfTwos_67 : i_at mX5_restOfTwos.2.2.2.2.2 67 = some (.iconst 1, 1, 0, 0, 0, 0) := by decide +kernel
theorem aX5_restOfTwos_68 : i_at mX5_restOfTwos.2.2.2.2.2 68 = some (.if_icmp .ne 9, 3, 77, 0, 0, 0) := by decide +kernel
theorem aX5_restOfTwos_71 : i_at mX5_restOfTwos.2.2.2.2.2 71 = some (.iload_n 3, 1, 0, 0, 0, 0) := by decide +kernel
theorem aX5_restOfTwos_72 : i_at mX5_restOfTwos.2.2.2.2.2 72 = some (.iconst 5, 1, 0, 0, 0, 0) := by decide +kernel
theorem aX5_restOfTwos_73 : i_at mX5_restOfTwos.2.2.2.2.2 73 = some (.idiv, 1, 0, 0, 0, 0) := by decide +kernel
theorem aX5_restOfTwos_74 : i_at mX5_restOfTwos.2.2.2.2.2 74 = some (.goto 6, 3, 80, 0, 0, 0) := by decide +kernel
theorem aX5_restOfTwos_77 : i_at mX5_restOfTwos.2.2.2.2.2 77 = some (.iload_n 3, 1, 0, 0, 0, 0) := by decide +kernel
theorem aX5_restOfTwos_78 : i_at mX5_restOfTwos.2.2.2.2.2 78 = some (.iconst 5, 1, 0, 0, 0, 0) := by decide +kernel
theorem aX5_restOfTwos_79 : i_at mX5_restOfTwos.2.2.2.2.2 79 = some (.irem, 1, 0, 0, 0, 0) := by decide +kernel
theorem aX5_restOfTwos_80 : i_at mX5_restOfTwos.2.2.2.2.2 80 = some (.imul, 1, 0, 0, 0, 0) := by decide +kernel
theorem aX5_restOfTwos_81 : i_at mX5_restOfTwos.2.2.2.2.2 81 = some (.ireturn, 1, 0, 0, 0, 0) := by decide +kernel
noncomputable def fX5_restOfTwos_J44 (sh : List kd) (p1 : Int32) (x3 : Int32) (s62 : St) (k7 : Int32 → Int32 → Int32 → St → Option (Int32 × St)) (x114 : Int32) (x115 : Int32) : Option (Int32 × St) := k7 x114 x115 (x3 + 1) s62
noncomputable def fX5_restOfTwos_L7 (sh : List kd) (p1 : Int32) (k50 : Int32 → Int32 → Int32 → St → Option (Int32 × St)) : Nat → Int32 → Int32 → Int32 → St → Option (Int32 × St)
  | 0, _, _, _, _ => none
  | n59 + 1, x1, x2, x3, s4 => if 25 ≤ x3 then k50 x1 x2 x3 s4 else i_bd (fX5_isAtRest sh s4 (x3 / 5) (x3 - x3 / 5 * 5)) (fun r61 s62 => if r61 = 0 then fX5_restOfTwos_J44 sh p1 x3 s62 (fX5_restOfTwos_L7 sh p1 k50 n59) x1 x2 else fX5_restOfTwos_J44 sh p1 x3 s62 (fX5_restOfTwos_L7 sh p1 k50 n59) (x1 + 1) ((if ¬ x2 = (-1) then x2 else x3) : Int32))
noncomputable def fX5_restOfTwos_J80 (sh : List kd) (p1 : Int32) (x55 : Int32) (x56 : Int32) (x57 : Int32) (s58 : St) (x170 : Int32) : Option (Int32 × St) := some ((10 * x170), s58)
noncomputable def fX5_restOfTwos_X50 (sh : List kd) (p1 : Int32) (x55 : Int32) (x56 : Int32) (x57 : Int32) (s58 : St) : Option (Int32 × St) := if ¬ p1 = 0 then if ¬ x56 = (-1) then if ¬ p1 = 1 then fX5_restOfTwos_J80 sh p1 x55 x56 x57 s58 (x56 - x56 / 5 * 5) else fX5_restOfTwos_J80 sh p1 x55 x56 x57 s58 (x56 / 5) else some ((-2), s58) else some (x55, s58)
noncomputable def fX5_restOfTwos (sh : List kd) (σ : St) (p1 : Int32) : Option (Int32 × St) := fX5_restOfTwos_L7 sh p1 (fun (x55 : Int32) (x56 : Int32) (x57 : Int32) (s58 : St) => fX5_restOfTwos_X50 sh p1 x55 x56 x57 s58) i_F 0 (-1) 0 σ
set_option maxRecDepth 20000 in
set_option maxHeartbeats 2000000 in
theorem tX5_restOfTwos_J44 {sh : List kd} {τ : St} {r : Int32} (hsh : cSh sh) {p1 : Int32} {x3 : Int32} {s62 : St} {x114 : Int32} {x115 : Int32} {k7 : Int32 → Int32 → Int32 → St → Option (Int32 × St)} (hk7 : ∀ (x1 : Int32) (x2 : Int32) (x3 : Int32) (s4 : St), k7 x1 x2 x3 s4 = some (r, τ) → g_R sh 1 mX5_restOfTwos (some (.int r)) τ 7 [.ref 134, .int p1, .int x1, .int x2, .int x3] [] (s4)) (hE : fX5_restOfTwos_J44 sh p1 x3 s62 k7 x114 x115 = some (r, τ)) : g_R sh 1 mX5_restOfTwos (some (.int r)) τ 44 [.ref 134, .int p1, .int x114, .int x115, .int x3] [] (s62) := by
  unfold fX5_restOfTwos_J44 at hE
  refine g_iinc (y := 1) (loc2 := [.ref 134, .int p1, .int x114, .int x115, .int (x3 + 1)]) aX5_restOfTwos_44 rfl rfl rfl ?_
  refine g_goto aX5_restOfTwos_47 ?_
  exact hk7 _ _ _ _ hE
set_option maxRecDepth 20000 in
set_option maxHeartbeats 2000000 in
theorem tX5_restOfTwos_L7 {sh : List kd} {τ : St} {r : Int32} (hsh : cSh sh) {p1 : Int32} {k50 : Int32 → Int32 → Int32 → St → Option (Int32 × St)} (hk50 : ∀ (x55 : Int32) (x56 : Int32) (x57 : Int32) (s58 : St), k50 x55 x56 x57 s58 = some (r, τ) → g_R sh 1 mX5_restOfTwos (some (.int r)) τ 50 [.ref 134, .int p1, .int x55, .int x56, .int x57] [] (s58)) : ∀ (n0 : Nat) (x1 : Int32) (x2 : Int32) (x3 : Int32) (s4 : St), fX5_restOfTwos_L7 sh p1 k50 n0 x1 x2 x3 s4 = some (r, τ) → g_R sh 1 mX5_restOfTwos (some (.int r)) τ 7 [.ref 134, .int p1, .int x1, .int x2, .int x3] [] (s4) := by
  intro n0
  induction n0 with
  | zero => intro _ _ _ _ hE; cases hE
  | succ n59 ih =>
    intro x1 x2 x3 s4 hE
    unfold fX5_restOfTwos_L7 at hE
    refine g_ldi aX5_restOfTwos_7 rfl ?_
    refine g_bipush (x := 25) aX5_restOfTwos_9 rfl ?_
    by_cases hc60 : 25 ≤ x3
    · rw [if_pos hc60] at hE
      refine g_ic_ge_t aX5_restOfTwos_11 hc60 ?_
      exact hk50 _ _ _ _ hE
    · rw [if_neg hc60] at hE
      refine g_ic_ge_f aX5_restOfTwos_11 hc60 ?_
      refine g_ldan aX5_restOfTwos_14 rfl ?_
      refine g_ldi aX5_restOfTwos_15 rfl ?_
      refine g_iconst (x := 5) aX5_restOfTwos_17 rfl ?_
      refine g_idiv aX5_restOfTwos_18 (by decide) ?_
      refine g_ldi aX5_restOfTwos_19 rfl ?_
      refine g_iconst (x := 5) aX5_restOfTwos_21 rfl ?_
      refine g_irem aX5_restOfTwos_22 (by decide) ?_
      obtain ⟨r61, s62, h63, hE⟩ := i_bd_some hE
      refine g_calV (As := [.int (x3 / 5), .int (x3 - x3 / 5 * 5)]) (rest := []) aX5_restOfTwos_23 (i_X_mono (by omega) (tX5_isAtRest hsh h63)) (sC_134 hsh) (by decide +kernel) rfl rfl (Nat.le_of_ble_eq_true rfl) rfl ?_
      by_cases hc116 : r61 = 0
      · rw [if_pos hc116] at hE
        refine g_if_eq_t aX5_restOfTwos_26 hc116 ?_
        exact tX5_restOfTwos_J44 hsh ih hE
      · rw [if_neg hc116] at hE
        refine g_if_eq_f aX5_restOfTwos_26 hc116 ?_
        refine g_iinc (y := 1) (loc2 := [.ref 134, .int p1, .int (x1 + 1), .int x2, .int x3]) aX5_restOfTwos_29 rfl rfl rfl ?_
        refine g_ldin aX5_restOfTwos_32 rfl ?_
        refine g_iconst (x := (-1)) aX5_restOfTwos_33 rfl ?_
        have hJ : g_R sh 1 mX5_restOfTwos (some (.int r)) τ 43 [.ref 134, .int p1, .int (x1 + 1), .int x2, .int x3] [.int ((if ¬ x2 = (-1) then x2 else x3) : Int32)] (s62) := by
          refine g_stin (loc2 := [.ref 134, .int p1, .int (x1 + 1), .int ((if ¬ x2 = (-1) then x2 else x3) : Int32), .int x3]) aX5_restOfTwos_43 (Nat.le_of_ble_eq_true rfl) rfl ?_
          exact tX5_restOfTwos_J44 hsh ih hE
        clear hE
        by_cases hc116 : ¬ x2 = (-1)
        · (try rw [if_pos hc116] at hJ)
          refine g_ic_ne_t aX5_restOfTwos_34 hc116 ?_
          refine g_ldin aX5_restOfTwos_42 rfl ?_
          exact hJ
        · (try rw [if_neg hc116] at hJ)
          refine g_ic_ne_f aX5_restOfTwos_34 hc116 ?_
          refine g_ldi aX5_restOfTwos_37 rfl ?_
          refine g_goto aX5_restOfTwos_39 ?_
          exact hJ
set_option maxRecDepth 20000 in
set_option maxHeartbeats 2000000 in
theorem tX5_restOfTwos_J80 {sh : List kd} {τ : St} {r : Int32} (hsh : cSh sh) {p1 : Int32} {x55 : Int32} {x56 : Int32} {x57 : Int32} {s58 : St} {x170 : Int32} (hE : fX5_restOfTwos_J80 sh p1 x55 x56 x57 s58 x170 = some (r, τ)) : g_R sh 1 mX5_restOfTwos (some (.int r)) τ 80 [.ref 134, .int p1, .int x55, .int x56, .int x57] [.int x170, .int 10] (s58) := by
  unfold fX5_restOfTwos_J80 at hE
  refine g_imul aX5_restOfTwos_80 ?_
  obtain ⟨rfl, rfl⟩ := i_some_inj hE
  exact g_iret aX5_restOfTwos_81 rfl rfl
set_option maxRecDepth 20000 in
set_option maxHeartbeats 2000000 in
theorem tX5_restOfTwos_X50 {sh : List kd} {τ : St} {r : Int32} (hsh : cSh sh) {p1 : Int32} {x55 : Int32} {x56 : Int32} {x57 : Int32} {s58 : St} (hE : fX5_restOfTwos_X50 sh p1 x55 x56 x57 s58 = some (r, τ)) : g_R sh 1 mX5_restOfTwos (some (.int r)) τ 50 [.ref 134, .int p1, .int x55, .int x56, .int x57] [] (s58) := by
  unfold fX5_restOfTwos_X50 at hE
  refine g_ldin aX5_restOfTwos_50 rfl ?_
  by_cases hc118 : ¬ p1 = 0
  · rw [if_pos hc118] at hE
    refine g_if_ne_t aX5_restOfTwos_51 hc118 ?_
    refine g_ldin aX5_restOfTwos_56 rfl ?_
    refine g_iconst (x := (-1)) aX5_restOfTwos_57 rfl ?_
    by_cases hc119 : ¬ x56 = (-1)
    · rw [if_pos hc119] at hE
      refine g_ic_ne_t aX5_restOfTwos_58 hc119 ?_
      refine g_bipush (x := 10) aX5_restOfTwos_64 rfl ?_
      refine g_ldin aX5_restOfTwos_66 rfl ?_
      refine g_iconst (x := 1) aX5_restOfTwos_67 rfl ?_
      by_cases hc171 : ¬ p1 = 1
      · rw [if_pos hc171] at hE
        refine g_ic_ne_t aX5_restOfTwos_68 hc171 ?_
        refine g_ldin aX5_restOfTwos_77 rfl ?_
        refine g_iconst (x := 5) aX5_restOfTwos_78 rfl ?_
        refine g_irem aX5_restOfTwos_79 (by decide) ?_
        exact tX5_restOfTwos_J80 hsh hE
      · rw [if_neg hc171] at hE
        refine g_ic_ne_f aX5_restOfTwos_68 hc171 ?_
        refine g_ldin aX5_restOfTwos_71 rfl ?_
        refine g_iconst (x := 5) aX5_restOfTwos_72 rfl ?_
        refine g_idiv aX5_restOfTwos_73 (by decide) ?_
        refine g_goto aX5_restOfTwos_74 ?_
        exact tX5_restOfTwos_J80 hsh hE
    · rw [if_neg hc119] at hE
      refine g_ic_ne_f aX5_restOfTwos_58 hc119 ?_
      refine g_bipush (x := (-2)) aX5_restOfTwos_61 rfl ?_
      obtain ⟨rfl, rfl⟩ := i_some_inj hE
      exact g_iret aX5_restOfTwos_63 rfl rfl
  · rw [if_neg hc118] at hE
    refine g_if_ne_f aX5_restOfTwos_51 hc118 ?_
    refine g_ldin aX5_restOfTwos_54 rfl ?_
    obtain ⟨rfl, rfl⟩ := i_some_inj hE
    exact g_iret aX5_restOfTwos_55 rfl rfl
set_option maxRecDepth 20000 in
set_option maxHeartbeats 2000000 in
theorem tX5_restOfTwos {sh : List kd} {σ τ : St} {r : Int32} (hsh : cSh sh) {p1 : Int32} (hE : fX5_restOfTwos sh σ p1 = some (r, τ)) : i_X 2 44 [.ref 134, .int p1] (s_h sh σ) 0 0 (some (.int r)) (s_h sh τ) := by
  refine g_X (M := mX5_restOfTwos) (loc := [.ref 134, .int p1, .retAddr 0, .retAddr 0, .retAddr 0]) rfl (Nat.le_of_ble_eq_true rfl) rfl ?_
  unfold fX5_restOfTwos at hE
  refine g_iconst (x := 0) aX5_restOfTwos_0 rfl ?_
  refine g_stin (loc2 := [.ref 134, .int p1, .int 0, .retAddr 0, .retAddr 0]) aX5_restOfTwos_1 (Nat.le_of_ble_eq_true rfl) rfl ?_
  refine g_iconst (x := (-1)) aX5_restOfTwos_2 rfl ?_
  refine g_stin (loc2 := [.ref 134, .int p1, .int 0, .int (-1), .retAddr 0]) aX5_restOfTwos_3 (Nat.le_of_ble_eq_true rfl) rfl ?_
  refine g_iconst (x := 0) aX5_restOfTwos_4 rfl ?_
  refine g_sti (loc2 := [.ref 134, .int p1, .int 0, .int (-1), .int 0]) aX5_restOfTwos_5 (Nat.le_of_ble_eq_true rfl) rfl ?_
  exact tX5_restOfTwos_L7 hsh (fun x55 x56 x57 s58 hE => tX5_restOfTwos_X50 hsh hE) i_F _ _ _ _ hE
theorem aX6_clear_0 : i_at mX6_clear.2.2.2.2.2 0 = some (.aload_n 0, 1, 0, 0, 0, 0) := by decide +kernel
theorem aX6_clear_1 : i_at mX6_clear.2.2.2.2.2 1 = some (.iconst 0, 1, 0, 0, 0, 0) := by decide +kernel
theorem aX6_clear_2 : i_at mX6_clear.2.2.2.2.2 2 = some (.putfield 27, 3, 5, 0, 153, 0) := by decide +kernel
theorem aX6_clear_5 : i_at mX6_clear.2.2.2.2.2 5 = some (.aload_n 0, 1, 0, 0, 0, 0) := by decide +kernel
theorem aX6_clear_6 : i_at mX6_clear.2.2.2.2.2 6 = some (.iconst 0, 1, 0, 0, 0, 0) := by decide +kernel
theorem aX6_clear_7 : i_at mX6_clear.2.2.2.2.2 7 = some (.putfield 31, 3, 5, 1, 156, 0) := by decide +kernel
theorem aX6_clear_10 : i_at mX6_clear.2.2.2.2.2 10 = some (.aload_n 0, 1, 0, 0, 0, 0) := by decide +kernel
theorem aX6_clear_11 : i_at mX6_clear.2.2.2.2.2 11 = some (.iconst 0, 1, 0, 0, 0, 0) := by decide +kernel
theorem aX6_clear_12 : i_at mX6_clear.2.2.2.2.2 12 = some (.putfield 35, 3, 5, 2, 159, 0) := by decide +kernel
theorem aX6_clear_15 : i_at mX6_clear.2.2.2.2.2 15 = some (.aload_n 0, 1, 0, 0, 0, 0) := by decide +kernel
theorem aX6_clear_16 : i_at mX6_clear.2.2.2.2.2 16 = some (.iconst 0, 1, 0, 0, 0, 0) := by decide +kernel
theorem aX6_clear_17 : i_at mX6_clear.2.2.2.2.2 17 = some (.putfield 38, 3, 5, 3, 163, 0) := by decide +kernel
theorem aX6_clear_20 : i_at mX6_clear.2.2.2.2.2 20 = some (.aload_n 0, 1, 0, 0, 0, 0) := by decide +kernel
theorem aX6_clear_21 : i_at mX6_clear.2.2.2.2.2 21 = some (.iconst 0, 1, 0, 0, 0, 0) := by decide +kernel
theorem aX6_clear_22 : i_at mX6_clear.2.2.2.2.2 22 = some (.putfield 41, 3, 5, 4, 169, 0) := by decide +kernel
theorem aX6_clear_25 : i_at mX6_clear.2.2.2.2.2 25 = some (.aload_n 0, 1, 0, 0, 0, 0) := by decide +kernel
theorem aX6_clear_26 : i_at mX6_clear.2.2.2.2.2 26 = some (.getfield 9, 3, 5, 5, 175, 0) := by decide +kernel
theorem aX6_clear_29 : i_at mX6_clear.2.2.2.2.2 29 = some (.iconst 0, 1, 0, 0, 0, 0) := by decide +kernel
theorem aX6_clear_30 : i_at mX6_clear.2.2.2.2.2 30 = some (.invokestatic 44, 3, 231, 2, 516, 0) := by decide +kernel
theorem aX6_clear_33 : i_at mX6_clear.2.2.2.2.2 33 = some (.aload_n 0, 1, 0, 0, 0, 0) := by decide +kernel
theorem aX6_clear_34 : i_at mX6_clear.2.2.2.2.2 34 = some (.getfield 15, 3, 5, 6, 179, 0) := by decide +kernel
theorem aX6_clear_37 : i_at mX6_clear.2.2.2.2.2 37 = some (.iconst 0, 1, 0, 0, 0, 0) := by decide +kernel
theorem aX6_clear_38 : i_at mX6_clear.2.2.2.2.2 38 = some (.invokestatic 44, 3, 231, 2, 516, 0) := by decide +kernel
theorem aX6_clear_41 : i_at mX6_clear.2.2.2.2.2 41 = some (.aload_n 0, 1, 0, 0, 0, 0) := by decide +kernel
theorem aX6_clear_42 : i_at mX6_clear.2.2.2.2.2 42 = some (.getfield 18, 3, 5, 7, 183, 0) := by decide +kernel
theorem aX6_clear_45 : i_at mX6_clear.2.2.2.2.2 45 = some (.iconst (-1), 1, 0, 0, 0, 0) := by decide +kernel
theorem aX6_clear_46 : i_at mX6_clear.2.2.2.2.2 46 = some (.invokestatic 44, 3, 231, 2, 516, 0) := by decide +kernel
theorem aX6_clear_49 : i_at mX6_clear.2.2.2.2.2 49 = some (.aload_n 0, 1, 0, 0, 0, 0) := by decide +kernel
theorem aX6_clear_50 : i_at mX6_clear.2.2.2.2.2 50 = some (.getfield 21, 3, 5, 8, 187, 0) := by decide +kernel
theorem aX6_clear_53 : i_at mX6_clear.2.2.2.2.2 53 = some (.iconst 0, 1, 0, 0, 0, 0) := by decide +kernel
theorem aX6_clear_54 : i_at mX6_clear.2.2.2.2.2 54 = some (.invokestatic 44, 3, 231, 2, 516, 0) := by decide +kernel
theorem aX6_clear_57 : i_at mX6_clear.2.2.2.2.2 57 = some (.aload_n 0, 1, 0, 0, 0, 0) := by decide +kernel
theorem aX6_clear_58 : i_at mX6_clear.2.2.2.2.2 58 = some (.getfield 24, 3, 5, 9, 190, 0) := by decide +kernel
theorem aX6_clear_61 : i_at mX6_clear.2.2.2.2.2 61 = some (.iconst 0, 1, 0, 0, 0, 0) := by decide +kernel
theorem aX6_clear_62 : i_at mX6_clear.2.2.2.2.2 62 = some (.invokestatic 44, 3, 231, 2, 516, 0) := by decide +kernel
theorem aX6_clear_65 : i_at mX6_clear.2.2.2.2.2 65 = some (.return_, 1, 0, 0, 0, 0) := by decide +kernel
noncomputable def fX6_clear (sh : List kd) (σ : St) (p0 : Nat) : Option (Unit × St) := i_bd (fJ7_fill_53178 sh (s_F (s_F (s_F (s_F (s_F σ p0 0 0) p0 1 0) p0 2 0) p0 3 0) p0 4 0) (p0 + 1) 0) (fun r1 s2 => i_bd (fJ7_fill_53178 sh s2 (p0 + 2) 0) (fun r4 s5 => i_bd (fJ7_fill_53178 sh s5 (p0 + 3) (-1)) (fun r7 s8 => i_bd (fJ7_fill_53178 sh s8 (p0 + 4) 0) (fun r10 s11 => i_bd (fJ7_fill_53178 sh s11 (p0 + 5) 0) (fun r13 s14 => some ((), s14))))))
set_option maxRecDepth 20000 in
set_option maxHeartbeats 2000000 in
theorem tX6_clear {sh : List kd} {σ τ : St} {r : Unit} (hsh : cSh sh) {p0 : Nat} (hp0 : rSh sh p0) (hE : fX6_clear sh σ p0 = some (r, τ)) : i_X 2 51 [.ref p0] (s_h sh σ) 0 0 none (s_h sh τ) := by
  refine g_X (M := mX6_clear) (loc := [.ref p0]) rfl (Nat.le_of_ble_eq_true rfl) rfl ?_
  unfold fX6_clear at hE
  refine g_ldan aX6_clear_0 rfl ?_
  refine g_iconst (x := 0) aX6_clear_1 rfl ?_
  refine g_putI aX6_clear_2 (hp0.1) rfl rfl ?_
  refine g_ldan aX6_clear_5 rfl ?_
  refine g_iconst (x := 0) aX6_clear_6 rfl ?_
  refine g_putI aX6_clear_7 (hp0.1) rfl rfl ?_
  refine g_ldan aX6_clear_10 rfl ?_
  refine g_iconst (x := 0) aX6_clear_11 rfl ?_
  refine g_putI aX6_clear_12 (hp0.1) rfl rfl ?_
  refine g_ldan aX6_clear_15 rfl ?_
  refine g_iconst (x := 0) aX6_clear_16 rfl ?_
  refine g_putI aX6_clear_17 (hp0.1) rfl rfl ?_
  refine g_ldan aX6_clear_20 rfl ?_
  refine g_iconst (x := 0) aX6_clear_21 rfl ?_
  refine g_putI aX6_clear_22 (hp0.1) rfl rfl ?_
  refine g_ldan aX6_clear_25 rfl ?_
  refine g_getR aX6_clear_26 (hp0.1) rfl ?_
  refine g_iconst (x := 0) aX6_clear_29 rfl ?_
  obtain ⟨r1, s2, h3, hE⟩ := i_bd_some hE
  refine g_calS (As := [.ref (p0 + 1), .int 0]) (rest := []) aX6_clear_30 (i_X_mono (by omega) (tJ7_fill_53178 hsh h3)) rfl rfl (Nat.le_of_ble_eq_true rfl) rfl ?_
  refine g_ldan aX6_clear_33 rfl ?_
  refine g_getR aX6_clear_34 (hp0.1) rfl ?_
  refine g_iconst (x := 0) aX6_clear_37 rfl ?_
  obtain ⟨r4, s5, h6, hE⟩ := i_bd_some hE
  refine g_calS (As := [.ref (p0 + 2), .int 0]) (rest := []) aX6_clear_38 (i_X_mono (by omega) (tJ7_fill_53178 hsh h6)) rfl rfl (Nat.le_of_ble_eq_true rfl) rfl ?_
  refine g_ldan aX6_clear_41 rfl ?_
  refine g_getR aX6_clear_42 (hp0.1) rfl ?_
  refine g_iconst (x := (-1)) aX6_clear_45 rfl ?_
  obtain ⟨r7, s8, h9, hE⟩ := i_bd_some hE
  refine g_calS (As := [.ref (p0 + 3), .int (-1)]) (rest := []) aX6_clear_46 (i_X_mono (by omega) (tJ7_fill_53178 hsh h9)) rfl rfl (Nat.le_of_ble_eq_true rfl) rfl ?_
  refine g_ldan aX6_clear_49 rfl ?_
  refine g_getR aX6_clear_50 (hp0.1) rfl ?_
  refine g_iconst (x := 0) aX6_clear_53 rfl ?_
  obtain ⟨r10, s11, h12, hE⟩ := i_bd_some hE
  refine g_calS (As := [.ref (p0 + 4), .int 0]) (rest := []) aX6_clear_54 (i_X_mono (by omega) (tJ7_fill_53178 hsh h12)) rfl rfl (Nat.le_of_ble_eq_true rfl) rfl ?_
  refine g_ldan aX6_clear_57 rfl ?_
  refine g_getR aX6_clear_58 (hp0.1) rfl ?_
  refine g_iconst (x := 0) aX6_clear_61 rfl ?_
  obtain ⟨r13, s14, h15, hE⟩ := i_bd_some hE
  refine g_calS (As := [.ref (p0 + 5), .int 0]) (rest := []) aX6_clear_62 (i_X_mono (by omega) (tJ7_fill_53178 hsh h15)) rfl rfl (Nat.le_of_ble_eq_true rfl) rfl ?_
  obtain ⟨rfl, rfl⟩ := i_some_inj hE
  exact g_vret aX6_clear_65 rfl
theorem aX7_outcome_0 : i_at mX7_outcome.2.2.2.2.2 0 = some (.iconst 0, 1, 0, 0, 0, 0) := by decide +kernel
theorem aX7_outcome_1 : i_at mX7_outcome.2.2.2.2.2 1 = some (.istore 5, 2, 0, 0, 0, 0) := by decide +kernel
theorem aX7_outcome_3 : i_at mX7_outcome.2.2.2.2.2 3 = some (.iload_n 1, 1, 0, 0, 0, 0) := by decide +kernel
theorem aX7_outcome_4 : i_at mX7_outcome.2.2.2.2.2 4 = some (.istore 6, 2, 0, 0, 0, 0) := by decide +kernel
theorem aX7_outcome_6 : i_at mX7_outcome.2.2.2.2.2 6 = some (.iload 6, 2, 0, 0, 0, 0) := by decide +kernel
theorem aX7_outcome_8 : i_at mX7_outcome.2.2.2.2.2 8 = some (.iload_n 2, 1, 0, 0, 0, 0) := by decide +kernel
theorem aX7_outcome_9 : i_at mX7_outcome.2.2.2.2.2 9 = some (.if_icmp .ge 163, 3, 172, 0, 0, 0) := by decide +kernel
theorem aX7_outcome_12 : i_at mX7_outcome.2.2.2.2.2 12 = some (.iload 6, 2, 0, 0, 0, 0) := by decide +kernel
theorem aX7_outcome_14 : i_at mX7_outcome.2.2.2.2.2 14 = some (.aload_n 0, 1, 0, 0, 0, 0) := by decide +kernel
theorem aX7_outcome_15 : i_at mX7_outcome.2.2.2.2.2 15 = some (.getfield 7, 3, 6, 0, 736, 0) := by decide +kernel
theorem aX7_outcome_18 : i_at mX7_outcome.2.2.2.2.2 18 = some (.arraylength, 1, 0, 0, 0, 0) := by decide +kernel
theorem aX7_outcome_19 : i_at mX7_outcome.2.2.2.2.2 19 = some (.if_icmp .ge 153, 3, 172, 0, 0, 0) := by decide +kernel
theorem aX7_outcome_22 : i_at mX7_outcome.2.2.2.2.2 22 = some (.aload_n 0, 1, 0, 0, 0, 0) := by decide +kernel
theorem aX7_outcome_23 : i_at mX7_outcome.2.2.2.2.2 23 = some (.getfield 7, 3, 6, 0, 736, 0) := by decide +kernel
theorem aX7_outcome_26 : i_at mX7_outcome.2.2.2.2.2 26 = some (.iload 6, 2, 0, 0, 0, 0) := by decide +kernel
theorem aX7_outcome_28 : i_at mX7_outcome.2.2.2.2.2 28 = some (.iaload, 1, 0, 0, 0, 0) := by decide +kernel
theorem aX7_outcome_29 : i_at mX7_outcome.2.2.2.2.2 29 = some (.istore 7, 2, 0, 0, 0, 0) := by decide +kernel
theorem aX7_outcome_31 : i_at mX7_outcome.2.2.2.2.2 31 = some (.aload_n 0, 1, 0, 0, 0, 0) := by decide +kernel
theorem aX7_outcome_32 : i_at mX7_outcome.2.2.2.2.2 32 = some (.getfield 13, 3, 6, 1, 737, 0) := by decide +kernel
theorem aX7_outcome_35 : i_at mX7_outcome.2.2.2.2.2 35 = some (.iload 6, 2, 0, 0, 0, 0) := by decide +kernel
theorem aX7_outcome_37 : i_at mX7_outcome.2.2.2.2.2 37 = some (.iaload, 1, 0, 0, 0, 0) := by decide +kernel
theorem aX7_outcome_38 : i_at mX7_outcome.2.2.2.2.2 38 = some (.istore 8, 2, 0, 0, 0, 0) := by decide +kernel
theorem aX7_outcome_40 : i_at mX7_outcome.2.2.2.2.2 40 = some (.iload 7, 2, 0, 0, 0, 0) := by decide +kernel
theorem aX7_outcome_42 : i_at mX7_outcome.2.2.2.2.2 42 = some (.ifCond .ne 25, 3, 67, 0, 0, 0) := by decide +kernel
theorem aX7_outcome_45 : i_at mX7_outcome.2.2.2.2.2 45 = some (.iload 5, 2, 0, 0, 0, 0) := by decide +kernel
theorem aX7_outcome_47 : i_at mX7_outcome.2.2.2.2.2 47 = some (.aload 4, 2, 0, 0, 0, 0) := by decide +kernel
theorem aX7_outcome_49 : i_at mX7_outcome.2.2.2.2.2 49 = some (.arraylength, 1, 0, 0, 0, 0) := by decide +kernel
theorem aX7_outcome_50 : i_at mX7_outcome.2.2.2.2.2 50 = some (.if_icmp .ge 17, 3, 67, 0, 0, 0) := by decide +kernel
theorem aX7_outcome_53 : i_at mX7_outcome.2.2.2.2.2 53 = some (.aload 4, 2, 0, 0, 0, 0) := by decide +kernel
theorem aX7_outcome_55 : i_at mX7_outcome.2.2.2.2.2 55 = some (.iload 5, 2, 0, 0, 0, 0) := by decide +kernel
theorem aX7_outcome_57 : i_at mX7_outcome.2.2.2.2.2 57 = some (.iload 8, 2, 0, 0, 0, 0) := by decide +kernel
theorem aX7_outcome_59 : i_at mX7_outcome.2.2.2.2.2 59 = some (.i2l, 1, 0, 0, 0, 0) := by decide +kernel
theorem aX7_outcome_60 : i_at mX7_outcome.2.2.2.2.2 60 = some (.lastore, 1, 0, 0, 0, 0) := by decide +kernel
theorem aX7_outcome_61 : i_at mX7_outcome.2.2.2.2.2 61 = some (.iinc 5 1, 3, 0, 0, 0, 0) := by decide +kernel
theorem aX7_outcome_64 : i_at mX7_outcome.2.2.2.2.2 64 = some (.goto 102, 3, 166, 0, 0, 0) := by decide +kernel
theorem aX7_outcome_67 : i_at mX7_outcome.2.2.2.2.2 67 = some (.iload 7, 2, 0, 0, 0, 0) := by decide +kernel
theorem aX7_outcome_69 : i_at mX7_outcome.2.2.2.2.2 69 = some (.iconst 1, 1, 0, 0, 0, 0) := by decide +kernel
theorem aX7_outcome_70 : i_at mX7_outcome.2.2.2.2.2 70 = some (.if_icmp .ne 33, 3, 103, 0, 0, 0) := by decide +kernel
theorem aX7_outcome_73 : i_at mX7_outcome.2.2.2.2.2 73 = some (.iload 5, 2, 0, 0, 0, 0) := by decide +kernel
theorem aX7_outcome_75 : i_at mX7_outcome.2.2.2.2.2 75 = some (.aload 4, 2, 0, 0, 0, 0) := by decide +kernel
theorem aX7_outcome_77 : i_at mX7_outcome.2.2.2.2.2 77 = some (.arraylength, 1, 0, 0, 0, 0) := by decide +kernel
theorem aX7_outcome_78 : i_at mX7_outcome.2.2.2.2.2 78 = some (.if_icmp .ge 25, 3, 103, 0, 0, 0) := by decide +kernel
theorem aX7_outcome_81 : i_at mX7_outcome.2.2.2.2.2 81 = some (.iload 8, 2, 0, 0, 0, 0) := by decide +kernel
theorem aX7_outcome_83 : i_at mX7_outcome.2.2.2.2.2 83 = some (.aload_n 3, 1, 0, 0, 0, 0) := by decide +kernel
theorem aX7_outcome_84 : i_at mX7_outcome.2.2.2.2.2 84 = some (.arraylength, 1, 0, 0, 0, 0) := by decide +kernel
theorem aX7_outcome_85 : i_at mX7_outcome.2.2.2.2.2 85 = some (.if_icmp .ge 18, 3, 103, 0, 0, 0) := by decide +kernel
theorem aX7_outcome_88 : i_at mX7_outcome.2.2.2.2.2 88 = some (.aload 4, 2, 0, 0, 0, 0) := by decide +kernel
theorem aX7_outcome_90 : i_at mX7_outcome.2.2.2.2.2 90 = some (.iload 5, 2, 0, 0, 0, 0) := by decide +kernel
theorem aX7_outcome_92 : i_at mX7_outcome.2.2.2.2.2 92 = some (.aload_n 3, 1, 0, 0, 0, 0) := by decide +kernel
theorem aX7_outcome_93 : i_at mX7_outcome.2.2.2.2.2 93 = some (.iload 8, 2, 0, 0, 0, 0) := by decide +kernel
theorem aX7_outcome_95 : i_at mX7_outcome.2.2.2.2.2 95 = some (.laload, 1, 0, 0, 0, 0) := by decide +kernel
theorem aX7_outcome_96 : i_at mX7_outcome.2.2.2.2.2 96 = some (.lastore, 1, 0, 0, 0, 0) := by decide +kernel
theorem aX7_outcome_97 : i_at mX7_outcome.2.2.2.2.2 97 = some (.iinc 5 1, 3, 0, 0, 0, 0) := by decide +kernel
theorem aX7_outcome_100 : i_at mX7_outcome.2.2.2.2.2 100 = some (.goto 66, 3, 166, 0, 0, 0) := by decide +kernel
theorem aX7_outcome_103 : i_at mX7_outcome.2.2.2.2.2 103 = some (.iload 7, 2, 0, 0, 0, 0) := by decide +kernel
theorem aX7_outcome_105 : i_at mX7_outcome.2.2.2.2.2 105 = some (.iconst 2, 1, 0, 0, 0, 0) := by decide +kernel
theorem aX7_outcome_106 : i_at mX7_outcome.2.2.2.2.2 106 = some (.if_icmp .ne 27, 3, 133, 0, 0, 0) := by decide +kernel
theorem aX7_outcome_109 : i_at mX7_outcome.2.2.2.2.2 109 = some (.iload 5, 2, 0, 0, 0, 0) := by decide +kernel
theorem aX7_outcome_111 : i_at mX7_outcome.2.2.2.2.2 111 = some (.ifCond .le 22, 3, 133, 0, 0, 0) := by decide +kernel
theorem aX7_outcome_114 : i_at mX7_outcome.2.2.2.2.2 114 = some (.aload 4, 2, 0, 0, 0, 0) := by decide +kernel
theorem aX7_outcome_116 : i_at mX7_outcome.2.2.2.2.2 116 = some (.iload 5, 2, 0, 0, 0, 0) := by decide +kernel
theorem aX7_outcome_118 : i_at mX7_outcome.2.2.2.2.2 118 = some (.iconst 1, 1, 0, 0, 0, 0) := by decide +kernel
theorem aX7_outcome_119 : i_at mX7_outcome.2.2.2.2.2 119 = some (.isub, 1, 0, 0, 0, 0) := by decide +kernel
theorem aX7_outcome_120 : i_at mX7_outcome.2.2.2.2.2 120 = some (.lconst 1, 1, 0, 0, 0, 0) := by decide +kernel
theorem aX7_outcome_121 : i_at mX7_outcome.2.2.2.2.2 121 = some (.aload 4, 2, 0, 0, 0, 0) := by decide +kernel
theorem aX7_outcome_123 : i_at mX7_outcome.2.2.2.2.2 123 = some (.iload 5, 2, 0, 0, 0, 0) := by decide +kernel
theorem aX7_outcome_125 : i_at mX7_outcome.2.2.2.2.2 125 = some (.iconst 1, 1, 0, 0, 0, 0) := by decide +kernel
theorem aX7_outcome_126 : i_at mX7_outcome.2.2.2.2.2 126 = some (.isub, 1, 0, 0, 0, 0) := by decide +kernel
theorem aX7_outcome_127 : i_at mX7_outcome.2.2.2.2.2 127 = some (.laload, 1, 0, 0, 0, 0) := by decide +kernel
theorem aX7_outcome_128 : i_at mX7_outcome.2.2.2.2.2 128 = some (.lsub, 1, 0, 0, 0, 0) := by decide +kernel
theorem aX7_outcome_129 : i_at mX7_outcome.2.2.2.2.2 129 = some (.lastore, 1, 0, 0, 0, 0) := by decide +kernel
theorem aX7_outcome_130 : i_at mX7_outcome.2.2.2.2.2 130 = some (.goto 36, 3, 166, 0, 0, 0) := by decide +kernel
theorem aX7_outcome_133 : i_at mX7_outcome.2.2.2.2.2 133 = some (.iload 5, 2, 0, 0, 0, 0) := by decide +kernel
theorem aX7_outcome_135 : i_at mX7_outcome.2.2.2.2.2 135 = some (.iconst 1, 1, 0, 0, 0, 0) := by decide +kernel
theorem aX7_outcome_136 : i_at mX7_outcome.2.2.2.2.2 136 = some (.if_icmp .le 30, 3, 166, 0, 0, 0) := by decide +kernel
theorem aX7_outcome_139 : i_at mX7_outcome.2.2.2.2.2 139 = some (.iinc 5 (-1), 3, 0, 0, 0, 0) := by decide +kernel
theorem aX7_outcome_142 : i_at mX7_outcome.2.2.2.2.2 142 = some (.aload 4, 2, 0, 0, 0, 0) := by decide +kernel
theorem aX7_outcome_144 : i_at mX7_outcome.2.2.2.2.2 144 = some (.iload 5, 2, 0, 0, 0, 0) := by decide +kernel
theorem aX7_outcome_146 : i_at mX7_outcome.2.2.2.2.2 146 = some (.iconst 1, 1, 0, 0, 0, 0) := by decide +kernel
theorem aX7_outcome_147 : i_at mX7_outcome.2.2.2.2.2 147 = some (.isub, 1, 0, 0, 0, 0) := by decide +kernel
theorem aX7_outcome_148 : i_at mX7_outcome.2.2.2.2.2 148 = some (.iload 7, 2, 0, 0, 0, 0) := by decide +kernel
theorem aX7_outcome_150 : i_at mX7_outcome.2.2.2.2.2 150 = some (.aload 4, 2, 0, 0, 0, 0) := by decide +kernel
theorem aX7_outcome_152 : i_at mX7_outcome.2.2.2.2.2 152 = some (.iload 5, 2, 0, 0, 0, 0) := by decide +kernel
theorem aX7_outcome_154 : i_at mX7_outcome.2.2.2.2.2 154 = some (.iconst 1, 1, 0, 0, 0, 0) := by decide +kernel
theorem aX7_outcome_155 : i_at mX7_outcome.2.2.2.2.2 155 = some (.isub, 1, 0, 0, 0, 0) := by decide +kernel
theorem aX7_outcome_156 : i_at mX7_outcome.2.2.2.2.2 156 = some (.laload, 1, 0, 0, 0, 0) := by decide +kernel
theorem aX7_outcome_157 : i_at mX7_outcome.2.2.2.2.2 157 = some (.aload 4, 2, 0, 0, 0, 0) := by decide +kernel
theorem aX7_outcome_159 : i_at mX7_outcome.2.2.2.2.2 159 = some (.iload 5, 2, 0, 0, 0, 0) := by decide +kernel
theorem aX7_outcome_161 : i_at mX7_outcome.2.2.2.2.2 161 = some (.laload, 1, 0, 0, 0, 0) := by decide +kernel
theorem aX7_outcome_162 : i_at mX7_outcome.2.2.2.2.2 162 = some (.invokestatic 26, 3, 60, 3, 835, 0) := by decide +kernel
theorem aX7_outcome_165 : i_at mX7_outcome.2.2.2.2.2 165 = some (.lastore, 1, 0, 0, 0, 0) := by decide +kernel
theorem aX7_outcome_166 : i_at mX7_outcome.2.2.2.2.2 166 = some (.iinc 6 1, 3, 0, 0, 0, 0) := by decide +kernel
theorem aX7_outcome_169 : i_at mX7_outcome.2.2.2.2.2 169 = some (.goto (-163), 3, 6, 0, 0, 0) := by decide +kernel
theorem aX7_outcome_172 : i_at mX7_outcome.2.2.2.2.2 172 = some (.iload 5, 2, 0, 0, 0, 0) := by decide +kernel
theorem aX7_outcome_174 : i_at mX7_outcome.2.2.2.2.2 174 = some (.ifCond .le 13, 3, 187, 0, 0, 0) := by decide +kernel
theorem aX7_outcome_177 : i_at mX7_outcome.2.2.2.2.2 177 = some (.aload 4, 2, 0, 0, 0, 0) := by decide +kernel
theorem aX7_outcome_179 : i_at mX7_outcome.2.2.2.2.2 179 = some (.iload 5, 2, 0, 0, 0, 0) := by decide +kernel
theorem aX7_outcome_181 : i_at mX7_outcome.2.2.2.2.2 181 = some (.iconst 1, 1, 0, 0, 0, 0) := by decide +kernel
theorem aX7_outcome_182 : i_at mX7_outcome.2.2.2.2.2 182 = some (.isub, 1, 0, 0, 0, 0) := by decide +kernel
theorem aX7_outcome_183 : i_at mX7_outcome.2.2.2.2.2 183 = some (.laload, 1, 0, 0, 0, 0) := by decide +kernel
theorem aX7_outcome_184 : i_at mX7_outcome.2.2.2.2.2 184 = some (.goto 4, 3, 188, 0, 0, 0) := by decide +kernel
theorem aX7_outcome_187 : i_at mX7_outcome.2.2.2.2.2 187 = some (.lconst 0, 1, 0, 0, 0, 0) := by decide +kernel
theorem aX7_outcome_188 : i_at mX7_outcome.2.2.2.2.2 188 = some (.lreturn, 1, 0, 0, 0, 0) := by decide +kernel
noncomputable def fX7_outcome_J166 (sh : List kd) (p0 : Nat) (p1 : Int32) (p2 : Int32) (p3 : Nat) (p4 : Nat) (x2 : Int32) (s5 : St) (k6 : Int32 → Int32 → Value → Value → St → Option (Int64 × St)) (x122 : Int32) (s123 : St) : Option (Int64 × St) := k6 x122 (x2 + 1) (.int (s5.2.1 (p0 + 1) x2.toNatClampNeg)) (.int (s5.2.1 (p0 + 2) x2.toNatClampNeg)) s123
noncomputable def fX7_outcome_L6 (sh : List kd) (p0 : Nat) (p1 : Int32) (p2 : Int32) (p3 : Nat) (p4 : Nat) (k172 : Int32 → Int32 → Value → Value → St → Option (Int64 × St)) : Nat → Int32 → Int32 → Value → Value → St → Option (Int64 × St)
  | 0, _, _, _, _, _ => none
  | n61 + 1, x1, x2, x3, x4, s5 => if p2 ≤ x2 then k172 x1 x2 x3 x4 s5 else i_al sh .int (p0 + 1) (fun n63 => if (Int32.ofNat n63) ≤ x2 then k172 x1 x2 x3 x4 s5 else i_al sh .int (p0 + 1) (fun n66 => if i_ok x2 n66 then i_al sh .int (p0 + 2) (fun n69 => if i_ok x2 n69 then if ¬ (s5.2.1 (p0 + 1) x2.toNatClampNeg) = 0 then if ¬ (s5.2.1 (p0 + 1) x2.toNatClampNeg) = 1 then if ¬ (s5.2.1 (p0 + 1) x2.toNatClampNeg) = 2 then if x1 ≤ 1 then fX7_outcome_J166 sh p0 p1 p2 p3 p4 x2 s5 (fX7_outcome_L6 sh p0 p1 p2 p3 p4 k172 n61) x1 s5 else i_al sh .long p4 (fun n128 => if i_ok ((x1 + (-1)) - 1) n128 then i_al sh .long p4 (fun n131 => if i_ok (x1 + (-1)) n131 then i_bd (fX7_joined sh s5 (s5.2.1 (p0 + 1) x2.toNatClampNeg) (s5.2.2.1 p4 ((x1 + (-1)) - 1).toNatClampNeg) (s5.2.2.1 p4 (x1 + (-1)).toNatClampNeg)) (fun r134 s135 => i_al sh .long p4 (fun n137 => if i_ok ((x1 + (-1)) - 1) n137 then fX7_outcome_J166 sh p0 p1 p2 p3 p4 x2 s5 (fX7_outcome_L6 sh p0 p1 p2 p3 p4 k172 n61) (x1 + (-1)) (s_L s135 p4 ((x1 + (-1)) - 1).toNatClampNeg r134) else none)) else none) else none) else if x1 ≤ 0 then if x1 ≤ 1 then fX7_outcome_J166 sh p0 p1 p2 p3 p4 x2 s5 (fX7_outcome_L6 sh p0 p1 p2 p3 p4 k172 n61) x1 s5 else i_al sh .long p4 (fun n142 => if i_ok ((x1 + (-1)) - 1) n142 then i_al sh .long p4 (fun n145 => if i_ok (x1 + (-1)) n145 then i_bd (fX7_joined sh s5 (s5.2.1 (p0 + 1) x2.toNatClampNeg) (s5.2.2.1 p4 ((x1 + (-1)) - 1).toNatClampNeg) (s5.2.2.1 p4 (x1 + (-1)).toNatClampNeg)) (fun r148 s149 => i_al sh .long p4 (fun n151 => if i_ok ((x1 + (-1)) - 1) n151 then fX7_outcome_J166 sh p0 p1 p2 p3 p4 x2 s5 (fX7_outcome_L6 sh p0 p1 p2 p3 p4 k172 n61) (x1 + (-1)) (s_L s149 p4 ((x1 + (-1)) - 1).toNatClampNeg r148) else none)) else none) else none) else i_al sh .long p4 (fun n154 => if i_ok (x1 - 1) n154 then i_al sh .long p4 (fun n157 => if i_ok (x1 - 1) n157 then fX7_outcome_J166 sh p0 p1 p2 p3 p4 x2 s5 (fX7_outcome_L6 sh p0 p1 p2 p3 p4 k172 n61) x1 (s_L s5 p4 (x1 - 1).toNatClampNeg (1 - (s5.2.2.1 p4 (x1 - 1).toNatClampNeg))) else none) else none) else i_al sh .long p4 (fun n160 => if (Int32.ofNat n160) ≤ x1 then if ¬ (s5.2.1 (p0 + 1) x2.toNatClampNeg) = 2 then if x1 ≤ 1 then fX7_outcome_J166 sh p0 p1 p2 p3 p4 x2 s5 (fX7_outcome_L6 sh p0 p1 p2 p3 p4 k172 n61) x1 s5 else i_al sh .long p4 (fun n165 => if i_ok ((x1 + (-1)) - 1) n165 then i_al sh .long p4 (fun n168 => if i_ok (x1 + (-1)) n168 then i_bd (fX7_joined sh s5 (s5.2.1 (p0 + 1) x2.toNatClampNeg) (s5.2.2.1 p4 ((x1 + (-1)) - 1).toNatClampNeg) (s5.2.2.1 p4 (x1 + (-1)).toNatClampNeg)) (fun r171 s172 => i_al sh .long p4 (fun n174 => if i_ok ((x1 + (-1)) - 1) n174 then fX7_outcome_J166 sh p0 p1 p2 p3 p4 x2 s5 (fX7_outcome_L6 sh p0 p1 p2 p3 p4 k172 n61) (x1 + (-1)) (s_L s172 p4 ((x1 + (-1)) - 1).toNatClampNeg r171) else none)) else none) else none) else if x1 ≤ 0 then if x1 ≤ 1 then fX7_outcome_J166 sh p0 p1 p2 p3 p4 x2 s5 (fX7_outcome_L6 sh p0 p1 p2 p3 p4 k172 n61) x1 s5 else i_al sh .long p4 (fun n179 => if i_ok ((x1 + (-1)) - 1) n179 then i_al sh .long p4 (fun n182 => if i_ok (x1 + (-1)) n182 then i_bd (fX7_joined sh s5 (s5.2.1 (p0 + 1) x2.toNatClampNeg) (s5.2.2.1 p4 ((x1 + (-1)) - 1).toNatClampNeg) (s5.2.2.1 p4 (x1 + (-1)).toNatClampNeg)) (fun r185 s186 => i_al sh .long p4 (fun n188 => if i_ok ((x1 + (-1)) - 1) n188 then fX7_outcome_J166 sh p0 p1 p2 p3 p4 x2 s5 (fX7_outcome_L6 sh p0 p1 p2 p3 p4 k172 n61) (x1 + (-1)) (s_L s186 p4 ((x1 + (-1)) - 1).toNatClampNeg r185) else none)) else none) else none) else i_al sh .long p4 (fun n191 => if i_ok (x1 - 1) n191 then i_al sh .long p4 (fun n194 => if i_ok (x1 - 1) n194 then fX7_outcome_J166 sh p0 p1 p2 p3 p4 x2 s5 (fX7_outcome_L6 sh p0 p1 p2 p3 p4 k172 n61) x1 (s_L s5 p4 (x1 - 1).toNatClampNeg (1 - (s5.2.2.1 p4 (x1 - 1).toNatClampNeg))) else none) else none) else i_al sh .long p3 (fun n197 => if (Int32.ofNat n197) ≤ (s5.2.1 (p0 + 2) x2.toNatClampNeg) then if ¬ (s5.2.1 (p0 + 1) x2.toNatClampNeg) = 2 then if x1 ≤ 1 then fX7_outcome_J166 sh p0 p1 p2 p3 p4 x2 s5 (fX7_outcome_L6 sh p0 p1 p2 p3 p4 k172 n61) x1 s5 else i_al sh .long p4 (fun n202 => if i_ok ((x1 + (-1)) - 1) n202 then i_al sh .long p4 (fun n205 => if i_ok (x1 + (-1)) n205 then i_bd (fX7_joined sh s5 (s5.2.1 (p0 + 1) x2.toNatClampNeg) (s5.2.2.1 p4 ((x1 + (-1)) - 1).toNatClampNeg) (s5.2.2.1 p4 (x1 + (-1)).toNatClampNeg)) (fun r208 s209 => i_al sh .long p4 (fun n211 => if i_ok ((x1 + (-1)) - 1) n211 then fX7_outcome_J166 sh p0 p1 p2 p3 p4 x2 s5 (fX7_outcome_L6 sh p0 p1 p2 p3 p4 k172 n61) (x1 + (-1)) (s_L s209 p4 ((x1 + (-1)) - 1).toNatClampNeg r208) else none)) else none) else none) else if x1 ≤ 0 then if x1 ≤ 1 then fX7_outcome_J166 sh p0 p1 p2 p3 p4 x2 s5 (fX7_outcome_L6 sh p0 p1 p2 p3 p4 k172 n61) x1 s5 else i_al sh .long p4 (fun n216 => if i_ok ((x1 + (-1)) - 1) n216 then i_al sh .long p4 (fun n219 => if i_ok (x1 + (-1)) n219 then i_bd (fX7_joined sh s5 (s5.2.1 (p0 + 1) x2.toNatClampNeg) (s5.2.2.1 p4 ((x1 + (-1)) - 1).toNatClampNeg) (s5.2.2.1 p4 (x1 + (-1)).toNatClampNeg)) (fun r222 s223 => i_al sh .long p4 (fun n225 => if i_ok ((x1 + (-1)) - 1) n225 then fX7_outcome_J166 sh p0 p1 p2 p3 p4 x2 s5 (fX7_outcome_L6 sh p0 p1 p2 p3 p4 k172 n61) (x1 + (-1)) (s_L s223 p4 ((x1 + (-1)) - 1).toNatClampNeg r222) else none)) else none) else none) else i_al sh .long p4 (fun n228 => if i_ok (x1 - 1) n228 then i_al sh .long p4 (fun n231 => if i_ok (x1 - 1) n231 then fX7_outcome_J166 sh p0 p1 p2 p3 p4 x2 s5 (fX7_outcome_L6 sh p0 p1 p2 p3 p4 k172 n61) x1 (s_L s5 p4 (x1 - 1).toNatClampNeg (1 - (s5.2.2.1 p4 (x1 - 1).toNatClampNeg))) else none) else none) else i_al sh .long p3 (fun n234 => if i_ok (s5.2.1 (p0 + 2) x2.toNatClampNeg) n234 then i_al sh .long p4 (fun n237 => if i_ok x1 n237 then fX7_outcome_J166 sh p0 p1 p2 p3 p4 x2 s5 (fX7_outcome_L6 sh p0 p1 p2 p3 p4 k172 n61) (x1 + 1) (s_L s5 p4 x1.toNatClampNeg (s5.2.2.1 p3 (s5.2.1 (p0 + 2) x2.toNatClampNeg).toNatClampNeg)) else none) else none))) else i_al sh .long p4 (fun n240 => if (Int32.ofNat n240) ≤ x1 then if ¬ (s5.2.1 (p0 + 1) x2.toNatClampNeg) = 1 then if ¬ (s5.2.1 (p0 + 1) x2.toNatClampNeg) = 2 then if x1 ≤ 1 then fX7_outcome_J166 sh p0 p1 p2 p3 p4 x2 s5 (fX7_outcome_L6 sh p0 p1 p2 p3 p4 k172 n61) x1 s5 else i_al sh .long p4 (fun n246 => if i_ok ((x1 + (-1)) - 1) n246 then i_al sh .long p4 (fun n249 => if i_ok (x1 + (-1)) n249 then i_bd (fX7_joined sh s5 (s5.2.1 (p0 + 1) x2.toNatClampNeg) (s5.2.2.1 p4 ((x1 + (-1)) - 1).toNatClampNeg) (s5.2.2.1 p4 (x1 + (-1)).toNatClampNeg)) (fun r252 s253 => i_al sh .long p4 (fun n255 => if i_ok ((x1 + (-1)) - 1) n255 then fX7_outcome_J166 sh p0 p1 p2 p3 p4 x2 s5 (fX7_outcome_L6 sh p0 p1 p2 p3 p4 k172 n61) (x1 + (-1)) (s_L s253 p4 ((x1 + (-1)) - 1).toNatClampNeg r252) else none)) else none) else none) else if x1 ≤ 0 then if x1 ≤ 1 then fX7_outcome_J166 sh p0 p1 p2 p3 p4 x2 s5 (fX7_outcome_L6 sh p0 p1 p2 p3 p4 k172 n61) x1 s5 else i_al sh .long p4 (fun n260 => if i_ok ((x1 + (-1)) - 1) n260 then i_al sh .long p4 (fun n263 => if i_ok (x1 + (-1)) n263 then i_bd (fX7_joined sh s5 (s5.2.1 (p0 + 1) x2.toNatClampNeg) (s5.2.2.1 p4 ((x1 + (-1)) - 1).toNatClampNeg) (s5.2.2.1 p4 (x1 + (-1)).toNatClampNeg)) (fun r266 s267 => i_al sh .long p4 (fun n269 => if i_ok ((x1 + (-1)) - 1) n269 then fX7_outcome_J166 sh p0 p1 p2 p3 p4 x2 s5 (fX7_outcome_L6 sh p0 p1 p2 p3 p4 k172 n61) (x1 + (-1)) (s_L s267 p4 ((x1 + (-1)) - 1).toNatClampNeg r266) else none)) else none) else none) else i_al sh .long p4 (fun n272 => if i_ok (x1 - 1) n272 then i_al sh .long p4 (fun n275 => if i_ok (x1 - 1) n275 then fX7_outcome_J166 sh p0 p1 p2 p3 p4 x2 s5 (fX7_outcome_L6 sh p0 p1 p2 p3 p4 k172 n61) x1 (s_L s5 p4 (x1 - 1).toNatClampNeg (1 - (s5.2.2.1 p4 (x1 - 1).toNatClampNeg))) else none) else none) else i_al sh .long p4 (fun n278 => if (Int32.ofNat n278) ≤ x1 then if ¬ (s5.2.1 (p0 + 1) x2.toNatClampNeg) = 2 then if x1 ≤ 1 then fX7_outcome_J166 sh p0 p1 p2 p3 p4 x2 s5 (fX7_outcome_L6 sh p0 p1 p2 p3 p4 k172 n61) x1 s5 else i_al sh .long p4 (fun n283 => if i_ok ((x1 + (-1)) - 1) n283 then i_al sh .long p4 (fun n286 => if i_ok (x1 + (-1)) n286 then i_bd (fX7_joined sh s5 (s5.2.1 (p0 + 1) x2.toNatClampNeg) (s5.2.2.1 p4 ((x1 + (-1)) - 1).toNatClampNeg) (s5.2.2.1 p4 (x1 + (-1)).toNatClampNeg)) (fun r289 s290 => i_al sh .long p4 (fun n292 => if i_ok ((x1 + (-1)) - 1) n292 then fX7_outcome_J166 sh p0 p1 p2 p3 p4 x2 s5 (fX7_outcome_L6 sh p0 p1 p2 p3 p4 k172 n61) (x1 + (-1)) (s_L s290 p4 ((x1 + (-1)) - 1).toNatClampNeg r289) else none)) else none) else none) else if x1 ≤ 0 then if x1 ≤ 1 then fX7_outcome_J166 sh p0 p1 p2 p3 p4 x2 s5 (fX7_outcome_L6 sh p0 p1 p2 p3 p4 k172 n61) x1 s5 else i_al sh .long p4 (fun n297 => if i_ok ((x1 + (-1)) - 1) n297 then i_al sh .long p4 (fun n300 => if i_ok (x1 + (-1)) n300 then i_bd (fX7_joined sh s5 (s5.2.1 (p0 + 1) x2.toNatClampNeg) (s5.2.2.1 p4 ((x1 + (-1)) - 1).toNatClampNeg) (s5.2.2.1 p4 (x1 + (-1)).toNatClampNeg)) (fun r303 s304 => i_al sh .long p4 (fun n306 => if i_ok ((x1 + (-1)) - 1) n306 then fX7_outcome_J166 sh p0 p1 p2 p3 p4 x2 s5 (fX7_outcome_L6 sh p0 p1 p2 p3 p4 k172 n61) (x1 + (-1)) (s_L s304 p4 ((x1 + (-1)) - 1).toNatClampNeg r303) else none)) else none) else none) else i_al sh .long p4 (fun n309 => if i_ok (x1 - 1) n309 then i_al sh .long p4 (fun n312 => if i_ok (x1 - 1) n312 then fX7_outcome_J166 sh p0 p1 p2 p3 p4 x2 s5 (fX7_outcome_L6 sh p0 p1 p2 p3 p4 k172 n61) x1 (s_L s5 p4 (x1 - 1).toNatClampNeg (1 - (s5.2.2.1 p4 (x1 - 1).toNatClampNeg))) else none) else none) else i_al sh .long p3 (fun n315 => if (Int32.ofNat n315) ≤ (s5.2.1 (p0 + 2) x2.toNatClampNeg) then if ¬ (s5.2.1 (p0 + 1) x2.toNatClampNeg) = 2 then if x1 ≤ 1 then fX7_outcome_J166 sh p0 p1 p2 p3 p4 x2 s5 (fX7_outcome_L6 sh p0 p1 p2 p3 p4 k172 n61) x1 s5 else i_al sh .long p4 (fun n320 => if i_ok ((x1 + (-1)) - 1) n320 then i_al sh .long p4 (fun n323 => if i_ok (x1 + (-1)) n323 then i_bd (fX7_joined sh s5 (s5.2.1 (p0 + 1) x2.toNatClampNeg) (s5.2.2.1 p4 ((x1 + (-1)) - 1).toNatClampNeg) (s5.2.2.1 p4 (x1 + (-1)).toNatClampNeg)) (fun r326 s327 => i_al sh .long p4 (fun n329 => if i_ok ((x1 + (-1)) - 1) n329 then fX7_outcome_J166 sh p0 p1 p2 p3 p4 x2 s5 (fX7_outcome_L6 sh p0 p1 p2 p3 p4 k172 n61) (x1 + (-1)) (s_L s327 p4 ((x1 + (-1)) - 1).toNatClampNeg r326) else none)) else none) else none) else if x1 ≤ 0 then if x1 ≤ 1 then fX7_outcome_J166 sh p0 p1 p2 p3 p4 x2 s5 (fX7_outcome_L6 sh p0 p1 p2 p3 p4 k172 n61) x1 s5 else i_al sh .long p4 (fun n334 => if i_ok ((x1 + (-1)) - 1) n334 then i_al sh .long p4 (fun n337 => if i_ok (x1 + (-1)) n337 then i_bd (fX7_joined sh s5 (s5.2.1 (p0 + 1) x2.toNatClampNeg) (s5.2.2.1 p4 ((x1 + (-1)) - 1).toNatClampNeg) (s5.2.2.1 p4 (x1 + (-1)).toNatClampNeg)) (fun r340 s341 => i_al sh .long p4 (fun n343 => if i_ok ((x1 + (-1)) - 1) n343 then fX7_outcome_J166 sh p0 p1 p2 p3 p4 x2 s5 (fX7_outcome_L6 sh p0 p1 p2 p3 p4 k172 n61) (x1 + (-1)) (s_L s341 p4 ((x1 + (-1)) - 1).toNatClampNeg r340) else none)) else none) else none) else i_al sh .long p4 (fun n346 => if i_ok (x1 - 1) n346 then i_al sh .long p4 (fun n349 => if i_ok (x1 - 1) n349 then fX7_outcome_J166 sh p0 p1 p2 p3 p4 x2 s5 (fX7_outcome_L6 sh p0 p1 p2 p3 p4 k172 n61) x1 (s_L s5 p4 (x1 - 1).toNatClampNeg (1 - (s5.2.2.1 p4 (x1 - 1).toNatClampNeg))) else none) else none) else i_al sh .long p3 (fun n352 => if i_ok (s5.2.1 (p0 + 2) x2.toNatClampNeg) n352 then i_al sh .long p4 (fun n355 => if i_ok x1 n355 then fX7_outcome_J166 sh p0 p1 p2 p3 p4 x2 s5 (fX7_outcome_L6 sh p0 p1 p2 p3 p4 k172 n61) (x1 + 1) (s_L s5 p4 x1.toNatClampNeg (s5.2.2.1 p3 (s5.2.1 (p0 + 2) x2.toNatClampNeg).toNatClampNeg)) else none) else none))) else i_al sh .long p4 (fun n358 => if i_ok x1 n358 then fX7_outcome_J166 sh p0 p1 p2 p3 p4 x2 s5 (fX7_outcome_L6 sh p0 p1 p2 p3 p4 k172 n61) (x1 + 1) (s_L s5 p4 x1.toNatClampNeg ((s5.2.1 (p0 + 2) x2.toNatClampNeg).toInt64)) else none)) else none) else none))
noncomputable def fX7_outcome_J188 (sh : List kd) (p0 : Nat) (p1 : Int32) (p2 : Int32) (p3 : Nat) (p4 : Nat) (x56 : Int32) (x57 : Int32) (x58 : Value) (x59 : Value) (s60 : St) (x411 : Int64) : Option (Int64 × St) := some (x411, s60)
noncomputable def fX7_outcome_X172 (sh : List kd) (p0 : Nat) (p1 : Int32) (p2 : Int32) (p3 : Nat) (p4 : Nat) (x56 : Int32) (x57 : Int32) (x58 : Value) (x59 : Value) (s60 : St) : Option (Int64 × St) := if x56 ≤ 0 then fX7_outcome_J188 sh p0 p1 p2 p3 p4 x56 x57 x58 x59 s60 0 else i_al sh .long p4 (fun n413 => if i_ok (x56 - 1) n413 then fX7_outcome_J188 sh p0 p1 p2 p3 p4 x56 x57 x58 x59 s60 (s60.2.2.1 p4 (x56 - 1).toNatClampNeg) else none)
noncomputable def fX7_outcome (sh : List kd) (σ : St) (p0 : Nat) (p1 : Int32) (p2 : Int32) (p3 : Nat) (p4 : Nat) : Option (Int64 × St) := fX7_outcome_L6 sh p0 p1 p2 p3 p4 (fun (x56 : Int32) (x57 : Int32) (x58 : Value) (x59 : Value) (s60 : St) => fX7_outcome_X172 sh p0 p1 p2 p3 p4 x56 x57 x58 x59 s60) i_F 0 p1 (.retAddr 0) (.retAddr 0) σ
set_option maxRecDepth 20000 in
set_option maxHeartbeats 2000000 in
theorem tX7_outcome_J166 {sh : List kd} {τ : St} {r : Int64} (hsh : cSh sh) {p0 : Nat} {p1 : Int32} {p2 : Int32} {p3 : Nat} {p4 : Nat} {x2 : Int32} {s5 : St} {x122 : Int32} {s123 : St} {k6 : Int32 → Int32 → Value → Value → St → Option (Int64 × St)} (hp0 : uSh sh p0) (hk6 : ∀ (x1 : Int32) (x2 : Int32) (x3 : Value) (x4 : Value) (s5 : St), k6 x1 x2 x3 x4 s5 = some (r, τ) → g_R sh 1 mX7_outcome (some (.long r)) τ 6 [.ref p0, .int p1, .int p2, .ref p3, .ref p4, .int x1, .int x2, x3, x4] [] (s5)) (hE : fX7_outcome_J166 sh p0 p1 p2 p3 p4 x2 s5 k6 x122 s123 = some (r, τ)) : g_R sh 1 mX7_outcome (some (.long r)) τ 166 [.ref p0, .int p1, .int p2, .ref p3, .ref p4, .int x122, .int x2, .int (s5.2.1 (p0 + 1) x2.toNatClampNeg), .int (s5.2.1 (p0 + 2) x2.toNatClampNeg)] [] (s123) := by
  unfold fX7_outcome_J166 at hE
  refine g_iinc (y := 1) (loc2 := [.ref p0, .int p1, .int p2, .ref p3, .ref p4, .int x122, .int (x2 + 1), .int (s5.2.1 (p0 + 1) x2.toNatClampNeg), .int (s5.2.1 (p0 + 2) x2.toNatClampNeg)]) aX7_outcome_166 rfl rfl rfl ?_
  refine g_goto aX7_outcome_169 ?_
  exact hk6 _ _ _ _ _ hE
set_option maxRecDepth 20000 in
set_option maxHeartbeats 2000000 in
theorem tX7_outcome_L6 {sh : List kd} {τ : St} {r : Int64} (hsh : cSh sh) {p0 : Nat} {p1 : Int32} {p2 : Int32} {p3 : Nat} {p4 : Nat} {k172 : Int32 → Int32 → Value → Value → St → Option (Int64 × St)} (hp0 : uSh sh p0) (hk172 : ∀ (x56 : Int32) (x57 : Int32) (x58 : Value) (x59 : Value) (s60 : St), k172 x56 x57 x58 x59 s60 = some (r, τ) → g_R sh 1 mX7_outcome (some (.long r)) τ 172 [.ref p0, .int p1, .int p2, .ref p3, .ref p4, .int x56, .int x57, x58, x59] [] (s60)) : ∀ (n0 : Nat) (x1 : Int32) (x2 : Int32) (x3 : Value) (x4 : Value) (s5 : St), fX7_outcome_L6 sh p0 p1 p2 p3 p4 k172 n0 x1 x2 x3 x4 s5 = some (r, τ) → g_R sh 1 mX7_outcome (some (.long r)) τ 6 [.ref p0, .int p1, .int p2, .ref p3, .ref p4, .int x1, .int x2, x3, x4] [] (s5) := by
  intro n0
  induction n0 with
  | zero => intro _ _ _ _ _ hE; cases hE
  | succ n61 ih =>
    intro x1 x2 x3 x4 s5 hE
    unfold fX7_outcome_L6 at hE
    refine g_ldi aX7_outcome_6 rfl ?_
    refine g_ldin aX7_outcome_8 rfl ?_
    by_cases hc62 : p2 ≤ x2
    · rw [if_pos hc62] at hE
      refine g_ic_ge_t aX7_outcome_9 hc62 ?_
      exact hk172 _ _ _ _ _ hE
    · rw [if_neg hc62] at hE
      refine g_ic_ge_f aX7_outcome_9 hc62 ?_
      refine g_ldi aX7_outcome_12 rfl ?_
      refine g_ldan aX7_outcome_14 rfl ?_
      refine g_getR aX7_outcome_15 (hp0) rfl ?_
      obtain ⟨n63, h64, hE⟩ := i_al_some hE
      refine g_len aX7_outcome_18 h64 ?_
      by_cases hc65 : (Int32.ofNat n63) ≤ x2
      · rw [if_pos hc65] at hE
        refine g_ic_ge_t aX7_outcome_19 hc65 ?_
        exact hk172 _ _ _ _ _ hE
      · rw [if_neg hc65] at hE
        refine g_ic_ge_f aX7_outcome_19 hc65 ?_
        refine g_ldan aX7_outcome_22 rfl ?_
        refine g_getR aX7_outcome_23 (hp0) rfl ?_
        refine g_ldi aX7_outcome_26 rfl ?_
        obtain ⟨n66, h67, hE⟩ := i_al_some hE
        obtain ⟨h68, hE⟩ := i_ifn hE
        refine g_ild aX7_outcome_28 (h67) h68 ?_
        refine g_sti (loc2 := [.ref p0, .int p1, .int p2, .ref p3, .ref p4, .int x1, .int x2, .int (s5.2.1 (p0 + 1) x2.toNatClampNeg), x4]) aX7_outcome_29 (Nat.le_of_ble_eq_true rfl) rfl ?_
        refine g_ldan aX7_outcome_31 rfl ?_
        refine g_getR aX7_outcome_32 (hp0) rfl ?_
        refine g_ldi aX7_outcome_35 rfl ?_
        obtain ⟨n69, h70, hE⟩ := i_al_some hE
        obtain ⟨h71, hE⟩ := i_ifn hE
        refine g_ild aX7_outcome_37 (h70) h71 ?_
        refine g_sti (loc2 := [.ref p0, .int p1, .int p2, .ref p3, .ref p4, .int x1, .int x2, .int (s5.2.1 (p0 + 1) x2.toNatClampNeg), .int (s5.2.1 (p0 + 2) x2.toNatClampNeg)]) aX7_outcome_38 (Nat.le_of_ble_eq_true rfl) rfl ?_
        refine g_ldi aX7_outcome_40 rfl ?_
        by_cases hc124 : ¬ (s5.2.1 (p0 + 1) x2.toNatClampNeg) = 0
        · rw [if_pos hc124] at hE
          refine g_if_ne_t aX7_outcome_42 hc124 ?_
          refine g_ldi aX7_outcome_67 rfl ?_
          refine g_iconst (x := 1) aX7_outcome_69 rfl ?_
          by_cases hc125 : ¬ (s5.2.1 (p0 + 1) x2.toNatClampNeg) = 1
          · rw [if_pos hc125] at hE
            refine g_ic_ne_t aX7_outcome_70 hc125 ?_
            refine g_ldi aX7_outcome_103 rfl ?_
            refine g_iconst (x := 2) aX7_outcome_105 rfl ?_
            by_cases hc126 : ¬ (s5.2.1 (p0 + 1) x2.toNatClampNeg) = 2
            · rw [if_pos hc126] at hE
              refine g_ic_ne_t aX7_outcome_106 hc126 ?_
              refine g_ldi aX7_outcome_133 rfl ?_
              refine g_iconst (x := 1) aX7_outcome_135 rfl ?_
              by_cases hc127 : x1 ≤ 1
              · rw [if_pos hc127] at hE
                refine g_ic_le_t aX7_outcome_136 hc127 ?_
                exact tX7_outcome_J166 hsh hp0 ih hE
              · rw [if_neg hc127] at hE
                refine g_ic_le_f aX7_outcome_136 hc127 ?_
                refine g_iinc (y := (-1)) (loc2 := [.ref p0, .int p1, .int p2, .ref p3, .ref p4, .int (x1 + (-1)), .int x2, .int (s5.2.1 (p0 + 1) x2.toNatClampNeg), .int (s5.2.1 (p0 + 2) x2.toNatClampNeg)]) aX7_outcome_139 rfl rfl rfl ?_
                refine g_lda aX7_outcome_142 rfl ?_
                refine g_ldi aX7_outcome_144 rfl ?_
                refine g_iconst (x := 1) aX7_outcome_146 rfl ?_
                refine g_isub aX7_outcome_147 ?_
                refine g_ldi aX7_outcome_148 rfl ?_
                refine g_lda aX7_outcome_150 rfl ?_
                refine g_ldi aX7_outcome_152 rfl ?_
                refine g_iconst (x := 1) aX7_outcome_154 rfl ?_
                refine g_isub aX7_outcome_155 ?_
                obtain ⟨n128, h129, hE⟩ := i_al_some hE
                obtain ⟨h130, hE⟩ := i_ifn hE
                refine g_lld aX7_outcome_156 (h129) h130 ?_
                refine g_lda aX7_outcome_157 rfl ?_
                refine g_ldi aX7_outcome_159 rfl ?_
                obtain ⟨n131, h132, hE⟩ := i_al_some hE
                obtain ⟨h133, hE⟩ := i_ifn hE
                refine g_lld aX7_outcome_161 (h132) h133 ?_
                obtain ⟨r134, s135, h136, hE⟩ := i_bd_some hE
                refine g_calS (As := [.int (s5.2.1 (p0 + 1) x2.toNatClampNeg), .long (s5.2.2.1 p4 ((x1 + (-1)) - 1).toNatClampNeg), .long (s5.2.2.1 p4 (x1 + (-1)).toNatClampNeg)]) (rest := [.int ((x1 + (-1)) - 1), .ref p4]) aX7_outcome_162 (i_X_mono (by omega) (tX7_joined hsh h136)) rfl rfl (Nat.le_of_ble_eq_true rfl) rfl ?_
                obtain ⟨n137, h138, hE⟩ := i_al_some hE
                obtain ⟨h139, hE⟩ := i_ifn hE
                refine g_lst aX7_outcome_165 (h138) h139 ?_
                exact tX7_outcome_J166 hsh hp0 ih hE
            · rw [if_neg hc126] at hE
              refine g_ic_ne_f aX7_outcome_106 hc126 ?_
              refine g_ldi aX7_outcome_109 rfl ?_
              by_cases hc140 : x1 ≤ 0
              · rw [if_pos hc140] at hE
                refine g_if_le_t aX7_outcome_111 hc140 ?_
                refine g_ldi aX7_outcome_133 rfl ?_
                refine g_iconst (x := 1) aX7_outcome_135 rfl ?_
                by_cases hc141 : x1 ≤ 1
                · rw [if_pos hc141] at hE
                  refine g_ic_le_t aX7_outcome_136 hc141 ?_
                  exact tX7_outcome_J166 hsh hp0 ih hE
                · rw [if_neg hc141] at hE
                  refine g_ic_le_f aX7_outcome_136 hc141 ?_
                  refine g_iinc (y := (-1)) (loc2 := [.ref p0, .int p1, .int p2, .ref p3, .ref p4, .int (x1 + (-1)), .int x2, .int (s5.2.1 (p0 + 1) x2.toNatClampNeg), .int (s5.2.1 (p0 + 2) x2.toNatClampNeg)]) aX7_outcome_139 rfl rfl rfl ?_
                  refine g_lda aX7_outcome_142 rfl ?_
                  refine g_ldi aX7_outcome_144 rfl ?_
                  refine g_iconst (x := 1) aX7_outcome_146 rfl ?_
                  refine g_isub aX7_outcome_147 ?_
                  refine g_ldi aX7_outcome_148 rfl ?_
                  refine g_lda aX7_outcome_150 rfl ?_
                  refine g_ldi aX7_outcome_152 rfl ?_
                  refine g_iconst (x := 1) aX7_outcome_154 rfl ?_
                  refine g_isub aX7_outcome_155 ?_
                  obtain ⟨n142, h143, hE⟩ := i_al_some hE
                  obtain ⟨h144, hE⟩ := i_ifn hE
                  refine g_lld aX7_outcome_156 (h143) h144 ?_
                  refine g_lda aX7_outcome_157 rfl ?_
                  refine g_ldi aX7_outcome_159 rfl ?_
                  obtain ⟨n145, h146, hE⟩ := i_al_some hE
                  obtain ⟨h147, hE⟩ := i_ifn hE
                  refine g_lld aX7_outcome_161 (h146) h147 ?_
                  obtain ⟨r148, s149, h150, hE⟩ := i_bd_some hE
                  refine g_calS (As := [.int (s5.2.1 (p0 + 1) x2.toNatClampNeg), .long (s5.2.2.1 p4 ((x1 + (-1)) - 1).toNatClampNeg), .long (s5.2.2.1 p4 (x1 + (-1)).toNatClampNeg)]) (rest := [.int ((x1 + (-1)) - 1), .ref p4]) aX7_outcome_162 (i_X_mono (by omega) (tX7_joined hsh h150)) rfl rfl (Nat.le_of_ble_eq_true rfl) rfl ?_
                  obtain ⟨n151, h152, hE⟩ := i_al_some hE
                  obtain ⟨h153, hE⟩ := i_ifn hE
                  refine g_lst aX7_outcome_165 (h152) h153 ?_
                  exact tX7_outcome_J166 hsh hp0 ih hE
              · rw [if_neg hc140] at hE
                refine g_if_le_f aX7_outcome_111 hc140 ?_
                refine g_lda aX7_outcome_114 rfl ?_
                refine g_ldi aX7_outcome_116 rfl ?_
                refine g_iconst (x := 1) aX7_outcome_118 rfl ?_
                refine g_isub aX7_outcome_119 ?_
                refine g_lconst (x := 1) aX7_outcome_120 rfl ?_
                refine g_lda aX7_outcome_121 rfl ?_
                refine g_ldi aX7_outcome_123 rfl ?_
                refine g_iconst (x := 1) aX7_outcome_125 rfl ?_
                refine g_isub aX7_outcome_126 ?_
                obtain ⟨n154, h155, hE⟩ := i_al_some hE
                obtain ⟨h156, hE⟩ := i_ifn hE
                refine g_lld aX7_outcome_127 (h155) h156 ?_
                refine g_lsub aX7_outcome_128 ?_
                obtain ⟨n157, h158, hE⟩ := i_al_some hE
                obtain ⟨h159, hE⟩ := i_ifn hE
                refine g_lst aX7_outcome_129 (h158) h159 ?_
                refine g_goto aX7_outcome_130 ?_
                exact tX7_outcome_J166 hsh hp0 ih hE
          · rw [if_neg hc125] at hE
            refine g_ic_ne_f aX7_outcome_70 hc125 ?_
            refine g_ldi aX7_outcome_73 rfl ?_
            refine g_lda aX7_outcome_75 rfl ?_
            obtain ⟨n160, h161, hE⟩ := i_al_some hE
            refine g_len aX7_outcome_77 h161 ?_
            by_cases hc162 : (Int32.ofNat n160) ≤ x1
            · rw [if_pos hc162] at hE
              refine g_ic_ge_t aX7_outcome_78 hc162 ?_
              refine g_ldi aX7_outcome_103 rfl ?_
              refine g_iconst (x := 2) aX7_outcome_105 rfl ?_
              by_cases hc163 : ¬ (s5.2.1 (p0 + 1) x2.toNatClampNeg) = 2
              · rw [if_pos hc163] at hE
                refine g_ic_ne_t aX7_outcome_106 hc163 ?_
                refine g_ldi aX7_outcome_133 rfl ?_
                refine g_iconst (x := 1) aX7_outcome_135 rfl ?_
                by_cases hc164 : x1 ≤ 1
                · rw [if_pos hc164] at hE
                  refine g_ic_le_t aX7_outcome_136 hc164 ?_
                  exact tX7_outcome_J166 hsh hp0 ih hE
                · rw [if_neg hc164] at hE
                  refine g_ic_le_f aX7_outcome_136 hc164 ?_
                  refine g_iinc (y := (-1)) (loc2 := [.ref p0, .int p1, .int p2, .ref p3, .ref p4, .int (x1 + (-1)), .int x2, .int (s5.2.1 (p0 + 1) x2.toNatClampNeg), .int (s5.2.1 (p0 + 2) x2.toNatClampNeg)]) aX7_outcome_139 rfl rfl rfl ?_
                  refine g_lda aX7_outcome_142 rfl ?_
                  refine g_ldi aX7_outcome_144 rfl ?_
                  refine g_iconst (x := 1) aX7_outcome_146 rfl ?_
                  refine g_isub aX7_outcome_147 ?_
                  refine g_ldi aX7_outcome_148 rfl ?_
                  refine g_lda aX7_outcome_150 rfl ?_
                  refine g_ldi aX7_outcome_152 rfl ?_
                  refine g_iconst (x := 1) aX7_outcome_154 rfl ?_
                  refine g_isub aX7_outcome_155 ?_
                  obtain ⟨n165, h166, hE⟩ := i_al_some hE
                  obtain ⟨h167, hE⟩ := i_ifn hE
                  refine g_lld aX7_outcome_156 (h166) h167 ?_
                  refine g_lda aX7_outcome_157 rfl ?_
                  refine g_ldi aX7_outcome_159 rfl ?_
                  obtain ⟨n168, h169, hE⟩ := i_al_some hE
                  obtain ⟨h170, hE⟩ := i_ifn hE
                  refine g_lld aX7_outcome_161 (h169) h170 ?_
                  obtain ⟨r171, s172, h173, hE⟩ := i_bd_some hE
                  refine g_calS (As := [.int (s5.2.1 (p0 + 1) x2.toNatClampNeg), .long (s5.2.2.1 p4 ((x1 + (-1)) - 1).toNatClampNeg), .long (s5.2.2.1 p4 (x1 + (-1)).toNatClampNeg)]) (rest := [.int ((x1 + (-1)) - 1), .ref p4]) aX7_outcome_162 (i_X_mono (by omega) (tX7_joined hsh h173)) rfl rfl (Nat.le_of_ble_eq_true rfl) rfl ?_
                  obtain ⟨n174, h175, hE⟩ := i_al_some hE
                  obtain ⟨h176, hE⟩ := i_ifn hE
                  refine g_lst aX7_outcome_165 (h175) h176 ?_
                  exact tX7_outcome_J166 hsh hp0 ih hE
              · rw [if_neg hc163] at hE
                refine g_ic_ne_f aX7_outcome_106 hc163 ?_
                refine g_ldi aX7_outcome_109 rfl ?_
                by_cases hc177 : x1 ≤ 0
                · rw [if_pos hc177] at hE
                  refine g_if_le_t aX7_outcome_111 hc177 ?_
                  refine g_ldi aX7_outcome_133 rfl ?_
                  refine g_iconst (x := 1) aX7_outcome_135 rfl ?_
                  by_cases hc178 : x1 ≤ 1
                  · rw [if_pos hc178] at hE
                    refine g_ic_le_t aX7_outcome_136 hc178 ?_
                    exact tX7_outcome_J166 hsh hp0 ih hE
                  · rw [if_neg hc178] at hE
                    refine g_ic_le_f aX7_outcome_136 hc178 ?_
                    refine g_iinc (y := (-1)) (loc2 := [.ref p0, .int p1, .int p2, .ref p3, .ref p4, .int (x1 + (-1)), .int x2, .int (s5.2.1 (p0 + 1) x2.toNatClampNeg), .int (s5.2.1 (p0 + 2) x2.toNatClampNeg)]) aX7_outcome_139 rfl rfl rfl ?_
                    refine g_lda aX7_outcome_142 rfl ?_
                    refine g_ldi aX7_outcome_144 rfl ?_
                    refine g_iconst (x := 1) aX7_outcome_146 rfl ?_
                    refine g_isub aX7_outcome_147 ?_
                    refine g_ldi aX7_outcome_148 rfl ?_
                    refine g_lda aX7_outcome_150 rfl ?_
                    refine g_ldi aX7_outcome_152 rfl ?_
                    refine g_iconst (x := 1) aX7_outcome_154 rfl ?_
                    refine g_isub aX7_outcome_155 ?_
                    obtain ⟨n179, h180, hE⟩ := i_al_some hE
                    obtain ⟨h181, hE⟩ := i_ifn hE
                    refine g_lld aX7_outcome_156 (h180) h181 ?_
                    refine g_lda aX7_outcome_157 rfl ?_
                    refine g_ldi aX7_outcome_159 rfl ?_
                    obtain ⟨n182, h183, hE⟩ := i_al_some hE
                    obtain ⟨h184, hE⟩ := i_ifn hE
                    refine g_lld aX7_outcome_161 (h183) h184 ?_
                    obtain ⟨r185, s186, h187, hE⟩ := i_bd_some hE
                    refine g_calS (As := [.int (s5.2.1 (p0 + 1) x2.toNatClampNeg), .long (s5.2.2.1 p4 ((x1 + (-1)) - 1).toNatClampNeg), .long (s5.2.2.1 p4 (x1 + (-1)).toNatClampNeg)]) (rest := [.int ((x1 + (-1)) - 1), .ref p4]) aX7_outcome_162 (i_X_mono (by omega) (tX7_joined hsh h187)) rfl rfl (Nat.le_of_ble_eq_true rfl) rfl ?_
                    obtain ⟨n188, h189, hE⟩ := i_al_some hE
                    obtain ⟨h190, hE⟩ := i_ifn hE
                    refine g_lst aX7_outcome_165 (h189) h190 ?_
                    exact tX7_outcome_J166 hsh hp0 ih hE
                · rw [if_neg hc177] at hE
                  refine g_if_le_f aX7_outcome_111 hc177 ?_
                  refine g_lda aX7_outcome_114 rfl ?_
                  refine g_ldi aX7_outcome_116 rfl ?_
                  refine g_iconst (x := 1) aX7_outcome_118 rfl ?_
                  refine g_isub aX7_outcome_119 ?_
                  refine g_lconst (x := 1) aX7_outcome_120 rfl ?_
                  refine g_lda aX7_outcome_121 rfl ?_
                  refine g_ldi aX7_outcome_123 rfl ?_
                  refine g_iconst (x := 1) aX7_outcome_125 rfl ?_
                  refine g_isub aX7_outcome_126 ?_
                  obtain ⟨n191, h192, hE⟩ := i_al_some hE
                  obtain ⟨h193, hE⟩ := i_ifn hE
                  refine g_lld aX7_outcome_127 (h192) h193 ?_
                  refine g_lsub aX7_outcome_128 ?_
                  obtain ⟨n194, h195, hE⟩ := i_al_some hE
                  obtain ⟨h196, hE⟩ := i_ifn hE
                  refine g_lst aX7_outcome_129 (h195) h196 ?_
                  refine g_goto aX7_outcome_130 ?_
                  exact tX7_outcome_J166 hsh hp0 ih hE
            · rw [if_neg hc162] at hE
              refine g_ic_ge_f aX7_outcome_78 hc162 ?_
              refine g_ldi aX7_outcome_81 rfl ?_
              refine g_ldan aX7_outcome_83 rfl ?_
              obtain ⟨n197, h198, hE⟩ := i_al_some hE
              refine g_len aX7_outcome_84 h198 ?_
              by_cases hc199 : (Int32.ofNat n197) ≤ (s5.2.1 (p0 + 2) x2.toNatClampNeg)
              · rw [if_pos hc199] at hE
                refine g_ic_ge_t aX7_outcome_85 hc199 ?_
                refine g_ldi aX7_outcome_103 rfl ?_
                refine g_iconst (x := 2) aX7_outcome_105 rfl ?_
                by_cases hc200 : ¬ (s5.2.1 (p0 + 1) x2.toNatClampNeg) = 2
                · rw [if_pos hc200] at hE
                  refine g_ic_ne_t aX7_outcome_106 hc200 ?_
                  refine g_ldi aX7_outcome_133 rfl ?_
                  refine g_iconst (x := 1) aX7_outcome_135 rfl ?_
                  by_cases hc201 : x1 ≤ 1
                  · rw [if_pos hc201] at hE
                    refine g_ic_le_t aX7_outcome_136 hc201 ?_
                    exact tX7_outcome_J166 hsh hp0 ih hE
                  · rw [if_neg hc201] at hE
                    refine g_ic_le_f aX7_outcome_136 hc201 ?_
                    refine g_iinc (y := (-1)) (loc2 := [.ref p0, .int p1, .int p2, .ref p3, .ref p4, .int (x1 + (-1)), .int x2, .int (s5.2.1 (p0 + 1) x2.toNatClampNeg), .int (s5.2.1 (p0 + 2) x2.toNatClampNeg)]) aX7_outcome_139 rfl rfl rfl ?_
                    refine g_lda aX7_outcome_142 rfl ?_
                    refine g_ldi aX7_outcome_144 rfl ?_
                    refine g_iconst (x := 1) aX7_outcome_146 rfl ?_
                    refine g_isub aX7_outcome_147 ?_
                    refine g_ldi aX7_outcome_148 rfl ?_
                    refine g_lda aX7_outcome_150 rfl ?_
                    refine g_ldi aX7_outcome_152 rfl ?_
                    refine g_iconst (x := 1) aX7_outcome_154 rfl ?_
                    refine g_isub aX7_outcome_155 ?_
                    obtain ⟨n202, h203, hE⟩ := i_al_some hE
                    obtain ⟨h204, hE⟩ := i_ifn hE
                    refine g_lld aX7_outcome_156 (h203) h204 ?_
                    refine g_lda aX7_outcome_157 rfl ?_
                    refine g_ldi aX7_outcome_159 rfl ?_
                    obtain ⟨n205, h206, hE⟩ := i_al_some hE
                    obtain ⟨h207, hE⟩ := i_ifn hE
                    refine g_lld aX7_outcome_161 (h206) h207 ?_
                    obtain ⟨r208, s209, h210, hE⟩ := i_bd_some hE
                    refine g_calS (As := [.int (s5.2.1 (p0 + 1) x2.toNatClampNeg), .long (s5.2.2.1 p4 ((x1 + (-1)) - 1).toNatClampNeg), .long (s5.2.2.1 p4 (x1 + (-1)).toNatClampNeg)]) (rest := [.int ((x1 + (-1)) - 1), .ref p4]) aX7_outcome_162 (i_X_mono (by omega) (tX7_joined hsh h210)) rfl rfl (Nat.le_of_ble_eq_true rfl) rfl ?_
                    obtain ⟨n211, h212, hE⟩ := i_al_some hE
                    obtain ⟨h213, hE⟩ := i_ifn hE
                    refine g_lst aX7_outcome_165 (h212) h213 ?_
                    exact tX7_outcome_J166 hsh hp0 ih hE
                · rw [if_neg hc200] at hE
                  refine g_ic_ne_f aX7_outcome_106 hc200 ?_
                  refine g_ldi aX7_outcome_109 rfl ?_
                  by_cases hc214 : x1 ≤ 0
                  · rw [if_pos hc214] at hE
                    refine g_if_le_t aX7_outcome_111 hc214 ?_
                    refine g_ldi aX7_outcome_133 rfl ?_
                    refine g_iconst (x := 1) aX7_outcome_135 rfl ?_
                    by_cases hc215 : x1 ≤ 1
                    · rw [if_pos hc215] at hE
                      refine g_ic_le_t aX7_outcome_136 hc215 ?_
                      exact tX7_outcome_J166 hsh hp0 ih hE
                    · rw [if_neg hc215] at hE
                      refine g_ic_le_f aX7_outcome_136 hc215 ?_
                      refine g_iinc (y := (-1)) (loc2 := [.ref p0, .int p1, .int p2, .ref p3, .ref p4, .int (x1 + (-1)), .int x2, .int (s5.2.1 (p0 + 1) x2.toNatClampNeg), .int (s5.2.1 (p0 + 2) x2.toNatClampNeg)]) aX7_outcome_139 rfl rfl rfl ?_
                      refine g_lda aX7_outcome_142 rfl ?_
                      refine g_ldi aX7_outcome_144 rfl ?_
                      refine g_iconst (x := 1) aX7_outcome_146 rfl ?_
                      refine g_isub aX7_outcome_147 ?_
                      refine g_ldi aX7_outcome_148 rfl ?_
                      refine g_lda aX7_outcome_150 rfl ?_
                      refine g_ldi aX7_outcome_152 rfl ?_
                      refine g_iconst (x := 1) aX7_outcome_154 rfl ?_
                      refine g_isub aX7_outcome_155 ?_
                      obtain ⟨n216, h217, hE⟩ := i_al_some hE
                      obtain ⟨h218, hE⟩ := i_ifn hE
                      refine g_lld aX7_outcome_156 (h217) h218 ?_
                      refine g_lda aX7_outcome_157 rfl ?_
                      refine g_ldi aX7_outcome_159 rfl ?_
                      obtain ⟨n219, h220, hE⟩ := i_al_some hE
                      obtain ⟨h221, hE⟩ := i_ifn hE
                      refine g_lld aX7_outcome_161 (h220) h221 ?_
                      obtain ⟨r222, s223, h224, hE⟩ := i_bd_some hE
                      refine g_calS (As := [.int (s5.2.1 (p0 + 1) x2.toNatClampNeg), .long (s5.2.2.1 p4 ((x1 + (-1)) - 1).toNatClampNeg), .long (s5.2.2.1 p4 (x1 + (-1)).toNatClampNeg)]) (rest := [.int ((x1 + (-1)) - 1), .ref p4]) aX7_outcome_162 (i_X_mono (by omega) (tX7_joined hsh h224)) rfl rfl (Nat.le_of_ble_eq_true rfl) rfl ?_
                      obtain ⟨n225, h226, hE⟩ := i_al_some hE
                      obtain ⟨h227, hE⟩ := i_ifn hE
                      refine g_lst aX7_outcome_165 (h226) h227 ?_
                      exact tX7_outcome_J166 hsh hp0 ih hE
                  · rw [if_neg hc214] at hE
                    refine g_if_le_f aX7_outcome_111 hc214 ?_
                    refine g_lda aX7_outcome_114 rfl ?_
                    refine g_ldi aX7_outcome_116 rfl ?_
                    refine g_iconst (x := 1) aX7_outcome_118 rfl ?_
                    refine g_isub aX7_outcome_119 ?_
                    refine g_lconst (x := 1) aX7_outcome_120 rfl ?_
                    refine g_lda aX7_outcome_121 rfl ?_
                    refine g_ldi aX7_outcome_123 rfl ?_
                    refine g_iconst (x := 1) aX7_outcome_125 rfl ?_
                    refine g_isub aX7_outcome_126 ?_
                    obtain ⟨n228, h229, hE⟩ := i_al_some hE
                    obtain ⟨h230, hE⟩ := i_ifn hE
                    refine g_lld aX7_outcome_127 (h229) h230 ?_
                    refine g_lsub aX7_outcome_128 ?_
                    obtain ⟨n231, h232, hE⟩ := i_al_some hE
                    obtain ⟨h233, hE⟩ := i_ifn hE
                    refine g_lst aX7_outcome_129 (h232) h233 ?_
                    refine g_goto aX7_outcome_130 ?_
                    exact tX7_outcome_J166 hsh hp0 ih hE
              · rw [if_neg hc199] at hE
                refine g_ic_ge_f aX7_outcome_85 hc199 ?_
                refine g_lda aX7_outcome_88 rfl ?_
                refine g_ldi aX7_outcome_90 rfl ?_
                refine g_ldan aX7_outcome_92 rfl ?_
                refine g_ldi aX7_outcome_93 rfl ?_
                obtain ⟨n234, h235, hE⟩ := i_al_some hE
                obtain ⟨h236, hE⟩ := i_ifn hE
                refine g_lld aX7_outcome_95 (h235) h236 ?_
                obtain ⟨n237, h238, hE⟩ := i_al_some hE
                obtain ⟨h239, hE⟩ := i_ifn hE
                refine g_lst aX7_outcome_96 (h238) h239 ?_
                refine g_iinc (y := 1) (loc2 := [.ref p0, .int p1, .int p2, .ref p3, .ref p4, .int (x1 + 1), .int x2, .int (s5.2.1 (p0 + 1) x2.toNatClampNeg), .int (s5.2.1 (p0 + 2) x2.toNatClampNeg)]) aX7_outcome_97 rfl rfl rfl ?_
                refine g_goto aX7_outcome_100 ?_
                exact tX7_outcome_J166 hsh hp0 ih hE
        · rw [if_neg hc124] at hE
          refine g_if_ne_f aX7_outcome_42 hc124 ?_
          refine g_ldi aX7_outcome_45 rfl ?_
          refine g_lda aX7_outcome_47 rfl ?_
          obtain ⟨n240, h241, hE⟩ := i_al_some hE
          refine g_len aX7_outcome_49 h241 ?_
          by_cases hc242 : (Int32.ofNat n240) ≤ x1
          · rw [if_pos hc242] at hE
            refine g_ic_ge_t aX7_outcome_50 hc242 ?_
            refine g_ldi aX7_outcome_67 rfl ?_
            refine g_iconst (x := 1) aX7_outcome_69 rfl ?_
            by_cases hc243 : ¬ (s5.2.1 (p0 + 1) x2.toNatClampNeg) = 1
            · rw [if_pos hc243] at hE
              refine g_ic_ne_t aX7_outcome_70 hc243 ?_
              refine g_ldi aX7_outcome_103 rfl ?_
              refine g_iconst (x := 2) aX7_outcome_105 rfl ?_
              by_cases hc244 : ¬ (s5.2.1 (p0 + 1) x2.toNatClampNeg) = 2
              · rw [if_pos hc244] at hE
                refine g_ic_ne_t aX7_outcome_106 hc244 ?_
                refine g_ldi aX7_outcome_133 rfl ?_
                refine g_iconst (x := 1) aX7_outcome_135 rfl ?_
                by_cases hc245 : x1 ≤ 1
                · rw [if_pos hc245] at hE
                  refine g_ic_le_t aX7_outcome_136 hc245 ?_
                  exact tX7_outcome_J166 hsh hp0 ih hE
                · rw [if_neg hc245] at hE
                  refine g_ic_le_f aX7_outcome_136 hc245 ?_
                  refine g_iinc (y := (-1)) (loc2 := [.ref p0, .int p1, .int p2, .ref p3, .ref p4, .int (x1 + (-1)), .int x2, .int (s5.2.1 (p0 + 1) x2.toNatClampNeg), .int (s5.2.1 (p0 + 2) x2.toNatClampNeg)]) aX7_outcome_139 rfl rfl rfl ?_
                  refine g_lda aX7_outcome_142 rfl ?_
                  refine g_ldi aX7_outcome_144 rfl ?_
                  refine g_iconst (x := 1) aX7_outcome_146 rfl ?_
                  refine g_isub aX7_outcome_147 ?_
                  refine g_ldi aX7_outcome_148 rfl ?_
                  refine g_lda aX7_outcome_150 rfl ?_
                  refine g_ldi aX7_outcome_152 rfl ?_
                  refine g_iconst (x := 1) aX7_outcome_154 rfl ?_
                  refine g_isub aX7_outcome_155 ?_
                  obtain ⟨n246, h247, hE⟩ := i_al_some hE
                  obtain ⟨h248, hE⟩ := i_ifn hE
                  refine g_lld aX7_outcome_156 (h247) h248 ?_
                  refine g_lda aX7_outcome_157 rfl ?_
                  refine g_ldi aX7_outcome_159 rfl ?_
                  obtain ⟨n249, h250, hE⟩ := i_al_some hE
                  obtain ⟨h251, hE⟩ := i_ifn hE
                  refine g_lld aX7_outcome_161 (h250) h251 ?_
                  obtain ⟨r252, s253, h254, hE⟩ := i_bd_some hE
                  refine g_calS (As := [.int (s5.2.1 (p0 + 1) x2.toNatClampNeg), .long (s5.2.2.1 p4 ((x1 + (-1)) - 1).toNatClampNeg), .long (s5.2.2.1 p4 (x1 + (-1)).toNatClampNeg)]) (rest := [.int ((x1 + (-1)) - 1), .ref p4]) aX7_outcome_162 (i_X_mono (by omega) (tX7_joined hsh h254)) rfl rfl (Nat.le_of_ble_eq_true rfl) rfl ?_
                  obtain ⟨n255, h256, hE⟩ := i_al_some hE
                  obtain ⟨h257, hE⟩ := i_ifn hE
                  refine g_lst aX7_outcome_165 (h256) h257 ?_
                  exact tX7_outcome_J166 hsh hp0 ih hE
              · rw [if_neg hc244] at hE
                refine g_ic_ne_f aX7_outcome_106 hc244 ?_
                refine g_ldi aX7_outcome_109 rfl ?_
                by_cases hc258 : x1 ≤ 0
                · rw [if_pos hc258] at hE
                  refine g_if_le_t aX7_outcome_111 hc258 ?_
                  refine g_ldi aX7_outcome_133 rfl ?_
                  refine g_iconst (x := 1) aX7_outcome_135 rfl ?_
                  by_cases hc259 : x1 ≤ 1
                  · rw [if_pos hc259] at hE
                    refine g_ic_le_t aX7_outcome_136 hc259 ?_
                    exact tX7_outcome_J166 hsh hp0 ih hE
                  · rw [if_neg hc259] at hE
                    refine g_ic_le_f aX7_outcome_136 hc259 ?_
                    refine g_iinc (y := (-1)) (loc2 := [.ref p0, .int p1, .int p2, .ref p3, .ref p4, .int (x1 + (-1)), .int x2, .int (s5.2.1 (p0 + 1) x2.toNatClampNeg), .int (s5.2.1 (p0 + 2) x2.toNatClampNeg)]) aX7_outcome_139 rfl rfl rfl ?_
                    refine g_lda aX7_outcome_142 rfl ?_
                    refine g_ldi aX7_outcome_144 rfl ?_
                    refine g_iconst (x := 1) aX7_outcome_146 rfl ?_
                    refine g_isub aX7_outcome_147 ?_
                    refine g_ldi aX7_outcome_148 rfl ?_
                    refine g_lda aX7_outcome_150 rfl ?_
                    refine g_ldi aX7_outcome_152 rfl ?_
                    refine g_iconst (x := 1) aX7_outcome_154 rfl ?_
                    refine g_isub aX7_outcome_155 ?_
                    obtain ⟨n260, h261, hE⟩ := i_al_some hE
                    obtain ⟨h262, hE⟩ := i_ifn hE
                    refine g_lld aX7_outcome_156 (h261) h262 ?_
                    refine g_lda aX7_outcome_157 rfl ?_
                    refine g_ldi aX7_outcome_159 rfl ?_
                    obtain ⟨n263, h264, hE⟩ := i_al_some hE
                    obtain ⟨h265, hE⟩ := i_ifn hE
                    refine g_lld aX7_outcome_161 (h264) h265 ?_
                    obtain ⟨r266, s267, h268, hE⟩ := i_bd_some hE
                    refine g_calS (As := [.int (s5.2.1 (p0 + 1) x2.toNatClampNeg), .long (s5.2.2.1 p4 ((x1 + (-1)) - 1).toNatClampNeg), .long (s5.2.2.1 p4 (x1 + (-1)).toNatClampNeg)]) (rest := [.int ((x1 + (-1)) - 1), .ref p4]) aX7_outcome_162 (i_X_mono (by omega) (tX7_joined hsh h268)) rfl rfl (Nat.le_of_ble_eq_true rfl) rfl ?_
                    obtain ⟨n269, h270, hE⟩ := i_al_some hE
                    obtain ⟨h271, hE⟩ := i_ifn hE
                    refine g_lst aX7_outcome_165 (h270) h271 ?_
                    exact tX7_outcome_J166 hsh hp0 ih hE
                · rw [if_neg hc258] at hE
                  refine g_if_le_f aX7_outcome_111 hc258 ?_
                  refine g_lda aX7_outcome_114 rfl ?_
                  refine g_ldi aX7_outcome_116 rfl ?_
                  refine g_iconst (x := 1) aX7_outcome_118 rfl ?_
                  refine g_isub aX7_outcome_119 ?_
                  refine g_lconst (x := 1) aX7_outcome_120 rfl ?_
                  refine g_lda aX7_outcome_121 rfl ?_
                  refine g_ldi aX7_outcome_123 rfl ?_
                  refine g_iconst (x := 1) aX7_outcome_125 rfl ?_
                  refine g_isub aX7_outcome_126 ?_
                  obtain ⟨n272, h273, hE⟩ := i_al_some hE
                  obtain ⟨h274, hE⟩ := i_ifn hE
                  refine g_lld aX7_outcome_127 (h273) h274 ?_
                  refine g_lsub aX7_outcome_128 ?_
                  obtain ⟨n275, h276, hE⟩ := i_al_some hE
                  obtain ⟨h277, hE⟩ := i_ifn hE
                  refine g_lst aX7_outcome_129 (h276) h277 ?_
                  refine g_goto aX7_outcome_130 ?_
                  exact tX7_outcome_J166 hsh hp0 ih hE
            · rw [if_neg hc243] at hE
              refine g_ic_ne_f aX7_outcome_70 hc243 ?_
              refine g_ldi aX7_outcome_73 rfl ?_
              refine g_lda aX7_outcome_75 rfl ?_
              obtain ⟨n278, h279, hE⟩ := i_al_some hE
              refine g_len aX7_outcome_77 h279 ?_
              by_cases hc280 : (Int32.ofNat n278) ≤ x1
              · rw [if_pos hc280] at hE
                refine g_ic_ge_t aX7_outcome_78 hc280 ?_
                refine g_ldi aX7_outcome_103 rfl ?_
                refine g_iconst (x := 2) aX7_outcome_105 rfl ?_
                by_cases hc281 : ¬ (s5.2.1 (p0 + 1) x2.toNatClampNeg) = 2
                · rw [if_pos hc281] at hE
                  refine g_ic_ne_t aX7_outcome_106 hc281 ?_
                  refine g_ldi aX7_outcome_133 rfl ?_
                  refine g_iconst (x := 1) aX7_outcome_135 rfl ?_
                  by_cases hc282 : x1 ≤ 1
                  · rw [if_pos hc282] at hE
                    refine g_ic_le_t aX7_outcome_136 hc282 ?_
                    exact tX7_outcome_J166 hsh hp0 ih hE
                  · rw [if_neg hc282] at hE
                    refine g_ic_le_f aX7_outcome_136 hc282 ?_
                    refine g_iinc (y := (-1)) (loc2 := [.ref p0, .int p1, .int p2, .ref p3, .ref p4, .int (x1 + (-1)), .int x2, .int (s5.2.1 (p0 + 1) x2.toNatClampNeg), .int (s5.2.1 (p0 + 2) x2.toNatClampNeg)]) aX7_outcome_139 rfl rfl rfl ?_
                    refine g_lda aX7_outcome_142 rfl ?_
                    refine g_ldi aX7_outcome_144 rfl ?_
                    refine g_iconst (x := 1) aX7_outcome_146 rfl ?_
                    refine g_isub aX7_outcome_147 ?_
                    refine g_ldi aX7_outcome_148 rfl ?_
                    refine g_lda aX7_outcome_150 rfl ?_
                    refine g_ldi aX7_outcome_152 rfl ?_
                    refine g_iconst (x := 1) aX7_outcome_154 rfl ?_
                    refine g_isub aX7_outcome_155 ?_
                    obtain ⟨n283, h284, hE⟩ := i_al_some hE
                    obtain ⟨h285, hE⟩ := i_ifn hE
                    refine g_lld aX7_outcome_156 (h284) h285 ?_
                    refine g_lda aX7_outcome_157 rfl ?_
                    refine g_ldi aX7_outcome_159 rfl ?_
                    obtain ⟨n286, h287, hE⟩ := i_al_some hE
                    obtain ⟨h288, hE⟩ := i_ifn hE
                    refine g_lld aX7_outcome_161 (h287) h288 ?_
                    obtain ⟨r289, s290, h291, hE⟩ := i_bd_some hE
                    refine g_calS (As := [.int (s5.2.1 (p0 + 1) x2.toNatClampNeg), .long (s5.2.2.1 p4 ((x1 + (-1)) - 1).toNatClampNeg), .long (s5.2.2.1 p4 (x1 + (-1)).toNatClampNeg)]) (rest := [.int ((x1 + (-1)) - 1), .ref p4]) aX7_outcome_162 (i_X_mono (by omega) (tX7_joined hsh h291)) rfl rfl (Nat.le_of_ble_eq_true rfl) rfl ?_
                    obtain ⟨n292, h293, hE⟩ := i_al_some hE
                    obtain ⟨h294, hE⟩ := i_ifn hE
                    refine g_lst aX7_outcome_165 (h293) h294 ?_
                    exact tX7_outcome_J166 hsh hp0 ih hE
                · rw [if_neg hc281] at hE
                  refine g_ic_ne_f aX7_outcome_106 hc281 ?_
                  refine g_ldi aX7_outcome_109 rfl ?_
                  by_cases hc295 : x1 ≤ 0
                  · rw [if_pos hc295] at hE
                    refine g_if_le_t aX7_outcome_111 hc295 ?_
                    refine g_ldi aX7_outcome_133 rfl ?_
                    refine g_iconst (x := 1) aX7_outcome_135 rfl ?_
                    by_cases hc296 : x1 ≤ 1
                    · rw [if_pos hc296] at hE
                      refine g_ic_le_t aX7_outcome_136 hc296 ?_
                      exact tX7_outcome_J166 hsh hp0 ih hE
                    · rw [if_neg hc296] at hE
                      refine g_ic_le_f aX7_outcome_136 hc296 ?_
                      refine g_iinc (y := (-1)) (loc2 := [.ref p0, .int p1, .int p2, .ref p3, .ref p4, .int (x1 + (-1)), .int x2, .int (s5.2.1 (p0 + 1) x2.toNatClampNeg), .int (s5.2.1 (p0 + 2) x2.toNatClampNeg)]) aX7_outcome_139 rfl rfl rfl ?_
                      refine g_lda aX7_outcome_142 rfl ?_
                      refine g_ldi aX7_outcome_144 rfl ?_
                      refine g_iconst (x := 1) aX7_outcome_146 rfl ?_
                      refine g_isub aX7_outcome_147 ?_
                      refine g_ldi aX7_outcome_148 rfl ?_
                      refine g_lda aX7_outcome_150 rfl ?_
                      refine g_ldi aX7_outcome_152 rfl ?_
                      refine g_iconst (x := 1) aX7_outcome_154 rfl ?_
                      refine g_isub aX7_outcome_155 ?_
                      obtain ⟨n297, h298, hE⟩ := i_al_some hE
                      obtain ⟨h299, hE⟩ := i_ifn hE
                      refine g_lld aX7_outcome_156 (h298) h299 ?_
                      refine g_lda aX7_outcome_157 rfl ?_
                      refine g_ldi aX7_outcome_159 rfl ?_
                      obtain ⟨n300, h301, hE⟩ := i_al_some hE
                      obtain ⟨h302, hE⟩ := i_ifn hE
                      refine g_lld aX7_outcome_161 (h301) h302 ?_
                      obtain ⟨r303, s304, h305, hE⟩ := i_bd_some hE
                      refine g_calS (As := [.int (s5.2.1 (p0 + 1) x2.toNatClampNeg), .long (s5.2.2.1 p4 ((x1 + (-1)) - 1).toNatClampNeg), .long (s5.2.2.1 p4 (x1 + (-1)).toNatClampNeg)]) (rest := [.int ((x1 + (-1)) - 1), .ref p4]) aX7_outcome_162 (i_X_mono (by omega) (tX7_joined hsh h305)) rfl rfl (Nat.le_of_ble_eq_true rfl) rfl ?_
                      obtain ⟨n306, h307, hE⟩ := i_al_some hE
                      obtain ⟨h308, hE⟩ := i_ifn hE
                      refine g_lst aX7_outcome_165 (h307) h308 ?_
                      exact tX7_outcome_J166 hsh hp0 ih hE
                  · rw [if_neg hc295] at hE
                    refine g_if_le_f aX7_outcome_111 hc295 ?_
                    refine g_lda aX7_outcome_114 rfl ?_
                    refine g_ldi aX7_outcome_116 rfl ?_
                    refine g_iconst (x := 1) aX7_outcome_118 rfl ?_
                    refine g_isub aX7_outcome_119 ?_
                    refine g_lconst (x := 1) aX7_outcome_120 rfl ?_
                    refine g_lda aX7_outcome_121 rfl ?_
                    refine g_ldi aX7_outcome_123 rfl ?_
                    refine g_iconst (x := 1) aX7_outcome_125 rfl ?_
                    refine g_isub aX7_outcome_126 ?_
                    obtain ⟨n309, h310, hE⟩ := i_al_some hE
                    obtain ⟨h311, hE⟩ := i_ifn hE
                    refine g_lld aX7_outcome_127 (h310) h311 ?_
                    refine g_lsub aX7_outcome_128 ?_
                    obtain ⟨n312, h313, hE⟩ := i_al_some hE
                    obtain ⟨h314, hE⟩ := i_ifn hE
                    refine g_lst aX7_outcome_129 (h313) h314 ?_
                    refine g_goto aX7_outcome_130 ?_
                    exact tX7_outcome_J166 hsh hp0 ih hE
              · rw [if_neg hc280] at hE
                refine g_ic_ge_f aX7_outcome_78 hc280 ?_
                refine g_ldi aX7_outcome_81 rfl ?_
                refine g_ldan aX7_outcome_83 rfl ?_
                obtain ⟨n315, h316, hE⟩ := i_al_some hE
                refine g_len aX7_outcome_84 h316 ?_
                by_cases hc317 : (Int32.ofNat n315) ≤ (s5.2.1 (p0 + 2) x2.toNatClampNeg)
                · rw [if_pos hc317] at hE
                  refine g_ic_ge_t aX7_outcome_85 hc317 ?_
                  refine g_ldi aX7_outcome_103 rfl ?_
                  refine g_iconst (x := 2) aX7_outcome_105 rfl ?_
                  by_cases hc318 : ¬ (s5.2.1 (p0 + 1) x2.toNatClampNeg) = 2
                  · rw [if_pos hc318] at hE
                    refine g_ic_ne_t aX7_outcome_106 hc318 ?_
                    refine g_ldi aX7_outcome_133 rfl ?_
                    refine g_iconst (x := 1) aX7_outcome_135 rfl ?_
                    by_cases hc319 : x1 ≤ 1
                    · rw [if_pos hc319] at hE
                      refine g_ic_le_t aX7_outcome_136 hc319 ?_
                      exact tX7_outcome_J166 hsh hp0 ih hE
                    · rw [if_neg hc319] at hE
                      refine g_ic_le_f aX7_outcome_136 hc319 ?_
                      refine g_iinc (y := (-1)) (loc2 := [.ref p0, .int p1, .int p2, .ref p3, .ref p4, .int (x1 + (-1)), .int x2, .int (s5.2.1 (p0 + 1) x2.toNatClampNeg), .int (s5.2.1 (p0 + 2) x2.toNatClampNeg)]) aX7_outcome_139 rfl rfl rfl ?_
                      refine g_lda aX7_outcome_142 rfl ?_
                      refine g_ldi aX7_outcome_144 rfl ?_
                      refine g_iconst (x := 1) aX7_outcome_146 rfl ?_
                      refine g_isub aX7_outcome_147 ?_
                      refine g_ldi aX7_outcome_148 rfl ?_
                      refine g_lda aX7_outcome_150 rfl ?_
                      refine g_ldi aX7_outcome_152 rfl ?_
                      refine g_iconst (x := 1) aX7_outcome_154 rfl ?_
                      refine g_isub aX7_outcome_155 ?_
                      obtain ⟨n320, h321, hE⟩ := i_al_some hE
                      obtain ⟨h322, hE⟩ := i_ifn hE
                      refine g_lld aX7_outcome_156 (h321) h322 ?_
                      refine g_lda aX7_outcome_157 rfl ?_
                      refine g_ldi aX7_outcome_159 rfl ?_
                      obtain ⟨n323, h324, hE⟩ := i_al_some hE
                      obtain ⟨h325, hE⟩ := i_ifn hE
                      refine g_lld aX7_outcome_161 (h324) h325 ?_
                      obtain ⟨r326, s327, h328, hE⟩ := i_bd_some hE
                      refine g_calS (As := [.int (s5.2.1 (p0 + 1) x2.toNatClampNeg), .long (s5.2.2.1 p4 ((x1 + (-1)) - 1).toNatClampNeg), .long (s5.2.2.1 p4 (x1 + (-1)).toNatClampNeg)]) (rest := [.int ((x1 + (-1)) - 1), .ref p4]) aX7_outcome_162 (i_X_mono (by omega) (tX7_joined hsh h328)) rfl rfl (Nat.le_of_ble_eq_true rfl) rfl ?_
                      obtain ⟨n329, h330, hE⟩ := i_al_some hE
                      obtain ⟨h331, hE⟩ := i_ifn hE
                      refine g_lst aX7_outcome_165 (h330) h331 ?_
                      exact tX7_outcome_J166 hsh hp0 ih hE
                  · rw [if_neg hc318] at hE
                    refine g_ic_ne_f aX7_outcome_106 hc318 ?_
                    refine g_ldi aX7_outcome_109 rfl ?_
                    by_cases hc332 : x1 ≤ 0
                    · rw [if_pos hc332] at hE
                      refine g_if_le_t aX7_outcome_111 hc332 ?_
                      refine g_ldi aX7_outcome_133 rfl ?_
                      refine g_iconst (x := 1) aX7_outcome_135 rfl ?_
                      by_cases hc333 : x1 ≤ 1
                      · rw [if_pos hc333] at hE
                        refine g_ic_le_t aX7_outcome_136 hc333 ?_
                        exact tX7_outcome_J166 hsh hp0 ih hE
                      · rw [if_neg hc333] at hE
                        refine g_ic_le_f aX7_outcome_136 hc333 ?_
                        refine g_iinc (y := (-1)) (loc2 := [.ref p0, .int p1, .int p2, .ref p3, .ref p4, .int (x1 + (-1)), .int x2, .int (s5.2.1 (p0 + 1) x2.toNatClampNeg), .int (s5.2.1 (p0 + 2) x2.toNatClampNeg)]) aX7_outcome_139 rfl rfl rfl ?_
                        refine g_lda aX7_outcome_142 rfl ?_
                        refine g_ldi aX7_outcome_144 rfl ?_
                        refine g_iconst (x := 1) aX7_outcome_146 rfl ?_
                        refine g_isub aX7_outcome_147 ?_
                        refine g_ldi aX7_outcome_148 rfl ?_
                        refine g_lda aX7_outcome_150 rfl ?_
                        refine g_ldi aX7_outcome_152 rfl ?_
                        refine g_iconst (x := 1) aX7_outcome_154 rfl ?_
                        refine g_isub aX7_outcome_155 ?_
                        obtain ⟨n334, h335, hE⟩ := i_al_some hE
                        obtain ⟨h336, hE⟩ := i_ifn hE
                        refine g_lld aX7_outcome_156 (h335) h336 ?_
                        refine g_lda aX7_outcome_157 rfl ?_
                        refine g_ldi aX7_outcome_159 rfl ?_
                        obtain ⟨n337, h338, hE⟩ := i_al_some hE
                        obtain ⟨h339, hE⟩ := i_ifn hE
                        refine g_lld aX7_outcome_161 (h338) h339 ?_
                        obtain ⟨r340, s341, h342, hE⟩ := i_bd_some hE
                        refine g_calS (As := [.int (s5.2.1 (p0 + 1) x2.toNatClampNeg), .long (s5.2.2.1 p4 ((x1 + (-1)) - 1).toNatClampNeg), .long (s5.2.2.1 p4 (x1 + (-1)).toNatClampNeg)]) (rest := [.int ((x1 + (-1)) - 1), .ref p4]) aX7_outcome_162 (i_X_mono (by omega) (tX7_joined hsh h342)) rfl rfl (Nat.le_of_ble_eq_true rfl) rfl ?_
                        obtain ⟨n343, h344, hE⟩ := i_al_some hE
                        obtain ⟨h345, hE⟩ := i_ifn hE
                        refine g_lst aX7_outcome_165 (h344) h345 ?_
                        exact tX7_outcome_J166 hsh hp0 ih hE
                    · rw [if_neg hc332] at hE
                      refine g_if_le_f aX7_outcome_111 hc332 ?_
                      refine g_lda aX7_outcome_114 rfl ?_
                      refine g_ldi aX7_outcome_116 rfl ?_
                      refine g_iconst (x := 1) aX7_outcome_118 rfl ?_
                      refine g_isub aX7_outcome_119 ?_
                      refine g_lconst (x := 1) aX7_outcome_120 rfl ?_
                      refine g_lda aX7_outcome_121 rfl ?_
                      refine g_ldi aX7_outcome_123 rfl ?_
                      refine g_iconst (x := 1) aX7_outcome_125 rfl ?_
                      refine g_isub aX7_outcome_126 ?_
                      obtain ⟨n346, h347, hE⟩ := i_al_some hE
                      obtain ⟨h348, hE⟩ := i_ifn hE
                      refine g_lld aX7_outcome_127 (h347) h348 ?_
                      refine g_lsub aX7_outcome_128 ?_
                      obtain ⟨n349, h350, hE⟩ := i_al_some hE
                      obtain ⟨h351, hE⟩ := i_ifn hE
                      refine g_lst aX7_outcome_129 (h350) h351 ?_
                      refine g_goto aX7_outcome_130 ?_
                      exact tX7_outcome_J166 hsh hp0 ih hE
                · rw [if_neg hc317] at hE
                  refine g_ic_ge_f aX7_outcome_85 hc317 ?_
                  refine g_lda aX7_outcome_88 rfl ?_
                  refine g_ldi aX7_outcome_90 rfl ?_
                  refine g_ldan aX7_outcome_92 rfl ?_
                  refine g_ldi aX7_outcome_93 rfl ?_
                  obtain ⟨n352, h353, hE⟩ := i_al_some hE
                  obtain ⟨h354, hE⟩ := i_ifn hE
                  refine g_lld aX7_outcome_95 (h353) h354 ?_
                  obtain ⟨n355, h356, hE⟩ := i_al_some hE
                  obtain ⟨h357, hE⟩ := i_ifn hE
                  refine g_lst aX7_outcome_96 (h356) h357 ?_
                  refine g_iinc (y := 1) (loc2 := [.ref p0, .int p1, .int p2, .ref p3, .ref p4, .int (x1 + 1), .int x2, .int (s5.2.1 (p0 + 1) x2.toNatClampNeg), .int (s5.2.1 (p0 + 2) x2.toNatClampNeg)]) aX7_outcome_97 rfl rfl rfl ?_
                  refine g_goto aX7_outcome_100 ?_
                  exact tX7_outcome_J166 hsh hp0 ih hE
          · rw [if_neg hc242] at hE
            refine g_ic_ge_f aX7_outcome_50 hc242 ?_
            refine g_lda aX7_outcome_53 rfl ?_
            refine g_ldi aX7_outcome_55 rfl ?_
            refine g_ldi aX7_outcome_57 rfl ?_
            refine g_i2l aX7_outcome_59 ?_
            obtain ⟨n358, h359, hE⟩ := i_al_some hE
            obtain ⟨h360, hE⟩ := i_ifn hE
            refine g_lst aX7_outcome_60 (h359) h360 ?_
            refine g_iinc (y := 1) (loc2 := [.ref p0, .int p1, .int p2, .ref p3, .ref p4, .int (x1 + 1), .int x2, .int (s5.2.1 (p0 + 1) x2.toNatClampNeg), .int (s5.2.1 (p0 + 2) x2.toNatClampNeg)]) aX7_outcome_61 rfl rfl rfl ?_
            refine g_goto aX7_outcome_64 ?_
            exact tX7_outcome_J166 hsh hp0 ih hE
set_option maxRecDepth 20000 in
set_option maxHeartbeats 2000000 in
theorem tX7_outcome_J188 {sh : List kd} {τ : St} {r : Int64} (hsh : cSh sh) {p0 : Nat} {p1 : Int32} {p2 : Int32} {p3 : Nat} {p4 : Nat} {x56 : Int32} {x57 : Int32} {x58 : Value} {x59 : Value} {s60 : St} {x411 : Int64} (hp0 : uSh sh p0) (hE : fX7_outcome_J188 sh p0 p1 p2 p3 p4 x56 x57 x58 x59 s60 x411 = some (r, τ)) : g_R sh 1 mX7_outcome (some (.long r)) τ 188 [.ref p0, .int p1, .int p2, .ref p3, .ref p4, .int x56, .int x57, x58, x59] [.long x411] (s60) := by
  unfold fX7_outcome_J188 at hE
  obtain ⟨rfl, rfl⟩ := i_some_inj hE
  exact g_lret aX7_outcome_188 rfl
set_option maxRecDepth 20000 in
set_option maxHeartbeats 2000000 in
theorem tX7_outcome_X172 {sh : List kd} {τ : St} {r : Int64} (hsh : cSh sh) {p0 : Nat} {p1 : Int32} {p2 : Int32} {p3 : Nat} {p4 : Nat} {x56 : Int32} {x57 : Int32} {x58 : Value} {x59 : Value} {s60 : St} (hp0 : uSh sh p0) (hE : fX7_outcome_X172 sh p0 p1 p2 p3 p4 x56 x57 x58 x59 s60 = some (r, τ)) : g_R sh 1 mX7_outcome (some (.long r)) τ 172 [.ref p0, .int p1, .int p2, .ref p3, .ref p4, .int x56, .int x57, x58, x59] [] (s60) := by
  unfold fX7_outcome_X172 at hE
  refine g_ldi aX7_outcome_172 rfl ?_
  by_cases hc412 : x56 ≤ 0
  · rw [if_pos hc412] at hE
    refine g_if_le_t aX7_outcome_174 hc412 ?_
    refine g_lconst (x := 0) aX7_outcome_187 rfl ?_
    exact tX7_outcome_J188 hsh hp0 hE
  · rw [if_neg hc412] at hE
    refine g_if_le_f aX7_outcome_174 hc412 ?_
    refine g_lda aX7_outcome_177 rfl ?_
    refine g_ldi aX7_outcome_179 rfl ?_
    refine g_iconst (x := 1) aX7_outcome_181 rfl ?_
    refine g_isub aX7_outcome_182 ?_
    obtain ⟨n413, h414, hE⟩ := i_al_some hE
    obtain ⟨h415, hE⟩ := i_ifn hE
    refine g_lld aX7_outcome_183 (h414) h415 ?_
    refine g_goto aX7_outcome_184 ?_
    exact tX7_outcome_J188 hsh hp0 hE
set_option maxRecDepth 20000 in
set_option maxHeartbeats 2000000 in
theorem tX7_outcome {sh : List kd} {σ τ : St} {r : Int64} (hsh : cSh sh) {p0 : Nat} {p1 : Int32} {p2 : Int32} {p3 : Nat} {p4 : Nat} (hp0 : uSh sh p0) (hE : fX7_outcome sh σ p0 p1 p2 p3 p4 = some (r, τ)) : i_X 2 59 [.ref p0, .int p1, .int p2, .ref p3, .ref p4] (s_h sh σ) 0 0 (some (.long r)) (s_h sh τ) := by
  refine g_X (M := mX7_outcome) (loc := [.ref p0, .int p1, .int p2, .ref p3, .ref p4, .retAddr 0, .retAddr 0, .retAddr 0, .retAddr 0]) rfl (Nat.le_of_ble_eq_true rfl) rfl ?_
  unfold fX7_outcome at hE
  refine g_iconst (x := 0) aX7_outcome_0 rfl ?_
  refine g_sti (loc2 := [.ref p0, .int p1, .int p2, .ref p3, .ref p4, .int 0, .retAddr 0, .retAddr 0, .retAddr 0]) aX7_outcome_1 (Nat.le_of_ble_eq_true rfl) rfl ?_
  refine g_ldin aX7_outcome_3 rfl ?_
  refine g_sti (loc2 := [.ref p0, .int p1, .int p2, .ref p3, .ref p4, .int 0, .int p1, .retAddr 0, .retAddr 0]) aX7_outcome_4 (Nat.le_of_ble_eq_true rfl) rfl ?_
  exact tX7_outcome_L6 hsh hp0 (fun x56 x57 x58 x59 s60 hE => tX7_outcome_X172 hsh hp0 hE) i_F _ _ _ _ _ hE
theorem aX8_countPart_0 : i_at mX8_countPart.2.2.2.2.2 0 = some (.aload_n 0, 1, 0, 0, 0, 0) := by decide +kernel
theorem aX8_countPart_1 : i_at mX8_countPart.2.2.2.2.2 1 = some (.getfield 40, 3, 7, 7, 241, 0) := by decide +kernel
theorem aX8_countPart_4 : i_at mX8_countPart.2.2.2.2.2 4 = some (.bipush 60, 2, 0, 0, 0, 0) := by decide +kernel
theorem aX8_countPart_6 : i_at mX8_countPart.2.2.2.2.2 6 = some (.if_icmp .lt 12, 3, 18, 0, 0, 0) := by decide +kernel
theorem aX8_countPart_9 : i_at mX8_countPart.2.2.2.2.2 9 = some (.aload_n 0, 1, 0, 0, 0, 0) := by decide +kernel
theorem aX8_countPart_10 : i_at mX8_countPart.2.2.2.2.2 10 = some (.getfield 24, 3, 7, 0, 234, 0) := by decide +kernel
theorem aX8_countPart_13 : i_at mX8_countPart.2.2.2.2.2 13 = some (.iload_n 1, 1, 0, 0, 0, 0) := by decide +kernel
theorem aX8_countPart_14 : i_at mX8_countPart.2.2.2.2.2 14 = some (.iconst 3, 1, 0, 0, 0, 0) := by decide +kernel
theorem aX8_countPart_15 : i_at mX8_countPart.2.2.2.2.2 15 = some (.invokevirtual 79, 3, 77, 2, 659, 0) := by decide +kernel
theorem aX8_countPart_18 : i_at mX8_countPart.2.2.2.2.2 18 = some (.aload_n 0, 1, 0, 0, 0, 0) := by decide +kernel
theorem aX8_countPart_19 : i_at mX8_countPart.2.2.2.2.2 19 = some (.dup, 1, 0, 0, 0, 0) := by decide +kernel
theorem aX8_countPart_20 : i_at mX8_countPart.2.2.2.2.2 20 = some (.getfield 40, 3, 7, 7, 241, 0) := by decide +kernel
theorem aX8_countPart_23 : i_at mX8_countPart.2.2.2.2.2 23 = some (.iconst 1, 1, 0, 0, 0, 0) := by decide +kernel
theorem aX8_countPart_24 : i_at mX8_countPart.2.2.2.2.2 24 = some (.iadd, 1, 0, 0, 0, 0) := by decide +kernel
theorem aX8_countPart_25 : i_at mX8_countPart.2.2.2.2.2 25 = some (.putfield 40, 3, 7, 7, 241, 0) := by decide +kernel
theorem aX8_countPart_28 : i_at mX8_countPart.2.2.2.2.2 28 = some (.return_, 1, 0, 0, 0, 0) := by decide +kernel
noncomputable def fX8_countPart_J18 (sh : List kd) (p1 : Int32) (s51 : St) : Option (Unit × St) := some ((), s_F s51 10 7 ((s51.1 10 7) + 1))
noncomputable def fX8_countPart (sh : List kd) (σ : St) (p1 : Int32) : Option (Unit × St) := if (σ.1 10 7) < 60 then fX8_countPart_J18 sh p1 σ else i_bd (fX9_refuse sh σ p1 3) (fun r53 s54 => fX8_countPart_J18 sh p1 s54)
set_option maxRecDepth 20000 in
set_option maxHeartbeats 2000000 in
theorem tX8_countPart_J18 {sh : List kd} {τ : St} {r : Unit} (hsh : cSh sh) {p1 : Int32} {s51 : St} (hE : fX8_countPart_J18 sh p1 s51 = some (r, τ)) : g_R sh 1 mX8_countPart none τ 18 [.ref 10, .int p1] [] (s51) := by
  unfold fX8_countPart_J18 at hE
  refine g_ldan aX8_countPart_18 rfl ?_
  refine g_dupa aX8_countPart_19 ?_
  refine g_getI aX8_countPart_20 (sC_10 hsh) rfl ?_
  refine g_iconst (x := 1) aX8_countPart_23 rfl ?_
  refine g_iadd aX8_countPart_24 ?_
  refine g_putI aX8_countPart_25 (sC_10 hsh) rfl rfl ?_
  obtain ⟨rfl, rfl⟩ := i_some_inj hE
  exact g_vret aX8_countPart_28 rfl
set_option maxRecDepth 20000 in
set_option maxHeartbeats 2000000 in
theorem tX8_countPart {sh : List kd} {σ τ : St} {r : Unit} (hsh : cSh sh) {p1 : Int32} (hE : fX8_countPart sh σ p1 = some (r, τ)) : i_X 2 72 [.ref 10, .int p1] (s_h sh σ) 0 0 none (s_h sh τ) := by
  refine g_X (M := mX8_countPart) (loc := [.ref 10, .int p1]) rfl (Nat.le_of_ble_eq_true rfl) rfl ?_
  unfold fX8_countPart at hE
  refine g_ldan aX8_countPart_0 rfl ?_
  refine g_getI aX8_countPart_1 (sC_10 hsh) rfl ?_
  refine g_bipush (x := 60) aX8_countPart_4 rfl ?_
  by_cases hc52 : (σ.1 10 7) < 60
  · rw [if_pos hc52] at hE
    refine g_ic_lt_t aX8_countPart_6 hc52 ?_
    exact tX8_countPart_J18 hsh hE
  · rw [if_neg hc52] at hE
    refine g_ic_lt_f aX8_countPart_6 hc52 ?_
    refine g_ldan aX8_countPart_9 rfl ?_
    refine g_getR aX8_countPart_10 (sC_10 hsh) rfl ?_
    refine g_ldin aX8_countPart_13 rfl ?_
    refine g_iconst (x := 3) aX8_countPart_14 rfl ?_
    obtain ⟨r53, s54, h55, hE⟩ := i_bd_some hE
    refine g_calV (As := [.int p1, .int 3]) (rest := []) aX8_countPart_15 (i_X_mono (by omega) (tX9_refuse hsh h55)) (sC_1 hsh) (by decide +kernel) rfl rfl (Nat.le_of_ble_eq_true rfl) rfl ?_
    exact tX8_countPart_J18 hsh hE
theorem aX9_wordIn_0 : i_at mX9_wordIn.2.2.2.2.2 0 = some (.aload_n 0, 1, 0, 0, 0, 0) := by decide +kernel
theorem aX9_wordIn_1 : i_at mX9_wordIn.2.2.2.2.2 1 = some (.invokevirtual 25, 3, 78, 0, 528, 0) := by decide +kernel
theorem aX9_wordIn_4 : i_at mX9_wordIn.2.2.2.2.2 4 = some (.pop, 1, 0, 0, 0, 0) := by decide +kernel
theorem aX9_wordIn_5 : i_at mX9_wordIn.2.2.2.2.2 5 = some (.aload_n 0, 1, 0, 0, 0, 0) := by decide +kernel
theorem aX9_wordIn_6 : i_at mX9_wordIn.2.2.2.2.2 6 = some (.invokevirtual 33, 3, 84, 0, 532, 0) := by decide +kernel
theorem aX9_wordIn_9 : i_at mX9_wordIn.2.2.2.2.2 9 = some (.aload_n 0, 1, 0, 0, 0, 0) := by decide +kernel
theorem aX9_wordIn_10 : i_at mX9_wordIn.2.2.2.2.2 10 = some (.getfield 19, 3, 8, 2, 133, 0) := by decide +kernel
theorem aX9_wordIn_13 : i_at mX9_wordIn.2.2.2.2.2 13 = some (.isub, 1, 0, 0, 0, 0) := by decide +kernel
theorem aX9_wordIn_14 : i_at mX9_wordIn.2.2.2.2.2 14 = some (.istore_n 2, 1, 0, 0, 0, 0) := by decide +kernel
theorem aX9_wordIn_15 : i_at mX9_wordIn.2.2.2.2.2 15 = some (.iconst 0, 1, 0, 0, 0, 0) := by decide +kernel
theorem aX9_wordIn_16 : i_at mX9_wordIn.2.2.2.2.2 16 = some (.istore_n 3, 1, 0, 0, 0, 0) := by decide +kernel
theorem aX9_wordIn_17 : i_at mX9_wordIn.2.2.2.2.2 17 = some (.iconst 0, 1, 0, 0, 0, 0) := by decide +kernel
theorem aX9_wordIn_18 : i_at mX9_wordIn.2.2.2.2.2 18 = some (.istore 4, 2, 0, 0, 0, 0) := by decide +kernel
theorem aX9_wordIn_20 : i_at mX9_wordIn.2.2.2.2.2 20 = some (.iconst 0, 1, 0, 0, 0, 0) := by decide +kernel
theorem aX9_wordIn_21 : i_at mX9_wordIn.2.2.2.2.2 21 = some (.istore 5, 2, 0, 0, 0, 0) := by decide +kernel
theorem aX9_wordIn_23 : i_at mX9_wordIn.2.2.2.2.2 23 = some (.iload 5, 2, 0, 0, 0, 0) := by decide +kernel
theorem aX9_wordIn_25 : i_at mX9_wordIn.2.2.2.2.2 25 = some (.aload_n 1, 1, 0, 0, 0, 0) := by decide +kernel
theorem aX9_wordIn_26 : i_at mX9_wordIn.2.2.2.2.2 26 = some (.invokevirtual 36, 3, 1004, 0, 536, 0) := by decide +kernel
theorem aX9_wordIn_29 : i_at mX9_wordIn.2.2.2.2.2 29 = some (.if_icmp .gt 58, 3, 87, 0, 0, 0) := by decide +kernel
theorem aX9_wordIn_32 : i_at mX9_wordIn.2.2.2.2.2 32 = some (.iload 5, 2, 0, 0, 0, 0) := by decide +kernel
theorem aX9_wordIn_34 : i_at mX9_wordIn.2.2.2.2.2 34 = some (.aload_n 1, 1, 0, 0, 0, 0) := by decide +kernel
theorem aX9_wordIn_35 : i_at mX9_wordIn.2.2.2.2.2 35 = some (.invokevirtual 36, 3, 1004, 0, 536, 0) := by decide +kernel
theorem aX9_wordIn_38 : i_at mX9_wordIn.2.2.2.2.2 38 = some (.if_icmp .eq 14, 3, 52, 0, 0, 0) := by decide +kernel
theorem aX9_wordIn_41 : i_at mX9_wordIn.2.2.2.2.2 41 = some (.aload_n 1, 1, 0, 0, 0, 0) := by decide +kernel
theorem aX9_wordIn_42 : i_at mX9_wordIn.2.2.2.2.2 42 = some (.iload 5, 2, 0, 0, 0, 0) := by decide +kernel
theorem aX9_wordIn_44 : i_at mX9_wordIn.2.2.2.2.2 44 = some (.invokevirtual 41, 3, 1005, 1, 546, 0) := by decide +kernel
theorem aX9_wordIn_47 : i_at mX9_wordIn.2.2.2.2.2 47 = some (.bipush 32, 2, 0, 0, 0, 0) := by decide +kernel
theorem aX9_wordIn_49 : i_at mX9_wordIn.2.2.2.2.2 49 = some (.if_icmp .ne 32, 3, 81, 0, 0, 0) := by decide +kernel
theorem aX9_wordIn_52 : i_at mX9_wordIn.2.2.2.2.2 52 = some (.iload 5, 2, 0, 0, 0, 0) := by decide +kernel
theorem aX9_wordIn_54 : i_at mX9_wordIn.2.2.2.2.2 54 = some (.iload_n 3, 1, 0, 0, 0, 0) := by decide +kernel
theorem aX9_wordIn_55 : i_at mX9_wordIn.2.2.2.2.2 55 = some (.isub, 1, 0, 0, 0, 0) := by decide +kernel
theorem aX9_wordIn_56 : i_at mX9_wordIn.2.2.2.2.2 56 = some (.iload_n 2, 1, 0, 0, 0, 0) := by decide +kernel
theorem aX9_wordIn_57 : i_at mX9_wordIn.2.2.2.2.2 57 = some (.if_icmp .ne 16, 3, 73, 0, 0, 0) := by decide +kernel
theorem aX9_wordIn_60 : i_at mX9_wordIn.2.2.2.2.2 60 = some (.aload_n 0, 1, 0, 0, 0, 0) := by decide +kernel
theorem aX9_wordIn_61 : i_at mX9_wordIn.2.2.2.2.2 61 = some (.aload_n 1, 1, 0, 0, 0, 0) := by decide +kernel
theorem aX9_wordIn_62 : i_at mX9_wordIn.2.2.2.2.2 62 = some (.iload_n 3, 1, 0, 0, 0, 0) := by decide +kernel
theorem aX9_wordIn_63 : i_at mX9_wordIn.2.2.2.2.2 63 = some (.iload_n 2, 1, 0, 0, 0, 0) := by decide +kernel
theorem aX9_wordIn_64 : i_at mX9_wordIn.2.2.2.2.2 64 = some (.invokevirtual 45, 3, 85, 3, 584, 0) := by decide +kernel
theorem aX9_wordIn_67 : i_at mX9_wordIn.2.2.2.2.2 67 = some (.ifCond .eq 6, 3, 73, 0, 0, 0) := by decide +kernel
theorem aX9_wordIn_70 : i_at mX9_wordIn.2.2.2.2.2 70 = some (.iload 4, 2, 0, 0, 0, 0) := by decide +kernel
theorem aX9_wordIn_72 : i_at mX9_wordIn.2.2.2.2.2 72 = some (.ireturn, 1, 0, 0, 0, 0) := by decide +kernel
theorem aX9_wordIn_73 : i_at mX9_wordIn.2.2.2.2.2 73 = some (.iinc 4 1, 3, 0, 0, 0, 0) := by decide +kernel
theorem aX9_wordIn_76 : i_at mX9_wordIn.2.2.2.2.2 76 = some (.iload 5, 2, 0, 0, 0, 0) := by decide +kernel
theorem aX9_wordIn_78 : i_at mX9_wordIn.2.2.2.2.2 78 = some (.iconst 1, 1, 0, 0, 0, 0) := by decide +kernel
theorem aX9_wordIn_79 : i_at mX9_wordIn.2.2.2.2.2 79 = some (.iadd, 1, 0, 0, 0, 0) := by decide +kernel
theorem aX9_wordIn_80 : i_at mX9_wordIn.2.2.2.2.2 80 = some (.istore_n 3, 1, 0, 0, 0, 0) := by decide +kernel
theorem aX9_wordIn_81 : i_at mX9_wordIn.2.2.2.2.2 81 = some (.iinc 5 1, 3, 0, 0, 0, 0) := by decide +kernel
theorem aX9_wordIn_84 : i_at mX9_wordIn.2.2.2.2.2 84 = some (.goto (-61), 3, 23, 0, 0, 0) := by decide +kernel
theorem aX9_wordIn_87 : i_at mX9_wordIn.2.2.2.2.2 87 = some (.iconst (-1), 1, 0, 0, 0, 0) := by decide +kernel
theorem aX9_wordIn_88 : i_at mX9_wordIn.2.2.2.2.2 88 = some (.ireturn, 1, 0, 0, 0, 0) := by decide +kernel
noncomputable def fX9_wordIn_L23 (sh : List kd) (p1 : Nat) (r4 : Int32) (s5 : St) : Nat → Int32 → Int32 → Int32 → St → Option (Int32 × St)
  | 0, _, _, _, _ => none
  | n11 + 1, x7, x8, x9, s10 => if p1 < 28 then if (Int32.ofNat (i_slen p1)) < x9 then some ((-1), s10) else if p1 < 28 then if x9 = (Int32.ofNat (i_slen p1)) then if ¬ (x9 - x7) = (r4 - (s5.1 1 2)) then (fX9_wordIn_L23 sh p1 r4 s5 n11 (x9 + 1) (x8 + 1) (x9 + 1) s10) else i_bd (fX9_isHere sh s10 p1 x7 (r4 - (s5.1 1 2))) (fun r17 s18 => if r17 = 0 then (fX9_wordIn_L23 sh p1 r4 s5 n11 (x9 + 1) (x8 + 1) (x9 + 1) s18) else some (x8, s18)) else if p1 < 28 then if i_ok x9 (i_slen p1) then if ¬ (i_schr p1 x9.toNatClampNeg) = 32 then (fX9_wordIn_L23 sh p1 r4 s5 n11 x7 x8 (x9 + 1) s10) else if ¬ (x9 - x7) = (r4 - (s5.1 1 2)) then (fX9_wordIn_L23 sh p1 r4 s5 n11 (x9 + 1) (x8 + 1) (x9 + 1) s10) else i_bd (fX9_isHere sh s10 p1 x7 (r4 - (s5.1 1 2))) (fun r25 s26 => if r25 = 0 then (fX9_wordIn_L23 sh p1 r4 s5 n11 (x9 + 1) (x8 + 1) (x9 + 1) s26) else some (x8, s26)) else none else none else none else none
noncomputable def fX9_wordIn (sh : List kd) (σ : St) (p1 : Nat) : Option (Int32 × St) := i_bd (fX9_sign sh σ) (fun r1 s2 => i_bd (fX9_wordEnd sh s2) (fun r4 s5 => fX9_wordIn_L23 sh p1 r4 s5 i_F 0 0 0 s5))
set_option maxRecDepth 20000 in
set_option maxHeartbeats 2000000 in
theorem tX9_wordIn_L23 {sh : List kd} {τ : St} {r : Int32} (hsh : cSh sh) {p1 : Nat} {r4 : Int32} {s5 : St} : ∀ (n0 : Nat) (x7 : Int32) (x8 : Int32) (x9 : Int32) (s10 : St), fX9_wordIn_L23 sh p1 r4 s5 n0 x7 x8 x9 s10 = some (r, τ) → g_R sh 1 mX9_wordIn (some (.int r)) τ 23 [.ref 1, .ref (i_SB + p1), .int (r4 - (s5.1 1 2)), .int x7, .int x8, .int x9] [] (s10) := by
  intro n0
  induction n0 with
  | zero => intro _ _ _ _ hE; cases hE
  | succ n11 ih =>
    intro x7 x8 x9 s10 hE
    unfold fX9_wordIn_L23 at hE
    refine g_ldi aX9_wordIn_23 rfl ?_
    refine g_ldan aX9_wordIn_25 rfl ?_
    obtain ⟨h12, hE⟩ := i_ifn hE
    refine g_slen aX9_wordIn_26 h12 (Nat.le_of_ble_eq_true rfl) ?_
    by_cases hc13 : (Int32.ofNat (i_slen p1)) < x9
    · rw [if_pos hc13] at hE
      refine g_ic_gt_t aX9_wordIn_29 hc13 ?_
      refine g_iconst (x := (-1)) aX9_wordIn_87 rfl ?_
      obtain ⟨rfl, rfl⟩ := i_some_inj hE
      exact g_iret aX9_wordIn_88 rfl rfl
    · rw [if_neg hc13] at hE
      refine g_ic_gt_f aX9_wordIn_29 hc13 ?_
      refine g_ldi aX9_wordIn_32 rfl ?_
      refine g_ldan aX9_wordIn_34 rfl ?_
      obtain ⟨h14, hE⟩ := i_ifn hE
      refine g_slen aX9_wordIn_35 h14 (Nat.le_of_ble_eq_true rfl) ?_
      by_cases hc15 : x9 = (Int32.ofNat (i_slen p1))
      · rw [if_pos hc15] at hE
        refine g_ic_eq_t aX9_wordIn_38 hc15 ?_
        refine g_ldi aX9_wordIn_52 rfl ?_
        refine g_ldin aX9_wordIn_54 rfl ?_
        refine g_isub aX9_wordIn_55 ?_
        refine g_ldin aX9_wordIn_56 rfl ?_
        by_cases hc16 : ¬ (x9 - x7) = (r4 - (s5.1 1 2))
        · rw [if_pos hc16] at hE
          refine g_ic_ne_t aX9_wordIn_57 hc16 ?_
          refine g_iinc (y := 1) (loc2 := [.ref 1, .ref (i_SB + p1), .int (r4 - (s5.1 1 2)), .int x7, .int (x8 + 1), .int x9]) aX9_wordIn_73 rfl rfl rfl ?_
          refine g_ldi aX9_wordIn_76 rfl ?_
          refine g_iconst (x := 1) aX9_wordIn_78 rfl ?_
          refine g_iadd aX9_wordIn_79 ?_
          refine g_stin (loc2 := [.ref 1, .ref (i_SB + p1), .int (r4 - (s5.1 1 2)), .int (x9 + 1), .int (x8 + 1), .int x9]) aX9_wordIn_80 (Nat.le_of_ble_eq_true rfl) rfl ?_
          refine g_iinc (y := 1) (loc2 := [.ref 1, .ref (i_SB + p1), .int (r4 - (s5.1 1 2)), .int (x9 + 1), .int (x8 + 1), .int (x9 + 1)]) aX9_wordIn_81 rfl rfl rfl ?_
          refine g_goto aX9_wordIn_84 ?_
          exact ih _ _ _ _ hE
        · rw [if_neg hc16] at hE
          refine g_ic_ne_f aX9_wordIn_57 hc16 ?_
          refine g_ldan aX9_wordIn_60 rfl ?_
          refine g_ldan aX9_wordIn_61 rfl ?_
          refine g_ldin aX9_wordIn_62 rfl ?_
          refine g_ldin aX9_wordIn_63 rfl ?_
          obtain ⟨r17, s18, h19, hE⟩ := i_bd_some hE
          refine g_calV (As := [.ref (i_SB + p1), .int x7, .int (r4 - (s5.1 1 2))]) (rest := []) aX9_wordIn_64 (i_X_mono (by omega) (tX9_isHere hsh h19)) (sC_1 hsh) (by decide +kernel) rfl rfl (Nat.le_of_ble_eq_true rfl) rfl ?_
          by_cases hc20 : r17 = 0
          · rw [if_pos hc20] at hE
            refine g_if_eq_t aX9_wordIn_67 hc20 ?_
            refine g_iinc (y := 1) (loc2 := [.ref 1, .ref (i_SB + p1), .int (r4 - (s5.1 1 2)), .int x7, .int (x8 + 1), .int x9]) aX9_wordIn_73 rfl rfl rfl ?_
            refine g_ldi aX9_wordIn_76 rfl ?_
            refine g_iconst (x := 1) aX9_wordIn_78 rfl ?_
            refine g_iadd aX9_wordIn_79 ?_
            refine g_stin (loc2 := [.ref 1, .ref (i_SB + p1), .int (r4 - (s5.1 1 2)), .int (x9 + 1), .int (x8 + 1), .int x9]) aX9_wordIn_80 (Nat.le_of_ble_eq_true rfl) rfl ?_
            refine g_iinc (y := 1) (loc2 := [.ref 1, .ref (i_SB + p1), .int (r4 - (s5.1 1 2)), .int (x9 + 1), .int (x8 + 1), .int (x9 + 1)]) aX9_wordIn_81 rfl rfl rfl ?_
            refine g_goto aX9_wordIn_84 ?_
            exact ih _ _ _ _ hE
          · rw [if_neg hc20] at hE
            refine g_if_eq_f aX9_wordIn_67 hc20 ?_
            refine g_ldi aX9_wordIn_70 rfl ?_
            obtain ⟨rfl, rfl⟩ := i_some_inj hE
            exact g_iret aX9_wordIn_72 rfl rfl
      · rw [if_neg hc15] at hE
        refine g_ic_eq_f aX9_wordIn_38 hc15 ?_
        refine g_ldan aX9_wordIn_41 rfl ?_
        refine g_ldi aX9_wordIn_42 rfl ?_
        obtain ⟨h21, hE⟩ := i_ifn hE
        obtain ⟨h22, hE⟩ := i_ifn hE
        refine g_schr aX9_wordIn_44 h21 h22 (Nat.le_of_ble_eq_true rfl) ?_
        refine g_bipush (x := 32) aX9_wordIn_47 rfl ?_
        by_cases hc23 : ¬ (i_schr p1 x9.toNatClampNeg) = 32
        · rw [if_pos hc23] at hE
          refine g_ic_ne_t aX9_wordIn_49 hc23 ?_
          refine g_iinc (y := 1) (loc2 := [.ref 1, .ref (i_SB + p1), .int (r4 - (s5.1 1 2)), .int x7, .int x8, .int (x9 + 1)]) aX9_wordIn_81 rfl rfl rfl ?_
          refine g_goto aX9_wordIn_84 ?_
          exact ih _ _ _ _ hE
        · rw [if_neg hc23] at hE
          refine g_ic_ne_f aX9_wordIn_49 hc23 ?_
          refine g_ldi aX9_wordIn_52 rfl ?_
          refine g_ldin aX9_wordIn_54 rfl ?_
          refine g_isub aX9_wordIn_55 ?_
          refine g_ldin aX9_wordIn_56 rfl ?_
          by_cases hc24 : ¬ (x9 - x7) = (r4 - (s5.1 1 2))
          · rw [if_pos hc24] at hE
            refine g_ic_ne_t aX9_wordIn_57 hc24 ?_
            refine g_iinc (y := 1) (loc2 := [.ref 1, .ref (i_SB + p1), .int (r4 - (s5.1 1 2)), .int x7, .int (x8 + 1), .int x9]) aX9_wordIn_73 rfl rfl rfl ?_
            refine g_ldi aX9_wordIn_76 rfl ?_
            refine g_iconst (x := 1) aX9_wordIn_78 rfl ?_
            refine g_iadd aX9_wordIn_79 ?_
            refine g_stin (loc2 := [.ref 1, .ref (i_SB + p1), .int (r4 - (s5.1 1 2)), .int (x9 + 1), .int (x8 + 1), .int x9]) aX9_wordIn_80 (Nat.le_of_ble_eq_true rfl) rfl ?_
            refine g_iinc (y := 1) (loc2 := [.ref 1, .ref (i_SB + p1), .int (r4 - (s5.1 1 2)), .int (x9 + 1), .int (x8 + 1), .int (x9 + 1)]) aX9_wordIn_81 rfl rfl rfl ?_
            refine g_goto aX9_wordIn_84 ?_
            exact ih _ _ _ _ hE
          · rw [if_neg hc24] at hE
            refine g_ic_ne_f aX9_wordIn_57 hc24 ?_
            refine g_ldan aX9_wordIn_60 rfl ?_
            refine g_ldan aX9_wordIn_61 rfl ?_
            refine g_ldin aX9_wordIn_62 rfl ?_
            refine g_ldin aX9_wordIn_63 rfl ?_
            obtain ⟨r25, s26, h27, hE⟩ := i_bd_some hE
            refine g_calV (As := [.ref (i_SB + p1), .int x7, .int (r4 - (s5.1 1 2))]) (rest := []) aX9_wordIn_64 (i_X_mono (by omega) (tX9_isHere hsh h27)) (sC_1 hsh) (by decide +kernel) rfl rfl (Nat.le_of_ble_eq_true rfl) rfl ?_
            by_cases hc28 : r25 = 0
            · rw [if_pos hc28] at hE
              refine g_if_eq_t aX9_wordIn_67 hc28 ?_
              refine g_iinc (y := 1) (loc2 := [.ref 1, .ref (i_SB + p1), .int (r4 - (s5.1 1 2)), .int x7, .int (x8 + 1), .int x9]) aX9_wordIn_73 rfl rfl rfl ?_
              refine g_ldi aX9_wordIn_76 rfl ?_
              refine g_iconst (x := 1) aX9_wordIn_78 rfl ?_
              refine g_iadd aX9_wordIn_79 ?_
              refine g_stin (loc2 := [.ref 1, .ref (i_SB + p1), .int (r4 - (s5.1 1 2)), .int (x9 + 1), .int (x8 + 1), .int x9]) aX9_wordIn_80 (Nat.le_of_ble_eq_true rfl) rfl ?_
              refine g_iinc (y := 1) (loc2 := [.ref 1, .ref (i_SB + p1), .int (r4 - (s5.1 1 2)), .int (x9 + 1), .int (x8 + 1), .int (x9 + 1)]) aX9_wordIn_81 rfl rfl rfl ?_
              refine g_goto aX9_wordIn_84 ?_
              exact ih _ _ _ _ hE
            · rw [if_neg hc28] at hE
              refine g_if_eq_f aX9_wordIn_67 hc28 ?_
              refine g_ldi aX9_wordIn_70 rfl ?_
              obtain ⟨rfl, rfl⟩ := i_some_inj hE
              exact g_iret aX9_wordIn_72 rfl rfl
set_option maxRecDepth 20000 in
set_option maxHeartbeats 2000000 in
theorem tX9_wordIn {sh : List kd} {σ τ : St} {r : Int32} (hsh : cSh sh) {p1 : Nat} (hE : fX9_wordIn sh σ p1 = some (r, τ)) : i_X 2 81 [.ref 1, .ref (i_SB + p1)] (s_h sh σ) 0 0 (some (.int r)) (s_h sh τ) := by
  refine g_X (M := mX9_wordIn) (loc := [.ref 1, .ref (i_SB + p1), .retAddr 0, .retAddr 0, .retAddr 0, .retAddr 0]) rfl (Nat.le_of_ble_eq_true rfl) rfl ?_
  unfold fX9_wordIn at hE
  refine g_ldan aX9_wordIn_0 rfl ?_
  obtain ⟨r1, s2, h3, hE⟩ := i_bd_some hE
  refine g_calV (As := []) (rest := []) aX9_wordIn_1 (i_X_mono (by omega) (tX9_sign hsh h3)) (sC_1 hsh) (by decide +kernel) rfl rfl (Nat.le_of_ble_eq_true rfl) rfl ?_
  refine g_popi aX9_wordIn_4 ?_
  refine g_ldan aX9_wordIn_5 rfl ?_
  obtain ⟨r4, s5, h6, hE⟩ := i_bd_some hE
  refine g_calV (As := []) (rest := []) aX9_wordIn_6 (i_X_mono (by omega) (tX9_wordEnd hsh h6)) (sC_1 hsh) (by decide +kernel) rfl rfl (Nat.le_of_ble_eq_true rfl) rfl ?_
  refine g_ldan aX9_wordIn_9 rfl ?_
  refine g_getI aX9_wordIn_10 (sC_1 hsh) rfl ?_
  refine g_isub aX9_wordIn_13 ?_
  refine g_stin (loc2 := [.ref 1, .ref (i_SB + p1), .int (r4 - (s5.1 1 2)), .retAddr 0, .retAddr 0, .retAddr 0]) aX9_wordIn_14 (Nat.le_of_ble_eq_true rfl) rfl ?_
  refine g_iconst (x := 0) aX9_wordIn_15 rfl ?_
  refine g_stin (loc2 := [.ref 1, .ref (i_SB + p1), .int (r4 - (s5.1 1 2)), .int 0, .retAddr 0, .retAddr 0]) aX9_wordIn_16 (Nat.le_of_ble_eq_true rfl) rfl ?_
  refine g_iconst (x := 0) aX9_wordIn_17 rfl ?_
  refine g_sti (loc2 := [.ref 1, .ref (i_SB + p1), .int (r4 - (s5.1 1 2)), .int 0, .int 0, .retAddr 0]) aX9_wordIn_18 (Nat.le_of_ble_eq_true rfl) rfl ?_
  refine g_iconst (x := 0) aX9_wordIn_20 rfl ?_
  refine g_sti (loc2 := [.ref 1, .ref (i_SB + p1), .int (r4 - (s5.1 1 2)), .int 0, .int 0, .int 0]) aX9_wordIn_21 (Nat.le_of_ble_eq_true rfl) rfl ?_
  exact tX9_wordIn_L23 hsh i_F _ _ _ _ hE
theorem aX9_skipWord_0 : i_at mX9_skipWord.2.2.2.2.2 0 = some (.aload_n 0, 1, 0, 0, 0, 0) := by decide +kernel
theorem aX9_skipWord_1 : i_at mX9_skipWord.2.2.2.2.2 1 = some (.aload_n 0, 1, 0, 0, 0, 0) := by decide +kernel
theorem aX9_skipWord_2 : i_at mX9_skipWord.2.2.2.2.2 2 = some (.invokevirtual 33, 3, 84, 0, 532, 0) := by decide +kernel
theorem aX9_skipWord_5 : i_at mX9_skipWord.2.2.2.2.2 5 = some (.putfield 19, 3, 8, 2, 133, 0) := by decide +kernel
theorem aX9_skipWord_8 : i_at mX9_skipWord.2.2.2.2.2 8 = some (.return_, 1, 0, 0, 0, 0) := by decide +kernel
noncomputable def fX9_skipWord (sh : List kd) (σ : St) : Option (Unit × St) := i_bd (fX9_wordEnd sh σ) (fun r1 s2 => some ((), s_F s2 1 2 r1))
set_option maxRecDepth 20000 in
set_option maxHeartbeats 2000000 in
theorem tX9_skipWord {sh : List kd} {σ τ : St} {r : Unit} (hsh : cSh sh) (hE : fX9_skipWord sh σ = some (r, τ)) : i_X 2 83 [.ref 1] (s_h sh σ) 0 0 none (s_h sh τ) := by
  refine g_X (M := mX9_skipWord) (loc := [.ref 1]) rfl (Nat.le_of_ble_eq_true rfl) rfl ?_
  unfold fX9_skipWord at hE
  refine g_ldan aX9_skipWord_0 rfl ?_
  refine g_ldan aX9_skipWord_1 rfl ?_
  obtain ⟨r1, s2, h3, hE⟩ := i_bd_some hE
  refine g_calV (As := []) (rest := [.ref 1]) aX9_skipWord_2 (i_X_mono (by omega) (tX9_wordEnd hsh h3)) (sC_1 hsh) (by decide +kernel) rfl rfl (Nat.le_of_ble_eq_true rfl) rfl ?_
  refine g_putI aX9_skipWord_5 (sC_1 hsh) rfl rfl ?_
  obtain ⟨rfl, rfl⟩ := i_some_inj hE
  exact g_vret aX9_skipWord_8 rfl
theorem aX11_deed_0 : i_at mX11_deed.2.2.2.2.2 0 = some (.aload_n 0, 1, 0, 0, 0, 0) := by decide +kernel
theorem aX11_deed_1 : i_at mX11_deed.2.2.2.2.2 1 = some (.getfield 59, 3, 10, 6, 460, 0) := by decide +kernel
theorem aX11_deed_4 : i_at mX11_deed.2.2.2.2.2 4 = some (.getfield 95, 3, 9, 0, 347, 0) := by decide +kernel
theorem aX11_deed_7 : i_at mX11_deed.2.2.2.2.2 7 = some (.iload_n 1, 1, 0, 0, 0, 0) := by decide +kernel
theorem aX11_deed_8 : i_at mX11_deed.2.2.2.2.2 8 = some (.invokevirtual 155, 3, 54, 1, 773, 0) := by decide +kernel
theorem aX11_deed_11 : i_at mX11_deed.2.2.2.2.2 11 = some (.ifCond .eq 13, 3, 24, 0, 0, 0) := by decide +kernel
theorem aX11_deed_14 : i_at mX11_deed.2.2.2.2.2 14 = some (.iload_n 2, 1, 0, 0, 0, 0) := by decide +kernel
theorem aX11_deed_15 : i_at mX11_deed.2.2.2.2.2 15 = some (.iconst 1, 1, 0, 0, 0, 0) := by decide +kernel
theorem aX11_deed_16 : i_at mX11_deed.2.2.2.2.2 16 = some (.bipush 99, 2, 0, 0, 0, 0) := by decide +kernel
theorem aX11_deed_18 : i_at mX11_deed.2.2.2.2.2 18 = some (.invokestatic 187, 3, 125, 3, 847, 0) := by decide +kernel
theorem aX11_deed_21 : i_at mX11_deed.2.2.2.2.2 21 = some (.ifCond .ne 5, 3, 26, 0, 0, 0) := by decide +kernel
theorem aX11_deed_24 : i_at mX11_deed.2.2.2.2.2 24 = some (.iconst (-1), 1, 0, 0, 0, 0) := by decide +kernel
theorem aX11_deed_25 : i_at mX11_deed.2.2.2.2.2 25 = some (.ireturn, 1, 0, 0, 0, 0) := by decide +kernel
theorem aX11_deed_26 : i_at mX11_deed.2.2.2.2.2 26 = some (.aload_n 0, 1, 0, 0, 0, 0) := by decide +kernel
theorem aX11_deed_27 : i_at mX11_deed.2.2.2.2.2 27 = some (.getfield 59, 3, 10, 6, 460, 0) := by decide +kernel
theorem aX11_deed_30 : i_at mX11_deed.2.2.2.2.2 30 = some (.invokevirtual 180, 3, 87, 0, 785, 0) := by decide +kernel
theorem aX11_deed_33 : i_at mX11_deed.2.2.2.2.2 33 = some (.aload_n 0, 1, 0, 0, 0, 0) := by decide +kernel
theorem aX11_deed_34 : i_at mX11_deed.2.2.2.2.2 34 = some (.getfield 59, 3, 10, 6, 460, 0) := by decide +kernel
theorem aX11_deed_37 : i_at mX11_deed.2.2.2.2.2 37 = some (.getfield 102, 3, 9, 1, 351, 0) := by decide +kernel
theorem aX11_deed_40 : i_at mX11_deed.2.2.2.2.2 40 = some (.iload_n 1, 1, 0, 0, 0, 0) := by decide +kernel
theorem aX11_deed_41 : i_at mX11_deed.2.2.2.2.2 41 = some (.iload_n 2, 1, 0, 0, 0, 0) := by decide +kernel
theorem aX11_deed_42 : i_at mX11_deed.2.2.2.2.2 42 = some (.invokevirtual 191, 3, 28, 2, 850, 0) := by decide +kernel
theorem aX11_deed_45 : i_at mX11_deed.2.2.2.2.2 45 = some (.aload_n 0, 1, 0, 0, 0, 0) := by decide +kernel
theorem aX11_deed_46 : i_at mX11_deed.2.2.2.2.2 46 = some (.getfield 59, 3, 10, 6, 460, 0) := by decide +kernel
theorem aX11_deed_49 : i_at mX11_deed.2.2.2.2.2 49 = some (.getfield 102, 3, 9, 1, 351, 0) := by decide +kernel
theorem aX11_deed_52 : i_at mX11_deed.2.2.2.2.2 52 = some (.getfield 158, 3, 3, 4, 312, 0) := by decide +kernel
theorem aX11_deed_55 : i_at mX11_deed.2.2.2.2.2 55 = some (.iload_n 1, 1, 0, 0, 0, 0) := by decide +kernel
theorem aX11_deed_56 : i_at mX11_deed.2.2.2.2.2 56 = some (.iaload, 1, 0, 0, 0, 0) := by decide +kernel
theorem aX11_deed_57 : i_at mX11_deed.2.2.2.2.2 57 = some (.ireturn, 1, 0, 0, 0, 0) := by decide +kernel
noncomputable def fX11_deed (sh : List kd) (σ : St) (p1 : Int32) (p2 : Int32) : Option (Int32 × St) := i_bd (fX6_hasPerson sh σ 20 p1) (fun r1 s2 => if r1 = 0 then some ((-1), s2) else i_bd (fX11_isWithin sh s2 p2 1 99) (fun r5 s6 => if ¬ r5 = 0 then i_bd (fX10_remember sh s6 19) (fun r9 s10 => i_bd (fX4_thank sh s10 26 p1 p2) (fun r12 s13 => if i_ok p1 6 then some ((s13.2.1 27 p1.toNatClampNeg), s13) else none)) else some ((-1), s6)))
set_option maxRecDepth 20000 in
set_option maxHeartbeats 2000000 in
theorem tX11_deed {sh : List kd} {σ τ : St} {r : Int32} (hsh : cSh sh) {p1 : Int32} {p2 : Int32} (hE : fX11_deed sh σ p1 p2 = some (r, τ)) : i_X 3 100 [.ref 0, .int p1, .int p2] (s_h sh σ) 0 0 (some (.int r)) (s_h sh τ) := by
  refine g_X (M := mX11_deed) (loc := [.ref 0, .int p1, .int p2]) rfl (Nat.le_of_ble_eq_true rfl) rfl ?_
  unfold fX11_deed at hE
  refine g_ldan aX11_deed_0 rfl ?_
  refine g_getR aX11_deed_1 (sC_0 hsh) rfl ?_
  refine g_getR aX11_deed_4 ((wShB_19 hsh).1) rfl ?_
  refine g_ldin aX11_deed_7 rfl ?_
  obtain ⟨r1, s2, h3, hE⟩ := i_bd_some hE
  refine g_calV (As := [.int p1]) (rest := []) aX11_deed_8 (i_X_mono (by omega) (tX6_hasPerson hsh (rShB_20 hsh) h3)) ((rShB_20 hsh).1) (by decide +kernel) rfl rfl (Nat.le_of_ble_eq_true rfl) rfl ?_
  by_cases hc4 : r1 = 0
  · rw [if_pos hc4] at hE
    refine g_if_eq_t aX11_deed_11 hc4 ?_
    refine g_iconst (x := (-1)) aX11_deed_24 rfl ?_
    obtain ⟨rfl, rfl⟩ := i_some_inj hE
    exact g_iret aX11_deed_25 rfl rfl
  · rw [if_neg hc4] at hE
    refine g_if_eq_f aX11_deed_11 hc4 ?_
    refine g_ldin aX11_deed_14 rfl ?_
    refine g_iconst (x := 1) aX11_deed_15 rfl ?_
    refine g_bipush (x := 99) aX11_deed_16 rfl ?_
    obtain ⟨r5, s6, h7, hE⟩ := i_bd_some hE
    refine g_calS (As := [.int p2, .int 1, .int 99]) (rest := []) aX11_deed_18 (i_X_mono (by omega) (tX11_isWithin hsh h7)) rfl rfl (Nat.le_of_ble_eq_true rfl) rfl ?_
    by_cases hc8 : ¬ r5 = 0
    · rw [if_pos hc8] at hE
      refine g_if_ne_t aX11_deed_21 hc8 ?_
      refine g_ldan aX11_deed_26 rfl ?_
      refine g_getR aX11_deed_27 (sC_0 hsh) rfl ?_
      obtain ⟨r9, s10, h11, hE⟩ := i_bd_some hE
      refine g_calV (As := []) (rest := []) aX11_deed_30 (i_X_mono (by omega) (tX10_remember hsh (wShB_19 hsh) h11)) ((wShB_19 hsh).1) (by decide +kernel) rfl rfl (Nat.le_of_ble_eq_true rfl) rfl ?_
      refine g_ldan aX11_deed_33 rfl ?_
      refine g_getR aX11_deed_34 (sC_0 hsh) rfl ?_
      refine g_getR aX11_deed_37 ((wShB_19 hsh).1) rfl ?_
      refine g_ldin aX11_deed_40 rfl ?_
      refine g_ldin aX11_deed_41 rfl ?_
      obtain ⟨r12, s13, h14, hE⟩ := i_bd_some hE
      refine g_calV (As := [.int p1, .int p2]) (rest := []) aX11_deed_42 (i_X_mono (by omega) (tX4_thank hsh (lShB_26 hsh) h14)) ((lShB_26 hsh).1) (by decide +kernel) rfl rfl (Nat.le_of_ble_eq_true rfl) rfl ?_
      refine g_ldan aX11_deed_45 rfl ?_
      refine g_getR aX11_deed_46 (sC_0 hsh) rfl ?_
      refine g_getR aX11_deed_49 ((wShB_19 hsh).1) rfl ?_
      refine g_getR aX11_deed_52 ((lShB_26 hsh).1) rfl ?_
      refine g_ldin aX11_deed_55 rfl ?_
      obtain ⟨h15, hE⟩ := i_ifn hE
      refine g_ild aX11_deed_56 (sC_27 hsh) h15 ?_
      obtain ⟨rfl, rfl⟩ := i_some_inj hE
      exact g_iret aX11_deed_57 rfl rfl
    · rw [if_neg hc8] at hE
      refine g_if_ne_f aX11_deed_21 hc8 ?_
      refine g_iconst (x := (-1)) aX11_deed_24 rfl ?_
      obtain ⟨rfl, rfl⟩ := i_some_inj hE
      exact g_iret aX11_deed_25 rfl rfl
theorem aX11_slight_0 : i_at mX11_slight.2.2.2.2.2 0 = some (.aload_n 0, 1, 0, 0, 0, 0) := by decide +kernel
theorem aX11_slight_1 : i_at mX11_slight.2.2.2.2.2 1 = some (.getfield 59, 3, 10, 6, 460, 0) := by decide +kernel
theorem aX11_slight_4 : i_at mX11_slight.2.2.2.2.2 4 = some (.getfield 95, 3, 9, 0, 347, 0) := by decide +kernel
theorem aX11_slight_7 : i_at mX11_slight.2.2.2.2.2 7 = some (.iload_n 1, 1, 0, 0, 0, 0) := by decide +kernel
theorem aX11_slight_8 : i_at mX11_slight.2.2.2.2.2 8 = some (.invokevirtual 155, 3, 54, 1, 773, 0) := by decide +kernel
theorem aX11_slight_11 : i_at mX11_slight.2.2.2.2.2 11 = some (.ifCond .eq 29, 3, 40, 0, 0, 0) := by decide +kernel
theorem aX11_slight_14 : i_at mX11_slight.2.2.2.2.2 14 = some (.iload_n 2, 1, 0, 0, 0, 0) := by decide +kernel
theorem aX11_slight_15 : i_at mX11_slight.2.2.2.2.2 15 = some (.iconst 1, 1, 0, 0, 0, 0) := by decide +kernel
theorem aX11_slight_16 : i_at mX11_slight.2.2.2.2.2 16 = some (.bipush 99, 2, 0, 0, 0, 0) := by decide +kernel
theorem aX11_slight_18 : i_at mX11_slight.2.2.2.2.2 18 = some (.invokestatic 187, 3, 125, 3, 847, 0) := by decide +kernel
theorem aX11_slight_21 : i_at mX11_slight.2.2.2.2.2 21 = some (.ifCond .eq 19, 3, 40, 0, 0, 0) := by decide +kernel
theorem aX11_slight_24 : i_at mX11_slight.2.2.2.2.2 24 = some (.aload_n 0, 1, 0, 0, 0, 0) := by decide +kernel
theorem aX11_slight_25 : i_at mX11_slight.2.2.2.2.2 25 = some (.getfield 59, 3, 10, 6, 460, 0) := by decide +kernel
theorem aX11_slight_28 : i_at mX11_slight.2.2.2.2.2 28 = some (.getfield 102, 3, 9, 1, 351, 0) := by decide +kernel
theorem aX11_slight_31 : i_at mX11_slight.2.2.2.2.2 31 = some (.getfield 158, 3, 3, 4, 312, 0) := by decide +kernel
theorem aX11_slight_34 : i_at mX11_slight.2.2.2.2.2 34 = some (.iload_n 1, 1, 0, 0, 0, 0) := by decide +kernel
theorem aX11_slight_35 : i_at mX11_slight.2.2.2.2.2 35 = some (.iaload, 1, 0, 0, 0, 0) := by decide +kernel
theorem aX11_slight_36 : i_at mX11_slight.2.2.2.2.2 36 = some (.iload_n 2, 1, 0, 0, 0, 0) := by decide +kernel
theorem aX11_slight_37 : i_at mX11_slight.2.2.2.2.2 37 = some (.if_icmp .ge 5, 3, 42, 0, 0, 0) := by decide +kernel
theorem aX11_slight_40 : i_at mX11_slight.2.2.2.2.2 40 = some (.iconst (-1), 1, 0, 0, 0, 0) := by decide +kernel
theorem aX11_slight_41 : i_at mX11_slight.2.2.2.2.2 41 = some (.ireturn, 1, 0, 0, 0, 0) := by decide +kernel
theorem aX11_slight_42 : i_at mX11_slight.2.2.2.2.2 42 = some (.aload_n 0, 1, 0, 0, 0, 0) := by decide +kernel
theorem aX11_slight_43 : i_at mX11_slight.2.2.2.2.2 43 = some (.getfield 59, 3, 10, 6, 460, 0) := by decide +kernel
theorem aX11_slight_46 : i_at mX11_slight.2.2.2.2.2 46 = some (.invokevirtual 180, 3, 87, 0, 785, 0) := by decide +kernel
theorem aX11_slight_49 : i_at mX11_slight.2.2.2.2.2 49 = some (.aload_n 0, 1, 0, 0, 0, 0) := by decide +kernel
theorem aX11_slight_50 : i_at mX11_slight.2.2.2.2.2 50 = some (.getfield 59, 3, 10, 6, 460, 0) := by decide +kernel
theorem aX11_slight_53 : i_at mX11_slight.2.2.2.2.2 53 = some (.getfield 102, 3, 9, 1, 351, 0) := by decide +kernel
theorem aX11_slight_56 : i_at mX11_slight.2.2.2.2.2 56 = some (.getfield 158, 3, 3, 4, 312, 0) := by decide +kernel
theorem aX11_slight_59 : i_at mX11_slight.2.2.2.2.2 59 = some (.iload_n 1, 1, 0, 0, 0, 0) := by decide +kernel
theorem aX11_slight_60 : i_at mX11_slight.2.2.2.2.2 60 = some (.dup2, 1, 0, 0, 0, 0) := by decide +kernel
theorem aX11_slight_61 : i_at mX11_slight.2.2.2.2.2 61 = some (.iaload, 1, 0, 0, 0, 0) := by decide +kernel
theorem aX11_slight_62 : i_at mX11_slight.2.2.2.2.2 62 = some (.iload_n 2, 1, 0, 0, 0, 0) := by decide +kernel
theorem aX11_slight_63 : i_at mX11_slight.2.2.2.2.2 63 = some (.isub, 1, 0, 0, 0, 0) := by decide +kernel
theorem aX11_slight_64 : i_at mX11_slight.2.2.2.2.2 64 = some (.iastore, 1, 0, 0, 0, 0) := by decide +kernel
theorem aX11_slight_65 : i_at mX11_slight.2.2.2.2.2 65 = some (.aload_n 0, 1, 0, 0, 0, 0) := by decide +kernel
theorem aX11_slight_66 : i_at mX11_slight.2.2.2.2.2 66 = some (.getfield 59, 3, 10, 6, 460, 0) := by decide +kernel
theorem aX11_slight_69 : i_at mX11_slight.2.2.2.2.2 69 = some (.getfield 102, 3, 9, 1, 351, 0) := by decide +kernel
theorem aX11_slight_72 : i_at mX11_slight.2.2.2.2.2 72 = some (.getfield 158, 3, 3, 4, 312, 0) := by decide +kernel
theorem aX11_slight_75 : i_at mX11_slight.2.2.2.2.2 75 = some (.iload_n 1, 1, 0, 0, 0, 0) := by decide +kernel
theorem aX11_slight_76 : i_at mX11_slight.2.2.2.2.2 76 = some (.iaload, 1, 0, 0, 0, 0) := by decide +kernel
theorem aX11_slight_77 : i_at mX11_slight.2.2.2.2.2 77 = some (.ireturn, 1, 0, 0, 0, 0) := by decide +kernel
noncomputable def fX11_slight (sh : List kd) (σ : St) (p1 : Int32) (p2 : Int32) : Option (Int32 × St) := i_bd (fX6_hasPerson sh σ 20 p1) (fun r1 s2 => if r1 = 0 then some ((-1), s2) else i_bd (fX11_isWithin sh s2 p2 1 99) (fun r5 s6 => if r5 = 0 then some ((-1), s6) else if i_ok p1 6 then if p2 ≤ (s6.2.1 27 p1.toNatClampNeg) then i_bd (fX10_remember sh s6 19) (fun r11 s12 => if i_ok p1 6 then if i_ok p1 6 then if i_ok p1 6 then some (((s_A s12 27 p1.toNatClampNeg ((s12.2.1 27 p1.toNatClampNeg) - p2)).2.1 27 p1.toNatClampNeg), s_A s12 27 p1.toNatClampNeg ((s12.2.1 27 p1.toNatClampNeg) - p2)) else none else none else none) else some ((-1), s6) else none))
set_option maxRecDepth 20000 in
set_option maxHeartbeats 2000000 in
theorem tX11_slight {sh : List kd} {σ τ : St} {r : Int32} (hsh : cSh sh) {p1 : Int32} {p2 : Int32} (hE : fX11_slight sh σ p1 p2 = some (r, τ)) : i_X 3 101 [.ref 0, .int p1, .int p2] (s_h sh σ) 0 0 (some (.int r)) (s_h sh τ) := by
  refine g_X (M := mX11_slight) (loc := [.ref 0, .int p1, .int p2]) rfl (Nat.le_of_ble_eq_true rfl) rfl ?_
  unfold fX11_slight at hE
  refine g_ldan aX11_slight_0 rfl ?_
  refine g_getR aX11_slight_1 (sC_0 hsh) rfl ?_
  refine g_getR aX11_slight_4 ((wShB_19 hsh).1) rfl ?_
  refine g_ldin aX11_slight_7 rfl ?_
  obtain ⟨r1, s2, h3, hE⟩ := i_bd_some hE
  refine g_calV (As := [.int p1]) (rest := []) aX11_slight_8 (i_X_mono (by omega) (tX6_hasPerson hsh (rShB_20 hsh) h3)) ((rShB_20 hsh).1) (by decide +kernel) rfl rfl (Nat.le_of_ble_eq_true rfl) rfl ?_
  by_cases hc4 : r1 = 0
  · rw [if_pos hc4] at hE
    refine g_if_eq_t aX11_slight_11 hc4 ?_
    refine g_iconst (x := (-1)) aX11_slight_40 rfl ?_
    obtain ⟨rfl, rfl⟩ := i_some_inj hE
    exact g_iret aX11_slight_41 rfl rfl
  · rw [if_neg hc4] at hE
    refine g_if_eq_f aX11_slight_11 hc4 ?_
    refine g_ldin aX11_slight_14 rfl ?_
    refine g_iconst (x := 1) aX11_slight_15 rfl ?_
    refine g_bipush (x := 99) aX11_slight_16 rfl ?_
    obtain ⟨r5, s6, h7, hE⟩ := i_bd_some hE
    refine g_calS (As := [.int p2, .int 1, .int 99]) (rest := []) aX11_slight_18 (i_X_mono (by omega) (tX11_isWithin hsh h7)) rfl rfl (Nat.le_of_ble_eq_true rfl) rfl ?_
    by_cases hc8 : r5 = 0
    · rw [if_pos hc8] at hE
      refine g_if_eq_t aX11_slight_21 hc8 ?_
      refine g_iconst (x := (-1)) aX11_slight_40 rfl ?_
      obtain ⟨rfl, rfl⟩ := i_some_inj hE
      exact g_iret aX11_slight_41 rfl rfl
    · rw [if_neg hc8] at hE
      refine g_if_eq_f aX11_slight_21 hc8 ?_
      refine g_ldan aX11_slight_24 rfl ?_
      refine g_getR aX11_slight_25 (sC_0 hsh) rfl ?_
      refine g_getR aX11_slight_28 ((wShB_19 hsh).1) rfl ?_
      refine g_getR aX11_slight_31 ((lShB_26 hsh).1) rfl ?_
      refine g_ldin aX11_slight_34 rfl ?_
      obtain ⟨h9, hE⟩ := i_ifn hE
      refine g_ild aX11_slight_35 (sC_27 hsh) h9 ?_
      refine g_ldin aX11_slight_36 rfl ?_
      by_cases hc10 : p2 ≤ (s6.2.1 27 p1.toNatClampNeg)
      · rw [if_pos hc10] at hE
        refine g_ic_ge_t aX11_slight_37 hc10 ?_
        refine g_ldan aX11_slight_42 rfl ?_
        refine g_getR aX11_slight_43 (sC_0 hsh) rfl ?_
        obtain ⟨r11, s12, h13, hE⟩ := i_bd_some hE
        refine g_calV (As := []) (rest := []) aX11_slight_46 (i_X_mono (by omega) (tX10_remember hsh (wShB_19 hsh) h13)) ((wShB_19 hsh).1) (by decide +kernel) rfl rfl (Nat.le_of_ble_eq_true rfl) rfl ?_
        refine g_ldan aX11_slight_49 rfl ?_
        refine g_getR aX11_slight_50 (sC_0 hsh) rfl ?_
        refine g_getR aX11_slight_53 ((wShB_19 hsh).1) rfl ?_
        refine g_getR aX11_slight_56 ((lShB_26 hsh).1) rfl ?_
        refine g_ldin aX11_slight_59 rfl ?_
        refine g_dup2 aX11_slight_60 ?_
        obtain ⟨h14, hE⟩ := i_ifn hE
        refine g_ild aX11_slight_61 (sC_27 hsh) h14 ?_
        refine g_ldin aX11_slight_62 rfl ?_
        refine g_isub aX11_slight_63 ?_
        obtain ⟨h15, hE⟩ := i_ifn hE
        refine g_ist aX11_slight_64 (sC_27 hsh) h15 ?_
        refine g_ldan aX11_slight_65 rfl ?_
        refine g_getR aX11_slight_66 (sC_0 hsh) rfl ?_
        refine g_getR aX11_slight_69 ((wShB_19 hsh).1) rfl ?_
        refine g_getR aX11_slight_72 ((lShB_26 hsh).1) rfl ?_
        refine g_ldin aX11_slight_75 rfl ?_
        obtain ⟨h16, hE⟩ := i_ifn hE
        refine g_ild aX11_slight_76 (sC_27 hsh) h16 ?_
        obtain ⟨rfl, rfl⟩ := i_some_inj hE
        exact g_iret aX11_slight_77 rfl rfl
      · rw [if_neg hc10] at hE
        refine g_ic_ge_f aX11_slight_37 hc10 ?_
        refine g_iconst (x := (-1)) aX11_slight_40 rfl ?_
        obtain ⟨rfl, rfl⟩ := i_some_inj hE
        exact g_iret aX11_slight_41 rfl rfl
