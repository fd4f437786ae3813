/-! ===== RULE: class and reference alike ===== -/
theorem c0 {sh : List kd} {σ : St} (h : cSh sh) : (s_h sh σ)[0]? = some (.inr (10, [.ref 1, .ref 3, .ref 9, .ref 10, .ref 15, .ref 16, .ref 19, .ref 134, .ref 143, .ref 159, .int (σ.1 0 10)])) := s_h_at (sC_0 h)
theorem c1 {sh : List kd} {σ : St} (h : cSh sh) : (s_h sh σ)[1]? = some (.inr (8, [.ref 2, .int (σ.1 1 1), .int (σ.1 1 2), .int (σ.1 1 3)])) := s_h_at (sC_1 h)
/-- an answer alike where cells may be made -/
def alikeX (shR : List kd) (y : Nat) (as : List Value) (sh : List kd) (σ : St) (yR : Option (Int32 × St)) : Prop := ∃ v sh' τC τR W rl im tp, i_X 80 y as (s_h sh σ) 300 3000 (some (.int v)) (s_h sh' τC) ∧ yR = some (v, τR) ∧ IV sh' shR τC τR W rl im tp ∧ sh.length ≤ sh'.length ∧ sh'.length ≤ sh.length + 115
theorem cSh_len {sh : List kd} (h : cSh sh) : 160 ≤ sh.length := by
  have h1 := h 159 (by decide)
  have hl : 159 < shC.length := by
    have : shC.length = 160 := by decide +kernel
    omega
  rw [List.getElem?_eq_getElem hl] at h1
  have := (List.getElem?_eq_some_iff.mp h1).1
  omega
theorem m_rule {sh shR : List kd} {σC σR : St} {W : Wd} {rl : List Cl} {im : Im} {tp : List Nat} (h : IV sh shR σC σR W rl im tp) (hb : sh.length + 5 < i_SB) : alikeX shR 94 [.ref 0] sh σC (fX12_rule shR σR) := by
  have hsh : cSh sh := h.1.1
  have hlen := cSh_len hsh
  have hcnt : σC.1 0 10 = nI rl.length := h.2.1.2.1
  have h23 : σR.1 0 23 = nI rl.length := h.2.2.1.2.1
  have hrl : rl.length ≤ 6 := h.2.1.1
  by_cases h6 : rl.length < 6
  · obtain ⟨f, n, τC, τR, a1, a2, a3, a4, a5, a6, a7, a8⟩ := read_both h h6
    have hX := tX8_read hsh a1
    have e22 : τR.1 0 22 = nI rl.length := by rw [a4.1 0 22 (by omega), s_F_at]
    have e23 : τR.1 0 23 = nI rl.length := by rw [a4.1 0 23 (by omega), s_F_rd, if_neg (by omega)]; exact h23
    have hx47 := x47 (shR := shR) (n := n) h6 e22 e23 a6 a7
    have cnt1 : (s_F τC 1 1 0).1 0 10 = nI rl.length := by rw [s_F_rd, if_neg (by omega), a3.1 0 10 (by omega) (by omega)]; exact hcnt
    have pre : ∀ (v : Option Value) (h' : iH), p_R 79 mX11_rule 300 3000 v h' 27 [.ref 0, .int f] [] (s_h sh (s_F τC 1 1 0)) 0 0 → i_X 80 94 [.ref 0] (s_h sh σC) 300 3000 v h' := by
      intro v h' k
      refine p_X (M := mX11_rule) (loc := [.ref 0, .retAddr 0]) rfl (Nat.le_of_ble_eq_true rfl) rfl ?_
      refine p_s aX11r_0 rfl ?_
      refine p_get aX11r_1 (c0 hsh) rfl ?_
      refine p_s (st2 := [.int (nI 6), .int (σC.1 0 10)]) aX11r_4 rfl ?_
      refine p_s (pc2 := 11) (st2 := []) aX11r_6 (by simp only [i_s, i_icm]; rw [if_pos (by rw [hcnt]; exact nI_lt h6 (by omega))]) ?_
      refine p_s aX11r_11 rfl ?_
      refine p_get aX11r_12 (c0 hsh) rfl ?_
      refine p_c (As := [.ref 10]) (rest := []) (r := some (.int f)) aX11r_15 ⟨Nat.le_of_ble_eq_true rfl, 10, [], _, _, rfl, rfl, rfl, s_h_at (sC_10 hsh), by decide +kernel⟩ (i_X_mono (by omega) hX) (by omega) (by omega) ?_
      refine p_s (loc2 := [.ref 0, .int f]) aX11r_18 rfl ?_
      refine p_s aX11r_19 rfl ?_
      refine p_get aX11r_20 (c0 hsh) rfl ?_
      refine p_s (st2 := [.int 0, .ref 1]) aX11r_23 rfl ?_
      exact p_put (h2 := s_h sh (s_F τC 1 1 0)) aX11r_24 (s_h_at (sC_1 hsh)) rfl (Nat.le_of_ble_eq_true rfl) (s_putI (σ := τC) (sC_1 hsh) rfl) k
    by_cases hf : f = 0
    · subst hf
      obtain ⟨cl, hcl, hJ⟩ := a8 rfl
      subst hcl
      rw [if_pos rfl] at hx47
      obtain ⟨j1, j2, j3, j4, j5, j6, j7⟩ := id hJ
      have k10 : (s_h sh (s_F τC 1 1 0))[10]? = some (.inr (7, [.ref 1, .ref 11, .ref 12, .ref 13, .ref 14, .int (nI (tl cl)), .int (nI cl.length), .int ((s_F τC 1 1 0).1 10 7)])) := by
        rw [s_h_at (sC_10 hsh), ← j3, ← j4]
        rfl
      obtain ⟨g1, g2, g3, g4, b1, b2, b3, b4, b5⟩ := made k10 (s_h_at (sC_11 hsh)) (s_h_at (sC_12 hsh)) (s_h_at (sC_13 hsh)) (s_h_at (sC_14 hsh)) (n := tl cl) (m := cl.length) (by omega) j5 (by rw [s_h_len]; exact hb)
      rw [ru_heap, s_h_len] at b5
      have hsh' : cSh (sh ++ ruS sh.length (tl cl) cl.length) := gr_c gr_app hsh
      have hl' : (sh ++ ruS sh.length (tl cl) cl.length).length = sh.length + 5 := by rw [List.length_append]; rfl
      have at5 : ∀ (k : Nat) (x : kd), (ruS sh.length (tl cl) cl.length)[k]? = some x → (sh ++ ruS sh.length (tl cl) cl.length)[sh.length + k]? = some x := by
        intro k x hx
        rw [List.getElem?_append_right (by omega), show sh.length + k - sh.length = k by omega]
        exact hx
      have hS : newSh sh (sh ++ ruS sh.length (tl cl) cl.length) (tl cl) cl.length := ⟨gr_app, by omega, at5 0 _ rfl, at5 1 _ rfl, at5 2 _ rfl, at5 3 _ rfl, at5 4 _ rfl⟩
      have hT : ∀ i, i < sh.length → (ruT (s_F τC 1 1 0) sh.length g1 g2 g3 g4).2.1 i = τC.2.1 i := by
        intro i hi
        funext j
        show (if i = sh.length + 1 then g1 j else if i = sh.length + 2 then g2 j else if i = sh.length + 3 then g3 j else if i = sh.length + 4 then g4 j else τC.2.1 i j) = _
        rw [if_neg (by omega), if_neg (by omega), if_neg (by omega), if_neg (by omega)]
      have hN : newC τC (s_F (s_Q (ruT (s_F τC 1 1 0) sh.length g1 g2 g3 g4) 15 rl.length (some sh.length)) 0 10 (nI (rl.length + 1))) sh.length rl.length (tl cl) cl.length := by
        refine ⟨fun i k hi hk => ?_, s_F_at, fun i hi => hT i hi, fun j hj => ⟨?_, ?_⟩, fun j hj => ⟨?_, ?_⟩, fun i j hi hij => ?_, ?_⟩
        · rw [s_F_rd, if_neg hk]
          rfl
        · show (if sh.length + 1 = sh.length + 1 then g1 j else _) = _
          rw [if_pos rfl]
          exact b1 j hj
        · show (if sh.length + 2 = sh.length + 1 then g1 j else if sh.length + 2 = sh.length + 2 then g2 j else _) = _
          rw [if_neg (by omega), if_pos rfl]
          exact b2 j hj
        · show (if sh.length + 3 = sh.length + 1 then g1 j else if sh.length + 3 = sh.length + 2 then g2 j else if sh.length + 3 = sh.length + 3 then g3 j else _) = _
          rw [if_neg (by omega), if_neg (by omega), if_pos rfl]
          exact b3 j hj
        · show (if sh.length + 4 = sh.length + 1 then g1 j else if sh.length + 4 = sh.length + 2 then g2 j else if sh.length + 4 = sh.length + 3 then g3 j else if sh.length + 4 = sh.length + 4 then g4 j else _) = _
          rw [if_neg (by omega), if_neg (by omega), if_neg (by omega), if_pos rfl]
          exact b4 j hj
        · show (if i = 15 ∧ j = rl.length then some sh.length else τC.2.2.2 i j) = _
          rw [if_neg hij]
        · show (if 15 = 15 ∧ rl.length = rl.length then some sh.length else _) = _
          rw [if_pos ⟨rfl, rfl⟩]
      refine ⟨nI rl.length, sh ++ ruS sh.length (tl cl) cl.length, _, _, W, rl ++ [cl], im, [], pre _ _ ?_, a2.trans hx47, IV_ruleT h h6 hlen a3 a4 hJ hS hN, by omega, by omega⟩
      have cQ : (ruT (s_F τC 1 1 0) sh.length g1 g2 g3 g4).1 0 10 = nI rl.length := cnt1
      have cQ2 : (s_Q (ruT (s_F τC 1 1 0) sh.length g1 g2 g3 g4) 15 rl.length (some sh.length)).1 0 10 = nI rl.length := cnt1
      refine p_s (st2 := [.int 0]) aX11r_27 rfl ?_
      refine p_s (pc2 := 36) (st2 := []) aX11r_28 rfl ?_
      refine p_s aX11r_36 rfl ?_
      refine p_get aX11r_37 (c0 hsh) rfl ?_
      refine p_s aX11r_40 rfl ?_
      refine p_get aX11r_41 (c0 hsh) rfl ?_
      refine p_s aX11r_44 rfl ?_
      refine p_get aX11r_45 (c0 hsh) rfl ?_
      refine p_c (As := [.ref 10]) (rest := [.int ((s_F τC 1 1 0).1 0 10), .ref 15]) (r := some (.ref sh.length)) aX11r_48 ⟨Nat.le_of_ble_eq_true rfl, 10, [], _, _, rfl, rfl, rfl, s_h_at (sC_10 hsh), by decide +kernel⟩ (i_X_mono (by omega) b5) (by omega) (by omega) ?_
      refine p_s (pc2 := 52) (loc2 := [.ref 0, .int 0]) (st2 := []) (h2 := s_h (sh ++ ruS sh.length (tl cl) cl.length) (s_Q (ruT (s_F τC 1 1 0) sh.length g1 g2 g3 g4) 15 rl.length (some sh.length))) aX11r_51 ?_ ?_
      · have k15 : (s_h (sh ++ ruS sh.length (tl cl) cl.length) (ruT (s_F τC 1 1 0) sh.length g1 g2 g3 g4))[15]? = some (.inl (.object RX7, 6, .inr (.inr (.inr (.inr ((ruT (s_F τC 1 1 0) sh.length g1 g2 g3 g4).2.2.2 15)))))) := s_h_at (sC_15 hsh')
        have kq : (s_h (sh ++ ruS sh.length (tl cl) cl.length) (ruT (s_F τC 1 1 0) sh.length g1 g2 g3 g4))[sh.length]? = some (.inr (6, [.ref (sh.length + 1), .ref (sh.length + 2), .ref (sh.length + 3), .ref (sh.length + 4)])) := s_h_at (at5 0 _ rfl)
        show i_aast 51 [.ref 0, .int 0] [.ref sh.length, .int ((s_F τC 1 1 0).1 0 10), .ref 15] _ = _
        rw [cnt1]
        unfold i_aast
        dsimp only
        rw [k15, kq]
        dsimp only
        rw [if_pos ⟨by decide +kernel, nI_pos (by omega), by rw [nI_clamp (by omega)]; exact h6⟩, nI_clamp (by omega), s_putQ (sC_15 hsh')]
      refine p_s aX11r_52 rfl ?_
      refine p_s (st2 := [.ref 0, .ref 0]) aX11r_53 rfl ?_
      refine p_get aX11r_54 (c0 hsh') rfl ?_
      refine p_s (st2 := [.int 1, _, .ref 0]) aX11r_57 rfl ?_
      refine p_s (st2 := [.int (nI (rl.length + 1)), .ref 0]) aX11r_58 (by rw [cQ2]; simp only [i_s, i_op2]; rw [nI_1]) ?_
      refine p_put (h2 := s_h (sh ++ ruS sh.length (tl cl) cl.length) (s_F (s_Q (ruT (s_F τC 1 1 0) sh.length g1 g2 g3 g4) 15 rl.length (some sh.length)) 0 10 (nI (rl.length + 1)))) aX11r_59 (s_h_at (sC_0 hsh')) rfl (Nat.le_of_ble_eq_true rfl) (s_putI (sC_0 hsh') rfl) ?_
      refine p_s aX11r_62 rfl ?_
      refine p_get aX11r_63 (c0 hsh') rfl ?_
      refine p_s (st2 := [.int 1, _]) aX11r_66 rfl ?_
      refine p_s (st2 := [.int (nI rl.length)]) aX11r_67 (by rw [s_F_at]; simp only [i_s, i_op2]; rw [nI_pred]) ?_
      exact p_r aX11r_68 ⟨_, .int, rfl, rfl, rfl, rfl, rfl⟩ (by omega) (by omega)
    · rw [if_neg hf] at hx47
      refine ⟨-2 - f, sh, _, _, W, rl, im, [], pre _ _ ?_, a2.trans hx47, IV_ruleF h h6 a3 a4 hf, by omega, by omega⟩
      refine p_s (st2 := [.int f]) aX11r_27 rfl ?_
      refine p_s (pc2 := 31) (st2 := []) aX11r_28 (by simp only [i_s, i_ifc]; rw [if_neg hf]) ?_
      refine p_s (st2 := [.int (-2)]) aX11r_31 rfl ?_
      refine p_s (st2 := [.int f, .int (-2)]) aX11r_33 rfl ?_
      refine p_s (st2 := [.int (-2 - f)]) aX11r_34 rfl ?_
      exact p_r aX11r_35 ⟨_, .int, rfl, rfl, rfl, rfl, rfl⟩ (by omega) (by omega)
  · have h66 : rl.length = 6 := by omega
    have hR : fX12_rule shR σR = some (-1, σR) := by
      unfold fX12_rule
      rw [h23, h66, if_neg (not_not_intro (by decide))]
    refine ⟨-1, sh, σC, σR, W, rl, im, tp, ?_, hR, h, by omega, by omega⟩
    refine p_X (M := mX11_rule) (loc := [.ref 0, .retAddr 0]) rfl (Nat.le_of_ble_eq_true rfl) rfl ?_
    refine p_s aX11r_0 rfl ?_
    refine p_get aX11r_1 (c0 hsh) rfl ?_
    refine p_s (st2 := [.int (nI 6), .int (σC.1 0 10)]) aX11r_4 rfl ?_
    refine p_s (pc2 := 9) (st2 := []) aX11r_6 (by simp only [i_s, i_icm]; rw [if_neg (by rw [hcnt, h66]; exact nI_nlt (Nat.le_refl _) (by omega))]) ?_
    refine p_s (st2 := [.int (-1)]) aX11r_9 rfl ?_
    exact p_r aX11r_10 ⟨_, .int, rfl, rfl, rfl, rfl, rfl⟩ (by omega) (by omega)
