/-! ===== IMAGE: class and reference alike ===== -/
theorem wS_at {sh : List kd} {q k : Nat} {x : kd} (hq : sh.length = q) (h : (wS q)[k]? = some x) : (sh ++ wS q)[q + k]? = some x := by
  rw [List.getElem?_append_right (by omega), show q + k - sh.length = k by omega]
  exact h
theorem wS_w {sh : List kd} {q : Nat} (hq : sh.length = q) : wSh (sh ++ wS q) q := ⟨wS_at (k := 0) hq rfl, ⟨wS_at (k := 1) hq rfl, wS_at (k := 2) hq rfl, wS_at (k := 3) hq rfl, wS_at (k := 4) hq rfl, wS_at (k := 5) hq rfl, wS_at (k := 6) hq rfl⟩, ⟨wS_at (k := 7) hq rfl, wS_at (k := 8) hq rfl, wS_at (k := 9) hq rfl, wS_at (k := 10) hq rfl, wS_at (k := 11) hq rfl⟩, wS_at (k := 12) hq rfl, wS_at (k := 13) hq rfl, wS_at (k := 14) hq rfl⟩
theorem wS_lv {sh : List kd} {q : Nat} (hq : sh.length = q) : lvSh (sh ++ wS q) q := by
  intro i hi
  have : i = 0 ∨ i = 1 ∨ i = 2 ∨ i = 3 ∨ i = 4 ∨ i = 5 ∨ i = 6 ∨ i = 7 ∨ i = 8 ∨ i = 9 ∨ i = 10 ∨ i = 11 ∨ i = 12 ∨ i = 13 ∨ i = 14 ∨ i = 15 ∨ i = 16 ∨ i = 17 ∨ i = 18 ∨ i = 19 := by omega
  rcases this with e | e | e | e | e | e | e | e | e | e | e | e | e | e | e | e | e | e | e | e
  all_goals subst e
  · exact ⟨wS_at (k := 15) hq rfl, wS_at (k := 16) hq rfl, wS_at (k := 17) hq rfl, wS_at (k := 18) hq rfl, wS_at (k := 19) hq rfl⟩
  · exact ⟨wS_at (k := 20) hq rfl, wS_at (k := 21) hq rfl, wS_at (k := 22) hq rfl, wS_at (k := 23) hq rfl, wS_at (k := 24) hq rfl⟩
  · exact ⟨wS_at (k := 25) hq rfl, wS_at (k := 26) hq rfl, wS_at (k := 27) hq rfl, wS_at (k := 28) hq rfl, wS_at (k := 29) hq rfl⟩
  · exact ⟨wS_at (k := 30) hq rfl, wS_at (k := 31) hq rfl, wS_at (k := 32) hq rfl, wS_at (k := 33) hq rfl, wS_at (k := 34) hq rfl⟩
  · exact ⟨wS_at (k := 35) hq rfl, wS_at (k := 36) hq rfl, wS_at (k := 37) hq rfl, wS_at (k := 38) hq rfl, wS_at (k := 39) hq rfl⟩
  · exact ⟨wS_at (k := 40) hq rfl, wS_at (k := 41) hq rfl, wS_at (k := 42) hq rfl, wS_at (k := 43) hq rfl, wS_at (k := 44) hq rfl⟩
  · exact ⟨wS_at (k := 45) hq rfl, wS_at (k := 46) hq rfl, wS_at (k := 47) hq rfl, wS_at (k := 48) hq rfl, wS_at (k := 49) hq rfl⟩
  · exact ⟨wS_at (k := 50) hq rfl, wS_at (k := 51) hq rfl, wS_at (k := 52) hq rfl, wS_at (k := 53) hq rfl, wS_at (k := 54) hq rfl⟩
  · exact ⟨wS_at (k := 55) hq rfl, wS_at (k := 56) hq rfl, wS_at (k := 57) hq rfl, wS_at (k := 58) hq rfl, wS_at (k := 59) hq rfl⟩
  · exact ⟨wS_at (k := 60) hq rfl, wS_at (k := 61) hq rfl, wS_at (k := 62) hq rfl, wS_at (k := 63) hq rfl, wS_at (k := 64) hq rfl⟩
  · exact ⟨wS_at (k := 65) hq rfl, wS_at (k := 66) hq rfl, wS_at (k := 67) hq rfl, wS_at (k := 68) hq rfl, wS_at (k := 69) hq rfl⟩
  · exact ⟨wS_at (k := 70) hq rfl, wS_at (k := 71) hq rfl, wS_at (k := 72) hq rfl, wS_at (k := 73) hq rfl, wS_at (k := 74) hq rfl⟩
  · exact ⟨wS_at (k := 75) hq rfl, wS_at (k := 76) hq rfl, wS_at (k := 77) hq rfl, wS_at (k := 78) hq rfl, wS_at (k := 79) hq rfl⟩
  · exact ⟨wS_at (k := 80) hq rfl, wS_at (k := 81) hq rfl, wS_at (k := 82) hq rfl, wS_at (k := 83) hq rfl, wS_at (k := 84) hq rfl⟩
  · exact ⟨wS_at (k := 85) hq rfl, wS_at (k := 86) hq rfl, wS_at (k := 87) hq rfl, wS_at (k := 88) hq rfl, wS_at (k := 89) hq rfl⟩
  · exact ⟨wS_at (k := 90) hq rfl, wS_at (k := 91) hq rfl, wS_at (k := 92) hq rfl, wS_at (k := 93) hq rfl, wS_at (k := 94) hq rfl⟩
  · exact ⟨wS_at (k := 95) hq rfl, wS_at (k := 96) hq rfl, wS_at (k := 97) hq rfl, wS_at (k := 98) hq rfl, wS_at (k := 99) hq rfl⟩
  · exact ⟨wS_at (k := 100) hq rfl, wS_at (k := 101) hq rfl, wS_at (k := 102) hq rfl, wS_at (k := 103) hq rfl, wS_at (k := 104) hq rfl⟩
  · exact ⟨wS_at (k := 105) hq rfl, wS_at (k := 106) hq rfl, wS_at (k := 107) hq rfl, wS_at (k := 108) hq rfl, wS_at (k := 109) hq rfl⟩
  · exact ⟨wS_at (k := 110) hq rfl, wS_at (k := 111) hq rfl, wS_at (k := 112) hq rfl, wS_at (k := 113) hq rfl, wS_at (k := 114) hq rfl⟩
theorem wS_len {q : Nat} : (wS q).length = 115 := rfl
theorem wT_rf {σ : St} {q : Nat} : rfC (wT σ q) q := by
  intro i hi
  show (if q + 12 < q then _ else fI q 20 i) = _
  rw [if_neg (by omega)]
  unfold fI
  rw [if_pos hi]
/-- from the copy on -/
theorem imageTail {sh : List kd} {σ τ : St} {a : Nat} {x : Int32} {k : Nat} (hsh : cSh sh) (hk : k < 4) (hx : x = nI k) (ha : σ.2.2.2 159 k = some a) (hw : wSh sh a) (hE : fX10_copyFrom sh σ a 19 = some ((), τ)) (hw19 : wSh sh 19) {c s : Nat} (hc : c ≤ 300) (hs : s ≤ 3000) : p_R 79 mX11_image 300 3000 (some (.int (τ.1 26 0))) (s_h sh τ) 33 [.ref 0, .int x] [] (s_h sh σ) c s := by
  subst hx
  have hX := tX10_copyFrom hsh hw hw19 hE
  refine p_s aX11m_33 rfl ?_
  refine p_get aX11m_34 (c0 hsh) rfl ?_
  refine p_s aX11m_37 rfl ?_
  refine p_s (pc2 := 39) (loc2 := [.ref 0, .int (nI k)]) (st2 := [.ref a]) (h2 := s_h sh σ) aX11m_38 ?_ ?_
  · have k159 : (s_h sh σ)[159]? = some (.inl (.object RX10, 4, .inr (.inr (.inr (.inr (σ.2.2.2 159)))))) := s_h_at (sC_159 hsh)
    show i_aald 38 [.ref 0, .int (nI k)] [.int (nI k), .ref 159] (s_h sh σ) = _
    unfold i_aald
    dsimp only
    rw [k159]
    dsimp only
    rw [if_pos ⟨rfl, nI_pos (by omega), by rw [nI_clamp (by omega)]; exact hk⟩, nI_clamp (by omega), ha]
    rfl
  refine p_s aX11m_39 rfl ?_
  refine p_get aX11m_40 (c0 hsh) rfl ?_
  refine p_c (As := [.ref a, .ref 19]) (rest := []) (r := none) aX11m_43 ⟨Nat.le_of_ble_eq_true rfl, a, [.ref 19], _, _, rfl, rfl, rfl, s_h_at hw.1, by decide +kernel⟩ (i_X_mono (by omega) hX) (by omega) (by omega) ?_
  refine p_s aX11m_46 rfl ?_
  refine p_get aX11m_47 (c0 hsh) rfl ?_
  refine p_get aX11m_50 (s_h_at hw19.1) rfl ?_
  refine p_get aX11m_53 (s_h_at (sC_26 hsh)) rfl ?_
  exact p_r aX11m_56 ⟨_, .int, rfl, rfl, rfl, rfl, rfl⟩ (by omega) (by omega)
theorem wSh19 {sh : List kd} (h : cSh sh) : wSh sh 19 := ⟨sC_19 h, rShB_20 h, lShB_26 h, sC_31 h, sC_32 h, sC_33 h⟩
theorem m_image {sh shR : List kd} {σC σR : St} {W : Wd} {rl : List Cl} {im : Im} {tp : List Nat} (h : IV sh shR σC σR W rl im tp) (hb : sh.length + 120 < i_SB) (k : Int32) : alikeX shR 123 [.ref 0, .int k] sh σC (fX12_image shR σR k) := by
  obtain ⟨a1, a2, a3, a4, a5, a6⟩ := h.1
  have hlen := cSh_len a1
  unfold fX12_image
  by_cases hk : btw k 0 3
  · have hwi : fX11_isWithin sh σC k 0 3 = some (1, σC) := within_t (a := 0) (b := 3) (by decide) (by decide) (by decide) (by decide) hk
    rw [in_t (a := 0) (b := 3) (by decide) (by decide) (by decide) (by decide) hk, bd_some, if_pos n10]
    obtain ⟨k', k1, k2, k3⟩ := hk
    subst k3
    have hok : i_ok (nI k') 4 := ok_nI (by omega) (by omega)
    have hcl : (nI k').toNatClampNeg = k' := nI_clamp (by omega)
    rw [if_pos hok, hcl, show vp_nar .boolean 1 = 1 from by decide]
    obtain ⟨τR, u1, u2, u3, u4, u5, u6, u7, u8⟩ := imageR a2 (σ := s_A σR 37 k' 1) (k := k') (by omega)
    rw [u1, bd_some, if_pos o_4, c_4]
    have hans : τR.2.1 1 4 = W.2.1.1.1 := by
      rw [u2 1 (by decide) (by decide), s_A_ne (by decide)]
      exact (LfR_of a5.2.1).1
    rw [hans]
    have pre : ∀ (v : Option Value) (h' : iH), p_R 79 mX11_image 300 3000 v h' 17 [.ref 0, .int (nI k')] [va_rf (σC.2.2.2 159 k')] (s_h sh σC) 0 0 → i_X 80 123 [.ref 0, .int (nI k')] (s_h sh σC) 300 3000 v h' := by
      intro v h' kk
      refine p_X (M := mX11_image) (loc := [.ref 0, .int (nI k')]) rfl (Nat.le_of_ble_eq_true rfl) rfl ?_
      refine p_s aX11m_0 rfl ?_
      refine p_s (st2 := [.int 0, .int (nI k')]) aX11m_1 rfl ?_
      refine p_s (st2 := [.int 3, .int 0, .int (nI k')]) aX11m_2 rfl ?_
      refine p_c (As := [.int (nI k'), .int 0, .int 3]) (rest := []) (r := some (.int 1)) aX11m_3 ⟨Nat.le_of_ble_eq_true rfl, rfl, rfl⟩ (i_X_mono (by omega) (tX11_isWithin a1 hwi)) (by omega) (by omega) ?_
      refine p_s (pc2 := 11) (st2 := []) aX11m_6 rfl ?_
      refine p_s aX11m_11 rfl ?_
      refine p_get aX11m_12 (c0 a1) rfl ?_
      refine p_s aX11m_15 rfl ?_
      refine p_s (pc2 := 17) (loc2 := [.ref 0, .int (nI k')]) (st2 := [va_rf (σC.2.2.2 159 k')]) (h2 := s_h sh σC) aX11m_16 ?_ kk
      have k159 : (s_h sh σC)[159]? = some (.inl (.object RX10, 4, .inr (.inr (.inr (.inr (σC.2.2.2 159)))))) := s_h_at (sC_159 a1)
      show i_aald 16 [.ref 0, .int (nI k')] [.int (nI k'), .ref 159] (s_h sh σC) = _
      unfold i_aald
      dsimp only
      rw [k159]
      dsimp only
      rw [if_pos ⟨rfl, nI_pos (by omega), by rw [nI_clamp (by omega)]; omega⟩, nI_clamp (by omega)]
    rcases h.2.2.2.1 k' (by omega) with ⟨c1, c2, c3⟩ | ⟨a, W0, c1, c2, c3, c4, c5, c6, c7, c8, c9, c10, c11⟩
    · -- a new Whole
      obtain ⟨q, hq⟩ : ∃ q, sh.length = q := ⟨_, rfl⟩
      have hg : gr sh (sh ++ wS q) := gr_app
      have hl' : (sh ++ wS q).length = q + 115 := by rw [List.length_append, wS_len, hq]
      have hsh' := gr_c hg a1
      have hw := wS_w hq
      have hlv := wS_lv hq
      have sQ : ∀ i j, (s_Q (wT σC q) 159 k' (some q)).2.2.2 i j = if i = 159 ∧ j = k' then some q else (wT σC q).2.2.2 i j := fun i j => rfl
      have hrf : rfC (s_Q (wT σC q) 159 k' (some q)) q := by
        intro i hi
        rw [sQ, if_neg (by omega)]
        exact wT_rf i hi
      have hrf19 : rfC (s_Q (wT σC q) 159 k' (some q)) 19 := by
        intro i hi
        rw [sQ, if_neg (by omega), (wT_old (by omega)).2.2.2]
        exact a6 i hi
      have hC19 : hdC (s_Q (wT σC q) 159 k' (some q)) 19 W := hdC_ext (fun i h1 h2 => ⟨(wT_old (σ := σC) (by omega)).1, (wT_old (σ := σC) (by omega)).2.1⟩) a4
      obtain ⟨τC, t1, t2, t3, t4⟩ := wholeCopyC (sh := sh ++ wS q) (σ := s_Q (wT σC q) 159 k' (some q)) (a := q) (b := 19) a3.1 (by omega) hlv (lv19 hsh') hrf hrf19 hC19
      have hIV : IV (sh ++ wS q) shR τC τR W rl (fun j => if j = k' then some (q, W) else im j) tp := by
        refine IV_image h hg (by omega) (by omega) (by omega) hw hlv t2 (fun i hi => by rw [t4]; exact hrf i hi) (fun i h1 h2 => ?_) (fun i j h1 h2 => ?_) ?_ (fun j a' W' hj hjk e => ?_) (fun m q' hm e => ?_) u2 u3 (fun j hj => by rw [u5 j hj, s_A_ne (by decide)]) u6 u7 u8
        · have e := t3 i h2
          rw [e.1, e.2]
          exact ⟨(wT_old (σ := σC) (by omega)).1, (wT_old (σ := σC) (by omega)).2.1⟩
        · rw [t4, sQ, if_neg h2, (wT_old (by omega)).2.2.2]
        · rw [t4, sQ, if_pos ⟨rfl, rfl⟩]
        · rcases h.2.2.2.1 j hj with ⟨d1, _⟩ | ⟨a', W1, d1, _, d3, d4, _⟩
          · rw [d1] at e; cases e
          · rw [d1] at e
            cases e
            left
            omega
        · obtain ⟨cl, hcl⟩ : ∃ cl, rl[m]? = some cl := ⟨_, List.getElem?_eq_getElem hm⟩
          obtain ⟨q2, e1, e2, e3, _⟩ := h.2.1.2.2 m cl hcl
          rw [e3] at e
          cases e
          left
          omega
      refine ⟨W.2.1.1.1, sh ++ wS q, τC, τR, W, rl, _, tp, pre _ _ ?_, rfl, hIV, by omega, by omega⟩
      have tl26 : τC.1 26 0 = W.2.1.1.1 := by
        rw [(t3 26 (by omega)).1]
        show (wT σC q).1 26 0 = _
        rw [(wT_old (by omega)).1]
        exact (LfC_of a4.2.1).1
      rw [c2]
      refine p_s (pc2 := 20) (st2 := []) aX11m_17 rfl ?_
      refine p_s aX11m_20 rfl ?_
      refine p_get aX11m_21 (c0 a1) rfl ?_
      refine p_s aX11m_24 rfl ?_
      have hlq : (s_h sh σC).length = q := by rw [s_h_len, hq]
      refine p_n (pc2 := 28) (loc2 := [.ref 0, .int (nI k')]) (st2 := [.ref q, .int (nI k'), .ref 159]) (h2 := s_h sh σC ++ [.inr (9, i_dfl 9)]) (dc := 1) (ds := 10) aX11m_25 (by simp only [i_nw, hlq]; rw [if_pos (by omega)]; rfl) (by omega) (by omega) ?_
      refine p_s (st2 := [.ref q, .ref q, .int (nI k'), .ref 159]) aX11m_28 rfl ?_
      refine p_c (As := [.ref q]) (rest := [.ref q, .int (nI k'), .ref 159]) (r := none) aX11m_29 ⟨Nat.le_of_ble_eq_true rfl, q, [], rfl, rfl, rfl⟩ (i_X_mono (by omega) (wholeInit hlq (by omega))) (by omega) (by omega) ?_
      rw [whole_heap hq]
      refine p_s (pc2 := 33) (loc2 := [.ref 0, .int (nI k')]) (st2 := []) (h2 := s_h (sh ++ wS q) (s_Q (wT σC q) 159 k' (some q))) aX11m_32 ?_ ?_
      · have k159 : (s_h (sh ++ wS q) (wT σC q))[159]? = some (.inl (.object RX10, 4, .inr (.inr (.inr (.inr ((wT σC q).2.2.2 159)))))) := s_h_at (sC_159 hsh')
        have kq : (s_h (sh ++ wS q) (wT σC q))[q]? = some (s_cell (wT σC q) q (.inr (9, [some (q + 1), some (q + 7), some (q + 12), none, none, some (q + 13), some (q + 14), none, none, none]))) := s_h_at hw.1
        show i_aast 32 [.ref 0, .int (nI k')] [.ref q, .int (nI k'), .ref 159] _ = _
        unfold i_aast
        dsimp only
        rw [k159, kq]
        unfold s_cell
        dsimp only
        rw [if_pos ⟨by decide +kernel, nI_pos (by omega), by rw [nI_clamp (by omega)]; omega⟩, nI_clamp (by omega), s_putQ (sC_159 hsh')]
      rw [← tl26]
      exact imageTail hsh' (by omega) rfl (by rw [sQ, if_pos ⟨rfl, rfl⟩]) hw t1 (wSh19 hsh') (by omega) (by omega)
    · -- the Whole is there
      have hd19 : a + 115 ≤ 19 ∨ 19 + 115 ≤ a := by omega
      obtain ⟨τC, t1, t2, t3, t4⟩ := wholeCopyC (sh := sh) (σ := σC) (a := a) (b := 19) a3.1 (by omega) c6 (lv19 a1) c7 a6 a4
      have hIV : IV sh shR τC τR W rl (fun j => if j = k' then some (a, W) else im j) tp := by
        refine IV_image h ⟨Nat.le_refl _, fun _ _ e => e⟩ (by omega) c3 c4 c5 c6 t2 (fun i hi => by rw [t4]; exact c7 i hi) (fun i h1 h2 => t3 i h2) (fun i j h1 h2 => by rw [t4]) (by rw [t4]; exact c2) (fun j a' W' hj hjk e => ?_) (fun m q' hm e => ?_) u2 u3 (fun j hj => by rw [u5 j hj, s_A_ne (by decide)]) u6 u7 u8
        · have := h.2.2.2.2.1.1 j k' a' W' a W0 hj (by omega) hjk e c1
          omega
        · exact h.2.2.2.2.1.2 m q' k' a W0 hm e (by omega) c1
      have tl26 : τC.1 26 0 = W.2.1.1.1 := by
        rw [(t3 26 (by omega)).1]
        exact (LfC_of a4.2.1).1
      refine ⟨W.2.1.1.1, sh, τC, τR, W, rl, _, tp, pre _ _ ?_, rfl, hIV, by omega, by omega⟩
      rw [c2]
      refine p_s (pc2 := 33) (st2 := []) aX11m_17 rfl ?_
      rw [← tl26]
      exact imageTail a1 (by omega) rfl c2 c5 t1 (wSh19 a1) (by omega) (by omega)
  · have hwi : fX11_isWithin sh σC k 0 3 = some (0, σC) := within_f (a := 0) (b := 3) (by decide) (by decide) (by decide) (by decide) hk
    rw [in_f (a := 0) (b := 3) (by decide) (by decide) (by decide) (by decide) hk, bd_some, if_neg nn00]
    refine ⟨-1, sh, σC, σR, W, rl, im, tp, ?_, rfl, h, by omega, by omega⟩
    refine p_X (M := mX11_image) (loc := [.ref 0, .int k]) rfl (Nat.le_of_ble_eq_true rfl) rfl ?_
    refine p_s aX11m_0 rfl ?_
    refine p_s (st2 := [.int 0, .int k]) aX11m_1 rfl ?_
    refine p_s (st2 := [.int 3, .int 0, .int k]) aX11m_2 rfl ?_
    refine p_c (As := [.int k, .int 0, .int 3]) (rest := []) (r := some (.int 0)) aX11m_3 ⟨Nat.le_of_ble_eq_true rfl, rfl, rfl⟩ (i_X_mono (by omega) (tX11_isWithin a1 hwi)) (by omega) (by omega) ?_
    refine p_s (pc2 := 9) (st2 := []) aX11m_6 rfl ?_
    refine p_s (st2 := [.int (-1)]) aX11m_9 rfl ?_
    exact p_r aX11m_10 ⟨_, .int, rfl, rfl, rfl, rfl, rfl⟩ (by omega) (by omega)
