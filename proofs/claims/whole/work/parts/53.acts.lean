/-! ===== ACTS ===== -/
def wLf (W : Wd) (l : Lf) : Wd := (W.1, l, W.2.2)
def wPast (W : Wd) (p : List Lf) : Wd := (W.1, W.2.1, p, W.2.2.2)
theorem frK_keR {σ τ : St} (h : frK σ τ) : keR σ τ := ⟨h.1 0 19 (by omega), ⟨h.1 0 23 (by omega), h.1 0 28 (by omega)⟩, fun i hi => h.2.1 i (by omega), fun j _ => by rw [h.2.1 36 (by omega)]⟩
theorem frR_keR {σ τ : St} (h : frR σ τ) : keR σ τ := ⟨by rw [h.1], ⟨by rw [h.1], by rw [h.1]⟩, fun i hi => h.2.1 i (by omega) (by omega) (by omega) (by omega) (by omega), fun j _ => by rw [h.2.1 36 (by omega) (by omega) (by omega) (by omega) (by omega)]⟩
theorem frC_keC {σ τ : St} (h : frC 26 σ τ) : keC σ τ := ⟨fun i hi => ⟨h.1 i (by omega), h.2.1 i (by omega) (by omega) (by omega) (by omega)⟩, h.2.2⟩
theorem frP_keC {σ τ : St} (h : frP σ τ) : keC σ τ := ⟨fun i hi => ⟨h.1 i (by omega) (by omega), h.2.2.1 i (by omega)⟩, h.2.2.2⟩
theorem isRC_fr {σ τ : St} {r : Nat} {R : Rl} (e : τ.1 r = σ.1 r) (e2 : ∀ i, r < i → i ≤ r + 5 → τ.2.1 i = σ.2.1 i) (h : isRC σ r R) : isRC τ r R := by
  unfold isRC at h ⊢
  rw [e, e2 (r + 1) (by omega) (by omega), e2 (r + 2) (by omega) (by omega), e2 (r + 3) (by omega) (by omega), e2 (r + 4) (by omega) (by omega), e2 (r + 5) (by omega) (by omega)]
  exact h
theorem isRR_fr {σ τ : St} {R : Rl} (e1 : ∀ j, j < 4 → τ.2.1 1 j = σ.2.1 1 j) (e : ∀ i, i = 2 ∨ i = 3 ∨ i = 5 ∨ i = 7 ∨ i = 12 → τ.2.1 i = σ.2.1 i) (h : isRR σ R) : isRR τ R := by
  unfold isRR at h ⊢
  rw [e1 0 (by omega), e1 1 (by omega), e1 2 (by omega), e1 3 (by omega), e 2 (by omega), e 3 (by omega), e 5 (by omega), e 7 (by omega), e 12 (by omega)]
  exact h
/-- an ACT is remembered -/
theorem rem_both {sh shR : List kd} {σC σR : St} {W : Wd} {rl : List Cl} {im : Im} {tp : List Nat} (h : IV sh shR σC σR W rl im tp) : ∃ sC sR, fX10_remember sh σC 19 = some ((), sC) ∧ fX12_keepsAct shR σR = some ((), sR) ∧ IV sh shR sC sR (wPast W (pushP W.2.2.1 W.2.1)) rl im tp := by
  obtain ⟨a1, a2, a3, a4, a5, a6⟩ := h.1
  obtain ⟨c1, c2, c3, c4, c5, c6⟩ := a4
  obtain ⟨d1, d2, d3, d4, d5, d6⟩ := a5
  obtain ⟨sC, e1, e2, e3⟩ := remC a1 c3 a6 c2
  have hlen : W.2.2.1.length ≤ 20 := by obtain ⟨_, _, _, _, q, _⟩ := c3; exact q
  obtain ⟨sR, g1, g2, g3⟩ := keepAct a2 d3 hlen d2
  refine ⟨sC, sR, e1, g1, IV_act h (frP_keC e3) (frK_keR g3) ⟨a3.1, a3.2.1, a3.2.2.1, fun l hl => ?_, a3.2.2.2.2⟩ ⟨?_, ?_, e2, ?_, ?_, ?_⟩ ⟨?_, ?_, g2, ?_, ?_, ?_⟩⟩
  · rcases push_mem hl with q | q
    · exact a3.2.2.2.1 l q
    · rw [q]; exact a3.2.2.1
  · exact isRC_fr (e3.1 20 (by omega) (by omega)) (fun i h1 h2 => e3.2.2.1 i (by omega)) c1
  · exact (LfC_ext (e3.1 26 (by omega) (by omega)) (fun i h1 h2 => e3.2.2.1 i (by omega))).trans c2
  · unfold ntCa
    rw [e3.2.1 7 (by omega) (by omega), e3.2.2.1 (19 + 13) (by omega), e3.2.2.1 (19 + 14) (by omega)]
    exact c4
  · rw [e3.2.1 8 (by omega) (by omega)]; exact c5
  · rw [e3.2.1 9 (by omega) (by omega)]; exact c6
  · exact isRR_fr (fun j _ => by rw [g3.2.1 1 (by omega)]) (fun i hi => g3.2.1 i (by omega)) d1
  · show LfR sR = W.2.1
    refine Eq.trans ?_ d2
    unfold LfR
    rw [g3.2.1 1 (by omega), g3.2.1 6 (by omega), g3.2.1 8 (by omega), g3.2.1 9 (by omega), g3.2.1 4 (by omega)]
  · unfold ntR
    rw [g3.2.1 1 (by omega), g3.2.1 10 (by omega), g3.2.1 11 (by omega)]
    exact d4
  · rw [g3.2.1 1 (by omega)]; exact d5
  · rw [g3.2.1 1 (by omega)]; exact d6
/-- life becomes another -/
theorem life_both {sh shR : List kd} {σC σR τC τR : St} {W : Wd} {rl : List Cl} {im : Im} {tp : List Nat} {l : Lf} (h : IV sh shR σC σR W rl im tp) (fC : frC 26 σC τC) (lC : LfC τC 26 = l) (fR : frR σR τR) (lR : LfR τR = l) (hw : wfL W.1 999 l) : IV sh shR τC τR (wLf W l) rl im tp := by
  obtain ⟨a1, a2, a3, a4, a5, a6⟩ := h.1
  obtain ⟨c1, c2, c3, c4, c5, c6⟩ := a4
  obtain ⟨d1, d2, d3, d4, d5, d6⟩ := a5
  refine IV_act h (frC_keC fC) (frR_keR fR) ⟨a3.1, a3.2.1, hw, a3.2.2.2⟩ ⟨?_, lC, ?_, ?_, ?_, ?_⟩ ⟨?_, lR, ?_, ?_, ?_, ?_⟩
  · exact isRC_fr (fC.1 20 (by omega)) (fun i h1 h2 => fC.2.1 i (by omega) (by omega) (by omega) (by omega)) c1
  · obtain ⟨f, f1, f2, f3, f4, f5⟩ := c3
    refine ⟨f, f1, by rw [fC.1 19 (by omega)]; exact f2, by rw [fC.1 19 (by omega)]; exact f3, f4, fun i l hi => ?_⟩
    rw [LfC_ext (fC.1 _ (by omega)) (fun j h1 h2 => fC.2.1 j (by omega) (by omega) (by omega) (by omega))]
    exact f5 i l hi
  · unfold ntCa
    rw [fC.1 19 (by omega), fC.2.1 (19 + 13) (by omega) (by omega) (by omega) (by omega), fC.2.1 (19 + 14) (by omega) (by omega) (by omega) (by omega)]
    exact c4
  · rw [fC.1 19 (by omega)]; exact c5
  · rw [fC.1 19 (by omega)]; exact c6
  · exact isRR_fr (fun j hj => fR.2.2.1 j (by omega) (by omega) (by omega) (by omega)) (fun i hi => fR.2.1 i (by omega) (by omega) (by omega) (by omega) (by omega)) d1
  · refine ⟨by rw [fR.1]; exact d3.1, ?_⟩
    rw [fR.2.1 29 (by omega) (by omega) (by omega) (by omega) (by omega)]
    exact d3.2
  · unfold ntR
    rw [fR.2.2.1 8 (by omega) (by omega) (by omega) (by omega), fR.2.1 10 (by omega) (by omega) (by omega) (by omega) (by omega), fR.2.1 11 (by omega) (by omega) (by omega) (by omega) (by omega)]
    exact d4
  · rw [fR.2.2.1 10 (by omega) (by omega) (by omega) (by omega)]; exact d5
  · rw [fR.2.2.1 9 (by omega) (by omega) (by omega) (by omega)]; exact d6
theorem alike_nowI {sh shR : List kd} {σC σR : St} {W : Wd} {rl : List Cl} {im : Im} {tp : List Nat} (h : IV sh shR σC σR W rl im tp) {v : Int32} : alikeI sh shR (some (v, σC)) (some (v, σR)) := ⟨v, σC, σR, W, rl, im, tp, rfl, rfl, h⟩
theorem frC_F {σ : St} {k : Nat} {x : Int32} : frC 26 σ (s_F σ 26 k x) := ⟨fun i hi => by funext q; rw [s_F_rd, if_neg (fun e => hi e.1)], fun _ _ _ _ _ => rfl, rfl⟩
theorem frC_A {σ : St} {i k : Nat} {x : Int32} (h : 27 ≤ i ∧ i ≤ 30) : frC 26 σ (s_A σ i k x) := ⟨fun _ _ => rfl, fun j h1 h2 h3 h4 => s_A_ne (by omega), rfl⟩
theorem frR_A {σ : St} {i k : Nat} {x : Int32} (h : i = 4 ∨ i = 6 ∨ i = 8 ∨ i = 9) : frR σ (s_A σ i k x) := ⟨rfl, fun j h1 h6 h8 h9 h4 => s_A_ne (by omega), fun j _ _ _ _ => by rw [s_A_ne (by omega)], rfl⟩
theorem frR_1 {σ : St} {k : Nat} {x : Int32} (h : 4 ≤ k ∧ k ≤ 7) : frR σ (s_A σ 1 k x) := ⟨rfl, fun j h1 h6 h8 h9 h4 => s_A_ne h1, fun j h4 h5 h6 h7 => by rw [s_A_rd, if_neg (by omega)], rfl⟩
theorem m_hour {sh shR : List kd} {σC σR : St} {W : Wd} {rl : List Cl} {im : Im} {tp : List Nat} (h : IV sh shR σC σR W rl im tp) : alikeI sh shR (fX11_hour sh σC) (fX12_hour shR σR) := by
  have hQ := IV_QX h
  have hC := hQ.2.2.2.1
  have hRR := hQ.2.2.2.2.1
  obtain ⟨lt1, lt2, lt3⟩ := wfR_lt hQ.2.2.1
  unfold fX11_hour fX12_hour
  by_cases hD : W.1.1.1 = 0
  · rw [if_pos (told_f hC hD), isCt_f (by rw [hRR.1, hD]), bd_some, if_pos rfl]
    exact alike_nowI h
  have hD' : 0 < W.1.1.1 := by omega
  rw [if_neg (told_t hC hD'), isCt_t lt1 hRR.1 hD', bd_some, if_neg n10, if_pos o_4, c_4, (LfC_of hQ.2.2.2.2.2.1).1, (LfR_of hQ.2.2.2.2.2.2.1).1]
  have hwl := h.1.2.2.1.2.2.1
  obtain ⟨n, n1, n2⟩ := hwl.1
  rw [n2, show (999 : Int32) = nI 999 from by decide]
  by_cases hn : n < 999
  · rw [if_pos (nI_lt hn (by omega)), if_pos (nI_ne (by omega) (by omega) (by omega))]
    obtain ⟨sC, sR, e1, e2, hI⟩ := rem_both h
    have hQ2 := IV_QX hI
    have lC2 : LfC sC 26 = W.2.1 := hQ2.2.2.2.2.2.1
    have lR2 : LfR sR = W.2.1 := hQ2.2.2.2.2.2.2.1
    have hw' : wfL W.1 n W.2.1 := ⟨⟨n, Nat.le_refl _, n2⟩, hwl.2⟩
    obtain ⟨τC, t1, t2, t3⟩ := hourC hQ2.1 (a := 26) (r := 20) (force := sC.1 19 8) hQ2.2.2.1 hD' (b := n) (by omega) hQ2.2.2.2.1 hQ2.2.2.2.2.2.1 hw' (hQ2.2.2.2.2.2.2.2.2.1 sC agr_refl) (by decide) (by decide)
    obtain ⟨τR, u1, u2, u3⟩ := hourR (sh := shR) hQ2.2.2.1 hD' (b := n) (by omega) hQ2.2.2.2.2.1 hQ2.2.2.2.2.2.2.1 hw' hQ2.2.2.2.2.2.2.2.2.2
    rw [e1, bd_some, e2, bd_some, t1, bd_some, u1, bd_some]
    exact ⟨_, τC, τR, _, rl, im, tp, rfl, rfl, life_both hI t3 t2 u3 u2 (wfL_mono (by omega) (wfL_hour hQ.2.2.1 hD' (by omega) hw'))⟩
  · have hn9 : n = 999 := by omega
    subst hn9
    rw [if_neg (nI_nlt (Nat.le_refl _) (by omega)), if_neg (not_not_intro rfl)]
    exact alike_nowI h
theorem m_deed {sh shR : List kd} {σC σR : St} {W : Wd} {rl : List Cl} {im : Im} {tp : List Nat} (h : IV sh shR σC σR W rl im tp) (p m : Int32) : alikeI sh shR (fX11_deed sh σC p m) (fX12_deed shR σR p m) := by
  have hQ := IV_QX h
  have hC := hQ.2.2.2.1
  have hRR := hQ.2.2.2.2.1
  obtain ⟨lt1, lt2, lt3⟩ := wfR_lt hQ.2.2.1
  have hP6 := hQ.2.2.1.2.2.1
  unfold fX11_deed fX12_deed
  by_cases hp : isN W.1.1.2.2.2 p
  · rw [hasP_t (by omega) hC.2.2.2.2.1 hp, bd_some, if_neg n10, isP_t lt3 hRR.2.2.2.1 hp, bd_some, if_neg n10]
    by_cases hm : btw m 1 99
    · rw [within_t (a := 1) (b := 99) (by decide) (by decide) (by decide) (by decide) hm, bd_some, if_pos n10, in_t (a := 1) (b := 99) (by decide) (by decide) (by decide) (by decide) hm, bd_some, if_pos n10]
      obtain ⟨p', p1, p2⟩ := hp
      subst p2
      obtain ⟨sC, sR, e1, e2, hI⟩ := rem_both h
      have hQ2 := IV_QX hI
      have lC2 : LfC sC 26 = W.2.1 := hQ2.2.2.2.2.2.1
      have lR2 : LfR sR = W.2.1 := hQ2.2.2.2.2.2.2.1
      have hok : i_ok (nI p') 6 := ok_nI (by omega) (by omega)
      have hcl : (nI p').toNatClampNeg = p' := nI_clamp (by omega)
      obtain ⟨τC, t1, t2, t3⟩ := thankC (sh := sh) (σ := sC) (a := 26) (p := p') (v := m) (by omega) hQ2.2.2.2.2.2.1
      have hth : sR.2.1 6 p' = W.2.1.2.1 p' := (LfR_of hQ2.2.2.2.2.2.2.1).2.2.2.2.1 p' (by omega)
      rw [e1, bd_some, e2, bd_some, t1, bd_some]
      simp only [if_pos hok, hcl]
      have t2' : LfC τC 26 = lfTh W.2.1 p' (spThank (W.2.1.2.1 p') m) := t2
      have hv : τC.2.1 27 p' = spThank (W.2.1.2.1 p') m := by
        have := (LfC_of t2').2.2.2.2.1 p' (by omega)
        refine Eq.trans this ?_
        show upd _ p' _ p' = _
        rw [upd_at]
      rw [hth, upToR, bd_some, s_A_at, hv]
      exact ⟨spThank (W.2.1.2.1 p') m, τC, s_A sR 6 p' (spThank (W.2.1.2.1 p') m), _, rl, im, tp, rfl, rfl, life_both (l := lfTh W.2.1 p' (spThank (W.2.1.2.1 p') m)) hI t3 t2' (frR_A (by omega)) (by rw [LfR_th (by omega), lR2]) (wfL_th h.1.2.2.1.2.2.1)⟩
    · rw [within_f (a := 1) (b := 99) (by decide) (by decide) (by decide) (by decide) hm, bd_some, if_neg nn00, in_f (a := 1) (b := 99) (by decide) (by decide) (by decide) (by decide) hm, bd_some, if_neg nn00]
      exact alike_nowI h
  · rw [hasP_f (by omega) hC.2.2.2.2.1 hp, bd_some, if_pos z00, isP_f lt3 hRR.2.2.2.1 hp, bd_some, if_pos z00]
    exact alike_nowI h
theorem m_slight {sh shR : List kd} {σC σR : St} {W : Wd} {rl : List Cl} {im : Im} {tp : List Nat} (h : IV sh shR σC σR W rl im tp) (p m : Int32) : alikeI sh shR (fX11_slight sh σC p m) (fX12_slight shR σR p m) := by
  have hQ := IV_QX h
  have hC := hQ.2.2.2.1
  have hRR := hQ.2.2.2.2.1
  obtain ⟨lt1, lt2, lt3⟩ := wfR_lt hQ.2.2.1
  have hP6 := hQ.2.2.1.2.2.1
  unfold fX11_slight fX12_slight
  by_cases hp : isN W.1.1.2.2.2 p
  · rw [hasP_t (by omega) hC.2.2.2.2.1 hp, bd_some, if_neg n10, isP_t lt3 hRR.2.2.2.1 hp, bd_some, if_neg n10]
    by_cases hm : btw m 1 99
    · rw [within_t (a := 1) (b := 99) (by decide) (by decide) (by decide) (by decide) hm, bd_some, if_neg n10, in_t (a := 1) (b := 99) (by decide) (by decide) (by decide) (by decide) hm, bd_some, if_neg n10]
      obtain ⟨p', p1, p2⟩ := hp
      subst p2
      have hok : i_ok (nI p') 6 := ok_nI (by omega) (by omega)
      have hcl : (nI p').toNatClampNeg = p' := nI_clamp (by omega)
      simp only [if_pos hok, hcl]
      rw [show σC.2.1 27 p' = W.2.1.2.1 p' from (LfC_of hQ.2.2.2.2.2.1).2.2.2.2.1 p' (by omega), (LfR_of hQ.2.2.2.2.2.2.1).2.2.2.2.1 p' (by omega)]
      by_cases hle : m ≤ W.2.1.2.1 p'
      · obtain ⟨sC, sR, e1, e2, hI⟩ := rem_both h
        have hQ2 := IV_QX hI
        have lC2 : LfC sC 26 = W.2.1 := hQ2.2.2.2.2.2.1
        have lR2 : LfR sR = W.2.1 := hQ2.2.2.2.2.2.2.1
        have hthC : sC.2.1 27 p' = W.2.1.2.1 p' := (LfC_of hQ2.2.2.2.2.2.1).2.2.2.2.1 p' (by omega)
        have hthR : sR.2.1 6 p' = W.2.1.2.1 p' := (LfR_of hQ2.2.2.2.2.2.2.1).2.2.2.2.1 p' (by omega)
        rw [if_pos hle, if_pos hle, e1, bd_some, e2, bd_some, hthC, hthR, s_A_at, s_A_at]
        exact ⟨W.2.1.2.1 p' - m, s_A sC 27 p' (W.2.1.2.1 p' - m), s_A sR 6 p' (W.2.1.2.1 p' - m), _, rl, im, tp, rfl, rfl, life_both (l := lfTh W.2.1 p' (W.2.1.2.1 p' - m)) hI (frC_A (by omega)) (by rw [LfC_th (a := 26) (by omega), lC2]) (frR_A (by omega)) (by rw [LfR_th (by omega), lR2]) (wfL_th h.1.2.2.1.2.2.1)⟩
      · rw [if_neg hle, if_neg hle]
        exact alike_nowI h
    · rw [within_f (a := 1) (b := 99) (by decide) (by decide) (by decide) (by decide) hm, bd_some, if_pos z00, in_f (a := 1) (b := 99) (by decide) (by decide) (by decide) (by decide) hm, bd_some, if_pos z00]
      exact alike_nowI h
  · rw [hasP_f (by omega) hC.2.2.2.2.1 hp, bd_some, if_pos z00, isP_f lt3 hRR.2.2.2.1 hp, bd_some, if_pos z00]
    exact alike_nowI h
theorem isN_H {T : Nat} {x : Int32} (h : isN T x) : isH T x := Or.inr h
theorem m_tray {sh shR : List kd} {σC σR : St} {W : Wd} {rl : List Cl} {im : Im} {tp : List Nat} (h : IV sh shR σC σR W rl im tp) (t : Int32) : alikeI sh shR (fX11_tray sh σC t) (fX12_tray shR σR t) := by
  have hQ := IV_QX h
  have hC := hQ.2.2.2.1
  have hRR := hQ.2.2.2.2.1
  obtain ⟨lt1, lt2, lt3⟩ := wfR_lt hQ.2.2.1
  have hwl := h.1.2.2.1.2.2.1
  obtain ⟨sC, sR, e1, e2, hI⟩ := rem_both h
  have hQ2 := IV_QX hI
  have lC2 : LfC sC 26 = W.2.1 := hQ2.2.2.2.2.2.1
  have lR2 : LfR sR = W.2.1 := hQ2.2.2.2.2.2.2.1
  have tC := (LfC_of hQ.2.2.2.2.2.1).2.2.1
  have tR := (LfR_of hQ.2.2.2.2.2.2.1).2.2.1
  have tR2 := (LfR_of lR2).2.2.1
  have good : isH W.1.1.2.2.1 t → alikeI sh shR (some (W.2.1.1.2.2.1, s_F sC 26 2 t)) (some (sR.2.1 1 6, s_A sR 1 6 t)) := by
    intro ht
    rw [tR2]
    exact ⟨_, _, _, _, rl, im, tp, rfl, rfl, life_both (l := lfTray W.2.1 t) hI frC_F (by rw [LfC_tray, lC2]) (frR_1 (by omega)) (by rw [LfR_tray, lR2]) (wfL_tray hwl ht)⟩
  unfold fX11_tray fX12_tray
  rw [tC]
  by_cases hD : W.1.1.1 = 0
  · have hT0 := (hQ.2.2.1.2.2.2.1 hD).1
    have ht1 : W.2.1.1.2.2.1 = -1 := by
      rcases hwl.2.2.1 with e | ⟨z, z1, z2⟩
      · exact e
      · omega
    have hnt : ¬ isN W.1.1.2.2.1 t := by
      rintro ⟨k, k1, _⟩
      omega
    rw [isCt_f (by rw [hRR.1, hD]), bd_some, if_pos rfl, ht1]
    by_cases htt : t = -1
    · rw [if_pos htt]
      exact alike_nowI h
    · rw [if_neg htt, if_neg htt, hasT_f (by omega) hC.2.2.2.1 hnt, bd_some, if_neg nn00]
      exact alike_nowI h
  have hD' : 0 < W.1.1.1 := by omega
  rw [isCt_t lt1 hRR.1 hD', bd_some, if_neg n10, e1, bd_some]
  simp only [if_pos o_6, c_6]
  rw [tR, e2, bd_some]
  by_cases heq : t = W.2.1.1.2.2.1
  · rw [if_pos heq]
    by_cases ht1 : t = -1
    · rw [if_pos ht1, if_neg (not_not_intro heq)]
      exact alike_nowI h
    · rw [if_neg ht1]
      have hT : isN W.1.1.2.2.1 t := by
        rcases hwl.2.2.1 with e | e
        · exact absurd (heq.trans e) ht1
        · rw [heq]; exact e
      rw [isT_t lt2 hRR.2.2.1 hT, bd_some, if_neg n10, tR, if_neg (not_not_intro heq)]
      exact alike_nowI h
  · rw [if_neg heq]
    by_cases ht1 : t = -1
    · rw [if_pos ht1, if_pos ht1, if_pos heq]
      exact good (Or.inl ht1)
    · rw [if_neg ht1, if_neg ht1]
      by_cases hT : isN W.1.1.2.2.1 t
      · rw [hasT_t (by omega) hC.2.2.2.1 hT, bd_some, if_pos n10, e1, bd_some, isT_t lt2 hRR.2.2.1 hT, bd_some, if_neg n10, tR, if_pos heq, e2, bd_some]
        exact good (isN_H hT)
      · rw [hasT_f (by omega) hC.2.2.2.1 hT, bd_some, if_neg nn00, isT_f lt2 hRR.2.2.1 hT, bd_some, if_pos rfl]
        exact alike_nowI h
theorem m_gloves {sh shR : List kd} {σC σR : St} {W : Wd} {rl : List Cl} {im : Im} {tp : List Nat} (h : IV sh shR σC σR W rl im tp) (n : Int32) : alikeI sh shR (fX11_gloves sh σC n) (fX12_gloves shR σR n) := by
  have hQ := IV_QX h
  have hC := hQ.2.2.2.1
  have hRR := hQ.2.2.2.2.1
  obtain ⟨lt1, lt2, lt3⟩ := wfR_lt hQ.2.2.1
  have hwl := h.1.2.2.1.2.2.1
  unfold fX11_gloves fX12_gloves
  by_cases hD : W.1.1.1 = 0
  · rw [if_pos (told_f hC hD), isCt_f (by rw [hRR.1, hD]), bd_some, if_pos rfl]
    exact alike_nowI h
  have hD' : 0 < W.1.1.1 := by omega
  rw [if_neg (told_t hC hD'), isCt_t lt1 hRR.1 hD', bd_some, if_neg n10]
  by_cases hn : btw n 1 9
  · rw [within_t (a := 1) (b := 9) (by decide) (by decide) (by decide) (by decide) hn, bd_some, if_pos n10, in_t (a := 1) (b := 9) (by decide) (by decide) (by decide) (by decide) hn, bd_some, if_pos n10]
    obtain ⟨k, k1, k2, k3⟩ := hn
    subst k3
    obtain ⟨sC, sR, e1, e2, hI⟩ := rem_both h
    have hQ2 := IV_QX hI
    have lC2 : LfC sC 26 = W.2.1 := hQ2.2.2.2.2.2.1
    have lR2 : LfR sR = W.2.1 := hQ2.2.2.2.2.2.2.1
    rw [e1, bd_some, e2, bd_some]
    simp only [if_pos o_7, c_7]
    rw [(LfC_of hQ.2.2.2.2.2.1).2.2.2.1, (LfR_of lR2).2.2.2.1]
    exact ⟨_, _, _, _, rl, im, tp, rfl, rfl, life_both (l := lfGl W.2.1 (nI k)) hI frC_F (by rw [LfC_gl, lC2]) (frR_1 (by omega)) (by rw [LfR_gl, lR2]) (wfL_gl hwl (by omega))⟩
  · rw [within_f (a := 1) (b := 9) (by decide) (by decide) (by decide) (by decide) hn, bd_some, if_neg nn00, in_f (a := 1) (b := 9) (by decide) (by decide) (by decide) (by decide) hn, bd_some, if_neg nn00]
    exact alike_nowI h
def lfTi (lf : Lf) (p : Nat) (x : Int32) : Lf := (lf.1, lf.2.1, upd lf.2.2.1 p x, lf.2.2.2)
theorem LfC_ti {σ : St} {a p : Nat} {x : Int32} (hp : p < 6) : LfC (s_A σ (a + 2) p x) a = lfTi (LfC σ a) p x := by
  unfold LfC lfTi
  rw [s_A_up, s_A_ne (by omega), s_A_ne (by omega), s_A_ne (by omega), tr_upd hp]
  rfl
theorem LfR_ti {σ : St} {p : Nat} {x : Int32} (hp : p < 6) : LfR (s_A σ 8 p x) = lfTi (LfR σ) p x := by
  unfold LfR lfTi
  rw [s_A_up, s_A_ne (by omega), s_A_ne (by omega), s_A_ne (by omega), s_A_ne (by omega), tr_upd hp]
theorem m_strip {sh shR : List kd} {σC σR : St} {W : Wd} {rl : List Cl} {im : Im} {tp : List Nat} (h : IV sh shR σC σR W rl im tp) (p t : Int32) : alikeI sh shR (fX11_strip sh σC p t) (fX12_strip shR σR p t) := by
  have hQ := IV_QX h
  have hC := hQ.2.2.2.1
  have hRR := hQ.2.2.2.2.1
  obtain ⟨lt1, lt2, lt3⟩ := wfR_lt hQ.2.2.1
  have hP6 := hQ.2.2.1.2.2.1
  have hwl := h.1.2.2.1.2.2.1
  unfold fX11_strip fX12_strip
  by_cases hp : isN W.1.1.2.2.2 p
  · rw [hasP_t (by omega) hC.2.2.2.2.1 hp, bd_some, if_neg n10, isP_t lt3 hRR.2.2.2.1 hp, bd_some, if_neg n10]
    by_cases ht : isN W.1.1.2.2.1 t
    · rw [hasT_t (by omega) hC.2.2.2.1 ht, bd_some, if_neg n10, isT_t lt2 hRR.2.2.1 ht, bd_some, if_neg n10]
      obtain ⟨p', p1, p2⟩ := hp
      subst p2
      have hok : i_ok (nI p') 6 := ok_nI (by omega) (by omega)
      have hcl : (nI p').toNatClampNeg = p' := nI_clamp (by omega)
      rw [hasTC hok, bd_some]
      simp only [if_pos hok, hcl]
      rw [hasR, bd_some, show σC.2.1 (26 + 2) p' = W.2.1.2.2.1 p' from (LfC_of hQ.2.2.2.2.2.1).2.2.2.2.2.1 p' (by omega), (LfR_of hQ.2.2.2.2.2.2.1).2.2.2.2.2.1 p' (by omega)]
      by_cases hb : ((W.2.1.2.2.1 p' >>> (t &&& 31)) &&& 1) = 0
      · rw [if_pos hb, if_neg nn00, if_neg nn00]
        exact alike_nowI h
      · rw [if_neg hb, if_pos n10, if_pos n10]
        obtain ⟨sC, sR, e1, e2, hI⟩ := rem_both h
        have hQ2 := IV_QX hI
        have lC2 : LfC sC 26 = W.2.1 := hQ2.2.2.2.2.2.1
        have lR2 : LfR sR = W.2.1 := hQ2.2.2.2.2.2.2.1
        have hthC : sC.2.1 28 p' = W.2.1.2.2.1 p' := (LfC_of hQ2.2.2.2.2.2.1).2.2.2.2.2.1 p' (by omega)
        have hthR : sR.2.1 8 p' = W.2.1.2.2.1 p' := (LfR_of hQ2.2.2.2.2.2.2.1).2.2.2.2.2.1 p' (by omega)
        rw [e1, bd_some, e2, bd_some, hthC, hthR, s_A_at, s_A_at]
        refine ⟨W.2.1.2.2.1 p' &&& ((1 <<< (t &&& 31)) ^^^ (-1)), s_A sC 28 p' (W.2.1.2.2.1 p' &&& ((1 <<< (t &&& 31)) ^^^ (-1))), s_A sR 8 p' (W.2.1.2.2.1 p' &&& ((1 <<< (t &&& 31)) ^^^ (-1))), _, rl, im, tp, rfl, rfl, life_both (l := lfTi W.2.1 p' (W.2.1.2.2.1 p' &&& ((1 <<< (t &&& 31)) ^^^ (-1)))) hI (frC_A (by omega)) (by rw [LfC_ti (a := 26) (by omega), lC2]) (frR_A (by omega)) (by rw [LfR_ti (by omega), lR2]) ⟨hwl.1, hwl.2.1, hwl.2.2.1, hwl.2.2.2.1, fun j hj => ?_⟩⟩
        show upd W.2.1.2.2.1 p' _ j = 0
        rw [upd_pt, if_neg (by have : W.1.1.2.2.2 ≤ j := hj; omega)]
        exact hwl.2.2.2.2 j hj
    · rw [hasT_f (by omega) hC.2.2.2.1 ht, bd_some, if_pos z00, isT_f lt2 hRR.2.2.1 ht, bd_some, if_pos z00]
      exact alike_nowI h
  · rw [hasP_f (by omega) hC.2.2.2.2.1 hp, bd_some, if_pos z00, isP_f lt3 hRR.2.2.2.1 hp, bd_some, if_pos z00]
    exact alike_nowI h
