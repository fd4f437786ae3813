/-! ===== thing, usual, person ===== -/
theorem q_thing {sh shR : List kd} {σC σR : St} {R : Rl} {ru : Option Cl} {lf : Lf} (h : QX sh shR σC σR R ru lf) (t w : Int32) : alikeQ (fX11_thing sh σC t w) (fX12_thing shR σR t w) σC σR := by
  have hC := h.2.2.2.1
  have hRR := h.2.2.2.2.1
  have hwl := h.2.2.2.2.2.2.2.1
  obtain ⟨lt1, lt2, lt3⟩ := wfR_lt h.2.2.1
  obtain ⟨_, _, _, _, lc5, lc6, lc7, lc8⟩ := LfC_of h.2.2.2.2.2.1
  obtain ⟨_, _, _, _, lr5, lr6, lr7, lr8⟩ := LfR_of h.2.2.2.2.2.2.1
  have hP6 := h.2.2.1.2.2.1
  unfold fX11_thing fX12_thing
  by_cases ht : isN R.1.2.2.1 t
  · obtain ⟨ho, hlt⟩ := isN_ok h.2.2.1.2.1 ht
    rw [hasT_t (by omega) hC.2.2.2.1 ht, bd_some, if_pos n10, isT_t lt2 hRR.2.2.1 ht, bd_some, if_pos n10]
    simp only [if_pos ho]
    rw [show σC.2.1 21 t.toNatClampNeg = R.2.1 t.toNatClampNeg from hC.2.2.2.2.2.1 _ hlt, hRR.2.2.2.2.1 _ hlt, show σC.2.1 30 t.toNatClampNeg = lf.2.2.2.2 t.toNatClampNeg from lc8 _ ho.2, lr8 _ ho.2, show σC.2.1 22 t.toNatClampNeg = R.2.2.1 t.toNatClampNeg from hC.2.2.2.2.2.2.1 _ hlt, hRR.2.2.2.2.2.1 _ hlt, bearC lc6, bearR hP6 hRR.2.2.2.1 lr6, bd_some, bd_some, bear_cut hP6 hwl.2.2.2.2]
    split
    · exact alike_now
    · split
      · exact alike_now
      · split
        · exact alike_now
        · split
          · exact alike_now
          · exact alike_now
  · rw [hasT_f (by omega) hC.2.2.2.1 ht, bd_some, if_neg nn00, isT_f lt2 hRR.2.2.1 ht, bd_some, if_neg nn00]
    exact alike_now
theorem q_person {sh shR : List kd} {σC σR : St} {R : Rl} {ru : Option Cl} {lf : Lf} (h : QX sh shR σC σR R ru lf) (p w : Int32) : alikeQ (fX11_person sh σC p w) (fX12_person shR σR p w) σC σR := by
  have hC := h.2.2.2.1
  have hRR := h.2.2.2.2.1
  obtain ⟨lt1, lt2, lt3⟩ := wfR_lt h.2.2.1
  obtain ⟨_, _, _, _, lc5, lc6, lc7, lc8⟩ := LfC_of h.2.2.2.2.2.1
  obtain ⟨_, _, _, _, lr5, lr6, lr7, lr8⟩ := LfR_of h.2.2.2.2.2.2.1
  have hP6 := h.2.2.1.2.2.1
  unfold fX11_person fX12_person
  by_cases hp : isN R.1.2.2.2 p
  · rw [hasP_t (by omega) hC.2.2.2.2.1 hp, bd_some, if_pos n10, isP_t lt3 hRR.2.2.2.1 hp, bd_some, if_pos n10]
    obtain ⟨p', p1, p2⟩ := hp
    subst p2
    have ho : i_ok (nI p') 6 := ok_nI (by omega) (by omega)
    have hc : (nI p').toNatClampNeg = p' := nI_clamp (by omega)
    simp only [if_pos ho, hc]
    rw [show σC.2.1 27 p' = lf.2.1 p' from lc5 _ (by omega), lr5 p' (by omega), show σC.2.1 25 p' = R.2.2.2.2.2 p' from hC.2.2.2.2.2.2.2.2.2 _ p1, hRR.2.2.2.2.2.2.2.2 _ p1, show σC.2.1 28 p' = lf.2.2.1 p' from lc6 _ (by omega), lr6 p' (by omega), show σC.2.1 29 p' = lf.2.2.2.1 p' from lc7 _ (by omega), lr7 p' (by omega), rankC h.2.2.1 hC, rankR h.2.2.1 hRR (show p' < 6 by omega), bd_some, bd_some, lr6 p' (by omega)]
    split
    · exact alike_now
    · split
      · exact alike_now
      · split
        · exact alike_now
        · split
          · exact alike_now
          · split
            · exact alike_now
            · exact alike_now
  · rw [hasP_f (by omega) hC.2.2.2.2.1 hp, bd_some, if_neg nn00, isP_f lt3 hRR.2.2.2.1 hp, bd_some, if_neg nn00]
    exact alike_now
theorem q_usual {sh shR : List kd} {σC σR : St} {R : Rl} {ru : Option Cl} {lf : Lf} (h : QX sh shR σC σR R ru lf) (c : Int32) : alikeQ (fX11_usual sh σC c) (fX12_usual shR σR c) σC σR := by
  have hC := h.2.2.2.1
  have hRR := h.2.2.2.2.1
  obtain ⟨lt1, lt2, lt3⟩ := wfR_lt h.2.2.1
  have hD12 := h.2.2.1.1
  have ht : isN R.1.1 c → fX11_usual sh σC c = some (R.2.2.2.1 c.toNatClampNeg, σC) := by
    intro hc
    unfold fX11_usual
    rw [hC.2.1]
    obtain ⟨k, k1, k2⟩ := hc
    subst k2
    rw [if_neg (nI_pos (by omega)), if_pos (nI_lt k1 (by omega)), if_pos (ok_nI (by omega) (by omega)), nI_clamp (by omega), show σC.2.1 23 k = R.2.2.2.1 k from hC.2.2.2.2.2.2.2.1 k (by omega)]
  have hf : ¬ isN R.1.1 c → fX11_usual sh σC c = some (-2, σC) := by
    intro hc
    unfold fX11_usual
    rw [hC.2.1]
    have := (not_congr (isN_iff (n := R.1.1) (x := c) lt1)).mpr hc
    by_cases h0 : c < 0
    · rw [if_pos h0]
    · rw [if_neg h0, if_neg (fun e => this ⟨h0, fun e2 => by
        have a := Int32.lt_iff_toInt_lt.mp e
        have b := Int32.le_iff_toInt_le.mp e2
        omega⟩)]
  by_cases hD : R.1.1 = 0
  · rw [hf (by rintro ⟨k, k1, _⟩; omega)]
    unfold fX12_usual fX12_usual_J36
    rw [isCt_f (by rw [hRR.1, hD]), bd_some, if_pos rfl]
    exact alike_now
  have hD' : 0 < R.1.1 := by omega
  obtain ⟨a1, a2⟩ := isR_aux (sh := shR) (σ := σR) (n := R.1.1) (x := c) (by omega)
  by_cases hc : isN R.1.1 c
  · rw [ht hc]
    unfold fX12_usual fX12_usual_J36
    rw [isCt_t lt1 hRR.1 hD', bd_some, if_neg n10, if_pos o_0, c_0, hRR.1, a1 hc, bd_some, if_neg n10]
    obtain ⟨k, k1, k2⟩ := hc
    subst k2
    rw [if_pos (ok_nI (by omega) (by omega)), nI_clamp (by omega), hRR.2.2.2.2.2.2.1 k (by omega)]
    exact alike_now
  · rw [hf hc]
    unfold fX12_usual fX12_usual_J36
    rw [isCt_t lt1 hRR.1 hD', bd_some, if_neg n10, if_pos o_0, c_0, hRR.1, a2 hc, bd_some, if_pos rfl]
    exact alike_now
