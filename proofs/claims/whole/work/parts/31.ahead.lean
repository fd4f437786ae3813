/-! ===== what class and reference share when a question is asked ===== -/
def QX (sh shR : List kd) (σC σR : St) (R : Rl) (ru : Option Cl) (lf : Lf) : Prop := cSh sh ∧ rmSh shR ∧ wfR R ∧ isRC σC 20 R ∧ isRR σR R ∧ LfC σC 26 = lf ∧ LfR σR = lf ∧ wfL R 999 lf ∧ (∀ τ, agr scC σC τ → ruC sh τ (σC.1 19 8) ru) ∧ ruR σR ru
theorem QX_C {sh shR : List kd} {σC σR : St} {R : Rl} {ru : Option Cl} {lf : Lf} (h : QX sh shR σC σR R ru lf) (hD : 0 < R.1.1) : CX sh σC R ru lf := ⟨h.1, h.2.2.1, hD, h.2.2.2.1, h.2.2.2.2.2.1, h.2.2.2.2.2.2.2.2.1⟩
theorem QX_R {sh shR : List kd} {σC σR : St} {R : Rl} {ru : Option Cl} {lf : Lf} (h : QX sh shR σC σR R ru lf) (hD : 0 < R.1.1) : RX σR R ru := ⟨h.2.2.1, hD, h.2.2.2.2.1, h.2.2.2.2.2.2.2.2.2⟩
/-- both answer alike, and nothing that lasts has changed -/
def alikeQ (x y : Option (Int32 × St)) (σC σR : St) : Prop := ∃ v τC τR, x = some (v, τC) ∧ y = some (v, τR) ∧ agr scC σC τC ∧ agR σR τR
theorem agR_refl {σ : St} : agR σ σ := ⟨agS_refl, fun _ _ => rfl, fun _ _ => rfl, fun _ _ => rfl, fun _ _ => rfl, fun _ _ => rfl⟩
theorem alike_now {σC σR : St} {v : Int32} : alikeQ (some (v, σC)) (some (v, σR)) σC σR := ⟨v, σC, σR, rfl, rfl, agr_refl, agR_refl⟩
theorem told_t {σ : St} {r : Nat} {R : Rl} (h : isRC σ r R) (hD : 0 < R.1.1) : ¬ σ.1 r 0 = 0 := by
  rw [h.1, if_neg (by omega)]
  decide
theorem told_f {σ : St} {r : Nat} {R : Rl} (h : isRC σ r R) (hD : R.1.1 = 0) : σ.1 r 0 = 0 := by
  rw [h.1, if_pos hD]
/-- the reference asks: keeps all, something happens to life, lays it back -/
theorem RX_agR {σ τ : St} {R : Rl} {ru : Option Cl} (h : RX σ R ru) (g : agR σ τ) : RX τ R ru := ⟨h.1, h.2.1, isRR_agS g.1 h.2.2.1, ruR_agS g.1 (g.2.1 10 (by decide)) h.2.2.2⟩
theorem LfR_agR {σ τ : St} (g : agR σ τ) : LfR τ = LfR σ := by
  unfold LfR
  have e : ∀ f g : Nat → Int32, (∀ j, j < 6 → f j = g j) → tr 6 f = tr 6 g := by
    intro f g h
    funext j
    unfold tr
    by_cases hj : j < 6
    · rw [if_pos hj, if_pos hj, h j hj]
    · rw [if_neg hj, if_neg hj]
  rw [g.2.1 4 (by decide), g.2.1 5 (by decide), g.2.1 6 (by decide), g.2.1 7 (by decide), e _ _ g.2.2.1, e _ _ g.2.2.2.1, e _ _ g.2.2.2.2.1, e _ _ g.2.2.2.2.2]
theorem Kept_life {σ0 σ τ : St} (h : KeptOf σ0 σ) (g : lifeR σ τ) : KeptOf σ0 τ := by
  unfold KeptOf
  rw [g.2.1]
  exact h
theorem agR_S {σ τ : St} (h : agR σ τ) : agS σ τ := h.1
theorem lifeR_S {σ τ : St} (h : lifeR σ τ) : agS σ τ := h.1
theorem wfR_lt {R : Rl} (h : wfR R) : R.1.1 < 2 ^ 31 ∧ R.1.2.2.1 < 2 ^ 30 ∧ R.1.2.2.2 < 2 ^ 30 := ⟨by have := h.1; omega, by have := h.2.1; omega, by have := h.2.2.1; omega⟩
theorem nI_inj {a b : Nat} (ha : a < 2 ^ 31) (hb : b < 2 ^ 31) (h : nI a = nI b) : a = b := (nI_eq ha hb).mp h
theorem isN_ok {n : Nat} {x : Int32} (hn : n ≤ 6) (h : isN n x) : i_ok x 6 ∧ x.toNatClampNeg < n := by
  obtain ⟨k, h1, h2⟩ := h
  rw [h2]
  exact ⟨ok_nI (by omega) (by omega), by rw [nI_clamp (by omega)]; exact h1⟩
/-! ahead -/
def spAhead (R : Rl) (ru : Option Cl) (lf : Lf) (p : Int32) (n : Nat) (w : Int32) : Int32 := if ¬ w = 0 then if ¬ w = 1 then (spGo R ru n lf).2.1 p.toNatClampNeg else (spGo R ru n lf).2.2.1 p.toNatClampNeg else spHand R ru (spGo R ru n lf)
theorem afterC {sh : List kd} {σ : St} {R : Rl} {ru : Option Cl} {lf : Lf} {n : Nat} {p w : Int32} (h : CX sh σ R ru lf) (hwl : wfL R 999 lf) (hn : n ≤ 100) (hp : w = 0 ∨ i_ok p 6) :
    ∃ τ, fX5_after sh σ p (nI n) w = some (spAhead R ru lf p n w, τ) ∧ agr scC σ τ := by
  obtain ⟨s2, a1, a2, a3⟩ := beginC (sh := sh) (σ := σ)
  rw [h.2.2.2.2.1] at a2
  obtain ⟨s5, b1, b2, b3⟩ := goOnC (CX_agr h a3) (n := n) (b := 999) (by omega) (by omega) a2 hwl
  have h5 := CX_agr h (agr_trans a3 b3)
  have hw5 := wfL_go (ru := ru) h.2.1 h.2.2.1 n lf 999 (by omega) hwl
  unfold fX5_after spAhead
  rw [a1, bd_some, b1, bd_some]
  by_cases w0 : w = 0
  · rw [if_neg (not_not_intro w0), if_neg (not_not_intro w0)]
    obtain ⟨υ, u1, u2⟩ := handC h5.1 h5.2.1 h5.2.2.1 (b := 999 + n) (by omega) h5.2.2.2.1 b2 hw5 (h5.2.2.2.2.2 s5 agr_refl)
    rw [u1, bd_some]
    exact ⟨υ, rfl, agr_trans (agr_trans a3 b3) (agr_L u2)⟩
  · have hp2 := hp.resolve_left w0
    rw [if_pos w0, if_pos w0]
    obtain ⟨_, _, _, _, l5, l6, _, _⟩ := LfC_of b2
    by_cases w1 : w = 1
    · rw [if_neg (not_not_intro w1), if_neg (not_not_intro w1), if_pos hp2]
      unfold fX5_after_J65
      rw [l6 _ hp2.2]
      exact ⟨s5, rfl, agr_trans a3 b3⟩
    · rw [if_pos w1, if_pos w1, if_pos hp2]
      unfold fX5_after_J65
      rw [l5 _ hp2.2]
      exact ⟨s5, rfl, agr_trans a3 b3⟩
theorem aheadR {sh : List kd} (hsh : rmSh sh) {σ : St} {R : Rl} {ru : Option Cl} {lf : Lf} {n : Nat} {p w x : Int32} (h : RX σ R ru) (hl : LfR σ = lf) (hwl : wfL R 999 lf) (hn : n ≤ 100) (hp : w = 0 ∨ i_ok p 6) (hx : ¬ x = 0) :
    ∃ τ, fX12_ahead_J29 sh p (nI n) w x σ = some (spAhead R ru lf p n w, τ) ∧ agR σ τ := by
  obtain ⟨s1, a1, a2, a3⟩ := keepR hsh (σ := σ)
  obtain ⟨s5, b1, b2, b3⟩ := goForR (sh := sh) (RX_agR h a3) (n := n) (b := 999) (by omega) (by omega) ((LfR_agR a3).trans hl) hwl
  have h5 := RX_life (RX_agR h a3) b3
  have hw5 := wfL_go (ru := ru) h.1 h.2.1 n lf 999 (by omega) hwl
  have k5 := Kept_life a2 b3
  have g5 := agS_trans a3.1 b3.1
  unfold fX12_ahead_J29 spAhead
  rw [isCt_t (by have := h.1.1; omega) h.2.2.1.1 h.2.1, bd_some, if_neg (by decide), if_neg hx, in_t (a := 0) (b := 100) (by decide) (by decide) (by decide) (by decide) ⟨n, by omega, hn, rfl⟩, bd_some, if_pos (by decide), a1, bd_some, b1, bd_some]
  unfold fX12_ahead_J98
  by_cases w0 : w = 0
  · rw [if_neg (not_not_intro w0), if_neg (not_not_intro w0)]
    obtain ⟨υ, u1, u2⟩ := holdR (sh := sh) h5.1 h5.2.1 (b := 999 + n) (by omega) h5.2.2.1 b2 hw5 h5.2.2.2
    rw [u1, bd_some]
    have hA : υ.2.1 = s5.2.1 := u2.2.1
    obtain ⟨τ, t1, t2, t3, t4⟩ := layR hsh (σ0 := σ) (σ := υ) (by unfold KeptOf; rw [hA]; exact k5) (by
      unfold agS
      rw [hA, u2.1, u2.2.2]
      exact g5)
    rw [t1, bd_some]
    exact ⟨τ, rfl, t3⟩
  · have hp2 := hp.resolve_left w0
    rw [if_pos w0, if_pos w0]
    obtain ⟨_, _, _, _, l5, l6, _, _⟩ := LfR_of b2
    obtain ⟨τ, t1, t2, t3, t4⟩ := layR hsh k5 g5
    by_cases w1 : w = 1
    · rw [if_neg (not_not_intro w1), if_neg (not_not_intro w1), if_pos hp2, t1, bd_some, l6 _ hp2.2]
      exact ⟨τ, rfl, t3⟩
    · rw [if_pos w1, if_pos w1, if_pos hp2, t1, bd_some, l5 _ hp2.2]
      exact ⟨τ, rfl, t3⟩
theorem q_ahead {sh shR : List kd} {σC σR : St} {R : Rl} {ru : Option Cl} {lf : Lf} (h : QX sh shR σC σR R ru lf) (p n w : Int32) : alikeQ (fX11_ahead sh σC p n w) (fX12_ahead shR σR p n w) σC σR := by
  have hC := h.2.2.2.1
  have hRR := h.2.2.2.2.1
  obtain ⟨lt1, lt2, lt3⟩ := wfR_lt h.2.2.1
  have hP6 := h.2.2.1.2.2.1
  -- the reference comes to J29
  have hR29 : ∃ x : Int32, fX12_ahead shR σR p n w = fX12_ahead_J29 shR p n w x σR ∧ (¬ x = 0 ↔ (w = 0 ∨ (btw w 1 2 ∧ isN R.1.2.2.2 p))) := by
    unfold fX12_ahead
    by_cases w0 : w = 0
    · rw [if_pos w0]
      exact ⟨1, rfl, ⟨fun _ => Or.inl w0, fun _ => by decide⟩⟩
    · rw [if_neg w0]
      by_cases hw : btw w 1 2
      · rw [in_t (a := 1) (b := 2) (by decide) (by decide) (by decide) (by decide) hw, bd_some, if_neg (by decide)]
        by_cases hp : isN R.1.2.2.2 p
        · rw [isP_t lt3 hRR.2.2.2.1 hp, bd_some]
          exact ⟨_, rfl, ⟨fun _ => Or.inr ⟨hw, hp⟩, fun _ => by decide⟩⟩
        · rw [isP_f lt3 hRR.2.2.2.1 hp, bd_some]
          exact ⟨_, rfl, ⟨fun e => absurd (by decide) e, fun e => e.elim (fun e => absurd e w0) (fun e => absurd e.2 hp)⟩⟩
      · rw [in_f (a := 1) (b := 2) (by decide) (by decide) (by decide) (by decide) hw, bd_some, if_pos rfl]
        exact ⟨0, rfl, ⟨fun e => absurd rfl e, fun e => e.elim (fun e => absurd e w0) (fun e => absurd e.1 hw)⟩⟩
  obtain ⟨x, hx1, hx2⟩ := hR29
  rw [hx1]
  -- refused
  have bad : ∀ z : Option (Int32 × St), z = some (-2, σC) → fX12_ahead_J29 shR p n w x σR = some (-2, σR) → alikeQ z (fX12_ahead_J29 shR p n w x σR) σC σR := by
    intro z e1 e2
    rw [e1, e2]
    exact alike_now
  by_cases hD : R.1.1 = 0
  · apply bad
    · unfold fX11_ahead
      rw [if_pos (told_f hC hD)]
    · unfold fX12_ahead_J29
      rw [isCt_f (by rw [hRR.1, hD]), bd_some, if_pos rfl]
  have hD' : 0 < R.1.1 := by omega
  have c1 := isCt_t (sh := shR) lt1 hRR.1 hD'
  by_cases hn : btw n 0 100
  · by_cases hw0 : w = 0
    · obtain ⟨k, _, k2, k3⟩ := hn
      subst k3
      obtain ⟨τC, a1, a2⟩ := afterC (QX_C h hD') (p := p) (w := w) h.2.2.2.2.2.2.2.1 k2 (Or.inl hw0)
      obtain ⟨τR, b1, b2⟩ := aheadR h.2.1 (QX_R h hD') (p := p) (w := w) h.2.2.2.2.2.2.1 h.2.2.2.2.2.2.2.1 k2 (Or.inl hw0) (hx2.mpr (Or.inl hw0))
      refine ⟨_, τC, τR, ?_, b1, a2, b2⟩
      unfold fX11_ahead
      rw [if_neg (told_t hC hD'), within_t (a := 0) (b := 100) (by decide) (by decide) (by decide) (by decide) ⟨k, by omega, k2, rfl⟩, bd_some, if_neg (by decide), within_t (a := 0) (b := 2) (by decide) (by decide) (by decide) (by decide) ⟨0, by omega, by omega, by rw [hw0]; rfl⟩, bd_some, if_pos (by decide), if_pos (by rw [hw0]; decide), a1, bd_some]
    · by_cases hw : btw w 1 2
      · have hw2 : btw w 0 2 := by
          obtain ⟨k, k1, k2, k3⟩ := hw
          exact ⟨k, by omega, k2, k3⟩
        have hwp : ¬ w ≤ 0 := by
          obtain ⟨k, k1, k2, k3⟩ := hw
          rw [k3]
          exact nI_nle (by omega) (by omega)
        by_cases hp : isN R.1.2.2.2 p
        · obtain ⟨k, _, k2, k3⟩ := hn
          subst k3
          have hpo := (isN_ok hP6 hp).1
          obtain ⟨τC, a1, a2⟩ := afterC (QX_C h hD') (p := p) (w := w) h.2.2.2.2.2.2.2.1 k2 (Or.inr hpo)
          obtain ⟨τR, b1, b2⟩ := aheadR h.2.1 (QX_R h hD') (p := p) (w := w) h.2.2.2.2.2.2.1 h.2.2.2.2.2.2.2.1 k2 (Or.inr hpo) (hx2.mpr (Or.inr ⟨hw, hp⟩))
          refine ⟨_, τC, τR, ?_, b1, a2, b2⟩
          unfold fX11_ahead
          rw [if_neg (told_t hC hD'), within_t (a := 0) (b := 100) (by decide) (by decide) (by decide) (by decide) ⟨k, by omega, k2, rfl⟩, bd_some, if_neg (by decide), within_t (a := 0) (b := 2) (by decide) (by decide) (by decide) (by decide) hw2, bd_some, if_pos (by decide), if_neg hwp, hasP_t (by omega) hC.2.2.2.2.1 hp, bd_some, if_pos (by decide), a1, bd_some]
        · apply bad
          · unfold fX11_ahead
            rw [if_neg (told_t hC hD'), within_t (a := 0) (b := 100) (by decide) (by decide) (by decide) (by decide) hn, bd_some, if_neg (by decide), within_t (a := 0) (b := 2) (by decide) (by decide) (by decide) (by decide) hw2, bd_some, if_pos (by decide), if_neg hwp, hasP_f (by omega) hC.2.2.2.2.1 hp, bd_some, if_neg (by decide)]
          · unfold fX12_ahead_J29
            have x0 : x = 0 := Decidable.byContradiction fun e => (hx2.mp e).elim hw0 (fun e => hp e.2)
            rw [c1, bd_some, if_neg (by decide), if_pos x0]
      · have hw2 : ¬ btw w 0 2 := by
          rintro ⟨k, k1, k2, k3⟩
          by_cases k0 : k = 0
          · exact hw0 (by rw [k3, k0]; rfl)
          · exact hw ⟨k, by omega, k2, k3⟩
        apply bad
        · unfold fX11_ahead
          rw [if_neg (told_t hC hD'), within_t (a := 0) (b := 100) (by decide) (by decide) (by decide) (by decide) hn, bd_some, if_neg (by decide), within_f (a := 0) (b := 2) (by decide) (by decide) (by decide) (by decide) hw2, bd_some, if_neg (by decide)]
        · unfold fX12_ahead_J29
          have x0 : x = 0 := Decidable.byContradiction fun e => (hx2.mp e).elim hw0 (fun e => hw e.1)
          rw [c1, bd_some, if_neg (by decide), if_pos x0]
  · apply bad
    · unfold fX11_ahead
      rw [if_neg (told_t hC hD'), within_f (a := 0) (b := 100) (by decide) (by decide) (by decide) (by decide) hn, bd_some, if_pos rfl]
    · unfold fX12_ahead_J29
      rw [c1, bd_some, if_neg (by decide)]
      by_cases x0 : x = 0
      · rw [if_pos x0]
      · rw [if_neg x0, in_f (a := 0) (b := 100) (by decide) (by decide) (by decide) (by decide) hn, bd_some, if_neg (by decide)]
