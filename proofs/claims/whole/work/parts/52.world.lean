/-! ===== class and reference hold the same ===== -/
/-- the COURT, its life, what can be UNDONE, NOTES, the RULE IN FORCE, x -/
abbrev Wd : Type := Rl × Lf × List Lf × List (Nat × Int32) × Int32 × Nat
def ntCa (σ : St) (a : Nat) (nt : List (Nat × Int32)) : Prop := nt.length ≤ 10 ∧ σ.1 a 7 = nI nt.length ∧ ∀ k q, nt[k]? = some q → q.1 ≤ 60 ∧ σ.2.1 (a + 13) k = nI q.1 ∧ σ.2.1 (a + 14) k = q.2
def hdC (σ : St) (a : Nat) (W : Wd) : Prop := isRC σ (a + 1) W.1 ∧ LfC σ (a + 7) = W.2.1 ∧ pstC σ a W.2.2.1 ∧ ntCa σ a W.2.2.2.1 ∧ σ.1 a 8 = W.2.2.2.2.1 ∧ σ.1 a 9 = nI W.2.2.2.2.2
def hdR (σ : St) (W : Wd) : Prop := isRR σ W.1 ∧ LfR σ = W.2.1 ∧ pstR σ W.2.2.1 ∧ ntR σ W.2.2.2.1 ∧ σ.2.1 1 10 = W.2.2.2.2.1 ∧ σ.2.1 1 9 = nI W.2.2.2.2.2
def wfW (n : Nat) (W : Wd) : Prop := wfR W.1 ∧ wfK W.1 ∧ wfL W.1 999 W.2.1 ∧ (∀ l, l ∈ W.2.2.1 → wfL W.1 999 l) ∧ isH n W.2.2.2.2.1 ∧ W.2.2.2.2.2 < 2 ^ 31
theorem LfC_at {σ τ : St} {a b : Nat} (hb : a ≤ b) (hb2 : b + 4 < a + 115) (e : ∀ i, a ≤ i → i < a + 115 → τ.1 i = σ.1 i ∧ τ.2.1 i = σ.2.1 i) : LfC τ b = LfC σ b := LfC_ext (e b (by omega) (by omega)).1 (fun i h1 h2 => (e i (by omega) (by omega)).2)
theorem hdC_ext {σ τ : St} {a : Nat} {W : Wd} (e : ∀ i, a ≤ i → i < a + 115 → τ.1 i = σ.1 i ∧ τ.2.1 i = σ.2.1 i) (h : hdC σ a W) : hdC τ a W := by
  obtain ⟨h1, h2, h3, h4, h5, h6⟩ := h
  have e0 := (e a (by omega) (by omega)).1
  refine ⟨?_, ?_, ?_, ?_, by rw [e0]; exact h5, by rw [e0]; exact h6⟩
  · unfold isRC at h1 ⊢
    rw [(e (a + 1) (by omega) (by omega)).1, (e (a + 1 + 1) (by omega) (by omega)).2, (e (a + 1 + 2) (by omega) (by omega)).2, (e (a + 1 + 3) (by omega) (by omega)).2, (e (a + 1 + 4) (by omega) (by omega)).2, (e (a + 1 + 5) (by omega) (by omega)).2]
    exact h1
  · rw [LfC_at (by omega) (by omega) e]
    exact h2
  · obtain ⟨f, f1, f2, f3, f4, f5⟩ := h3
    refine ⟨f, f1, by rw [e0]; exact f2, by rw [e0]; exact f3, f4, fun i l hi => ?_⟩
    have := Nat.mod_lt (f + i) (show 20 > 0 by omega)
    rw [LfC_at (by omega) (by omega) e]
    exact f5 i l hi
  · unfold ntCa at h4 ⊢
    rw [e0, (e (a + 13) (by omega) (by omega)).2, (e (a + 14) (by omega) (by omega)).2]
    exact h4
def ruQ (sh : List kd) (σ : St) (q : Nat) (cl : Cl) : Prop := ∃ n1, uSh sh q ∧ sh[q + 1]? = some (.inl (.int, n1)) ∧ sh[q + 2]? = some (.inl (.int, n1)) ∧ sh[q + 3]? = some (.inl (.int, cl.length)) ∧ sh[q + 4]? = some (.inl (.int, cl.length)) ∧ n1 ≤ 400 ∧ cl.length ≤ 12 ∧ tl cl ≤ n1 ∧ wfCl cl ∧ RuC (σ.2.1 (q + 1)) (σ.2.1 (q + 2)) (σ.2.1 (q + 3)) (σ.2.1 (q + 4)) 0 0 cl
def rulC (sh : List kd) (σ : St) (rl : List Cl) : Prop := rl.length ≤ 6 ∧ σ.1 0 10 = nI rl.length ∧ ∀ k cl, rl[k]? = some cl → ∃ q, 160 ≤ q ∧ q + 5 ≤ sh.length ∧ σ.2.2.2 15 k = some q ∧ ruQ sh σ q cl
theorem ruQ_ext {sh : List kd} {σ τ : St} {q : Nat} {cl : Cl} (e : ∀ i, q ≤ i → i < q + 5 → τ.2.1 i = σ.2.1 i) (h : ruQ sh σ q cl) : ruQ sh τ q cl := by
  obtain ⟨n1, h⟩ := h
  refine ⟨n1, ?_⟩
  rw [e (q + 1) (by omega) (by omega), e (q + 2) (by omega) (by omega), e (q + 3) (by omega) (by omega), e (q + 4) (by omega) (by omega)]
  exact h
theorem ruQ_C {sh : List kd} {σ : St} {k q : Nat} {cl : Cl} (hk : k < 6) (hq : σ.2.2.2 15 k = some q) (h : ruQ sh σ q cl) : ruC sh σ (nI k) (some cl) := by
  obtain ⟨n1, h⟩ := h
  exact ⟨k, q, n1, hk, rfl, hq, h⟩
theorem rul_CR {sh : List kd} {σ : St} {rl : List Cl} (h : rulC sh σ rl) : CR sh σ rl := by
  refine ⟨h.1, h.2.1, fun τ g k cl hk => ?_⟩
  obtain ⟨q, q1, q2, q3, q4⟩ := h.2.2 k cl hk
  have hk6 : k < 6 := by
    have := (List.getElem?_eq_some_iff.mp hk).1
    have := h.1
    omega
  refine ruQ_C hk6 (by rw [g.2]; exact q3) (ruQ_ext (fun i h1 h2 => ?_) q4)
  exact (g.1 i (by unfold scC; omega)).2
/-- rows r of length n, one behind the other in f from b on -/
def laid (f : Nat → Int32) (ρ : St) : Nat → List (Nat × Nat) → Prop
  | _, [] => True
  | b, q :: ps => (∀ j, j < q.2 → f (b + j) = ρ.2.1 q.1 j) ∧ laid f ρ (b + q.2) ps
def rows1 : List (Nat × Nat) := [(1, 11), (4, 6), (6, 6), (8, 6), (9, 6)]
def rows2 : List (Nat × Nat) := [(2, 6), (3, 6), (5, 12), (7, 6), (10, 10), (11, 10), (12, 6), (29, 560)]
def tot : List (Nat × Nat) → Nat
  | [] => 0
  | q :: ps => q.2 + tot ps
theorem laid_ext {f g : Nat → Int32} {ρ : St} : ∀ (ps : List (Nat × Nat)) (b : Nat), (∀ j, b ≤ j → j < b + tot ps → g j = f j) → laid f ρ b ps → laid g ρ b ps
  | [], _, _, _ => trivial
  | q :: ps, b, e, h => by
    have et : tot (q :: ps) = q.2 + tot ps := rfl
    exact ⟨fun j hj => by rw [e _ (by omega) (by omega)]; exact h.1 j hj, laid_ext ps (b + q.2) (fun j h1 h2 => e j (by omega) (by omega)) h.2⟩
/-- image k of the reference holds W -/
def imR (σ : St) (k : Nat) (W : Wd) : Prop := ∃ ρ, hdR ρ W ∧ laid (σ.2.1 36) ρ (700 * k) rows1 ∧ σ.2.1 36 (700 * k + 35) = ρ.1 0 41 ∧ laid (σ.2.1 36) ρ (700 * k + 36) rows2
theorem imR_ext {σ τ : St} {k : Nat} {W : Wd} (e : ∀ j, 700 * k ≤ j → j < 700 * k + 700 → τ.2.1 36 j = σ.2.1 36 j) (h : imR σ k W) : imR τ k W := by
  obtain ⟨ρ, h1, h2, h3, h4⟩ := h
  have t1 : tot rows1 = 35 := rfl
  have t2 : tot rows2 = 616 := rfl
  exact ⟨ρ, h1, laid_ext _ _ (fun j a b => e j (by omega) (by omega)) h2, by rw [e _ (by omega) (by omega)]; exact h3, laid_ext _ _ (fun j a b => e j (by omega) (by omega)) h4⟩
abbrev Im : Type := Nat → Option (Nat × Wd)
def imgs (sh : List kd) (σC σR : St) (n : Nat) (im : Im) : Prop := ∀ k, k < 4 → (im k = none ∧ σC.2.2.2 159 k = none ∧ σR.2.1 37 k = 0) ∨ ∃ a W, im k = some (a, W) ∧ σC.2.2.2 159 k = some a ∧ 160 ≤ a ∧ a + 115 ≤ sh.length ∧ wSh sh a ∧ lvSh sh a ∧ rfC σC a ∧ hdC σC a W ∧ wfW n W ∧ σR.2.1 37 k = 1 ∧ imR σR k W
def dis (σC : St) (rl : List Cl) (im : Im) : Prop := (∀ j k a W a' W', j < 4 → k < 4 → j ≠ k → im j = some (a, W) → im k = some (a', W') → a + 115 ≤ a' ∨ a' + 115 ≤ a) ∧ ∀ k q j a W, k < rl.length → σC.2.2.2 15 k = some q → j < 4 → im j = some (a, W) → q + 5 ≤ a ∨ a + 115 ≤ q
def tpe (σC σR : St) (tp : List Nat) : Prop := tp.length ≤ 400 ∧ σC.1 1 1 = nI tp.length ∧ σR.1 0 19 = nI tp.length ∧ ∀ k b, tp[k]? = some b → b < 256 ∧ σC.2.1 2 k = nI b ∧ σR.2.1 19 k = (nI b).toInt8.toInt32
def IV (sh shR : List kd) (σC σR : St) (W : Wd) (rl : List Cl) (im : Im) (tp : List Nat) : Prop :=
  (cSh sh ∧ rmSh shR ∧ wfW rl.length W ∧ hdC σC 19 W ∧ hdR σR W ∧ rfC σC 19) ∧ rulC sh σC rl ∧ RRl σR rl ∧ imgs sh σC σR rl.length im ∧ dis σC rl im ∧ tpe σC σR tp ∧ (∀ row, row < 7 → σC.2.2.2 149 row = some (150 + row)) ∧ σR.1 0 28 = 12
/-- what lasts besides, as it was -/
def keC (σ τ : St) : Prop := (∀ i, i ≤ 2 ∨ 160 ≤ i → τ.1 i = σ.1 i ∧ τ.2.1 i = σ.2.1 i) ∧ τ.2.2.2 = σ.2.2.2
def keR (σ τ : St) : Prop := τ.1 0 19 = σ.1 0 19 ∧ (τ.1 0 23 = σ.1 0 23 ∧ τ.1 0 28 = σ.1 0 28) ∧ (∀ i, (19 ≤ i ∧ i ≤ 25) ∨ i = 37 → τ.2.1 i = σ.2.1 i) ∧ ∀ j, j < 2800 → τ.2.1 36 j = σ.2.1 36 j
theorem IV_act {sh shR : List kd} {σC σR τC τR : St} {W W' : Wd} {rl : List Cl} {im : Im} {tp : List Nat} (h : IV sh shR σC σR W rl im tp) (kC : keC σC τC) (kR : keR σR τR) (hw : wfW rl.length W') (hC : hdC τC 19 W') (hR : hdR τR W') : IV sh shR τC τR W' rl im tp := by
  obtain ⟨⟨a1, a2, a3, a4, a5, a6⟩, b1, b2, b3, b4, b5, b6⟩ := h
  refine ⟨⟨a1, a2, hw, hC, hR, fun i hi => by rw [kC.2]; exact a6 i hi⟩, ?_, ?_, ?_, ?_, ?_, ?_⟩
  · refine ⟨b1.1, by rw [(kC.1 0 (by omega)).1]; exact b1.2.1, fun k cl hk => ?_⟩
    obtain ⟨q, q1, q2, q3, q4⟩ := b1.2.2 k cl hk
    exact ⟨q, q1, q2, by rw [kC.2]; exact q3, ruQ_ext (fun i h1 h2 => (kC.1 i (by omega)).2) q4⟩
  · refine ⟨b2.1, by rw [kR.2.1.1]; exact b2.2.1, fun k cl hk => ?_⟩
    have := b2.2.2 k cl hk
    unfold ruAt at this ⊢
    rw [kR.2.2.1 20 (by omega), kR.2.2.1 21 (by omega), kR.2.2.1 22 (by omega), kR.2.2.1 23 (by omega), kR.2.2.1 24 (by omega), kR.2.2.1 25 (by omega)]
    exact this
  · intro k hk
    rcases b3 k hk with ⟨c1, c2, c3⟩ | ⟨a, W0, c1, c2, c3, c4, c5, c6, c7, c8, c9, c10, c11⟩
    · exact Or.inl ⟨c1, by rw [kC.2]; exact c2, by rw [kR.2.2.1 37 (by omega)]; exact c3⟩
    · refine Or.inr ⟨a, W0, c1, by rw [kC.2]; exact c2, c3, c4, c5, c6, fun i hi => by rw [kC.2]; exact c7 i hi, hdC_ext (fun i h1 h2 => kC.1 i (by omega)) c8, c9, by rw [kR.2.2.1 37 (by omega)]; exact c10, imR_ext (fun j h1 h2 => kR.2.2.2 j (by omega)) c11⟩
  · refine ⟨b4.1, fun k q j a W0 h1 h2 => b4.2 k q j a W0 h1 (by rw [← kC.2]; exact h2)⟩
  · refine ⟨b5.1, by rw [(kC.1 1 (by omega)).1]; exact b5.2.1, by rw [kR.1]; exact b5.2.2.1, fun k b hb => ?_⟩
    rw [(kC.1 2 (by omega)).2, kR.2.2.1 19 (by omega)]
    exact b5.2.2.2 k b hb
  · exact ⟨fun row hr => by rw [kC.2]; exact b6.1 row hr, by rw [kR.2.1.2]; exact b6.2⟩
/-- an answer alike, and again all held alike -/
def alikeI (sh shR : List kd) (x y : Option (Int32 × St)) : Prop := ∃ v τC τR W rl im tp, x = some (v, τC) ∧ y = some (v, τR) ∧ IV sh shR τC τR W rl im tp
def ruOf (rl : List Cl) (f : Int32) : Option Cl := if f = -1 then none else rl[f.toNatClampNeg]?
theorem IV_ruC {sh : List kd} {σ : St} {rl : List Cl} {f : Int32} (h : rulC sh σ rl) (hf : isH rl.length f) : ∀ τ, agr scC σ τ → ruC sh τ f (ruOf rl f) := by
  intro τ g
  unfold ruOf
  rcases hf with e | ⟨k, k1, k2⟩
  · rw [if_pos e]
    exact e
  · have h6 := h.1
    rw [k2, if_neg (fun e => by
      have : ¬ nI k < 0 := nI_pos (by omega)
      rw [e] at this
      exact this (by decide)), nI_clamp (by omega), List.getElem?_eq_getElem k1]
    exact (rul_CR h).2.2 τ g k _ (List.getElem?_eq_getElem k1)
theorem IV_ruR {σ : St} {rl : List Cl} {f : Int32} (h : RRl σ rl) (hf : isH rl.length f) (e10 : σ.2.1 1 10 = f) : ruR σ (ruOf rl f) := by
  unfold ruOf
  rcases hf with e | ⟨k, k1, k2⟩
  · rw [if_pos e]
    exact e10.trans e
  · have h6 := h.1
    rw [k2, if_neg (fun e => by
      have : ¬ nI k < 0 := nI_pos (by omega)
      rw [e] at this
      exact this (by decide)), nI_clamp (by omega), List.getElem?_eq_getElem k1]
    exact ⟨k, by omega, e10.trans k2, h.2.2 k _ (List.getElem?_eq_getElem k1)⟩
theorem IV_QX {sh shR : List kd} {σC σR : St} {W : Wd} {rl : List Cl} {im : Im} {tp : List Nat} (h : IV sh shR σC σR W rl im tp) : QX sh shR σC σR W.1 (ruOf rl W.2.2.2.2.1) W.2.1 := by
  obtain ⟨⟨a1, a2, a3, a4, a5, a6⟩, b1, b2, b3, b4, b5, b6⟩ := h
  refine ⟨a1, a2, a3.1, a4.1, a5.1, a4.2.1, a5.2.1, a3.2.2.1, ?_, IV_ruR b2 a3.2.2.2.2.1 a5.2.2.2.2.1⟩
  rw [show σC.1 19 8 = W.2.2.2.2.1 from a4.2.2.2.2.1]
  exact IV_ruC b1 a3.2.2.2.2.1
theorem IV_NX {sh shR : List kd} {σC σR : St} {W : Wd} {rl : List Cl} {im : Im} {tp : List Nat} (h : IV sh shR σC σR W rl im tp) : NX sh σC σR rl W.2.2.2.1 := by
  obtain ⟨⟨a1, a2, a3, a4, a5, a6⟩, b1, b2, b3, b4, b5, b6⟩ := h
  exact ⟨rul_CR b1, b2, a4.2.2.2.1, a5.2.2.2.1, b6.1⟩
theorem hdR_agR {σ τ : St} {W : Wd} (g : agR σ τ) (h : hdR σ W) : hdR τ W := by
  obtain ⟨h1, h2, h3, h4, h5, h6⟩ := h
  refine ⟨isRR_agS g.1 h1, (LfR_agR g).trans h2, ⟨by rw [g.1.1 0 41 (by omega)]; exact h3.1, ?_⟩, ntR_agS h4 g.1, by rw [g.2.1 10 (by omega)]; exact h5, by rw [g.2.1 9 (by omega)]; exact h6⟩
  rw [agS_row g.1 (by omega)]
  exact h3.2
theorem keR_agS {σ τ : St} (g : agS σ τ) : keR σ τ := ⟨g.1 0 19 (by omega), ⟨g.1 0 23 (by omega), g.1 0 28 (by omega)⟩, fun i hi => agS_row g (by omega), g.2.2.1⟩
theorem keC_agr {σ τ : St} (g : agr scC σ τ) : keC σ τ := ⟨fun i hi => g.1 i (by unfold scC; omega), g.2⟩
/-- a question -/
theorem IV_q {sh shR : List kd} {σC σR : St} {W : Wd} {rl : List Cl} {im : Im} {tp : List Nat} (h : IV sh shR σC σR W rl im tp) {x y : Option (Int32 × St)} (hq : alikeQ x y σC σR) : alikeI sh shR x y := by
  obtain ⟨v, τC, τR, e1, e2, g1, g2⟩ := hq
  refine ⟨v, τC, τR, W, rl, im, tp, e1, e2, IV_act h (keC_agr g1) (keR_agS g2.1) h.1.2.2.1 (hdC_ext (fun i h1 h2 => ?_) h.1.2.2.2.1) (hdR_agR g2 h.1.2.2.2.2.1)⟩
  exact g1.1 i (by unfold scC; omega)
