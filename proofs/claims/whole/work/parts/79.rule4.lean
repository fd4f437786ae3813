/-! ===== RULE: all held alike again ===== -/
theorem isH_up {n m : Nat} {f : Int32} (h : isH n f) (hm : n ≤ m) : isH m f := by
  rcases h with e | ⟨k, k1, k2⟩
  · exact Or.inl e
  · exact Or.inr ⟨k, by omega, k2⟩
theorem wfW_up {n m : Nat} {W : Wd} (h : wfW n W) (hm : n ≤ m) : wfW m W := ⟨h.1, h.2.1, h.2.2.1, h.2.2.2.1, isH_up h.2.2.2.2.1 hm, h.2.2.2.2.2⟩
theorem RuC_ext {f g se te f' g' se' te' : Nat → Int32} {N m : Nat} : ∀ (cl : Cl) (k i : Nat), (∀ j, j < N → f' j = f j ∧ g' j = g j) → (∀ j, j < m → se' j = se j ∧ te' j = te j) → i + tl cl ≤ N → k + cl.length ≤ m → RuC f g se te k i cl → RuC f' g' se' te' k i cl
  | [], _, _, _, _, _, _, _ => trivial
  | q :: cl, k, i, h1, h2, hi, hk, h => by
    have el : (q :: cl).length = cl.length + 1 := List.length_cons
    have et : tl (q :: cl) = q.1.length + q.2.length + tl cl := rfl
    rw [el] at hk
    rw [et] at hi
    obtain ⟨g1, g2, g3, g4, g5⟩ := h
    have e := h2 k (by omega)
    exact ⟨e.1.trans g1, e.2.trans g2, cdA_ext _ _ (fun j j1 j2 => h1 j (by omega)) g3, cdA_ext _ _ (fun j j1 j2 => h1 j (by omega)) g4, RuC_ext cl _ _ h1 h2 (by omega) (by omega) g5⟩
def sX (τR : St) (sl n : Nat) (f : Int32) : St := s_F (s_A (s_F τR 0 19 0) 22 sl (nI n)) 0 23 (nI sl + ((if ¬ f = 0 then 0 else 1) : Int32))
theorem x47 {shR : List kd} {τR : St} {sl n : Nat} {f : Int32} (hsl : sl < 6) (h22 : τR.1 0 22 = nI sl) (h23 : τR.1 0 23 = nI sl) (h21 : τR.1 0 21 = f) (hf : fOK f) : fX12_rule_X47 shR (nI n) 0 τR = some ((if f = 0 then nI sl else -2 - f : Int32), sX τR sl n f) := by
  have e22 : (s_F τR 0 19 0).1 0 22 = nI sl := by rw [s_F_rd, if_neg (by omega)]; exact h22
  have e21 : (s_A (s_F τR 0 19 0) 22 sl (nI n)).1 0 21 = f := by rw [s_A_F, s_F_rd, if_neg (by omega)]; exact h21
  have e23 : (s_A (s_F τR 0 19 0) 22 sl (nI n)).1 0 23 = nI sl := by rw [s_A_F, s_F_rd, if_neg (by omega)]; exact h23
  unfold fX12_rule_X47
  rw [e22, if_pos (ok_nI hsl (by omega)), nI_clamp (by omega), e21, e23]
  show some _ = _
  have f21 : (sX τR sl n f).1 0 21 = f := by
    unfold sX
    rw [s_F_rd, if_neg (by omega)]
    exact e21
  have f23 : (sX τR sl n f).1 0 23 = nI sl + ((if ¬ f = 0 then 0 else 1) : Int32) := s_F_at
  change some ((if (sX τR sl n f).1 0 21 ≤ 0 then (sX τR sl n f).1 0 23 - 1 else -2 - (sX τR sl n f).1 0 21 : Int32), sX τR sl n f) = _
  rw [f21, f23]
  obtain ⟨m, m1, m2⟩ := hf
  by_cases h0 : f = 0
  · rw [h0, if_pos (by decide), if_pos rfl, if_neg (not_not_intro rfl), nI_1, nI_pred]
  · have hpos : ¬ f ≤ 0 := by
      rw [m2]
      refine nI_nle ?_ (by omega)
      by_cases e : m = 0
      · exact absurd (by rw [m2, e]; rfl) h0
      · omega
    rw [if_neg hpos, if_neg h0]
/-- the RULES before, in the reference -/
theorem RR_old {σR τR : St} {rl : List Cl} {n : Nat} {f : Int32} (h6 : rl.length < 6) (h : RRl σR rl) (hR : fmR' rl.length (s_F σR 0 22 (nI rl.length)) τR) : ∀ k cl, rl[k]? = some cl → ruAt (sX τR rl.length n f) k cl := by
  intro k cl hk
  have hkl := (List.getElem?_eq_some_iff.mp hk).1
  obtain ⟨g1, g2, g3, g4, g5⟩ := h.2.2 k cl hk
  refine ⟨?_, g2, g3, g4, ?_⟩
  · show (s_A (s_F τR 0 19 0) 22 rl.length (nI n)).2.1 22 k = _
    rw [s_A_up, upd_pt, if_neg (by omega), s_F_A, hR.2.1 22 (by omega)]
    exact g1
  · refine RuR_ext cl 0 0 (fun j hj => ?_) (fun j hj => ?_) (by omega) (by omega) g5
    · show (s_A (s_F τR 0 19 0) 22 rl.length (nI n)).2.1 20 _ = _ ∧ (s_A (s_F τR 0 19 0) 22 rl.length (nI n)).2.1 21 _ = _
      rw [s_A_ne (by decide), s_A_ne (by decide)]
      exact hR.2.2.1 (300 * k + j) (by omega)
    · show (s_A (s_F τR 0 19 0) 22 rl.length (nI n)).2.1 23 _ = _ ∧ (s_A (s_F τR 0 19 0) 22 rl.length (nI n)).2.1 24 _ = _ ∧ (s_A (s_F τR 0 19 0) 22 rl.length (nI n)).2.1 25 _ = _
      rw [s_A_ne (by decide), s_A_ne (by decide), s_A_ne (by decide)]
      exact ⟨hR.2.2.2.1 23 (12 * k + j) (by omega) (by omega), hR.2.2.2.1 24 (12 * k + j) (by omega) (by omega), hR.2.2.2.1 25 (12 * k + j) (by omega) (by omega)⟩
theorem sX_F {τR : St} {sl n : Nat} {f : Int32} {k : Nat} (h1 : k ≠ 19) (h2 : k ≠ 23) : (sX τR sl n f).1 0 k = τR.1 0 k := by
  unfold sX
  rw [s_F_rd, if_neg (by omega), s_A_F, s_F_rd, if_neg (by omega)]
theorem sX_19 {τR : St} {sl n : Nat} {f : Int32} : (sX τR sl n f).1 0 19 = 0 := by
  unfold sX
  rw [s_F_rd, if_neg (by omega), s_A_F, s_F_at]
theorem sX_row {τR : St} {sl n : Nat} {f : Int32} {i : Nat} (h : i ≠ 22) : (sX τR sl n f).2.1 i = τR.2.1 i := by
  unfold sX
  rw [s_F_A, s_A_ne h, s_F_A]
theorem IV_ruleF {sh shR : List kd} {σC σR τC τR : St} {W : Wd} {rl : List Cl} {im : Im} {tp : List Nat} {f : Int32} {n : Nat} (h : IV sh shR σC σR W rl im tp) (h6 : rl.length < 6) (hC : fmC' σC τC) (hR : fmR' rl.length (s_F σR 0 22 (nI rl.length)) τR) (hf : ¬ f = 0) : IV sh shR (s_F τC 1 1 0) (sX τR rl.length n f) W rl im [] := by
  obtain ⟨⟨a1, a2, a3, a4, a5, a6⟩, b1, b2, b3, b4, b5, b6⟩ := h
  have cF : ∀ i, i ≠ 1 → i ≠ 10 → (s_F τC 1 1 0).1 i = σC.1 i := fun i h1 h2 => by
    funext k
    rw [s_F_rd, if_neg (by omega)]
    exact hC.1 i k (by omega) (by omega)
  have cA : ∀ i, ¬ (11 ≤ i ∧ i ≤ 14) → (s_F τC 1 1 0).2.1 i = σC.2.1 i := fun i hi => by rw [s_F_A]; exact hC.2.1 i hi
  have cQ : (s_F τC 1 1 0).2.2 = σC.2.2 := by rw [s_F_A]; exact hC.2.2
  have rF : ∀ k, ¬ (19 ≤ k ∧ k ≤ 27) → (sX τR rl.length n f).1 0 k = σR.1 0 k := fun k hk => by rw [sX_F (by omega) (by omega), hR.1 0 k (by omega), s_F_rd, if_neg (by omega)]
  have rA : ∀ i, ¬ (20 ≤ i ∧ i ≤ 26) → (sX τR rl.length n f).2.1 i = σR.2.1 i := fun i hi => by rw [sX_row (by omega), hR.2.1 i (by omega)]; rfl
  refine ⟨⟨a1, a2, a3, hdC_ext (fun i h1 h2 => ⟨cF i (by omega) (by omega), cA i (by omega)⟩) a4, hdR_row (rF 41 (by omega)) (fun i hi => rA i (by omega)) a5, fun i hi => by rw [cQ]; exact a6 i hi⟩, ⟨b1.1, by rw [cF 0 (by omega) (by omega)]; exact b1.2.1, fun k cl hk => ?_⟩, ⟨b2.1, ?_, RR_old h6 b2 hR⟩, fun k hk => ?_, ⟨b4.1, fun k q j a W0 h1 h2 => b4.2 k q j a W0 h1 (by rw [← cQ]; exact h2)⟩, ⟨Nat.zero_le _, s_F_at, sX_19, fun k b hb => (by cases hb)⟩, fun row hr => by rw [cQ]; exact b6.1 row hr, ?_⟩
  · obtain ⟨q, q1, q2, q3, q4⟩ := b1.2.2 k cl hk
    exact ⟨q, q1, q2, by rw [cQ]; exact q3, ruQ_ext (fun i h1 h2 => cA i (by omega)) q4⟩
  · show (s_F (s_A (s_F τR 0 19 0) 22 rl.length (nI n)) 0 23 _).1 0 23 = _
    rw [s_F_at, if_pos hf, Int32.add_zero]
  · rcases b3 k hk with ⟨c1, c2, c3⟩ | ⟨a, W0, c1, c2, c3, c4, c5, c6, c7, c8, c9, c10, c11⟩
    · exact Or.inl ⟨c1, by rw [cQ]; exact c2, by rw [rA 37 (by omega)]; exact c3⟩
    · exact Or.inr ⟨a, W0, c1, by rw [cQ]; exact c2, c3, c4, c5, c6, fun i hi => by rw [cQ]; exact c7 i hi, hdC_ext (fun i h1 h2 => ⟨cF i (by omega) (by omega), cA i (by omega)⟩) c8, c9, by rw [rA 37 (by omega)]; exact c10, imR_ext (fun j h1 h2 => by rw [rA 36 (by omega)]) c11⟩
  · rw [rF 28 (by omega)]; exact b6.2
/-- what the class holds once the RULE is made at q -/
def newC (τC τ : St) (q sl n1 m : Nat) : Prop := (∀ i k, i < q → ¬ (i = 0 ∧ k = 10) → τ.1 i k = (s_F τC 1 1 0).1 i k) ∧ τ.1 0 10 = nI (sl + 1) ∧ (∀ i, i < q → τ.2.1 i = τC.2.1 i) ∧ (∀ j, j < n1 → τ.2.1 (q + 1) j = τC.2.1 11 j ∧ τ.2.1 (q + 2) j = τC.2.1 12 j) ∧ (∀ j, j < m → τ.2.1 (q + 3) j = τC.2.1 13 j ∧ τ.2.1 (q + 4) j = τC.2.1 14 j) ∧ (∀ i j, i < q → ¬ (i = 15 ∧ j = sl) → τ.2.2.2 i j = τC.2.2.2 i j) ∧ τ.2.2.2 15 sl = some q
def newSh (sh sh' : List kd) (n1 m : Nat) : Prop := gr sh sh' ∧ sh.length + 5 ≤ sh'.length ∧ uSh sh' sh.length ∧ sh'[sh.length + 1]? = some (.inl (.int, n1)) ∧ sh'[sh.length + 2]? = some (.inl (.int, n1)) ∧ sh'[sh.length + 3]? = some (.inl (.int, m)) ∧ sh'[sh.length + 4]? = some (.inl (.int, m))
theorem IV_ruleT {sh sh' shR : List kd} {σC σR τC τR τ : St} {W : Wd} {rl : List Cl} {im : Im} {tp : List Nat} {cl : Cl} (h : IV sh shR σC σR W rl im tp) (h6 : rl.length < 6) (hl : 160 ≤ sh.length) (hC : fmC' σC τC) (hR : fmR' rl.length (s_F σR 0 22 (nI rl.length)) τR) (hJ : CJ τC τR rl.length cl) (hS : newSh sh sh' (tl cl) cl.length) (hN : newC τC τ sh.length rl.length (tl cl) cl.length) : IV sh' shR τ (sX τR rl.length cl.length 0) W (rl ++ [cl]) im [] := by
  obtain ⟨⟨a1, a2, a3, a4, a5, a6⟩, b1, b2, b3, b4, b5, b6⟩ := h
  obtain ⟨n1, n2, n3, n4, n5, n6, n7⟩ := hN
  obtain ⟨g, s1, s2, s3, s4, s5, s6⟩ := hS
  obtain ⟨j1, j2, j3, j4, j5, j6, j7⟩ := hJ
  have cF : ∀ i, i ≠ 0 → i ≠ 1 → i ≠ 10 → i < sh.length → τ.1 i = σC.1 i := fun i h0 h1 h2 h3 => by
    funext k
    rw [n1 i k h3 (by omega), s_F_rd, if_neg (by omega)]
    exact hC.1 i k (by omega) (by omega)
  have cA : ∀ i, ¬ (11 ≤ i ∧ i ≤ 14) → i < sh.length → τ.2.1 i = σC.2.1 i := fun i hi h3 => by rw [n3 i h3]; exact hC.2.1 i hi
  have cQ : ∀ i j, i < sh.length → ¬ (i = 15 ∧ j = rl.length) → τ.2.2.2 i j = σC.2.2.2 i j := fun i j h1 h2 => by rw [n6 i j h1 h2, hC.2.2]
  have rF : ∀ k, ¬ (19 ≤ k ∧ k ≤ 27) → (sX τR rl.length cl.length 0).1 0 k = σR.1 0 k := fun k hk => by rw [sX_F (by omega) (by omega), hR.1 0 k (by omega), s_F_rd, if_neg (by omega)]
  have rA : ∀ i, ¬ (20 ≤ i ∧ i ≤ 26) → (sX τR rl.length cl.length 0).2.1 i = σR.2.1 i := fun i hi => by rw [sX_row (by omega), hR.2.1 i (by omega)]; rfl
  have hlen : (rl ++ [cl]).length = rl.length + 1 := by rw [List.length_append]; rfl
  have hget : ∀ k c, (rl ++ [cl])[k]? = some c → (rl[k]? = some c ∧ k < rl.length) ∨ (k = rl.length ∧ c = cl) := by
    intro k c hk
    have hlt := (List.getElem?_eq_some_iff.mp hk).1
    rw [hlen] at hlt
    by_cases hk2 : k < rl.length
    · rw [List.getElem?_append_left hk2] at hk
      exact Or.inl ⟨hk, hk2⟩
    · have : k = rl.length := by omega
      subst this
      rw [List.getElem?_append_right (Nat.le_refl _), Nat.sub_self] at hk
      exact Or.inr ⟨rfl, (Option.some.inj hk).symm⟩
  refine ⟨⟨gr_c g a1, a2, by rw [hlen]; exact wfW_up a3 (by omega), hdC_ext (fun i h1 h2 => ⟨cF i (by omega) (by omega) (by omega) (by omega), cA i (by omega) (by omega)⟩) a4, hdR_row (rF 41 (by omega)) (fun i hi => rA i (by omega)) a5, fun i hi => by rw [cQ _ _ (by omega) (by omega)]; exact a6 i hi⟩, ⟨by rw [hlen]; omega, by rw [hlen]; exact n2, fun k c hk => ?_⟩, ⟨by rw [hlen]; omega, ?_, fun k c hk => ?_⟩, fun k hk => ?_, ⟨b4.1, fun k q j a W0 h1 h2 h3 h4 => ?_⟩, ⟨Nat.zero_le _, ?_, sX_19, fun k b hb => (by cases hb)⟩, fun row hr => by rw [cQ _ _ (by omega) (by omega)]; exact b6.1 row hr, ?_⟩
  · rcases hget k c hk with ⟨hk1, hk2⟩ | ⟨e1, e2⟩
    · obtain ⟨q, q1, q2, q3, q4⟩ := b1.2.2 k c hk1
      exact ⟨q, q1, by omega, by rw [cQ _ _ (by omega) (by omega)]; exact q3, gr_q g (ruQ_ext (fun i h1 h2 => cA i (by omega) (by omega)) q4)⟩
    · subst e1 e2
      exact ⟨sh.length, hl, s1, n7, tl c, s2, s3, s4, s5, s6, by omega, j5, Nat.le_refl _, j7, RuC_ext (N := tl c) (m := c.length) c 0 0 n4 n5 (by omega) (by omega) j1⟩
  · rw [hlen]
    show (s_F (s_A (s_F τR 0 19 0) 22 rl.length (nI cl.length)) 0 23 _).1 0 23 = _
    rw [s_F_at, if_neg (not_not_intro rfl), nI_1]
  · rcases hget k c hk with ⟨hk1, hk2⟩ | ⟨e1, e2⟩
    · exact RR_old h6 b2 hR k c hk1
    · subst e1 e2
      refine ⟨?_, j5, by omega, j7, ?_⟩
      · show (s_A (s_F τR 0 19 0) 22 rl.length (nI c.length)).2.1 22 rl.length = _
        rw [s_A_at]
      · rw [sX_row (by decide), sX_row (by decide), sX_row (by decide), sX_row (by decide), sX_row (by decide)]
        exact j2
  · rw [hlen]
    rcases b3 k hk with ⟨c1, c2, c3⟩ | ⟨a, W0, c1, c2, c3, c4, c5, c6, c7, c8, c9, c10, c11⟩
    · exact Or.inl ⟨c1, by rw [cQ _ _ (by omega) (by omega)]; exact c2, by rw [rA 37 (by omega)]; exact c3⟩
    · exact Or.inr ⟨a, W0, c1, by rw [cQ _ _ (by omega) (by omega)]; exact c2, c3, by omega, gr_w g c5, fun i hi => gr_l g (c6 i hi), fun i hi => by rw [cQ _ _ (by omega) (by omega)]; exact c7 i hi, hdC_ext (fun i h1 h2 => ⟨cF i (by omega) (by omega) (by omega) (by omega), cA i (by omega) (by omega)⟩) c8, wfW_up c9 (by omega), by rw [rA 37 (by omega)]; exact c10, imR_ext (fun j h1 h2 => by rw [rA 36 (by omega)]) c11⟩
  · rw [hlen] at h1
    by_cases hk2 : k < rl.length
    · exact b4.2 k q j a W0 hk2 (by rw [← cQ 15 k (by omega) (by omega)]; exact h2) h3 h4
    · have : k = rl.length := by omega
      subst this
      rw [n7] at h2
      have hq : sh.length = q := Option.some.inj h2
      rcases b3 j h3 with ⟨c1, _⟩ | ⟨a', W1, c1, _, c3, c4, _⟩
      · rw [c1] at h4; cases h4
      · rw [c1] at h4
        have := Option.some.inj h4
        cases this
        right
        omega
  · rw [n1 1 1 (by omega) (by omega), s_F_at]
    rfl
  · rw [rF 28 (by omega)]; exact b6.2
