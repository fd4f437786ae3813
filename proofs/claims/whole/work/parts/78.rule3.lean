/-! ===== the RULE on both sides; the shape may grow ===== -/
def gr (sh sh' : List kd) : Prop := sh.length ≤ sh'.length ∧ ∀ (i : Nat) (k : kd), sh[i]? = some k → sh'[i]? = some k
theorem gr_app {sh l : List kd} : gr sh (sh ++ l) := by
  refine ⟨by rw [List.length_append]; omega, fun i k h => ?_⟩
  rw [List.getElem?_append_left (List.getElem?_eq_some_iff.mp h).1]
  exact h
theorem gr_c {sh sh' : List kd} (g : gr sh sh') (h : cSh sh) : cSh sh' := by
  intro i hi
  have hl : i < shC.length := by
    have : shC.length = 160 := by decide +kernel
    omega
  have h1 := h i hi
  rw [List.getElem?_eq_getElem hl] at h1 ⊢
  exact g.2 i _ h1
theorem gr_l {sh sh' : List kd} {a : Nat} (g : gr sh sh') (h : lSh sh a) : lSh sh' a := ⟨g.2 _ _ h.1, g.2 _ _ h.2.1, g.2 _ _ h.2.2.1, g.2 _ _ h.2.2.2.1, g.2 _ _ h.2.2.2.2⟩
theorem gr_r {sh sh' : List kd} {a : Nat} (g : gr sh sh') (h : rSh sh a) : rSh sh' a := ⟨g.2 _ _ h.1, g.2 _ _ h.2.1, g.2 _ _ h.2.2.1, g.2 _ _ h.2.2.2.1, g.2 _ _ h.2.2.2.2.1, g.2 _ _ h.2.2.2.2.2⟩
theorem gr_w {sh sh' : List kd} {a : Nat} (g : gr sh sh') (h : wSh sh a) : wSh sh' a := ⟨g.2 _ _ h.1, gr_r g h.2.1, gr_l g h.2.2.1, g.2 _ _ h.2.2.2.1, g.2 _ _ h.2.2.2.2.1, g.2 _ _ h.2.2.2.2.2⟩
theorem gr_q {sh sh' : List kd} {σ : St} {q : Nat} {cl : Cl} (g : gr sh sh') (h : ruQ sh σ q cl) : ruQ sh' σ q cl := by
  obtain ⟨n1, h1, h2, h3, h4, h5, h6⟩ := h
  exact ⟨n1, g.2 _ _ h1, g.2 _ _ h2, g.2 _ _ h3, g.2 _ _ h4, g.2 _ _ h5, h6⟩
theorem IV_gr {sh sh' shR : List kd} {σC σR : St} {W : Wd} {rl : List Cl} {im : Im} {tp : List Nat} (g : gr sh sh') (h : IV sh shR σC σR W rl im tp) : IV sh' shR σC σR W rl im tp := by
  obtain ⟨⟨a1, a2, a3, a4, a5, a6⟩, b1, b2, b3, b4, b5, b6⟩ := h
  refine ⟨⟨gr_c g a1, a2, a3, a4, a5, a6⟩, ⟨b1.1, b1.2.1, fun k cl hk => ?_⟩, b2, fun k hk => ?_, b4, b5, b6⟩
  · obtain ⟨q, q1, q2, q3, q4⟩ := b1.2.2 k cl hk
    have := g.1
    exact ⟨q, q1, by omega, q3, gr_q g q4⟩
  · rcases b3 k hk with c | ⟨a, W0, c1, c2, c3, c4, c5, c6, c7⟩
    · exact Or.inl c
    · have := g.1
      exact Or.inr ⟨a, W0, c1, c2, c3, by omega, gr_w g c5, fun i hi => gr_l g (c6 i hi), c7⟩
theorem RuR_ext {f g sa ta ea f' g' sa' ta' ea' : Nat → Int32} {r : Nat} : ∀ (cl : Cl) (k i : Nat), (∀ j, j < 300 → f' (300 * r + j) = f (300 * r + j) ∧ g' (300 * r + j) = g (300 * r + j)) → (∀ j, j < 12 → sa' (12 * r + j) = sa (12 * r + j) ∧ ta' (12 * r + j) = ta (12 * r + j) ∧ ea' (12 * r + j) = ea (12 * r + j)) → i + tl cl ≤ 300 → k + cl.length ≤ 12 → RuR f g sa ta ea r k i cl → RuR f' g' sa' ta' ea' r k i cl
  | [], _, _, _, _, _, _, _ => trivial
  | q :: cl, k, i, h1, h2, hi, hk, h => by
    have el : (q :: cl).length = cl.length + 1 := List.length_cons
    have et : tl (q :: cl) = q.1.length + q.2.length + tl cl := rfl
    rw [el] at hk
    rw [et] at hi
    obtain ⟨g1, g2, g3, g4, g5, g6⟩ := h
    have e := h2 k (by omega)
    refine ⟨e.1.trans g1, e.2.1.trans g2, e.2.2.trans g3, cdA_ext _ _ (fun j j1 j2 => ?_) g4, cdA_ext _ _ (fun j j1 j2 => ?_) g5, RuR_ext cl _ _ h1 h2 (by omega) (by omega) g6⟩
    · have := h1 (j - 300 * r) (by omega)
      rwa [show 300 * r + (j - 300 * r) = j by omega] at this
    · have := h1 (j - 300 * r) (by omega)
      rwa [show 300 * r + (j - 300 * r) = j by omega] at this
theorem read_both {sh shR : List kd} {σC σR : St} {W : Wd} {rl : List Cl} {im : Im} {tp : List Nat} (h : IV sh shR σC σR W rl im tp) (h6 : rl.length < 6) : ∃ f n τC τR, fX8_read sh σC = some (f, τC) ∧ fX12_rule shR σR = fX12_rule_X47 shR (nI n) 0 τR ∧ fmC' σC τC ∧ fmR' rl.length (s_F σR 0 22 (nI rl.length)) τR ∧ τC.1 1 3 = f ∧ τR.1 0 21 = f ∧ fOK f ∧ (f = 0 → ∃ cl', cl'.length = n ∧ CJ τC τR rl.length cl') := by
  obtain ⟨t1, t2, t3, t4⟩ := h.2.2.2.2.2.1
  have h23 : σR.1 0 23 = nI rl.length := h.2.2.1.2.1
  have h28 : σR.1 0 28 = 12 := h.2.2.2.2.2.2.2
  have hCI : CI (s_F (s_F (s_F (s_F (s_F σC 1 2 0) 1 3 0) 10 5 0) 10 6 0) 10 7 0) (s_F (s_F (s_F (s_F (s_F (s_F σR 0 22 (nI rl.length)) 0 20 0) 0 21 0) 0 24 0) 0 25 0) 0 26 0) tp rl.length 0 0 0 [] := by
    refine ⟨⟨⟨t1, ?_, fun k b hb => ⟨(t4 k b hb).1, (t4 k b hb).2.1⟩⟩, ?_, Nat.zero_le _, ?_, ?_, ?_, trivial⟩, ⟨⟨t1, ?_, fun k b hb => ⟨(t4 k b hb).1, (t4 k b hb).2.2⟩⟩, ?_, Nat.zero_le _, ?_, ?_, ?_, ?_, ?_, trivial⟩, Nat.zero_le _, ?_, ?_, trivial, trivial, fun q hq => (by cases hq), ⟨Nat.zero_le _, Nat.zero_le _, Nat.zero_le _, by omega⟩, Nat.zero_le _⟩
    all_goals simp only [s_F_rd]
    all_goals simp
    all_goals first
      | exact t2
      | exact t3
      | exact h28
      | rfl
  unfold fX8_read fX12_rule fX9_rewind fX12_starts
  rw [bd_some, h23, if_pos (by rw [show (6 : Int32) = nI 6 from by decide]; exact nI_ne (by omega) (by omega) (by omega)), bd_some]
  have hF : 13 < i_F := i_F_gt (by omega)
  have hl := ruleLoop (sh := sh) (shR := shR) (kX := fun (x58 : Int32) (x59 : Int32) (s60 : St) => fX12_rule_X47 shR x58 x59 s60) h6 13 i_F i_F _ _ 0 0 0 [] rfl hF hF hCI
  obtain ⟨f, n, τC, τR, a1, a2, a3, a4, a5⟩ := hl
  refine ⟨f, n, τC, τR, a1, a2, fmC'_trans ?_ a3, fmR'_trans ?_ a4, a5⟩
  · exact fmC'_trans (fmC'_C (fmC_nf (nfC_trans nfC_2 nfC_3))) (fmC'_trans (fmC'_C (fmC_10 (Or.inl rfl))) (fmC'_trans fmC'_6 (fmC'_C (fmC_10 (Or.inr rfl)))))
  · exact fmR'_T (fmT_trans (fmT_0 (by omega)) (fmT_trans (fmT_0 (by omega)) (fmT_trans (fmT_0 (by omega)) (fmT_trans (fmT_0 (by omega)) (fmT_0 (by omega))))))
