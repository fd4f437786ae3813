/-! ===== undo, force, seed, note, count, end, feed ===== -/
def keC0 (σ τ : St) : Prop := (∀ i, i = 0 ∨ 160 ≤ i → τ.1 i = σ.1 i ∧ τ.2.1 i = σ.2.1 i) ∧ τ.2.2.2 = σ.2.2.2
def keR0 (σ τ : St) : Prop := (τ.1 0 23 = σ.1 0 23 ∧ τ.1 0 28 = σ.1 0 28) ∧ (∀ i, (20 ≤ i ∧ i ≤ 25) ∨ i = 37 → τ.2.1 i = σ.2.1 i) ∧ ∀ j, j < 2800 → τ.2.1 36 j = σ.2.1 36 j
theorem IV_actT {sh shR : List kd} {σC σR τC τR : St} {W W' : Wd} {rl : List Cl} {im : Im} {tp tp' : List Nat} (h : IV sh shR σC σR W rl im tp) (kC : keC0 σC τC) (kR : keR0 σR τR) (hw : wfW rl.length W') (hC : hdC τC 19 W') (hR : hdR τR W') (ht : tpe τC τR tp') : IV sh shR τC τR W' rl im tp' := by
  obtain ⟨⟨a1, a2, a3, a4, a5, a6⟩, b1, b2, b3, b4, b5, b6⟩ := h
  refine ⟨⟨a1, a2, hw, hC, hR, fun i hi => by rw [kC.2]; exact a6 i hi⟩, ?_, ?_, ?_, ?_, ht, ?_⟩
  · refine ⟨b1.1, by rw [(kC.1 0 (by omega)).1]; exact b1.2.1, fun k cl hk => ?_⟩
    obtain ⟨q, q1, q2, q3, q4⟩ := b1.2.2 k cl hk
    exact ⟨q, q1, q2, by rw [kC.2]; exact q3, ruQ_ext (fun i h1 h2 => (kC.1 i (by omega)).2) q4⟩
  · refine ⟨b2.1, by rw [kR.1.1]; exact b2.2.1, fun k cl hk => ?_⟩
    have := b2.2.2 k cl hk
    unfold ruAt at this ⊢
    rw [kR.2.1 20 (by omega), kR.2.1 21 (by omega), kR.2.1 22 (by omega), kR.2.1 23 (by omega), kR.2.1 24 (by omega), kR.2.1 25 (by omega)]
    exact this
  · intro k hk
    rcases b3 k hk with ⟨c1, c2, c3⟩ | ⟨a, W0, c1, c2, c3, c4, c5, c6, c7, c8, c9, c10, c11⟩
    · exact Or.inl ⟨c1, by rw [kC.2]; exact c2, by rw [kR.2.1 37 (by omega)]; exact c3⟩
    · refine Or.inr ⟨a, W0, c1, by rw [kC.2]; exact c2, c3, c4, c5, c6, fun i hi => by rw [kC.2]; exact c7 i hi, hdC_ext (fun i h1 h2 => kC.1 i (by omega)) c8, c9, by rw [kR.2.1 37 (by omega)]; exact c10, imR_ext (fun j h1 h2 => kR.2.2 j (by omega)) c11⟩
  · refine ⟨b4.1, fun k q j a W0 h1 h2 => b4.2 k q j a W0 h1 (by rw [← kC.2]; exact h2)⟩
  · exact ⟨fun row hr => by rw [kC.2]; exact b6.1 row hr, by rw [kR.1.2]; exact b6.2⟩
theorem m_undo {sh shR : List kd} {σC σR : St} {W : Wd} {rl : List Cl} {im : Im} {tp : List Nat} (h : IV sh shR σC σR W rl im tp) : alikeI sh shR (fX11_undo sh σC) (fX12_undo shR σR) := by
  obtain ⟨a1, a2, a3, a4, a5, a6⟩ := h.1
  obtain ⟨c1, c2, c3, c4, c5, c6⟩ := a4
  obtain ⟨d1, d2, d3, d4, d5, d6⟩ := a5
  obtain ⟨R, lf, pst, nt, f, x⟩ := W
  dsimp only at c1 c2 c3 c4 c5 c6 d1 d2 d3 d4 d5 d6
  have hl4 : σC.1 19 4 = nI pst.length := by obtain ⟨_, _, _, q, _⟩ := c3; exact q
  have hl20 : pst.length ≤ 20 := by obtain ⟨_, _, _, _, q, _⟩ := c3; exact q
  unfold fX11_undo fX12_undo
  rw [hl4, d3.1]
  rcases List.eq_nil_or_concat pst with e | ⟨pst', l, e⟩
  · subst e
    rw [if_neg (by decide), if_neg (by decide)]
    exact alike_nowI h
  · rw [List.concat_eq_append] at e
    subst e
    rw [List.length_append, List.length_singleton] at hl20 ⊢
    rw [if_pos (by rw [← nz0]; exact nI_lt (by omega) (by omega)), if_pos (nI_ne0 (by omega) (by omega))]
    obtain ⟨τC, t1, t2, t3, t4, t5, t6, t7, t8⟩ := backC a1 c3 a6
    have cnl : cn l := cn_C t3
    have hl41 : (s_F σR 0 41 (nI (pst'.length + 1) - 1)).1 0 41 = nI pst'.length := by rw [s_F_rd, if_pos ⟨rfl, rfl⟩, nI_pred]
    have g1 : ∀ i q, ¬ (i = 0 ∧ q = 41) → (s_F σR 0 41 (nI (pst'.length + 1) - 1)).1 i q = σR.1 i q := fun i q hq => by rw [s_F_rd, if_neg hq]
    have g2 : (s_F σR 0 41 (nI (pst'.length + 1) - 1)).2 = σR.2 := rfl
    generalize s_F σR 0 41 (nI (pst'.length + 1) - 1) = s at hl41 g1 g2
    have hlast := d3.2 pst'.length l (by rw [List.getElem?_append_right (Nat.le_refl _), Nat.sub_self]; rfl)
    obtain ⟨τR, u1, u2, u3, u4, u5⟩ := movAllB a2 (σ := s) (k := pst'.length) (l := l) (by omega) (by rw [g2]; exact hlast) cnl
    rw [t1, bd_some, hl41, u1, bd_some, t4, u5.1 0 41 (by omega), hl41]
    have hrow : ∀ i, i ≠ 1 → i ≠ 4 → i ≠ 6 → i ≠ 8 → i ≠ 9 → τR.2.1 i = σR.2.1 i := fun i q1 q4 q6 q8 q9 => by rw [u3 i q1 q4 q6 q8 q9, g2]
    have hr1 : ∀ j, j ≠ 4 → j ≠ 5 → j ≠ 6 → j ≠ 7 → τR.2.1 1 j = σR.2.1 1 j := fun j q4 q5 q6 q7 => by rw [u4 j q4 q5 q6 q7, g2]
    refine ⟨_, τC, τR, (R, l, pst', nt, f, x), rl, im, tp, rfl, rfl, IV_act h ⟨fun i hi => ⟨t5 i (by omega) (by omega), t7 i (by omega)⟩, t8⟩ ⟨by rw [u5.1 0 19 (by omega), g1 0 19 (by omega)], ⟨by rw [u5.1 0 23 (by omega), g1 0 23 (by omega)], by rw [u5.1 0 28 (by omega), g1 0 28 (by omega)]⟩, fun i hi => hrow i (by omega) (by omega) (by omega) (by omega) (by omega), fun j _ => by rw [hrow 36 (by omega) (by omega) (by omega) (by omega) (by omega)]⟩ ⟨a3.1, a3.2.1, a3.2.2.2.1 l (by simp), fun l' hl' => a3.2.2.2.1 l' (by simp only [List.mem_append]; exact Or.inl hl'), a3.2.2.2.2⟩ ⟨?_, t3, t2, ?_, ?_, ?_⟩ ⟨?_, u2, ⟨?_, ?_⟩, ?_, ?_, ?_⟩⟩
    · exact isRC_fr (t5 20 (by omega) (by omega)) (fun i h1 h2 => t7 i (by omega)) c1
    · unfold ntCa
      rw [t6 7 (by omega) (by omega), t7 (19 + 13) (by omega), t7 (19 + 14) (by omega)]
      exact c4
    · rw [t6 8 (by omega) (by omega)]; exact c5
    · rw [t6 9 (by omega) (by omega)]; exact c6
    · exact isRR_fr (fun j hj => hr1 j (by omega) (by omega) (by omega) (by omega)) (fun i hi => hrow i (by omega) (by omega) (by omega) (by omega) (by omega)) d1
    · rw [u5.1 0 41 (by omega), hl41]
    · intro i l' hi
      rw [hrow 29 (by omega) (by omega) (by omega) (by omega) (by omega)]
      have hil : i < pst'.length := (List.getElem?_eq_some_iff.mp hi).1
      exact d3.2 i l' (by rw [List.getElem?_append_left hil]; exact hi)
    · unfold ntR
      rw [hr1 8 (by omega) (by omega) (by omega) (by omega), hrow 10 (by omega) (by omega) (by omega) (by omega) (by omega), hrow 11 (by omega) (by omega) (by omega) (by omega) (by omega)]
      exact d4
    · rw [hr1 10 (by omega) (by omega) (by omega) (by omega)]; exact d5
    · rw [hr1 9 (by omega) (by omega) (by omega) (by omega)]; exact d6
/-- a number of the Whole, of the reference's scalars, becomes another -/
theorem hdC_F {σ : St} {k : Nat} {x : Int32} {W : Wd} (hk : k = 8 ∨ k = 9) (h : hdC σ 19 W) : isRC (s_F σ 19 k x) 20 W.1 ∧ LfC (s_F σ 19 k x) 26 = W.2.1 ∧ pstC (s_F σ 19 k x) 19 W.2.2.1 ∧ ntCa (s_F σ 19 k x) 19 W.2.2.2.1 := by
  obtain ⟨c1, c2, c3, c4, c5, c6⟩ := h
  have eo : ∀ i, i ≠ 19 → (s_F σ 19 k x).1 i = σ.1 i := fun i hi => by funext q; rw [s_F_rd, if_neg (fun e => hi e.1)]
  have ek : ∀ q, q ≠ k → (s_F σ 19 k x).1 19 q = σ.1 19 q := fun q hq => by rw [s_F_rd, if_neg (fun e => hq e.2)]
  refine ⟨isRC_fr (eo 20 (by omega)) (fun _ _ _ => rfl) c1, (LfC_ext (eo 26 (by omega)) (fun _ _ _ => rfl)).trans c2, ?_, ?_⟩
  · obtain ⟨f, f1, f2, f3, f4, f5⟩ := c3
    exact ⟨f, f1, by rw [ek 3 (by omega)]; exact f2, by rw [ek 4 (by omega)]; exact f3, f4, fun i l hi => (LfC_ext (eo _ (by omega)) (fun _ _ _ => rfl)).trans (f5 i l hi)⟩
  · unfold ntCa
    rw [ek 7 (by omega)]
    exact c4
theorem hdR_A {σ : St} {k : Nat} {x : Int32} {W : Wd} (hk : k = 10 ∨ k = 9) (h : hdR σ W) : isRR (s_A σ 1 k x) W.1 ∧ LfR (s_A σ 1 k x) = W.2.1 ∧ pstR (s_A σ 1 k x) W.2.2.1 ∧ ntR (s_A σ 1 k x) W.2.2.2.1 := by
  obtain ⟨d1, d2, d3, d4, d5, d6⟩ := h
  have eo : ∀ i, i ≠ 1 → (s_A σ 1 k x).2.1 i = σ.2.1 i := fun i hi => s_A_ne hi
  have ek : ∀ q, q ≠ k → (s_A σ 1 k x).2.1 1 q = σ.2.1 1 q := fun q hq => by rw [s_A_rd, if_neg (fun e => hq e.2)]
  refine ⟨isRR_fr (fun j hj => ek j (by omega)) (fun i hi => eo i (by omega)) d1, ?_, ⟨d3.1, ?_⟩, ?_⟩
  · refine Eq.trans ?_ d2
    unfold LfR
    rw [ek 4 (by omega), ek 5 (by omega), ek 6 (by omega), ek 7 (by omega), eo 6 (by omega), eo 8 (by omega), eo 9 (by omega), eo 4 (by omega)]
  · rw [eo 29 (by omega)]
    exact d3.2
  · unfold ntR
    rw [ek 8 (by omega), eo 10 (by omega), eo 11 (by omega)]
    exact d4
theorem keC_F19 {σ : St} {k : Nat} {x : Int32} : keC σ (s_F σ 19 k x) := ⟨fun i hi => ⟨by funext q; rw [s_F_rd, if_neg (fun e => by omega)], rfl⟩, rfl⟩
theorem keR_A1 {σ : St} {k : Nat} {x : Int32} : keR σ (s_A σ 1 k x) := ⟨rfl, ⟨rfl, rfl⟩, fun i hi => s_A_ne (by omega), fun j _ => by rw [s_A_ne (by omega)]⟩
theorem m_force {sh shR : List kd} {σC σR : St} {W : Wd} {rl : List Cl} {im : Im} {tp : List Nat} (h : IV sh shR σC σR W rl im tp) (r : Int32) : alikeI sh shR (fX11_force sh σC r) (fX12_force shR σR r) := by
  obtain ⟨a1, a2, a3, a4, a5, a6⟩ := h.1
  have hn1 := h.2.1.2.1
  have hn2 := h.2.2.1.2.1
  have hlen := h.2.1.1
  unfold fX11_force fX12_force
  rw [hn1, hn2, inR, bd_some, Int32.toInt_toInt64, Int32.toInt_toInt64]
  have e1 : (nI rl.length - 1).toInt = (rl.length : Int) - 1 := by
    cases hl : rl.length with
    | zero => decide
    | succ n =>
      rw [nI_pred, nI_toInt (by omega)]
      omega
  have e0 : (-1 : Int64).toInt = -1 := by decide
  have e2 : (-1 : Int32).toInt = -1 := by decide
  rw [e1, e0]
  simp only [if_pos o_10, c_10]
  by_cases h1 : r < -1
  · have h1' := Int32.lt_iff_toInt_lt.mp h1
    rw [if_pos h1, show (if r.toInt < -1 ∨ (rl.length : Int) - 1 < r.toInt then (0 : Int32) else 1) = 0 from if_pos (by omega), if_neg nn00]
    exact alike_nowI h
  · have h1' : ¬ r.toInt < -1 := fun e => h1 (Int32.lt_iff_toInt_lt.mpr (by omega))
    rw [if_neg h1]
    by_cases h2 : r < nI rl.length
    · have h2' := Int32.lt_iff_toInt_lt.mp h2
      rw [nI_toInt (by omega)] at h2'
      rw [if_pos h2, show (if r.toInt < -1 ∨ (rl.length : Int) - 1 < r.toInt then (0 : Int32) else 1) = 1 from if_neg (by omega), if_pos n10]
      have hH : isH rl.length r := by
        by_cases hr : r = -1
        · exact Or.inl hr
        · have h0 : ¬ r < 0 := fun e => by
            have h3 := Int32.lt_iff_toInt_lt.mp e
            have z : (0 : Int32).toInt = 0 := by decide
            exact hr (Int32.toInt_inj.mp (by omega))
          obtain ⟨k, k1, k2⟩ := nI_of h0
          rw [k2, nI_toInt k1] at h2'
          exact Or.inr ⟨k, by omega, k2⟩
      obtain ⟨c1, c2, c3, c4⟩ := hdC_F (k := 8) (x := r) (by omega) a4
      obtain ⟨d1, d2, d3, d4⟩ := hdR_A (k := 10) (x := r) (by omega) a5
      rw [show σC.1 19 8 = W.2.2.2.2.1 from a4.2.2.2.2.1, a5.2.2.2.2.1]
      exact ⟨_, _, _, (W.1, W.2.1, W.2.2.1, W.2.2.2.1, r, W.2.2.2.2.2), rl, im, tp, rfl, rfl, IV_act h keC_F19 keR_A1 ⟨a3.1, a3.2.1, a3.2.2.1, a3.2.2.2.1, hH, a3.2.2.2.2.2⟩ ⟨c1, c2, c3, c4, by rw [s_F_rd, if_pos ⟨rfl, rfl⟩], by rw [s_F_rd, if_neg (by omega)]; exact a4.2.2.2.2.2⟩ ⟨d1, d2, d3, d4, s_A_at, by rw [s_A_rd, if_neg (by omega)]; exact a5.2.2.2.2.2⟩⟩
    · have h2' : ¬ r.toInt < (rl.length : Int) := fun e => h2 (Int32.lt_iff_toInt_lt.mpr (by rw [nI_toInt (by omega)]; exact e))
      rw [if_neg h2, show (if r.toInt < -1 ∨ (rl.length : Int) - 1 < r.toInt then (0 : Int32) else 1) = 0 from if_pos (by omega), if_neg nn00]
      exact alike_nowI h
theorem m_seed {sh shR : List kd} {σC σR : St} {W : Wd} {rl : List Cl} {im : Im} {tp : List Nat} (h : IV sh shR σC σR W rl im tp) (x : Int32) : alikeI sh shR (fX11_seed sh σC x) (fX12_seed shR σR x) := by
  obtain ⟨a1, a2, a3, a4, a5, a6⟩ := h.1
  unfold fX11_seed fX12_seed
  simp only [if_pos o_9, c_9]
  by_cases h0 : 0 ≤ x
  · rw [if_pos h0, if_pos h0]
    obtain ⟨k, k1, k2⟩ := nI_of (x := x) (fun e => by
      have a := Int32.lt_iff_toInt_lt.mp e
      have b := Int32.le_iff_toInt_le.mp h0
      omega)
    subst k2
    obtain ⟨c1, c2, c3, c4⟩ := hdC_F (k := 9) (x := nI k) (by omega) a4
    obtain ⟨d1, d2, d3, d4⟩ := hdR_A (k := 9) (x := nI k) (by omega) a5
    rw [show σC.1 19 9 = nI W.2.2.2.2.2 from a4.2.2.2.2.2, a5.2.2.2.2.2]
    exact ⟨_, _, _, (W.1, W.2.1, W.2.2.1, W.2.2.2.1, W.2.2.2.2.1, k), rl, im, tp, rfl, rfl, IV_act h keC_F19 keR_A1 ⟨a3.1, a3.2.1, a3.2.2.1, a3.2.2.2.1, a3.2.2.2.2.1, k1⟩ ⟨c1, c2, c3, c4, by rw [s_F_rd, if_neg (by omega)]; exact a4.2.2.2.2.1, by rw [s_F_rd, if_pos ⟨rfl, rfl⟩]⟩ ⟨d1, d2, d3, d4, by rw [s_A_rd, if_neg (by omega)]; exact a5.2.2.2.2.1, s_A_at⟩⟩
  · rw [if_neg h0, if_neg h0]
    exact alike_nowI h
theorem alikeI_ite {sh shR : List kd} {c : Prop} [Decidable c] {a a' b b' : Option (Int32 × St)} (h1 : alikeI sh shR a b) (h2 : alikeI sh shR a' b') : alikeI sh shR (if c then a else a') (if c then b else b') := by
  split
  · exact h1
  · exact h2
theorem m_count {sh shR : List kd} {σC σR : St} {W : Wd} {rl : List Cl} {im : Im} {tp : List Nat} (h : IV sh shR σC σR W rl im tp) (w : Int32) : alikeI sh shR (fX11_count sh σC w) (fX12_count shR σR w) := by
  obtain ⟨a1, a2, a3, a4, a5, a6⟩ := h.1
  obtain ⟨c1, c2, c3, c4, c5, c6⟩ := a4
  obtain ⟨d1, d2, d3, d4, d5, d6⟩ := a5
  have hP6 := a3.1.2.2.1
  obtain ⟨l1, l2, l3, l4, l5, l6, l7, l8⟩ := LfC_of c2
  obtain ⟨r1, r2, r3, r4, r5, r6, r7, r8⟩ := LfR_of d2
  have hl4 : σC.1 19 4 = nI W.2.2.1.length := by obtain ⟨_, _, _, q, _⟩ := c3; exact q
  unfold fX11_count fX12_count
  simp only [if_pos o_0, if_pos o_1, if_pos o_2, if_pos o_3, if_pos o_4, if_pos o_5, if_pos o_6, if_pos o_7, if_pos o_8, if_pos o_9, if_pos o_10, c_0, c_1, c_2, c_3, c_4, c_5, c_6, c_7, c_8, c_9, c_10]
  rw [show σC.1 20 1 = _ from c1.2.1, show σC.1 20 2 = _ from c1.2.2.1, show σC.1 20 3 = _ from c1.2.2.2.1, show σC.1 20 4 = _ from c1.2.2.2.2.1, h.2.1.2.1, show σC.1 19 8 = _ from c5, show σC.1 26 0 = _ from l1, show σC.1 26 1 = _ from l2, show σC.1 26 2 = _ from l3, show σC.1 26 3 = _ from l4, knC l6, bd_some, show σC.1 19 7 = _ from c4.2.1, hl4, show σC.1 19 9 = _ from c6, h.2.2.2.2.2.1.2.1]
  rw [d1.1, d1.2.1, d1.2.2.1, d1.2.2.2.1, h.2.2.1.2.1, d5, r1, r2, r3, r4, knR hP6 d1.2.2.2.1 r6, bd_some, d4.2.1, d3.1, d6, h.2.2.2.2.2.1.2.2.1, kn_cut hP6 a3.2.2.1.2.2.2.2]
  refine alikeI_ite (alike_nowI h) (alikeI_ite (alike_nowI h) (alikeI_ite (alike_nowI h) (alikeI_ite (alike_nowI h) (alikeI_ite (alike_nowI h) (alikeI_ite (alike_nowI h) (alikeI_ite (alike_nowI h) (alikeI_ite (alike_nowI h) (alikeI_ite (alike_nowI h) (alikeI_ite (alike_nowI h) (alikeI_ite (alike_nowI h) (alikeI_ite (alike_nowI h) (alikeI_ite (alike_nowI h) (alikeI_ite (alike_nowI h) (alikeI_ite (alike_nowI h) (alike_nowI h)))))))))))))))
