/-! ===== IMAGE: all held alike again ===== -/
theorem IV_image {sh sh' shR : List kd} {σC σR τC τR : St} {W : Wd} {rl : List Cl} {im : Im} {tp : List Nat} {k a : Nat} (h : IV sh shR σC σR W rl im tp) (g : gr sh sh') (hk : k < 4) (ha : 160 ≤ a) (hal : a + 115 ≤ sh'.length) (hw : wSh sh' a) (hlv : lvSh sh' a) (hC : hdC τC a W) (hrf : rfC τC a)
    (fr : ∀ i, i < sh.length → ¬ (a ≤ i ∧ i < a + 115) → τC.1 i = σC.1 i ∧ τC.2.1 i = σC.2.1 i) (fq : ∀ i j, i < sh.length → ¬ (i = 159 ∧ j = k) → τC.2.2.2 i j = σC.2.2.2 i j) (f159 : τC.2.2.2 159 k = some a)
    (hd1 : ∀ j a' W', j < 4 → j ≠ k → im j = some (a', W') → a' + 115 ≤ a ∨ a + 115 ≤ a') (hd2 : ∀ m q, m < rl.length → σC.2.2.2 15 m = some q → q + 5 ≤ a ∨ a + 115 ≤ q)
    (r1 : ∀ i, i ≠ 30 → i ≠ 36 → τR.2.1 i = (s_A σR 37 k 1).2.1 i) (r2 : ∀ i q, ¬ (i = 0 ∧ (q = 51 ∨ q = 52)) → τR.1 i q = σR.1 i q) (r3 : ∀ j, j < 700 * k ∨ 700 * k + 700 ≤ j → τR.2.1 36 j = σR.2.1 36 j)
    (r4 : laid (τR.2.1 36) (s_A σR 37 k 1) (700 * k) rows1) (r5 : τR.2.1 36 (700 * k + 35) = σR.1 0 41) (r6 : laid (τR.2.1 36) (s_A σR 37 k 1) (700 * k + 36) rows2) :
    IV sh' shR τC τR W rl (fun j => if j = k then some (a, W) else im j) tp := by
  obtain ⟨⟨a1, a2, a3, a4, a5, a6⟩, b1, b2, b3, b4, b5, b6⟩ := h
  have hlen := cSh_len a1
  have rA : ∀ i, i ≠ 30 → i ≠ 36 → i ≠ 37 → τR.2.1 i = σR.2.1 i := fun i h1 h2 h3 => by rw [r1 i h1 h2, s_A_ne h3]
  have fC : ∀ i, i < 160 → τC.1 i = σC.1 i ∧ τC.2.1 i = σC.2.1 i := fun i hi => fr i (by omega) (by omega)
  have hdRn : hdR (s_A σR 37 k 1) W := hdR_row (τ := s_A σR 37 k 1) rfl (fun i hi => by rw [s_A_ne (show i ≠ 37 by omega)]) a5
  refine ⟨⟨gr_c g a1, a2, a3, hdC_ext (fun i h1 h2 => fC i (by omega)) a4, hdR_row (r2 0 41 (by omega)) (fun i hi => rA i (by omega) (by omega) (by omega)) a5, fun i hi => by rw [fq _ _ (by omega) (by omega)]; exact a6 i hi⟩, ⟨b1.1, by rw [(fC 0 (by omega)).1]; exact b1.2.1, fun m cl hm => ?_⟩, ⟨b2.1, by rw [r2 0 23 (by omega)]; exact b2.2.1, fun m cl hm => ?_⟩, fun j hj => ?_, ⟨fun i j x Wx x' Wx' hi hj hij e1 e2 => ?_, fun m q j x Wx hm hq hj e1 => ?_⟩, ⟨b5.1, by rw [(fC 1 (by omega)).1]; exact b5.2.1, by rw [r2 0 19 (by omega)]; exact b5.2.2.1, fun m b hb => by rw [(fC 2 (by omega)).2, rA 19 (by omega) (by omega) (by omega)]; exact b5.2.2.2 m b hb⟩, fun row hr => by rw [fq _ _ (by omega) (by omega)]; exact b6.1 row hr, by rw [r2 0 28 (by omega)]; exact b6.2⟩
  · obtain ⟨q, q1, q2, q3, q4⟩ := b1.2.2 m cl hm
    have hml := (List.getElem?_eq_some_iff.mp hm).1
    have hd := hd2 m q hml q3
    have hgl := g.1
    exact ⟨q, q1, by omega, by rw [fq _ _ (by omega) (by omega)]; exact q3, gr_q g (ruQ_ext (fun i h1 h2 => (fr i (by omega) (by omega)).2) q4)⟩
  · have := b2.2.2 m cl hm
    unfold ruAt at this ⊢
    rw [rA 20 (by omega) (by omega) (by omega), rA 21 (by omega) (by omega) (by omega), rA 22 (by omega) (by omega) (by omega), rA 23 (by omega) (by omega) (by omega), rA 24 (by omega) (by omega) (by omega), rA 25 (by omega) (by omega) (by omega)]
    exact this
  · by_cases hjk : j = k
    · subst hjk
      refine Or.inr ⟨a, W, if_pos rfl, f159, ha, hal, hw, hlv, hrf, hC, a3, ?_, ⟨s_A σR 37 j 1, hdRn, r4, r5, r6⟩⟩
      rw [r1 37 (by decide) (by decide), s_A_at]
    · dsimp only
      rw [if_neg hjk]
      have h37 : τR.2.1 37 j = σR.2.1 37 j := by rw [r1 37 (by decide) (by decide), s_A_up, upd_pt, if_neg hjk]
      rcases b3 j hj with ⟨c1, c2, c3⟩ | ⟨x, W0, c1, c2, c3, c4, c5, c6, c7, c8, c9, c10, c11⟩
      · exact Or.inl ⟨c1, by rw [fq _ _ (by omega) (by omega)]; exact c2, by rw [h37]; exact c3⟩
      · have hd := hd1 j x W0 hj hjk c1
        have hgl := g.1
        exact Or.inr ⟨x, W0, c1, by rw [fq _ _ (by omega) (by omega)]; exact c2, c3, by omega, gr_w g c5, fun i hi => gr_l g (c6 i hi), fun i hi => by rw [fq _ _ (by omega) (by omega)]; exact c7 i hi, hdC_ext (fun i h1 h2 => fr i (by omega) (by omega)) c8, c9, by rw [h37]; exact c10, imR_ext (fun m h1 h2 => r3 m (by omega)) c11⟩
  · dsimp only at e1 e2
    by_cases hik : i = k
    · rw [if_pos hik] at e1
      rw [if_neg (by omega)] at e2
      have := hd1 j x' Wx' hj (by omega) e2
      have e := Option.some.inj e1
      cases e
      omega
    · rw [if_neg hik] at e1
      by_cases hjk : j = k
      · rw [if_pos hjk] at e2
        have := hd1 i x Wx hi hik e1
        have e := Option.some.inj e2
        cases e
        omega
      · rw [if_neg hjk] at e2
        exact b4.1 i j x Wx x' Wx' hi hj hij e1 e2
  · dsimp only at e1
    have hq' : σC.2.2.2 15 m = some q := by rw [← fq 15 m (by omega) (by omega)]; exact hq
    by_cases hjk : j = k
    · rw [if_pos hjk] at e1
      have e := Option.some.inj e1
      cases e
      exact hd2 m q hm hq'
    · rw [if_neg hjk] at e1
      exact b4.2 m q j x Wx hm hq' hj e1
/-! the cells of a new Whole -/
def lifeS (q : Nat) : List kd := [.inr (3, [none, none, none, none, some (q + 1), some (q + 2), some (q + 3), some (q + 4)]), .inl (.int, 6), .inl (.int, 6), .inl (.int, 6), .inl (.int, 6)]
def realmS (q : Nat) : List kd := [.inr (5, [none, none, none, none, none, some (q + 1), some (q + 2), some (q + 3), some (q + 4), some (q + 5)]), .inl (.int, 6), .inl (.int, 6), .inl (.int, 12), .inl (.int, 6), .inl (.int, 6)]
def wS (q : Nat) : List kd := (.inr (9, [some (q + 1), some (q + 7), some (q + 12), none, none, some (q + 13), some (q + 14), none, none, none]) :: (realmS (q + 1) ++ (lifeS (q + 7) ++ [.inl (.object RX4, 20), .inl (.int, 10), .inl (.int, 10)]))) ++ (List.range 20).flatMap (fun j => lifeS (q + 15 + 5 * j))
def wF (n k : Nat) : Int32 := if n = 0 then (if k = 8 then -1 else 0) else if (n = 7 ∨ (15 ≤ n ∧ n % 5 = 0)) ∧ (k = 1 ∨ k = 2) then -1 else 0
def sw (q : Nat) : St := (wF, fun _ _ => 0, fun _ _ => 0, fun _ j => fI q 20 j)
set_option maxRecDepth 20000 in
theorem wS_heap {q : Nat} : (wS q).mapIdx (s_cell (sw q)) = baseK q (fI q 20) ++ lvK q 20 := by
  unfold wS lvK baseK
  rw [List.mapIdx_eq_zipIdx_map]
  rfl
def wT (σ : St) (q : Nat) : St := (fun i k => if i < q then σ.1 i k else wF (i - q) k, fun i j => if i < q then σ.2.1 i j else 0, fun i j => if i < q then σ.2.2.1 i j else 0, fun i j => if i < q then σ.2.2.2 i j else fI q 20 j)
theorem s_cell_eq {σ τ : St} {i i' : Nat} {k : kd} (h1 : τ.1 i' = σ.1 i) (h2 : τ.2.1 i' = σ.2.1 i) (h3 : τ.2.2.1 i' = σ.2.2.1 i) (h4 : τ.2.2.2 i' = σ.2.2.2 i) : s_cell τ i' k = s_cell σ i k := by
  unfold s_cell
  rw [h1, h2, h3, h4]
theorem wT_new {σ : St} {q : Nat} : (fun i k => s_cell (wT σ q) (i + q) k) = s_cell (sw q) := by
  funext i k
  refine s_cell_eq ?_ ?_ ?_ ?_
  · funext j
    show (if i + q < q then _ else wF (i + q - q) j) = wF i j
    rw [if_neg (by omega), Nat.add_sub_cancel]
  · funext j
    show (if i + q < q then _ else (0 : Int32)) = 0
    rw [if_neg (by omega)]
  · funext j
    show (if i + q < q then _ else (0 : Int64)) = 0
    rw [if_neg (by omega)]
  · funext j
    show (if i + q < q then _ else fI q 20 j) = fI q 20 j
    rw [if_neg (by omega)]
theorem wT_old {σ : St} {q i : Nat} (hi : i < q) : (wT σ q).1 i = σ.1 i ∧ (wT σ q).2.1 i = σ.2.1 i ∧ (wT σ q).2.2.1 i = σ.2.2.1 i ∧ (wT σ q).2.2.2 i = σ.2.2.2 i := ⟨funext fun _ => if_pos hi, funext fun _ => if_pos hi, funext fun _ => if_pos hi, funext fun _ => if_pos hi⟩
theorem whole_heap {sh : List kd} {σ : St} {q : Nat} (hq : sh.length = q) : s_h sh σ ++ (baseK q (fI q 20) ++ lvK q 20) = s_h (sh ++ wS q) (wT σ q) := by
  have hx : s_h sh (wT σ q) = s_h sh σ := s_h_ext (fun i k hi => by
    obtain ⟨h1, h2, h3, h4⟩ := wT_old (σ := σ) (q := q) (i := i) (by omega)
    exact s_cell_eq h1 h2 h3 h4)
  have ha := s_h_app (sh := sh) (l := wS q) (σ := wT σ q)
  rw [hq, wT_new, wS_heap, hx] at ha
  exact ha.symm
