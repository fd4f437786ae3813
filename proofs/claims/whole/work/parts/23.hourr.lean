theorem bd_some {α β : Type} {a : α} {σ : St} {k : α → St → Option β} : i_bd (some (a, σ)) k = k a σ := rfl
theorem s_A_rd {σ : St} {i k i' k' : Nat} {x : Int32} : (s_A σ i k x).2.1 i' k' = if i' = i ∧ k' = k then x else σ.2.1 i' k' := rfl
theorem s_A_Q {σ : St} {i k : Nat} {x : Int32} : (s_A σ i k x).2.2 = σ.2.2 := rfl
theorem s_A_ne {σ : St} {i k i' : Nat} {x : Int32} (h : i' ≠ i) : (s_A σ i k x).2.1 i' = σ.2.1 i' := by
  funext q
  rw [s_A_rd, if_neg (fun e => h e.1)]
theorem s_A_up {σ : St} {i k : Nat} {x : Int32} : (s_A σ i k x).2.1 i = upd (σ.2.1 i) k x := by
  funext q
  rw [s_A_rd, upd_pt]
  by_cases h : q = k
  · rw [if_pos ⟨rfl, h⟩, if_pos h]
  · rw [if_neg (fun e => h e.2), if_neg h]
/-- the end of an HOUR in the reference -/
theorem J133_ok {sh : List kd} {s : St} {held x57 x58 : Int32} {g : Nat} (hg : s.2.1 1 7 = nI g) (hg9 : g ≤ 9) : ∃ σ2, fX12_goes_J133 sh held x57 x58 s = some (x57, σ2) ∧ σ2.1 = s.1 ∧ σ2.2.2 = s.2.2 ∧ (∀ i, i ≠ 1 → σ2.2.1 i = s.2.1 i) ∧ σ2.2.1 1 4 = s.2.1 1 4 + 1 ∧ σ2.2.1 1 5 = held ∧ σ2.2.1 1 6 = -1 ∧ σ2.2.1 1 7 = spGl (s.2.1 1 7) ∧ ∀ j, j ≠ 4 → j ≠ 5 → j ≠ 6 → j ≠ 7 → σ2.2.1 1 j = s.2.1 1 j := by
  unfold fX12_goes_J133
  simp only [if_pos o_5, if_pos o_6, if_pos o_7, if_pos o_4, c_5, c_6, c_7, c_4, i_jp]
  refine ⟨_, rfl, rfl, rfl, fun i hi => ?_, ?_, ?_, ?_, ?_, fun j h4 h5 h6 h7 => ?_⟩
  · rw [s_A_ne hi, s_A_ne hi, s_A_ne hi, s_A_ne hi]
  · simp [s_A_rd]
  · simp [s_A_rd]
  · simp [s_A_rd]
  · simp only [s_A_rd]
    simp
    rw [hg]
    exact spGl_r g hg9
  · simp only [s_A_rd]
    simp [h4, h5, h6, h7]
set_option maxRecDepth 20000 in
theorem goesR {sh : List kd} {σ σ1 : St} {P g : Nat} {held : Int32} (hP : P ≤ 6) (hp : σ.2.1 1 3 = nI P) (hg : σ.2.1 1 7 = nI g) (hg9 : g ≤ 9) (hh : fX12_holds sh σ = some (held, σ1)) (hs : sameL σ σ1) (hb : held = -1 ∨ i_ok held 6) :
    ∃ σ2, fX12_goes sh σ = some ((spPass (σ.2.1 1 1) (σ.2.1 7) P held (LfR σ)).1, σ2) ∧ LfR σ2 = (spPass (σ.2.1 1 1) (σ.2.1 7) P held (LfR σ)).2 ∧ frR σ σ2 := by
  obtain ⟨s1, s2, s3⟩ := hs
  have hb2 : held = -1 ∨ ¬ held < 0 := hb.elim Or.inl (fun h => Or.inr h.1)
  have hF : P < i_F := i_F_gt (by omega)
  have h0 : fX12_goes sh σ = fX12_goes_L9 sh held (fun x57 x58 s59 => fX12_goes_X118 sh held x57 x58 s59) i_F 0 0 σ1 := by
    unfold fX12_goes
    rw [hh, bd_some]
  generalize i_F = N at hF h0
  have hL := goesR_loop (sh := sh) (σ := σ1) (held := held) (K := fun x57 x58 s59 => fX12_goes_X118 sh held x57 x58 s59) hP (by rw [s2]; exact hp) hb2 (σ1.2.1 4) P N 0 (0, σ1.2.1 6, σ1.2.1 8, σ1.2.1 9) (by omega) hF
  rw [aSet_self, nI_0] at hL
  rw [s2] at hL
  dsimp only at hL
  have hq := spTurns_tr (owed := σ.2.1 1 1) (held := held) (sv := σ.2.1 7) P 0 (0, σ.2.1 6, σ.2.1 8, σ.2.1 9) (by omega)
  generalize hT : spTurns (σ.2.1 1 1) held (σ.2.1 7) P 0 (0, σ.2.1 6, σ.2.1 8, σ.2.1 9) = T at hL hq
  have hsp : spPass (σ.2.1 1 1) (σ.2.1 7) P held (LfR σ) = (T.1, (σ.2.1 1 4 + 1, held, -1, spGl (σ.2.1 1 7)), tr 6 T.2.1, tr 6 T.2.2.1, tr 6 T.2.2.2, if held < 0 then tr 6 (σ.2.1 4) else upd (tr 6 (σ.2.1 4)) held.toNatClampNeg (tr 6 (σ.2.1 4) held.toNatClampNeg + 1)) := by
    unfold spPass LfR
    dsimp only
    have hq2 : spTurns (σ.2.1 1 1) held (σ.2.1 7) P 0 (0, tr 6 (σ.2.1 6), tr 6 (σ.2.1 8), tr 6 (σ.2.1 9)) = trq T := hq
    rw [hq2]
    rfl
  rw [hsp]
  have h1 := h0.trans hL
  clear h0 hL
  rw [h1]
  clear h1
  dsimp only
  have key : ∀ s4 : St, s4.1 = σ.1 → s4.2.2.2 = σ.2.2.2 → (∀ i, i ≠ 6 → i ≠ 8 → i ≠ 9 → i ≠ 4 → s4.2.1 i = σ.2.1 i) → s4.2.1 6 = T.2.1 → s4.2.1 8 = T.2.2.1 → s4.2.1 9 = T.2.2.2 → tr 6 (s4.2.1 4) = (if held < 0 then tr 6 (σ.2.1 4) else upd (tr 6 (σ.2.1 4)) held.toNatClampNeg (tr 6 (σ.2.1 4) held.toNatClampNeg + 1)) →
      ∃ σ2, fX12_goes_J133 sh held T.1 (nI P) s4 = some (T.1, σ2) ∧ LfR σ2 = ((σ.2.1 1 4 + 1, held, -1, spGl (σ.2.1 1 7)), tr 6 T.2.1, tr 6 T.2.2.1, tr 6 T.2.2.2, if held < 0 then tr 6 (σ.2.1 4) else upd (tr 6 (σ.2.1 4)) held.toNatClampNeg (tr 6 (σ.2.1 4) held.toNatClampNeg + 1)) ∧ frR σ σ2 := by
    intro s4 g1 g2 g3 g4 g5 g6 g7
    have e1 : s4.2.1 1 = σ.2.1 1 := g3 1 (by decide) (by decide) (by decide) (by decide)
    obtain ⟨σ2, j1, j2, j3, j4, j5, j6, j7, j8, j9⟩ := J133_ok (sh := sh) (held := held) (x57 := T.1) (x58 := nI P) (s := s4) (g := g) (by rw [e1]; exact hg) hg9
    refine ⟨σ2, j1, ?_, j2.trans g1, fun i h1 h6 h8 h9 h4 => (j4 i h1).trans (g3 i h6 h8 h9 h4), fun j h4 h5 h6 h7 => by rw [j9 j h4 h5 h6 h7, e1], by rw [j3]; exact g2⟩
    unfold LfR
    rw [j5, j6, j7, j8, j4 6 (by decide), j4 8 (by decide), j4 9 (by decide), j4 4 (by decide), g4, g5, g6, g7, e1]
  unfold fX12_goes_X118
  have k3 : ∀ i, i ≠ 6 → i ≠ 8 → i ≠ 9 → i ≠ 4 → (aSet σ1 6 8 9 4 T.2.1 T.2.2.1 T.2.2.2 (σ.2.1 4)).2.1 i = σ.2.1 i := fun i a b c d => by rw [aSet_ro a b c d, s2]
  rcases hb with hb | hb
  · subst hb
    rw [if_pos rfl]
    exact key _ s1 s3 k3 aSet_r1 (aSet_r2 aR) (aSet_r3 aR) (by rw [aSet_r4 aR, if_pos neg1_lt])
  · rw [if_neg (not_neg1 hb.1), if_pos hb, if_pos hb]
    refine key _ s1 s3 (fun i a b c d => by rw [s_A_ne d]; exact k3 i a b c d) (by rw [s_A_ne (by decide)]; exact aSet_r1) (by rw [s_A_ne (by decide)]; exact aSet_r2 aR) (by rw [s_A_ne (by decide)]; exact aSet_r3 aR) ?_
    rw [s_A_up, aSet_r4 aR, if_neg hb.1, tr_upd hb.2, tr_at hb.2]
