/-! ===== an HOUR, when it is known what he holds ===== -/
def tr (n : Nat) (f : Nat → Int32) : Nat → Int32 := fun j => if j < n then f j else 0
theorem tr_at {n j : Nat} {f : Nat → Int32} (h : j < n) : tr n f j = f j := if_pos h
theorem tr_upd {n k : Nat} {f : Nat → Int32} {x : Int32} (h : k < n) : tr n (upd f k x) = upd (tr n f) k x := by
  funext j
  unfold tr
  rw [upd_pt, upd_pt]
  by_cases hj : j = k
  · rw [if_pos (by omega), if_pos hj, if_pos hj]
  · rw [if_neg hj, if_neg hj]
/-- HOUR, what he held, tray, gloves; THANKS, TITLES, by a hand, times -/
abbrev Lf : Type := (Int32 × Int32 × Int32 × Int32) × (Nat → Int32) × (Nat → Int32) × (Nat → Int32) × (Nat → Int32)
def trq (q : Tn) : Tn := (q.1, tr 6 q.2.1, tr 6 q.2.2.1, tr 6 q.2.2.2)
theorem spOne_tr {owed held : Int32} {sv : Nat → Int32} {k : Nat} (q : Tn) (h : k < 6) : spOne owed held sv k (trq q) = trq (spOne owed held sv k q) := by
  obtain ⟨d, th, ti, bh⟩ := q
  unfold spOne trq
  dsimp only
  simp only [tr_at h]
  split
  · simp only [tr_upd h]
  · split
    · simp only [tr_upd h]
    · simp only [tr_upd h]
theorem spTurns_tr {owed held : Int32} {sv : Nat → Int32} : ∀ (m k : Nat) (q : Tn), k + m ≤ 6 → spTurns owed held sv m k (trq q) = trq (spTurns owed held sv m k q)
  | 0, _, _, _ => rfl
  | m + 1, k, q, h => by
    rw [spTurns, spTurns, spOne_tr q (by omega)]
    exact spTurns_tr m (k + 1) _ (by omega)
theorem spTurns_congr {owed held : Int32} {sv sv' : Nat → Int32} : ∀ (m k : Nat) (q : Tn), (∀ j, k ≤ j → j < k + m → sv j = sv' j) → spTurns owed held sv m k q = spTurns owed held sv' m k q
  | 0, _, _, _ => rfl
  | m + 1, k, q, h => by
    rw [spTurns, spTurns]
    have e : spOne owed held sv k q = spOne owed held sv' k q := by
      unfold spOne
      rw [h k (Nat.le_refl _) (by omega)]
    rw [e]
    exact spTurns_congr m (k + 1) _ (fun j h1 h2 => h j (by omega) (by omega))
def spGl (g : Int32) : Int32 := if 0 < g - 1 then g - 1 else 0
theorem spGl_r : ∀ g : Nat, g ≤ 9 → nI g - (if nI g ≤ 0 then 0 else 1) = spGl (nI g) := by decide
/-- an HOUR in which he holds held -/
def spPass (owed : Int32) (sv : Nat → Int32) (P : Nat) (held : Int32) (lf : Lf) : Int32 × Lf :=
  ((spTurns owed held sv P 0 (0, lf.2.1, lf.2.2.1, lf.2.2.2.1)).1, (lf.1.1 + 1, held, -1, spGl lf.1.2.2.2), (spTurns owed held sv P 0 (0, lf.2.1, lf.2.2.1, lf.2.2.2.1)).2.1, (spTurns owed held sv P 0 (0, lf.2.1, lf.2.2.1, lf.2.2.2.1)).2.2.1, (spTurns owed held sv P 0 (0, lf.2.1, lf.2.2.1, lf.2.2.2.1)).2.2.2, if held < 0 then lf.2.2.2.2 else upd lf.2.2.2.2 held.toNatClampNeg (lf.2.2.2.2 held.toNatClampNeg + 1))
def LfC (σ : St) (a : Nat) : Lf := ((σ.1 a 0, σ.1 a 1, σ.1 a 2, σ.1 a 3), tr 6 (σ.2.1 (a + 1)), tr 6 (σ.2.1 (a + 2)), tr 6 (σ.2.1 (a + 3)), tr 6 (σ.2.1 (a + 4)))
def LfR (σ : St) : Lf := ((σ.2.1 1 4, σ.2.1 1 5, σ.2.1 1 6, σ.2.1 1 7), tr 6 (σ.2.1 6), tr 6 (σ.2.1 8), tr 6 (σ.2.1 9), tr 6 (σ.2.1 4))
/-- nothing but the long arrays (words, stack) differs -/
def sameL (σ σ1 : St) : Prop := σ1.1 = σ.1 ∧ σ1.2.1 = σ.2.1 ∧ σ1.2.2.2 = σ.2.2.2
/-- nothing but the Life at a, and the long arrays, differs -/
def frC (a : Nat) (σ σ1 : St) : Prop := (∀ i, i ≠ a → σ1.1 i = σ.1 i) ∧ (∀ i, i ≠ a + 1 → i ≠ a + 2 → i ≠ a + 3 → i ≠ a + 4 → σ1.2.1 i = σ.2.1 i) ∧ σ1.2.2.2 = σ.2.2.2
/-- nothing but the life of the reference, and the long arrays, differs -/
def frR (σ σ1 : St) : Prop := σ1.1 = σ.1 ∧ (∀ i, i ≠ 1 → i ≠ 6 → i ≠ 8 → i ≠ 9 → i ≠ 4 → σ1.2.1 i = σ.2.1 i) ∧ (∀ j, j ≠ 4 → j ≠ 5 → j ≠ 6 → j ≠ 7 → σ1.2.1 1 j = σ.2.1 1 j) ∧ σ1.2.2.2 = σ.2.2.2
theorem i_F_gt {n : Nat} (h : n < 100000) : n < i_F := h
theorem s_F_rd {σ : St} {i k i' k' : Nat} {x : Int32} : (s_F σ i k x).1 i' k' = if i' = i ∧ k' = k then x else σ.1 i' k' := rfl
theorem s_F_A {σ : St} {i k : Nat} {x : Int32} : (s_F σ i k x).2 = σ.2 := rfl
theorem s_A_F {σ : St} {i k : Nat} {x : Int32} : (s_A σ i k x).1 = σ.1 := rfl
set_option maxRecDepth 20000 in
/-- the class: an HOUR of the Life at a by the Realm at r -/
theorem passC {sh : List kd} {σ σ1 : St} {a r P : Nat} {p3 held : Int32} (hP : P ≤ 6) (hp : σ.1 r 4 = nI P) (har : r ≠ a) (hr : r + 5 ≠ a + 1 ∧ r + 5 ≠ a + 2 ∧ r + 5 ≠ a + 3 ∧ r + 5 ≠ a + 4) (hh : fX0_hand sh σ a r p3 = some (held, σ1)) (hs : sameL σ σ1) (hb : held < 0 ∨ i_ok held 6) :
    ∃ σ2, fX0_pass sh σ a r p3 = some ((spPass (σ.1 r 2) (σ.2.1 (r + 5)) P held (LfC σ a)).1, σ2) ∧ LfC σ2 a = (spPass (σ.1 r 2) (σ.2.1 (r + 5)) P held (LfC σ a)).2 ∧ frC a σ σ2 := by
  obtain ⟨s1, s2, s3⟩ := hs
  have key : ∀ s4 : St, (∀ i, i ≠ a → s4.1 i = σ.1 i) → s4.1 a 0 = σ.1 a 0 → s4.1 a 1 = held → s4.1 a 2 = -1 → s4.1 a 3 = spGl (σ.1 a 3) → (∀ i, i ≠ a + 4 → s4.2.1 i = σ.2.1 i) → tr 6 (s4.2.1 (a + 4)) = (if held < 0 then tr 6 (σ.2.1 (a + 4)) else upd (tr 6 (σ.2.1 (a + 4))) held.toNatClampNeg (tr 6 (σ.2.1 (a + 4)) held.toNatClampNeg + 1)) → s4.2.2.2 = σ.2.2.2 →
      ∃ σ2, fX0_pass_J50 sh a r p3 held s4 = some ((spPass (σ.1 r 2) (σ.2.1 (r + 5)) P held (LfC σ a)).1, σ2) ∧ LfC σ2 a = (spPass (σ.1 r 2) (σ.2.1 (r + 5)) P held (LfC σ a)).2 ∧ frC a σ σ2 := by
    intro s4 g1 g2 g3 g4 g5 g6 g7 g8
    have hL := passC_loop (sh := sh) (σ := s4) (a := a) (r := r) (p3 := p3) (held := held) (K := fun x110 x111 s112 => fX0_pass_X148 sh a r p3 held x110 x111 s112) hP (by rw [g1 r har]; exact hp) hr (s4.2.1 (a + 4)) P i_F 0 (0, s4.2.1 (a + 1), s4.2.1 (a + 2), s4.2.1 (a + 3)) (by omega) (i_F_gt (by omega))
    rw [aSet_self, nI_0] at hL
    have e1 : s4.1 r 2 = σ.1 r 2 := by rw [g1 r har]
    have e2 : s4.2.1 (r + 5) = σ.2.1 (r + 5) := g6 _ hr.2.2.2
    have e3 : s4.2.1 (a + 1) = σ.2.1 (a + 1) := g6 _ (by omega)
    have e4 : s4.2.1 (a + 2) = σ.2.1 (a + 2) := g6 _ (by omega)
    have e5 : s4.2.1 (a + 3) = σ.2.1 (a + 3) := g6 _ (by omega)
    rw [e1, e2, e3, e4, e5] at hL
    have hq := spTurns_tr (owed := σ.1 r 2) (held := held) (sv := σ.2.1 (r + 5)) P 0 (0, σ.2.1 (a + 1), σ.2.1 (a + 2), σ.2.1 (a + 3)) (by omega)
    generalize hT : spTurns (σ.1 r 2) held (σ.2.1 (r + 5)) P 0 (0, σ.2.1 (a + 1), σ.2.1 (a + 2), σ.2.1 (a + 3)) = T at hL hq
    have hsp : spPass (σ.1 r 2) (σ.2.1 (r + 5)) P held (LfC σ a) = (T.1, (σ.1 a 0 + 1, held, -1, spGl (σ.1 a 3)), tr 6 T.2.1, tr 6 T.2.2.1, tr 6 T.2.2.2, if held < 0 then tr 6 (σ.2.1 (a + 4)) else upd (tr 6 (σ.2.1 (a + 4))) held.toNatClampNeg (tr 6 (σ.2.1 (a + 4)) held.toNatClampNeg + 1)) := by
      unfold spPass LfC
      dsimp only
      have hq2 : spTurns (σ.1 r 2) held (σ.2.1 (r + 5)) P 0 (0, tr 6 (σ.2.1 (a + 1)), tr 6 (σ.2.1 (a + 2)), tr 6 (σ.2.1 (a + 3))) = trq T := hq
      rw [hq2]
      rfl
    rw [hsp]
    refine ⟨s_F (aSet s4 (a + 1) (a + 2) (a + 3) (a + 4) T.2.1 T.2.2.1 T.2.2.2 (s4.2.1 (a + 4))) a 0 (s4.1 a 0 + 1), ?_, ?_, ?_, ?_, ?_⟩
    · unfold fX0_pass_J50
      exact hL
    · unfold LfC
      simp only [s_F_rd, s_F_A, aSet_r1, aSet_r2 (aC a), aSet_r3 (aC a), aSet_r4 (aC a), g7]
      have f0 : (aSet s4 (a + 1) (a + 2) (a + 3) (a + 4) T.2.1 T.2.2.1 T.2.2.2 (s4.2.1 (a + 4))).1 = s4.1 := rfl
      rw [f0, g2, g3, g4, g5]
      rfl
    · intro i hi
      funext k
      show (if i = a ∧ k = 0 then _ else s4.1 i k) = _
      rw [if_neg (fun q => hi q.1), g1 i hi]
    · intro i h1 h2 h3 h4
      rw [s_F_A, aSet_ro h1 h2 h3 h4]
      exact g6 i h4
    · exact g8
  have hpre : ∀ i k, (s_F (s_F (s_F σ1 a 2 (-1)) a 3 (if 0 < (((s_F σ1 a 2 (-1)).1 a 3) - 1) then (((s_F σ1 a 2 (-1)).1 a 3) - 1) else 0)) a 1 held).1 i k = if i = a ∧ k = 1 then held else if i = a ∧ k = 3 then spGl (σ.1 a 3) else if i = a ∧ k = 2 then -1 else σ.1 i k := by
    intro i k
    have e : (s_F σ1 a 2 (-1)).1 a 3 = σ.1 a 3 := by rw [s_F_rd, if_neg (by omega), s1]
    rw [e]
    show (if i = a ∧ k = 1 then held else if i = a ∧ k = 3 then _ else if i = a ∧ k = 2 then _ else σ1.1 i k) = _
    rw [s1]
    rfl
  unfold fX0_pass
  rw [hh]
  simp only [i_bd, i_jp]
  generalize hs4 : s_F (s_F (s_F σ1 a 2 (-1)) a 3 (if 0 < (((s_F σ1 a 2 (-1)).1 a 3) - 1) then (((s_F σ1 a 2 (-1)).1 a 3) - 1) else 0)) a 1 held = s4 at hpre ⊢
  have hA4 : s4.2.1 = σ.2.1 := by rw [← hs4]; exact s2
  have hQ4 : s4.2.2.2 = σ.2.2.2 := by rw [← hs4]; exact s3
  have f1 : ∀ i, i ≠ a → s4.1 i = σ.1 i := fun i hi => by
    funext k
    rw [hpre, if_neg (fun q => hi q.1), if_neg (fun q => hi q.1), if_neg (fun q => hi q.1)]
  have f2 : s4.1 a 0 = σ.1 a 0 := by rw [hpre, if_neg (by omega), if_neg (by omega), if_neg (by omega)]
  have f3 : s4.1 a 1 = held := by rw [hpre, if_pos ⟨rfl, rfl⟩]
  have f4 : s4.1 a 2 = -1 := by rw [hpre, if_neg (by omega), if_neg (by omega), if_pos ⟨rfl, rfl⟩]
  have f5 : s4.1 a 3 = spGl (σ.1 a 3) := by rw [hpre, if_neg (by omega), if_pos ⟨rfl, rfl⟩]
  by_cases hn : held < 0
  · rw [if_pos hn]
    exact key s4 f1 f2 f3 f4 f5 (fun i _ => by rw [hA4]) (by rw [if_pos hn, hA4]) hQ4
  · have hok := hb.resolve_left hn
    rw [if_neg hn, if_pos hok, if_pos hok]
    refine key (s_A s4 (a + 4) held.toNatClampNeg (s4.2.1 (a + 4) held.toNatClampNeg + 1)) f1 f2 f3 f4 f5 (fun i hi => ?_) ?_ hQ4
    · funext j
      show (if i = a + 4 ∧ j = _ then _ else s4.2.1 i j) = _
      rw [if_neg (fun q => hi q.1), hA4]
    · rw [if_neg hn]
      have e : (s_A s4 (a + 4) held.toNatClampNeg (s4.2.1 (a + 4) held.toNatClampNeg + 1)).2.1 (a + 4) = upd (σ.2.1 (a + 4)) held.toNatClampNeg (σ.2.1 (a + 4) held.toNatClampNeg + 1) := by
        funext j
        show (if a + 4 = a + 4 ∧ j = _ then _ else s4.2.1 (a + 4) j) = _
        rw [upd_pt, hA4]
        by_cases hj : j = held.toNatClampNeg
        · rw [if_pos ⟨rfl, hj⟩, if_pos hj]
        · rw [if_neg (fun q => hj q.2), if_neg hj]
      rw [e, tr_upd hok.2, tr_at hok.2]
