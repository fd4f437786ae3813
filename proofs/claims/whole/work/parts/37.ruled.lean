/-! ===== ruled, look: the class ===== -/
theorem fillC {sh : List kd} {σ : St} {p n : Nat} {v : Int32} (h : sh[p]? = some (.inl (.int, n))) (hn : n ≤ 400) : ∃ τ, fJ7_fill_53178 sh σ p v = some ((), τ) ∧ τ.1 = σ.1 ∧ τ.2.2 = σ.2.2 ∧ (∀ i, i ≠ p → τ.2.1 i = σ.2.1 i) ∧ ∀ j, j < n → τ.2.1 p j = v := by
  unfold fJ7_fill_53178
  rw [i_al_at h]
  have hF : n < i_F := i_F_gt (by omega)
  generalize i_F = F at hF ⊢
  rw [← nz0]
  refine lpI (L := fun m k s => fJ7_fill_53178_L5 sh p v n m (nI k) s) (E := fun r => ∃ τ, r = some ((), τ) ∧ τ.1 = σ.1 ∧ τ.2.2 = σ.2.2 ∧ (∀ i, i ≠ p → τ.2.1 i = σ.2.1 i) ∧ ∀ j, j < n → τ.2.1 p j = v) (fun k s => s.1 = σ.1 ∧ s.2.2 = σ.2.2 ∧ (∀ i, i ≠ p → s.2.1 i = σ.2.1 i) ∧ ∀ j, j < k → s.2.1 p j = v) n (fun m k s hk hI => Or.inl ?_) (fun m s hI => ?_) n F 0 σ (by omega) hF ⟨rfl, rfl, fun _ _ => rfl, fun j hj => by omega⟩
  · obtain ⟨i1, i2, i3, i4⟩ := hI
    refine ⟨s_A s p k v, ?_, i1, i2, fun i hi => by rw [s_A_ne hi, i3 i hi], fun j hj => ?_⟩
    · rw [fJ7_fill_53178_L5, ofN, if_neg (nI_ge hk (by omega)), i_al_at h, if_pos (ok_nI hk (by omega)), nI_clamp (by omega), nI_1]
    · rw [s_A_up, upd_pt]
      by_cases hjk : j = k
      · rw [if_pos hjk]
      · rw [if_neg hjk]
        exact i4 j (by omega)
  · obtain ⟨i1, i2, i3, i4⟩ := hI
    refine ⟨s, ?_, i1, i2, i3, i4⟩
    rw [fJ7_fill_53178_L5, ofN, if_pos (nI_le (Nat.le_refl _) (by omega))]
/-- as the text told it -/
def lf0 (R : Rl) : Lf := ((0, -1, -1, 0), tr 6 R.2.2.2.2.1, fun _ => 0, fun _ => 0, fun _ => 0)
theorem tr_ext {n : Nat} {f g : Nat → Int32} (h : ∀ j, j < n → f j = g j) : tr n f = tr n g := by
  funext j
  unfold tr
  by_cases hj : j < n
  · rw [if_pos hj, if_pos hj, h j hj]
  · rw [if_neg hj, if_neg hj]
theorem tr_0 {n : Nat} {f : Nat → Int32} (h : ∀ j, j < n → f j = 0) : tr n f = fun _ => 0 := by
  funext j
  unfold tr
  by_cases hj : j < n
  · rw [if_pos hj, h j hj]
  · rw [if_neg hj]
theorem beginL {sh : List kd} {σ : St} {a r : Nat} {R : Rl} (h2 : sh[a + 2]? = some (.inl (.int, 6))) (h3 : sh[a + 3]? = some (.inl (.int, 6))) (h4 : sh[a + 4]? = some (.inl (.int, 6))) (ht : ∀ j, j < 6 → σ.2.1 (r + 4) j = R.2.2.2.2.1 j) :
    ∃ τ, fX4_begin sh σ a r = some ((), τ) ∧ LfC τ a = lf0 R ∧ frC a σ τ ∧ τ.2.2.1 = σ.2.2.1 := by
  unfold fX4_begin
  rw [if_pos cok6, c_0, c_6]
  rw [jp]
  generalize hs : s_C (s_F (s_F (s_F (s_F σ a 0 0) a 1 (-1)) a 2 (-1)) a 3 0) (r + 4) (a + 1) 0 0 6 = s
  have e1 : ∀ i k, s.1 i k = if i = a ∧ k = 3 then 0 else if i = a ∧ k = 2 then -1 else if i = a ∧ k = 1 then -1 else if i = a ∧ k = 0 then 0 else σ.1 i k := by
    intro i k
    rw [← hs]
    rfl
  have e2 : ∀ i, i ≠ a + 1 → s.2.1 i = σ.2.1 i := by
    intro i hi
    rw [← hs, s_C_ne hi]
    rfl
  have e3 : tr 6 (s.2.1 (a + 1)) = tr 6 R.2.2.2.2.1 := by
    rw [← hs, s_C_at, tr_cpy]
    exact tr_ext ht
  have e4 : s.2.2 = σ.2.2 := by
    rw [← hs]
    rfl
  obtain ⟨s5, a1, a2, a3, a4, a5⟩ := fillC (σ := s) (v := 0) h2 (by omega)
  obtain ⟨s6, b1, b2, b3, b4, b5⟩ := fillC (σ := s5) (v := 0) h3 (by omega)
  obtain ⟨s7, d1, d2, d3, d4, d5⟩ := fillC (σ := s6) (v := 0) h4 (by omega)
  rw [a1, bd_some, b1, bd_some, d1, bd_some]
  have f1 : s7.1 = s.1 := by rw [d2, b2, a2]
  refine ⟨s7, rfl, ?_, ⟨fun i hi => ?_, fun i g1 g2 g3 g4 => ?_, ?_⟩, ?_⟩
  · unfold LfC lf0
    rw [f1, e1, e1, e1, e1, d4 (a + 1) (by omega), b4 (a + 1) (by omega), a4 (a + 1) (by omega), e3, d4 (a + 2) (by omega), b4 (a + 2) (by omega), tr_0 a5, d4 (a + 3) (by omega), tr_0 b5, tr_0 d5]
    simp
  · rw [f1]
    funext k
    rw [e1]
    simp [hi]
  · rw [d4 i g4, b4 i g3, a4 i g2, e2 i g1]
  · rw [d3, b3, a3, e4]
  · rw [d3, b3, a3, e4]
theorem lf0_wf {R : Rl} : wfL R 0 (lf0 R) := ⟨⟨0, Nat.le_refl _, nz0.symm⟩, Or.inl rfl, Or.inl rfl, ⟨0, by omega, nz0.symm⟩, fun _ _ => rfl⟩
theorem wfL_mono {R : Rl} {a b : Nat} {lf : Lf} (h : a ≤ b) (g : wfL R a lf) : wfL R b lf := by
  obtain ⟨⟨n, n1, n2⟩, g⟩ := g
  exact ⟨⟨n, by omega, n2⟩, g⟩
/-- the RULES there are -/
def CR (sh : List kd) (σ : St) (rl : List Cl) : Prop := rl.length ≤ 6 ∧ σ.1 0 10 = nI rl.length ∧ ∀ τ, agr scC σ τ → ∀ k cl, rl[k]? = some cl → ruC sh τ (nI k) (some cl)
theorem CR_agr {sh : List kd} {σ τ : St} {rl : List Cl} (h : CR sh σ rl) (g : agr scC σ τ) : CR sh τ rl := ⟨h.1, by rw [(g.1 0 (by unfold scC; omega)).1]; exact h.2.1, fun υ hυ => h.2.2 υ (agr_trans g hυ)⟩
def ruI (rl : List Cl) : Nat → Option Cl
  | 0 => none
  | k + 1 => rl[k]?
theorem CR_row {sh : List kd} {σ : St} {rl : List Cl} (h : CR sh σ rl) {row : Nat} (hr : row ≤ rl.length) : ruC sh σ (nI row - 1) (ruI rl row) := by
  cases row with
  | zero =>
    show nI 0 - 1 = -1
    decide
  | succ k =>
    rw [nI_pred]
    show ruC sh σ (nI k) rl[k]?
    have hk : k < rl.length := by omega
    rw [List.getElem?_eq_getElem hk]
    exact h.2.2 σ agr_refl k _ (List.getElem?_eq_getElem hk)
/-- NOTES -/
def ntC (σ : St) (nt : List (Nat × Int32)) : Prop := nt.length ≤ 10 ∧ σ.1 19 7 = nI nt.length ∧ ∀ k q, nt[k]? = some q → q.1 ≤ 60 ∧ σ.2.1 32 k = nI q.1 ∧ σ.2.1 33 k = q.2
theorem ntC_agr {σ τ : St} {nt : List (Nat × Int32)} (h : ntC σ nt) (g : agr scC σ τ) : ntC τ nt := by
  unfold ntC
  rw [(g.1 19 (by unfold scC; omega)).1, (g.1 32 (by unfold scC; omega)).2, (g.1 33 (by unfold scC; omega)).2]
  exact h
def so (f : Nat → Int32) : List (Nat × Int32) → Int32
  | [] => 1
  | q :: t => if f q.1 = q.2 then so f t else 0
theorem so01 {f : Nat → Int32} : ∀ (l : List (Nat × Int32)), so f l = 0 ∨ so f l = 1
  | [] => Or.inr rfl
  | q :: t => by
    unfold so
    split
    · exact so01 t
    · exact Or.inl rfl
/-- the cells of the inquest's trial, of a row -/
def inS (i : Nat) : Prop := 144 ≤ i ∧ i ≤ 148
theorem n61 : (61 : Int32) = nI 61 := by decide
theorem playC {sh : List kd} (hsh : cSh sh) {σ : St} {R : Rl} {rl : List Cl} {row : Nat} (hR : wfR R) (hD : 0 < R.1.1) (hr : isRC σ 20 R) (hc : CR sh σ rl) (hrow : row ≤ rl.length) (hq : σ.2.2.2 149 row = some (150 + row)) :
    ∃ τ, fX3_playFromBegin sh σ (nI row) = some ((), τ) ∧ (∀ j, j < 61 → τ.2.1 (150 + row) j = crs R (ruI rl row) (lf0 R) j) ∧ agr (fun i => inS i ∨ i = 150 + row) σ τ := by
  have hrow7 : row < 7 := by have := hc.1; omega
  have hsr : sh[150 + row]? = some (.inl (.int, 61)) := by
    have : row = 0 ∨ row = 1 ∨ row = 2 ∨ row = 3 ∨ row = 4 ∨ row = 5 ∨ row = 6 := by omega
    rcases this with h | h | h | h | h | h | h
    · subst h; exact sC_150 hsh
    · subst h; exact sC_151 hsh
    · subst h; exact sC_152 hsh
    · subst h; exact sC_153 hsh
    · subst h; exact sC_154 hsh
    · subst h; exact sC_155 hsh
    · subst h; exact sC_156 hsh
  obtain ⟨s2, a1, a2, a3, a4⟩ := beginL (sh := sh) (σ := σ) (a := 144) (r := 20) (R := R) (sC_146 hsh) (sC_147 hsh) (sC_148 hsh) hr.2.2.2.2.2.2.2.2.1
  have a5 : agr (fun i => inS i ∨ i = 150 + row) σ s2 := agr_frC (by unfold inS; omega) a3
  have hsub : ∀ {x y : St}, agr (fun i => inS i ∨ i = 150 + row) x y → agr scC x y := fun h => ⟨fun i hi => h.1 i (fun e => hi (by unfold inS at e; unfold scC; omega)), h.2⟩
  unfold fX3_playFromBegin
  rw [a1, bd_some]
  have hF : 61 < i_F := i_F_gt (by omega)
  generalize i_F = F at hF ⊢
  rw [← nz0]
  refine lpI (L := fun n k s => fX3_playFromBegin_L16 sh (nI row) n (nI k) s) (E := fun r => ∃ τ, r = some ((), τ) ∧ (∀ j, j < 61 → τ.2.1 (150 + row) j = crs R (ruI rl row) (lf0 R) j) ∧ agr (fun i => inS i ∨ i = 150 + row) σ τ) (fun k s => agr (fun i => inS i ∨ i = 150 + row) σ s ∧ LfC s 144 = spGo R (ruI rl row) k (lf0 R) ∧ ∀ j, j < k → s.2.1 (150 + row) j = crs R (ruI rl row) (lf0 R) j) 61 (fun n k s hk hI => Or.inl ?_) (fun n s hI => ?_) 61 F 0 s2 rfl hF ⟨a5, a2, fun j hj => by omega⟩
  · obtain ⟨i1, i2, i3⟩ := hI
    have hw := wfL_go (ru := ruI rl row) hR hD k (lf0 R) 0 (by omega) lf0_wf
    have hcs := CR_agr hc (hsub i1)
    obtain ⟨τ, t1, t2, t3⟩ := hourC hsh (a := 144) (r := 20) (σ := s) (force := nI row - 1) (ru := ruI rl row) hR hD (b := 0 + k) (by omega) (isRC_agr (hsub i1) (by unfold scC; omega) hr) i2 hw (CR_row hcs hrow) (by decide) (by decide)
    have hcl : (nI k).toNatClampNeg = k := nI_clamp (by omega)
    have t4 : agr inS s τ := agr_frC (by unfold inS; omega) t3
    change LfC τ 144 = (spHour R (ruI rl row) (spGo R (ruI rl row) k (lf0 R))).2 at t2
    rw [← spGo_succ] at t2
    have hA : agr (fun i => i = 150 + row) τ (s_A τ (150 + row) k (τ.1 144 1)) := agr_A rfl
    refine ⟨s_A τ (150 + row) k (τ.1 144 1), ?_, ?_, ?_, ?_⟩
    · rw [fX3_playFromBegin_L16, n60, if_neg (nI_nlt (by omega) (by omega)), t1, bd_some, if_pos (ok_nI hrow7 (by omega)), nI_clamp (show row < 2 ^ 31 by omega), t4.2, i1.2, hq]
      show i_al sh .int (150 + row) _ = _
      rw [i_al_at hsr, if_pos (ok_nI (by omega) (by omega)), hcl, nI_1]
    · exact agr_trans i1 (agr_trans ⟨fun i hi => t4.1 i (fun e => hi (Or.inl e)), t4.2⟩ (agr_A (Or.inr rfl)))
    · rw [LfC_agr hA (by omega), t2]
    · intro j hj
      rw [s_A_rd]
      by_cases hjk : j = k
      · rw [if_pos ⟨rfl, hjk⟩, (LfC_of t2).2.1, hjk]
        rfl
      · rw [if_neg (fun e => hjk e.2), (t4.1 (150 + row) (by unfold inS; omega)).2]
        exact i3 j (by omega)
  · obtain ⟨i1, i2, i3⟩ := hI
    refine ⟨s, ?_, i3, i1⟩
    rw [fX3_playFromBegin_L16, n60, if_pos (nI_lt (by omega) (by omega))]
theorem soC {sh : List kd} {σ : St} {f : Nat → Int32} {row : Nat} {nt : List (Nat × Int32)} (hrow : row < 7) (hn : ntC σ nt) (hq : σ.2.2.2 149 row = some (150 + row)) (hsr : sh[150 + row]? = some (.inl (.int, 61))) (hf : ∀ j, j < 61 → σ.2.1 (150 + row) j = f j) :
    fX3_areNotesSo sh σ (nI row) = some (so f nt, σ) := by
  unfold fX3_areNotesSo
  obtain ⟨n1, n2, n3⟩ := hn
  have hF : nt.length < i_F := i_F_gt (by omega)
  generalize i_F = F at hF ⊢
  rw [← nz0]
  have key : ∀ (l : List (Nat × Int32)) (n k : Nat), nt.drop k = l → k + l.length = nt.length → l.length < n → fX3_areNotesSo_L2 sh (nI row) σ n (nI k) = some (so f l, σ) := by
    intro l
    induction l with
    | nil =>
      intro n k hd hk hn
      obtain ⟨n, rfl⟩ : ∃ n', n = n' + 1 := ⟨n - 1, by simp at hn; omega⟩
      rw [fX3_areNotesSo_L2, n2, if_pos (nI_le (by simp at hk; omega) (by simp at hk; omega))]
      rfl
    | cons q l ih =>
      intro n k hd hk hn
      obtain ⟨n, rfl⟩ : ∃ n', n = n' + 1 := ⟨n - 1, by simp at hn; omega⟩
      simp only [List.length_cons] at hk hn
      have hkq : nt[k]? = some q := by
        have := List.getElem?_drop (xs := nt) (i := k) (j := 0)
        rw [hd] at this
        simpa using this.symm
      obtain ⟨g1, g2, g3⟩ := n3 k q hkq
      have hd2 : nt.drop (k + 1) = l := by
        rw [← List.drop_drop, hd]
        rfl
      rw [fX3_areNotesSo_L2, n2, if_neg (nI_ge (by omega) (by omega)), if_pos (ok_nI hrow (by omega)), if_pos (ok_nI (by omega) (by omega)), nI_clamp (show row < 2 ^ 31 by omega), hq]
      show i_al sh .int (150 + row) _ = _
      rw [i_al_at hsr]
      simp only [if_pos (ok_nI (show k < 10 by omega) (by omega)), nI_clamp (show k < 2 ^ 31 by omega), g2]
      rw [if_pos (ok_nI (by omega) (by omega)), nI_clamp (show q.1 < 2 ^ 31 by omega), hf _ (by omega), g3, nI_1]
      unfold so
      by_cases hc : f q.1 = q.2
      · rw [if_pos hc, if_pos hc]
        exact ih n (k + 1) hd2 (by omega) (by omega)
      · rw [if_neg hc, if_neg hc]
  exact key nt F 0 (by simp) (by omega) hF
