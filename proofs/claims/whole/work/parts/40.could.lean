/-! ===== ruled, look: the reference ===== -/
theorem copyR {sh : List kd} {σ : St} {p q n : Nat} (hp : sh[p]? = some (.inl (.int, n))) (hq : sh[q]? = some (.inl (.int, n))) (hn : n ≤ 400) (hpq : p ≠ q) : ∃ τ, fX12_copies sh σ p q = some ((), τ) ∧ τ.1 = σ.1 ∧ τ.2.2 = σ.2.2 ∧ (∀ i, i ≠ q → τ.2.1 i = σ.2.1 i) ∧ ∀ j, j < n → τ.2.1 q j = σ.2.1 p j := by
  unfold fX12_copies
  have hF : n < i_F := i_F_gt (by omega)
  generalize i_F = F at hF ⊢
  rw [← nz0]
  refine lpI (L := fun m k s => fX12_copies_L2 sh p q m (nI k) s) (E := fun r => ∃ τ, r = some ((), τ) ∧ τ.1 = σ.1 ∧ τ.2.2 = σ.2.2 ∧ (∀ i, i ≠ q → τ.2.1 i = σ.2.1 i) ∧ ∀ j, j < n → τ.2.1 q j = σ.2.1 p j) (fun k s => s.1 = σ.1 ∧ s.2.2 = σ.2.2 ∧ (∀ i, i ≠ q → s.2.1 i = σ.2.1 i) ∧ ∀ j, j < k → s.2.1 q j = σ.2.1 p j) n (fun m k s hk hI => Or.inl ?_) (fun m s hI => ?_) n F 0 σ (by omega) hF ⟨rfl, rfl, fun _ _ => rfl, fun j hj => by omega⟩
  · obtain ⟨i1, i2, i3, i4⟩ := hI
    refine ⟨s_A s q k (σ.2.1 p k), ?_, i1, i2, fun i hi => by rw [s_A_ne hi, i3 i hi], fun j hj => ?_⟩
    · rw [fX12_copies_L2, i_al_at hp, ofN, if_neg (nI_ge hk (by omega)), i_al_at hp, if_pos (ok_nI hk (by omega)), i_al_at hq, if_pos (ok_nI hk (by omega)), nI_clamp (by omega), nI_1, i3 p hpq]
    · rw [s_A_up, upd_pt]
      by_cases hjk : j = k
      · rw [if_pos hjk, hjk]
      · rw [if_neg hjk]
        exact i4 j (by omega)
  · obtain ⟨i1, i2, i3, i4⟩ := hI
    refine ⟨s, ?_, i1, i2, i3, i4⟩
    rw [fX12_copies_L2, i_al_at hp, ofN, if_pos (nI_le (Nat.le_refl _) (by omega))]
theorem beginsR {sh : List kd} (hsh : rmSh sh) {σ : St} {R : Rl} (ht : ∀ j, j < 6 → σ.2.1 12 j = R.2.2.2.2.1 j) : ∃ τ, fX12_begins sh σ = some ((), τ) ∧ LfR τ = lf0 R ∧ frR σ τ ∧ τ.2.2.1 = σ.2.2.1 := by
  unfold fX12_begins
  obtain ⟨s2, a1, a2, a3, a4, a5⟩ := copyR (σ := σ) (sR_12 hsh) (sR_6 hsh) (by omega) (by decide)
  rw [a1, bd_some, if_pos o_4, if_pos o_5, if_pos o_6, if_pos o_7, c_4, c_5, c_6, c_7, jp]
  have b1 : (s_A (s_A (s_A (s_A s2 1 4 0) 1 5 (-1)) 1 6 (-1)) 1 7 0).1 = σ.1 := a2
  have b2 : (s_A (s_A (s_A (s_A s2 1 4 0) 1 5 (-1)) 1 6 (-1)) 1 7 0).2.2 = σ.2.2 := a3
  have b3 : ∀ i, i ≠ 1 → (s_A (s_A (s_A (s_A s2 1 4 0) 1 5 (-1)) 1 6 (-1)) 1 7 0).2.1 i = s2.2.1 i := fun i hi => by rw [s_A_ne hi, s_A_ne hi, s_A_ne hi, s_A_ne hi]
  have b4 : ∀ j, (s_A (s_A (s_A (s_A s2 1 4 0) 1 5 (-1)) 1 6 (-1)) 1 7 0).2.1 1 j = if j = 7 then 0 else if j = 6 then -1 else if j = 5 then -1 else if j = 4 then 0 else σ.2.1 1 j := by
    intro j
    simp only [s_A_rd, true_and]
    rw [a4 1 (by decide)]
  generalize s_A (s_A (s_A (s_A s2 1 4 0) 1 5 (-1)) 1 6 (-1)) 1 7 0 = s at b1 b2 b3 b4
  have hF : 6 < i_F := i_F_gt (by omega)
  generalize i_F = F at hF ⊢
  rw [← nz0]
  refine lpI (L := fun m k t => fX12_begins_L43 sh m (nI k) t) (E := fun r => ∃ τ, r = some ((), τ) ∧ LfR τ = lf0 R ∧ frR σ τ ∧ τ.2.2.1 = σ.2.2.1) (fun k t => t.1 = σ.1 ∧ t.2.2 = σ.2.2 ∧ (∀ i, i ≠ 4 → i ≠ 8 → i ≠ 9 → t.2.1 i = s.2.1 i) ∧ ∀ j, j < k → t.2.1 4 j = 0 ∧ t.2.1 8 j = 0 ∧ t.2.1 9 j = 0) 6 (fun m k t hk hI => Or.inl ?_) (fun m t hI => ?_) 6 F 0 s (by omega) hF ⟨b1, b2, fun _ _ _ _ => rfl, fun j hj => by omega⟩
  · obtain ⟨i1, i2, i3, i4⟩ := hI
    have hok : i_ok (nI k) 6 := ok_nI hk (by omega)
    refine ⟨s_A (s_A (s_A t 4 k 0) 8 k 0) 9 k 0, ?_, i1, i2, fun i h4 h8 h9 => by rw [s_A_ne h9, s_A_ne h8, s_A_ne h4, i3 i h4 h8 h9], fun j hj => ?_⟩
    · rw [fX12_begins_L43, ← nz6, if_neg (nI_ge hk (by omega)), if_pos hok, if_pos hok, if_pos hok, nI_clamp (by omega), nI_1]
    · simp only [s_A_rd]
      by_cases hjk : j = k
      · simp [hjk]
      · have := i4 j (by omega)
        simp [hjk, this]
  · obtain ⟨i1, i2, i3, i4⟩ := hI
    refine ⟨t, ?_, ?_, ⟨i1, fun i h1 h6 h8 h9 h4 => ?_, fun j h4 h5 h6 h7 => ?_, by rw [i2]⟩, by rw [i2]⟩
    · rw [fX12_begins_L43, ← nz6, if_pos (nI_le (Nat.le_refl _) (by omega))]
    · unfold LfR lf0
      rw [i3 1 (by decide) (by decide) (by decide), b4, b4, b4, b4, i3 6 (by decide) (by decide) (by decide), b3 6 (by decide), tr_0 (fun j hj => (i4 j hj).2.1), tr_0 (fun j hj => (i4 j hj).2.2), tr_0 (fun j hj => (i4 j hj).1), tr_ext (fun j hj => (a5 j hj).trans (ht j hj))]
      simp
    · rw [i3 i h4 h8 h9, b3 i h1, a4 i h6]
    · rw [i3 1 (by decide) (by decide) (by decide), b4]
      simp [h4, h5, h6, h7]
def ruAt (σ : St) (k : Nat) (cl : Cl) : Prop := σ.2.1 22 k = nI cl.length ∧ cl.length ≤ 12 ∧ tl cl ≤ 300 ∧ wfCl cl ∧ RuR (σ.2.1 20) (σ.2.1 21) (σ.2.1 23) (σ.2.1 24) (σ.2.1 25) k 0 0 cl
def RRl (σ : St) (rl : List Cl) : Prop := rl.length ≤ 6 ∧ σ.1 0 23 = nI rl.length ∧ ∀ k cl, rl[k]? = some cl → ruAt σ k cl
theorem agS_row {σ τ : St} (h : agS σ τ) {i : Nat} (hi : (i = 2 ∨ i = 3 ∨ i = 5 ∨ i = 7 ∨ (10 ≤ i ∧ i ≤ 30) ∨ i = 37)) : τ.2.1 i = σ.2.1 i := h.2.1 i (by omega) (by omega) (by omega) (by omega) (by omega) (by omega) (by omega) (by omega) (by omega) (by omega) (by omega)
theorem RRl_agS {σ τ : St} {rl : List Cl} (h : RRl σ rl) (g : agS σ τ) : RRl τ rl := by
  refine ⟨h.1, by rw [g.1 0 23 (by omega)]; exact h.2.1, fun k cl hk => ?_⟩
  have := h.2.2 k cl hk
  unfold ruAt at this ⊢
  rw [agS_row g (by omega), agS_row g (by omega), agS_row g (by omega), agS_row g (by omega), agS_row g (by omega), agS_row g (by omega)]
  exact this
def ntR (σ : St) (nt : List (Nat × Int32)) : Prop := nt.length ≤ 10 ∧ σ.2.1 1 8 = nI nt.length ∧ ∀ k q, nt[k]? = some q → q.1 ≤ 60 ∧ σ.2.1 10 k = nI q.1 ∧ σ.2.1 11 k = q.2
theorem ntR_agS {σ τ : St} {nt : List (Nat × Int32)} (h : ntR σ nt) (g : agS σ τ) : ntR τ nt := by
  unfold ntR
  rw [g.2.2.2.1 8 (by omega), agS_row g (by omega), agS_row g (by omega)]
  exact h
theorem couldR {sh : List kd} (hsh : rmSh sh) {σ0 σ : St} {R : Rl} {rl : List Cl} {nt : List (Nat × Int32)} {row : Nat} (hR : wfR R) (hD : 0 < R.1.1) (hr : isRR σ0 R) (hl : RRl σ0 rl) (hn : ntR σ0 nt) (hrow : row ≤ rl.length) (hK : KeptOf σ0 σ) (hg : agS σ0 σ) :
    ∃ τ, fX12_couldRule sh σ (li row) = some (so (crs R (ruI rl row) (lf0 R)) nt, τ) ∧ KeptOf σ0 τ ∧ agR σ0 τ ∧ (∀ j, j < 66 → τ.2.1 34 j = crs R (ruI rl row) (lf0 R) j) ∧ τ.2.1 35 = σ.2.1 35 := by
  unfold fX12_couldRule
  rw [if_pos o_10, c_10]
  have g1 : agS σ (s_A σ 1 10 (li row)) := ⟨fun _ _ _ => rfl, fun k h1 _ _ _ _ _ _ _ _ _ _ => s_A_ne h1, fun k _ => by rw [s_A_ne (by decide)], fun k hk => by rw [s_A_rd, if_neg (by omega)], rfl⟩
  have e10 : (s_A σ 1 10 (li row)).2.1 1 10 = li row := by rw [s_A_rd, if_pos ⟨rfl, rfl⟩]
  have k1 : KeptOf σ0 (s_A σ 1 10 (li row)) := Kept_A (by decide) hK
  have e35 : (s_A σ 1 10 (li row)).2.1 35 = σ.2.1 35 := s_A_ne (by decide)
  generalize s_A σ 1 10 (li row) = s1 at g1 e10 k1 e35
  have g2 := agS_trans hg g1
  have hR1 := isRR_agS g2 hr
  have hl1 := RRl_agS hl g2
  have hru : ruR s1 (ruI rl row) := by
    cases row with
    | zero =>
      show s1.2.1 1 10 = -1
      rw [e10, li_0]
    | succ k =>
      have hk : k < rl.length := by omega
      show ruR s1 rl[k]?
      rw [List.getElem?_eq_getElem hk]
      have := hl1.2.2 k _ (List.getElem?_eq_getElem hk)
      exact ⟨k, by have := hl.1; omega, by rw [e10, li_s], this⟩
  obtain ⟨s2, a1, a2, a3, a4⟩ := beginsR hsh (σ := s1) (R := R) hR1.2.2.2.2.2.2.2.1
  have a5 := lifeR_fr a3
  rw [a1, bd_some]
  obtain ⟨τ, t1, t2, t3, t4, t5⟩ := crsR hsh (σ0 := σ0) (σ := s2) (RX_life ⟨hR, hD, hR1, hru⟩ a5) a2 (wfL_mono (by omega) lf0_wf) (Kept_life k1 a5) (agS_trans g2 a5.1)
  rw [t1, bd_some]
  refine ⟨τ, ?_, t2, t3, t4, by rw [t5, a5.2.2.2.2.2.2.1, e35]⟩
  obtain ⟨n1, n2, n3⟩ := ntR_agS hn t3.1
  have hF : nt.length < i_F := i_F_gt (by omega)
  generalize i_F = F at hF ⊢
  rw [← nz0]
  have key : ∀ (l : List (Nat × Int32)) (n k : Nat), nt.drop k = l → k + l.length = nt.length → l.length < n → fX12_couldRule_L18 sh (li row) τ n (nI k) = some (so (crs R (ruI rl row) (lf0 R)) l, τ) := by
    intro l
    induction l with
    | nil =>
      intro n k hd hk hn
      obtain ⟨n, rfl⟩ : ∃ n', n = n' + 1 := ⟨n - 1, by simp at hn; omega⟩
      rw [fX12_couldRule_L18, if_pos o_8, c_8, n2, if_pos (nI_le (by simp at hk; omega) (by simp at hk; omega))]
      rfl
    | cons q l ih =>
      intro n k hd hk hn
      obtain ⟨n, rfl⟩ : ∃ n', n = n' + 1 := ⟨n - 1, by simp at hn; omega⟩
      simp only [List.length_cons] at hk hn
      have hkq : nt[k]? = some q := by
        have := List.getElem?_drop (xs := nt) (i := k) (j := 0)
        rw [hd] at this
        simpa using this.symm
      obtain ⟨g1, g2, g3⟩ := n3 k q hkq
      have hd2 : nt.drop (k + 1) = l := by
        rw [← List.drop_drop, hd]
        rfl
      rw [fX12_couldRule_L18, if_pos o_8, c_8, n2, if_neg (nI_ge (by omega) (by omega))]
      simp only [if_pos (ok_nI (show k < 10 by omega) (by omega)), nI_clamp (show k < 2 ^ 31 by omega), g2]
      rw [if_pos (ok_nI (by omega) (by omega)), nI_clamp (show q.1 < 2 ^ 31 by omega), t4 _ (by omega), g3, nI_1]
      unfold so
      by_cases hc : crs R (ruI rl row) (lf0 R) q.1 = q.2
      · rw [if_pos hc, if_pos hc]
        exact ih n (k + 1) hd2 (by omega) (by omega)
      · rw [if_neg hc, if_neg hc]
  exact key nt F 0 (by simp) (by omega) hF
def gRul (f : Nat → Int32) (row : Nat) (a : Int32 × Int32) : Int32 × Int32 := if f row = 0 then a else (a.1 + 1, if ¬ a.1 = 0 then a.2 else li row)
theorem rul_1 {f : Nat → Int32} {m : Nat} {x y : Int32} : (it (gRul f) m 0 (x, y)).1 = it (gSus f) m 0 x := by
  refine it_sim (Rel := fun (a : Int32 × Int32) (b : Int32) => a.1 = b) m 0 _ _ (fun j a b _ _ h => ?_) rfl
  subst h
  unfold gRul gSus
  by_cases h0 : f j = 0
  · rw [if_pos h0, if_pos h0]
  · rw [if_neg h0, if_neg h0]
theorem rul_2 {f : Nat → Int32} : ∀ (m k c : Nat) (y : Int32), c + m < 100 → (c = 0 → y = -2) → (it (gRul f) m k (nI c, y)).2 = if c = 0 then fstD f m k else y
  | 0, k, c, y, _, hy => by
    show y = _
    by_cases h : c = 0
    · rw [if_pos h, hy h]; rfl
    · rw [if_neg h]
  | m + 1, k, c, y, hc, hy => by
    show (it (gRul f) m (k + 1) (gRul f k (nI c, y))).2 = _
    unfold gRul fstD
    by_cases h0 : f k = 0
    · rw [if_pos h0, if_pos h0]
      exact rul_2 m (k + 1) c y (by omega) hy
    · rw [if_neg h0, if_neg h0]
      dsimp only
      rw [nI_1]
      have := rul_2 (f := f) m (k + 1) (c + 1) (if ¬ nI c = 0 then y else li k) (by omega) (fun e => by omega)
      unfold gRul at this
      rw [this, if_neg (by omega)]
      by_cases hc0 : c = 0
      · rw [if_pos hc0, hc0, if_neg (not_not_intro nI_0)]
        rfl
      · rw [if_neg hc0, if_pos (nI_ne0 (by omega) (by omega))]
theorem fstD_cut {f : Nat → Int32} : ∀ (m n k : Nat), (∀ j, k + m ≤ j → f j = 0) → fstD f (m + n) k = fstD f m k
  | 0, 0, _, _ => rfl
  | 0, n + 1, k, h => by
    rw [Nat.zero_add]
    unfold fstD
    rw [if_pos (h k (by omega))]
    have := fstD_cut (f := f) 0 n (k + 1) (fun j hj => h j (by omega))
    rw [Nat.zero_add] at this
    rw [this]
    rfl
  | m + 1, n, k, h => by
    rw [show m + 1 + n = (m + n) + 1 by omega]
    unfold fstD
    rw [fstD_cut m n (k + 1) (fun j hj => h j (by omega))]
theorem sus_cnt {f : Nat → Int32} : ∀ (m : Nat), it (gSus f) m 0 0 = nI (sus f m).length
  | 0 => nz0.symm
  | m + 1 => by
    rw [it_succ, sus_cnt m, sus_succ]
    unfold gSus
    by_cases h0 : f m = 0
    · rw [if_pos h0, if_pos h0]
    · rw [if_neg h0, if_neg h0, List.length_append, nI_1]
      rfl
theorem sus_cut {f : Nat → Int32} {m : Nat} : ∀ (n : Nat), (∀ j, m ≤ j → f j = 0) → sus f (m + n) = sus f m
  | 0, _ => rfl
  | n + 1, h => by
    rw [← Nat.add_assoc, sus_succ, if_pos (h _ (by omega))]
    exact sus_cut n h
theorem soT_hi {R : Rl} {rl : List Cl} {nt : List (Nat × Int32)} : ∀ j, rl.length + 1 ≤ j → soT R rl nt j = 0 := by
  intro j hj
  unfold soT
  rw [if_neg (by omega)]
theorem soT_lo {R : Rl} {rl : List Cl} {nt : List (Nat × Int32)} {j : Nat} (hj : j ≤ rl.length) : soT R rl nt j = so (crs R (ruI rl j) (lf0 R)) nt := by
  unfold soT
  rw [if_pos hj]
def ansRuled (f : Nat → Int32) (n : Nat) (w : Int32) : Int32 := if ¬ w = 0 then fstD f n 0 else nI (sus f n).length
theorem ruledR {sh : List kd} (hsh : rmSh sh) {σ : St} {R : Rl} {rl : List Cl} {nt : List (Nat × Int32)} {w : Int32} (hR : wfR R) (hD : 0 < R.1.1) (hr : isRR σ R) (hl : RRl σ rl) (hn : ntR σ nt) :
    ∃ τ, i_bd (fX12_keepsAll sh σ) (fun r9 s10 => fX12_ruled_L32 sh w (fun (x66 : Int32) (x67 : Int32) (x68 : Int32) (s69 : St) => fX12_ruled_X70 sh w x66 x67 x68 s69) i_F 0 (-2) (-1) s10) = some (ansRuled (soT R rl nt) (rl.length + 1) w, τ) ∧ agR σ τ := by
  obtain ⟨s1, a1, a2, a3⟩ := keepR hsh (σ := σ)
  rw [a1, bd_some]
  have hlen := hl.1
  have hF : rl.length + 1 < i_F := i_F_gt (by omega)
  generalize i_F = F at hF ⊢
  rw [show (-1 : Int32) = li 0 from li_0.symm]
  refine lpI (L := fun n k (a : (Int32 × Int32) × St) => fX12_ruled_L32 sh w (fun (x66 : Int32) (x67 : Int32) (x68 : Int32) (s69 : St) => fX12_ruled_X70 sh w x66 x67 x68 s69) n a.1.1 a.1.2 (li k) a.2) (E := fun r => ∃ τ, r = some (ansRuled (soT R rl nt) (rl.length + 1) w, τ) ∧ agR σ τ) (fun k a => agR σ a.2 ∧ KeptOf σ a.2 ∧ a.1 = it (gRul (soT R rl nt)) k 0 (0, -2)) (rl.length + 1) (fun n k a hk hI => Or.inl ?_) (fun n a hI => ?_) (rl.length + 1) F 0 ((0, -2), s1) (by omega) hF ⟨a3, a2, rfl⟩
  · obtain ⟨⟨x12, x13⟩, s⟩ := a
    obtain ⟨i1, i2, i3⟩ := hI
    dsimp only at i1 i2 i3 ⊢
    obtain ⟨τ, t1, t2, t3, t4, t5⟩ := couldR hsh (σ0 := σ) (σ := s) (row := k) hR hD hr hl hn (by omega) i2 i1.1
    rw [fX12_ruled_L32, i1.1.1 0 23 (by omega), hl.2.1, if_neg (li_le hlen (by omega)), t1, bd_some]
    unfold fX12_ruled_J64
    rw [li_1, ← soT_lo (by omega)]
    have e : it (gRul (soT R rl nt)) (k + 1) 0 (0, -2) = gRul (soT R rl nt) k (x12, x13) := by rw [it_succ, i3]
    by_cases h0 : soT R rl nt k = 0
    · rw [if_pos h0]
      refine ⟨((x12, x13), τ), rfl, t3, t2, ?_⟩
      rw [e]
      unfold gRul
      rw [if_pos h0]
    · rw [if_neg h0]
      refine ⟨((x12 + 1, if ¬ x12 = 0 then x13 else li k), τ), rfl, t3, t2, ?_⟩
      rw [e]
      unfold gRul
      rw [if_neg h0]
  · obtain ⟨⟨x12, x13⟩, s⟩ := a
    obtain ⟨i1, i2, i3⟩ := hI
    dsimp only at i1 i2 i3 ⊢
    refine ⟨s, ?_, i1⟩
    rw [fX12_ruled_L32, i1.1.1 0 23 (by omega), hl.2.1, li_s, if_pos (nI_le (Nat.le_refl _) (by omega))]
    unfold fX12_ruled_X70 ansRuled
    have e1 : x12 = nI (sus (soT R rl nt) (rl.length + 1)).length := by
      rw [← sus_cnt, ← rul_1 (y := -2), ← i3]
    have e2 : x13 = fstD (soT R rl nt) (rl.length + 1) 0 := by
      have := rul_2 (f := soT R rl nt) (rl.length + 1) 0 0 (-2) (by omega) (fun _ => rfl)
      rw [nI_0, ← i3, if_pos rfl] at this
      exact this
    rw [e1, e2]
/-- what a question about NOTES needs besides -/
def NX (sh : List kd) (σC σR : St) (rl : List Cl) (nt : List (Nat × Int32)) : Prop := CR sh σC rl ∧ RRl σR rl ∧ ntC σC nt ∧ ntR σR nt ∧ ∀ row, row < 7 → σC.2.2.2 149 row = some (150 + row)
theorem q_ruled {sh shR : List kd} {σC σR : St} {R : Rl} {ru : Option Cl} {lf : Lf} {rl : List Cl} {nt : List (Nat × Int32)} (h : QX sh shR σC σR R ru lf) (hN : NX sh σC σR rl nt) (w : Int32) : alikeQ (fX11_ruled sh σC w) (fX12_ruled shR σR w) σC σR := by
  have hC := h.2.2.2.1
  have hRR := h.2.2.2.2.1
  obtain ⟨lt1, lt2, lt3⟩ := wfR_lt h.2.2.1
  obtain ⟨n1, n2, n3, n4, n5⟩ := hN
  unfold fX11_ruled fX12_ruled
  by_cases hD : R.1.1 = 0
  · rw [if_pos (told_f hC hD), isCt_f (by rw [hRR.1, hD]), bd_some, if_pos rfl]
    exact alike_now
  have hD' : 0 < R.1.1 := by omega
  rw [if_neg (told_t hC hD'), isCt_t lt1 hRR.1 hD', bd_some, if_neg n10]
  by_cases hw : btw w 0 1
  · rw [within_t (a := 0) (b := 1) (by decide) (by decide) (by decide) (by decide) hw, bd_some, if_pos n10, in_t (a := 0) (b := 1) (by decide) (by decide) (by decide) (by decide) hw, bd_some, if_pos n10]
    obtain ⟨τC, a1, a2, a3, a4, a5⟩ := hearC h.1 h.2.2.1 hD' hC n1 n3 n5
    obtain ⟨τR, b1, b2⟩ := ruledR h.2.1 (w := w) h.2.2.1 hD' hRR n2 n4
    have hlen := n1.1
    refine ⟨_, τC, τR, ?_, b1, a2, b2⟩
    rw [n1.2.1, a1, bd_some]
    unfold fX11_ruled_J57 ansRuled
    have e7 : 7 = rl.length + 1 + (6 - rl.length) := by omega
    rw [a4, sus_cnt, firstC a3, bd_some, e7, sus_cut (m := rl.length + 1) _ soT_hi, fstD_cut (rl.length + 1) _ 0 (by rw [Nat.zero_add]; exact soT_hi)]
    by_cases hw0 : w = 0
    · rw [if_neg (not_not_intro hw0), if_neg (not_not_intro hw0)]
    · rw [if_pos hw0, if_pos hw0]
  · rw [within_f (a := 0) (b := 1) (by decide) (by decide) (by decide) (by decide) hw, bd_some, if_neg nn00, in_f (a := 0) (b := 1) (by decide) (by decide) (by decide) (by decide) hw, bd_some, if_neg nn00]
    exact alike_now
