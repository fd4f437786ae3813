/-! ===== the text of a COURT ===== -/
theorem sgn_m1 {σ : St} {tp : List Nat} {s : Nat} (ht : tpC σ tp) : sgn tp s = -1 ↔ tp[s]? = none := by
  cases h : tp[s]? with
  | none => exact ⟨fun _ => rfl, fun _ => sgn_n h⟩
  | some b =>
    refine ⟨fun e => ?_, fun e => by cases e⟩
    rw [sgn_s h] at e
    have : ¬ nI b < 0 := nI_pos (by have := (ht.2.2 s b h).1; omega)
    rw [e] at this
    exact absurd (by decide) this
/-- behind a CLAUSE: either it ends, or both go on behind a ; -/
theorem goesOn_both {sh shR : List kd} {σC σR : St} {tp : List Nat} {f : Int32} (h : PX σC σR tp f) :
    (¬ f = 0 ∧ ∃ τR, fX12_goesOn shR σR = some (0, τR) ∧ nfR σR τR ∧ τR.1 0 21 = f) ∨
    (f = 0 ∧ ∃ x sC, fX9_sign sh σC = some (x, sC) ∧ nfC σC sC ∧
      ((x = -1 ∧ sC.1 1 3 = 0 ∧ ∃ τR, fX12_goesOn shR σR = some (0, τR) ∧ nfR σR τR ∧ τR.1 0 21 = 0) ∨
       (¬ x = -1 ∧ ∃ τC τR, fX9_takeSign sh sC 59 = some (1, τC) ∧ nfC sC τC ∧ fX12_goesOn shR σR = some (1, τR) ∧ nfR σR τR ∧ PX τC τR tp 0) ∨
       (¬ x = -1 ∧ ∃ τC uC τR g, fX9_takeSign sh sC 59 = some (0, τC) ∧ fX9_refuse sh τC (τC.1 1 2) 0 = some ((), uC) ∧ nfC sC uC ∧ fX12_goesOn shR σR = some (0, τR) ∧ nfR σR τR ∧ uC.1 1 3 = g ∧ τR.1 0 21 = g ∧ fOK g ∧ ¬ g = 0))) := by
  obtain ⟨x, sC, sR, a1, a2, a3, a4, a5, sc, sr, a6, a7, a8, a9, a10, a11, a12⟩ := skips (sh := sh) (shR := shR) h
  obtain ⟨b1, b2, b3, b4, b5, b6⟩ := a3
  have h400 := b1.1
  unfold fX12_goesOn
  rw [a2, bd_some]
  by_cases hf : f = 0
  · right
    have hss := a12 hf
    subst hss
    refine ⟨hf, x, sC, a1, a4, ?_⟩
    rw [b4, if_neg (not_not_intro hf), b2.2.1, a9]
    have hx : x = -1 ↔ tp[sc]? = none := by rw [a10]; exact sgn_m1 b1
    have hJ0 : ∀ s : St, s.1 0 21 = 0 → s.1 0 19 = nI tp.length → s.1 0 20 = nI sc → fX12_goesOn_J40 shR s = some ((if nI tp.length ≤ nI sc then 0 else 1 : Int32), s_F s 0 20 (nI (sc + 1))) := by
      intro s e1 e2 e3
      unfold fX12_goesOn_J40
      rw [e1, e2, e3, if_neg (not_not_intro rfl), nI_1, if_pos (and1_01 (by split <;> simp))]
    by_cases hend : tp[sc]? = none
    · left
      have hle := at_no hend
      refine ⟨hx.mpr hend, by rw [b3]; exact hf, _, by rw [if_pos (nI_le hle (by omega)), hJ0 sR (by rw [b4]; exact hf) b2.2.1 a9, if_pos (nI_le hle (by omega))], nfR_trans a5 nfR_20, by rw [s_F_rd, if_neg (by omega), b4]; exact hf⟩
    · right
      obtain ⟨b, hb⟩ : ∃ b, tp[sc]? = some b := Option.ne_none_iff_exists'.mp hend
      have hlt := at_lt hb
      have hb256 := (b1.2.2 sc b hb).1
      have hnx : ¬ x = -1 := fun e => hend (hx.mp e)
      rw [if_neg (nI_ge hlt (by omega)), signR b2 (by omega) a9, bd_some, sgn_s hb, show (59 : Int32) = nI 59 from by decide]
      have hts : fX9_takeSign sh sC (nI 59) = if nI b = nI 59 then some (1, s_F sC 1 2 (nI (sc + 1))) else some (0, sC) := by
        unfold fX9_takeSign
        rw [b3, if_neg (not_not_intro hf), signC _ sC sc b1 a6 rfl a8, bd_some, a11, sgn_s hb, s_F_self a8, a8, nI_1]
      by_cases h59 : b = 59
      · left
        subst h59
        rw [if_pos rfl] at hts ⊢
        refine ⟨hnx, _, _, hts, nfC_2, by rw [hJ0 sR (by rw [b4]; exact hf) b2.2.1 a9, if_neg (nI_ge hlt (by omega))], nfR_trans a5 nfR_20, ⟨tpC_nf nfC_2 b1, tpR_nf nfR_20 b2, by rw [s_F_rd, if_neg (by omega), b3]; exact hf, by rw [s_F_rd, if_neg (by omega), b4]; exact hf, ⟨0, by omega, nz0.symm⟩, sc + 1, sc + 1, by omega, by omega, s_F_at, s_F_at, fun _ => rfl⟩⟩
      · right
        have hne : ¬ nI b = nI 59 := fun e => h59 ((nI_b hb256 (by omega)).mp e)
        rw [if_neg hne] at hts ⊢
        have hg := flt_1 (s := sc) (c := 0) (by omega) (by omega)
        rw [a9, failsR rfl nz0.symm, bd_some, b4, hf]
        refine ⟨hnx, sC, _, s_F (s_F sR 0 21 (flt 0 sc (some 0))) 0 20 ((s_F sR 0 21 (flt 0 sc (some 0))).1 0 20 + 1), flt 0 sc (some 0), hts, by rw [a8]; exact refuseC rfl nz0.symm, nfC_3, ?_, nfR_trans a5 (nfR_trans nfR_21 nfR_20), by rw [s_F_at, b3, hf], by rw [s_F_rd, if_neg (by omega), s_F_at], flt_ok ⟨0, by omega, nz0.symm⟩ (by omega) (fun d hd => by cases hd; omega), hg⟩
        unfold fX12_goesOn_J40
        rw [s_F_at, if_pos hg]
        rfl
  · left
    refine ⟨hf, ?_⟩
    rw [b4, if_pos hf]
    unfold fX12_goesOn_J40
    rw [b4, if_pos hf]
    exact ⟨_, rfl, nfR_trans a5 nfR_20, by rw [s_F_rd, if_neg (by omega)]; exact b4⟩
theorem readsLoop {sh shR : List kd} {tp : List Nat} : ∀ (m N n : Nat) (σC σR : St) (R : Rl), n + m = 40 → m + 1 < N → PX σC σR tp 0 → wfD R → dC σC R → dR σR R → (¬ n = 0 → 0 < R.1.1) →
    ∃ τC τR f, fX1_read_L16 sh (fun (x59 : Int32) (s60 : St) => fX1_read_X48 sh x59 s60) (fun (x111 : Int32) (s112 : St) => fX1_read_X63 sh x111 s112) (fun (x163 : Int32) (s164 : St) => fX1_read_X87 sh x163 s164) N (nI n) σC = some (f, τC) ∧ fX12_readsAll_L77 shR (fun (x229 : Int32) (x230 : Int32) (s231 : St) => fX12_readsAll_X97 shR x229 x230 s231) N (nI n) 1 σR = some ((), s_F τR 0 19 0) ∧ rdC σC τC ∧ rdR σR τR ∧ τR.1 0 21 = f ∧ fOK f ∧ (f = 0 → ∃ R, wfD R ∧ dC τC R ∧ dR τR R ∧ 0 < R.1.1) := by
  intro m
  induction m with
  | zero =>
    intro N n σC σR R hn hN hP hw hC hR hD
    obtain ⟨N, rfl⟩ : ∃ n', N = n' + 1 := ⟨N - 1, by omega⟩
    obtain ⟨N, rfl⟩ : ∃ n', N = n' + 1 := ⟨N - 1, by omega⟩
    obtain ⟨sC, sR, f, a1, a2, a3, a4, a5, a6⟩ := rd_clause (sh := sh) (shR := shR) hP hw hC hR (show n ≤ 40 by omega) hD
    have hf : ¬ f = 0 := fun e => by have := (a6 e).1; omega
    rcases goesOn_both (sh := sh) (shR := shR) a3 with ⟨_, τR, g1, g2, g3⟩ | ⟨e, _⟩
    · refine ⟨sC, τR, f, ?_, ?_, a4, rdR_trans a5 (rdR_nf g2), g3, a3.2.2.2.2.1, fun e => absurd e hf⟩
      · rw [fX1_read_L16, show (40 : Int32) = nI 40 from by decide, if_neg (nI_nlt (by omega) (by omega)), a1, bd_some, a3.2.2.1, if_pos hf]
        unfold fX1_read_X87
        rw [a3.2.2.1]
      · rw [fX12_readsAll_L77, if_neg n10, a2, bd_some, g1, bd_some, fX12_readsAll_L77, if_pos rfl]
        rfl
    · exact absurd e hf
  | succ m ih =>
    intro N n σC σR R hn hN hP hw hC hR hD
    obtain ⟨N, rfl⟩ : ∃ n', N = n' + 1 := ⟨N - 1, by omega⟩
    obtain ⟨sC, sR, f, a1, a2, a3, a4, a5, a6⟩ := rd_clause (sh := sh) (shR := shR) hP hw hC hR (show n ≤ 40 by omega) hD
    rw [fX1_read_L16, show (40 : Int32) = nI 40 from by decide, if_neg (nI_nlt (by omega) (by omega)), a1, bd_some, a3.2.2.1, fX12_readsAll_L77, if_neg n10, a2, bd_some]
    have stop : ∀ s : St, fX12_readsAll_L77 shR (fun (x229 : Int32) (x230 : Int32) (s231 : St) => fX12_readsAll_X97 shR x229 x230 s231) N (nI n + 1) 0 s = some ((), s_F s 0 19 0) := by
      intro s
      obtain ⟨N, rfl⟩ : ∃ n', N = n' + 1 := ⟨N - 1, by omega⟩
      rw [fX12_readsAll_L77, if_pos rfl]
      rfl
    rcases goesOn_both (sh := sh) (shR := shR) a3 with ⟨hf, τR, g1, g2, g3⟩ | ⟨hf, x, tC, g1, g2, hx⟩
    · rw [if_pos hf, g1, bd_some, stop]
      unfold fX1_read_X87
      exact ⟨sC, τR, f, by rw [a3.2.2.1], rfl, a4, rdR_trans a5 (rdR_nf g2), g3, a3.2.2.2.2.1, fun e => absurd e hf⟩
    · rw [if_neg (not_not_intro hf), g1, bd_some]
      rcases hx with ⟨x1, x2, τR, x3, x4, x5⟩ | ⟨x1, τC, τR, x2, x3, x4, x5, x6⟩ | ⟨x1, τC, uC, τR, g, x2, x3, x4, x5, x6, x7, x8, x9, x10⟩
      · rw [if_neg (not_not_intro x1), x3, bd_some, stop]
        unfold fX1_read_X48
        rw [x2]
        obtain ⟨_, R', r1, r2, r3, r4⟩ := a6 hf
        exact ⟨tC, τR, 0, rfl, rfl, rdC_trans a4 (rdC_nf g2), rdR_trans a5 (rdR_nf x4), x5, ⟨0, by omega, nz0.symm⟩, fun _ => ⟨R', r1, dC_nf g2 r2, dR_nf x4 r3, r4⟩⟩
      · rw [if_pos x1, x2, bd_some, if_pos n10, x4, bd_some, nI_1]
        obtain ⟨_, R', r1, r2, r3, r4⟩ := a6 hf
        obtain ⟨υC, υR, f', y1, y2, y3, y4, y5⟩ := ih N (n + 1) τC τR R' (by omega) (by omega) x6 r1 (dC_nf x3 (dC_nf g2 r2)) (dR_nf x5 r3) (fun _ => r4)
        exact ⟨υC, υR, f', y1, y2, rdC_trans a4 (rdC_trans (rdC_nf g2) (rdC_trans (rdC_nf x3) y3)), rdR_trans a5 (rdR_trans (rdR_nf x5) y4), y5⟩
      · rw [if_pos x1, x2, bd_some, if_neg nn00, x5, bd_some, stop]
        unfold fX1_read_X63
        rw [x3, bd_some, x7]
        exact ⟨uC, τR, g, rfl, rfl, rdC_trans a4 (rdC_trans (rdC_nf g2) (rdC_nf x4)), rdR_trans a5 (rdR_nf x6), x8, x9, fun e => absurd e x10⟩
def R0 : Rl := ((0, 0, 0, 0), fun _ => 0, fun _ => 0, fun _ => -1, fun _ => 0, fun _ => 0)
theorem R0_wf : wfD R0 := ⟨⟨by decide, by decide, by decide, fun _ => ⟨rfl, rfl⟩, fun _ _ => Or.inl rfl⟩, ⟨fun t ht => by have : t < 0 := ht; omega, fun t ht => by have : t < 0 := ht; omega⟩, fun _ _ _ => rfl⟩
theorem clearC {sh : List kd} (hsh : cSh sh) {σ : St} : ∃ τ, fX6_clear sh σ 3 = some ((), τ) ∧ dC τ R0 ∧ (∀ i, i ≠ 3 → τ.1 i = σ.1 i) ∧ (∀ i, ¬ (4 ≤ i ∧ i ≤ 8) → τ.2.1 i = σ.2.1 i) ∧ τ.2.2 = σ.2.2 := by
  unfold fX6_clear
  generalize hs : s_F (s_F (s_F (s_F (s_F σ 3 0 0) 3 1 0) 3 2 0) 3 3 0) 3 4 0 = s
  have e1 : ∀ i k, s.1 i k = if i = 3 ∧ k = 4 then 0 else if i = 3 ∧ k = 3 then 0 else if i = 3 ∧ k = 2 then 0 else if i = 3 ∧ k = 1 then 0 else if i = 3 ∧ k = 0 then 0 else σ.1 i k := by
    intro i k
    rw [← hs]
    rfl
  have e2 : s.2 = σ.2 := by rw [← hs]; rfl
  obtain ⟨s1, a1, a2, a3, a4, a5⟩ := fillC (σ := s) (v := 0) (sC_4 hsh) (by omega)
  obtain ⟨s2, b1, b2, b3, b4, b5⟩ := fillC (σ := s1) (v := 0) (sC_5 hsh) (by omega)
  obtain ⟨s3, c1, c2, c3, c4, c5⟩ := fillC (σ := s2) (v := -1) (sC_6 hsh) (by omega)
  obtain ⟨s4, d1, d2, d3, d4, d5⟩ := fillC (σ := s3) (v := 0) (sC_7 hsh) (by omega)
  obtain ⟨s5, g1, g2, g3, g4, g5⟩ := fillC (σ := s4) (v := 0) (sC_8 hsh) (by omega)
  have f : s5.1 = s.1 := by rw [g2, d2, c2, b2, a2]
  rw [a1, bd_some, b1, bd_some, c1, bd_some, d1, bd_some, g1, bd_some]
  refine ⟨s5, rfl, ⟨?_, ?_, ?_, ?_, ?_, fun j hj => by have : j < 0 := hj; omega, fun j hj => ?_, fun j hj => ?_, fun j hj => ?_, fun j hj => by have : j < 0 := hj; omega⟩, fun i hi => ?_, fun i hi => ?_, ?_⟩
  · rw [f, e1]; rfl
  · rw [f, e1]; rfl
  · rw [f, e1]; rfl
  · rw [f, e1]; rfl
  · rw [f, e1]; rfl
  · rw [g4 5 (by decide), d4 5 (by decide), c4 5 (by decide), b5 j hj]; rfl
  · rw [g4 6 (by decide), d4 6 (by decide), c5 j hj]; rfl
  · rw [g4 7 (by decide), d5 j hj]; rfl
  · rw [f]
    funext k
    rw [e1]
    simp [hi]
  · rw [g4 i (by omega), d4 i (by omega), c4 i (by omega), b4 i (by omega), a4 i (by omega), e2]
  · rw [g3, d3, c3, b3, a3, e2]
theorem clearR {sh : List kd} {σ : St} : ∃ τ, fX12_readsAll_L6 sh (fun (x56 : Int32) (s57 : St) => fX12_readsAll_X24 sh x56 s57) i_F 0 σ = fX12_readsAll_X73 sh (nI 6) τ ∧ dR τ R0 ∧ τ.1 = σ.1 ∧ (∀ i, ¬ (13 ≤ i ∧ i ≤ 18) → τ.2.1 i = σ.2.1 i) ∧ τ.2.2 = σ.2.2 := by
  have hF : 12 < i_F := i_F_gt (by omega)
  have s1 : ∃ s, fX12_readsAll_L6 sh (fun (x56 : Int32) (s57 : St) => fX12_readsAll_X24 sh x56 s57) i_F 0 σ = fX12_readsAll_X24 sh (nI 4) s ∧ s.1 = σ.1 ∧ s.2.2 = σ.2.2 ∧ (∀ i, i ≠ 13 → s.2.1 i = σ.2.1 i) ∧ ∀ j, j < 4 → s.2.1 13 j = 0 := by
    generalize i_F = F at hF ⊢
    rw [← nz0]
    refine lpI (L := fun m k s => fX12_readsAll_L6 sh (fun (x56 : Int32) (s57 : St) => fX12_readsAll_X24 sh x56 s57) m (nI k) s) (E := fun r => ∃ s, r = fX12_readsAll_X24 sh (nI 4) s ∧ s.1 = σ.1 ∧ s.2.2 = σ.2.2 ∧ (∀ i, i ≠ 13 → s.2.1 i = σ.2.1 i) ∧ ∀ j, j < 4 → s.2.1 13 j = nI 0) (fun k s => s.1 = σ.1 ∧ s.2.2 = σ.2.2 ∧ (∀ i, i ≠ 13 → s.2.1 i = σ.2.1 i) ∧ ∀ j, j < k → s.2.1 13 j = nI 0) 4 (fun m k s hk hI => Or.inl ?_) (fun m s hI => ?_) 4 F 0 σ rfl (by omega) ⟨rfl, rfl, fun _ _ => rfl, fun j hj => by omega⟩
    · obtain ⟨i1, i2, i3, i4⟩ := hI
      refine ⟨s_A s 13 k 0, ?_, i1, i2, fun i hi => by rw [s_A_ne hi, i3 i hi], fun j hj => ?_⟩
      · rw [fX12_readsAll_L6, ← nz4, if_neg (nI_ge hk (by omega)), if_pos (ok_nI hk (by omega)), nI_clamp (by omega), nI_1]
      · rw [s_A_up, upd_pt]
        split
        · exact nz0.symm
        · exact i4 j (by omega)
    · obtain ⟨i1, i2, i3, i4⟩ := hI
      exact ⟨s, by rw [fX12_readsAll_L6, ← nz4, if_pos (nI_le (Nat.le_refl _) (by omega))], i1, i2, i3, i4⟩
  obtain ⟨s1, a1, a2, a3, a4, a5⟩ := s1
  have s2 : ∃ s, fX12_readsAll_X24 sh (nI 4) s1 = fX12_readsAll_X45 sh (nI 12) s ∧ s.1 = s1.1 ∧ s.2.2 = s1.2.2 ∧ (∀ i, i ≠ 16 → s.2.1 i = s1.2.1 i) ∧ ∀ j, j < 12 → s.2.1 16 j = -1 := by
    unfold fX12_readsAll_X24
    generalize i_F = F at hF ⊢
    rw [← nz0]
    refine lpI (L := fun m k s => fX12_readsAll_L26 sh (fun (x113 : Int32) (s114 : St) => fX12_readsAll_X45 sh x113 s114) m (nI k) s) (E := fun r => ∃ s, r = fX12_readsAll_X45 sh (nI 12) s ∧ s.1 = s1.1 ∧ s.2.2 = s1.2.2 ∧ (∀ i, i ≠ 16 → s.2.1 i = s1.2.1 i) ∧ ∀ j, j < 12 → s.2.1 16 j = -1) (fun k s => s.1 = s1.1 ∧ s.2.2 = s1.2.2 ∧ (∀ i, i ≠ 16 → s.2.1 i = s1.2.1 i) ∧ ∀ j, j < k → s.2.1 16 j = -1) 12 (fun m k s hk hI => Or.inl ?_) (fun m s hI => ?_) 12 F 0 s1 rfl (by omega) ⟨rfl, rfl, fun _ _ => rfl, fun j hj => by omega⟩
    · obtain ⟨i1, i2, i3, i4⟩ := hI
      refine ⟨s_A s 16 k (-1), ?_, i1, i2, fun i hi => by rw [s_A_ne hi, i3 i hi], fun j hj => ?_⟩
      · rw [fX12_readsAll_L26, ← nz12, if_neg (nI_ge hk (by omega)), if_pos (ok_nI hk (by omega)), nI_clamp (by omega), nI_1]
      · rw [s_A_up, upd_pt]
        split
        · rfl
        · exact i4 j (by omega)
    · obtain ⟨i1, i2, i3, i4⟩ := hI
      exact ⟨s, by rw [fX12_readsAll_L26, ← nz12, if_pos (nI_le (Nat.le_refl _) (by omega))], i1, i2, i3, i4⟩
  obtain ⟨s2, b1, b2, b3, b4, b5⟩ := s2
  have s3 : ∃ s, fX12_readsAll_X45 sh (nI 12) s2 = fX12_readsAll_X73 sh (nI 6) s ∧ s.1 = s2.1 ∧ s.2.2 = s2.2.2 ∧ (∀ i, i ≠ 15 → i ≠ 17 → s.2.1 i = s2.2.1 i) ∧ ∀ j, j < 6 → s.2.1 15 j = 0 ∧ s.2.1 17 j = 0 := by
    unfold fX12_readsAll_X45
    generalize i_F = F at hF ⊢
    rw [← nz0]
    refine lpI (L := fun m k s => fX12_readsAll_L47 sh (fun (x170 : Int32) (s171 : St) => fX12_readsAll_X73 sh x170 s171) m (nI k) s) (E := fun r => ∃ s, r = fX12_readsAll_X73 sh (nI 6) s ∧ s.1 = s2.1 ∧ s.2.2 = s2.2.2 ∧ (∀ i, i ≠ 15 → i ≠ 17 → s.2.1 i = s2.2.1 i) ∧ ∀ j, j < 6 → s.2.1 15 j = nI 0 ∧ s.2.1 17 j = nI 0) (fun k s => s.1 = s2.1 ∧ s.2.2 = s2.2.2 ∧ (∀ i, i ≠ 15 → i ≠ 17 → s.2.1 i = s2.2.1 i) ∧ ∀ j, j < k → s.2.1 15 j = nI 0 ∧ s.2.1 17 j = nI 0) 6 (fun m k s hk hI => Or.inl ?_) (fun m s hI => ?_) 6 F 0 s2 rfl (by omega) ⟨rfl, rfl, fun _ _ _ => rfl, fun j hj => by omega⟩
    · obtain ⟨i1, i2, i3, i4⟩ := hI
      have hok : i_ok (nI k) 6 := ok_nI hk (by omega)
      refine ⟨s_A (s_A s 15 k 0) 17 k 0, ?_, i1, i2, fun i h1 h2 => by rw [s_A_ne h2, s_A_ne h1, i3 i h1 h2], fun j hj => ?_⟩
      · rw [fX12_readsAll_L47, ← nz6, if_neg (nI_ge hk (by omega)), if_pos hok, if_pos hok, nI_clamp (by omega), nI_1]
      · rw [s_A_ne (show (15 : Nat) ≠ 17 by decide), s_A_up, s_A_up, upd_pt, upd_pt, s_A_ne (show (17 : Nat) ≠ 15 by decide)]
        by_cases hjk : j = k
        · rw [if_pos hjk, if_pos hjk]; exact ⟨nz0.symm, nz0.symm⟩
        · rw [if_neg hjk, if_neg hjk]; exact i4 j (by omega)
    · obtain ⟨i1, i2, i3, i4⟩ := hI
      exact ⟨s, by rw [fX12_readsAll_L47, ← nz6, if_pos (nI_le (Nat.le_refl _) (by omega))], i1, i2, i3, i4⟩
  obtain ⟨s3, c1, c2, c3, c4, c5⟩ := s3
  have e13 : ∀ j, j < 4 → s3.2.1 13 j = 0 := fun j hj => by rw [c4 13 (by decide) (by decide), b4 13 (by decide), a5 j hj]
  refine ⟨s3, by rw [a1, b1, c1], ⟨?_, ?_, ?_, ?_, fun j hj => by have : j < 0 := hj; omega, fun j hj => (c5 j hj).1, fun j hj => ?_, fun j hj => (c5 j hj).2, fun j hj => by have : j < 0 := hj; omega⟩, by rw [c2, b2, a2], fun i hi => ?_, by rw [c3, b3, a3]⟩
  · rw [e13 0 (by omega)]; rfl
  · rw [e13 1 (by omega)]; rfl
  · rw [e13 2 (by omega)]; rfl
  · rw [e13 3 (by omega)]; rfl
  · rw [c4 16 (by decide) (by decide), b5 j hj]; rfl
  · rw [c4 i (by omega) (by omega), b4 i (by omega), a4 i (by omega)]
theorem isRC_d {σ : St} {R : Rl} (hw : wfR R) (h : dC σ R) : isRC σ 3 R := by
  obtain ⟨h0, h1, h2, h3, h4, h5, h6, h7, h8, h9⟩ := h
  exact ⟨h0, h1, h2, h3, h4, h5, fun j hj => h6 j (by have := hw.2.1; omega), h7, h8, h9⟩
theorem m_court {sh shR : List kd} {σC σR : St} {W : Wd} {rl : List Cl} {im : Im} {tp : List Nat} (h : IV sh shR σC σR W rl im tp) : alikeI sh shR (fX11_court sh σC) (fX12_court shR σR) := by
  obtain ⟨a1, a2, a3, a4, a5, a6⟩ := h.1
  obtain ⟨t1, t2, t3, t4⟩ := h.2.2.2.2.2.1
  -- the class begins
  have rC0 : ∃ sC, i_bd (fX9_rewind sh σC) (fun r1 s2 => fX6_clear sh s2 3) = some ((), sC) ∧ tpC sC tp ∧ sC.1 1 2 = 0 ∧ sC.1 1 3 = 0 ∧ dC sC R0 ∧ rdC σC sC := by
    unfold fX9_rewind
    rw [bd_some]
    obtain ⟨s, b1, b2, b3, b4, b5⟩ := clearC a1 (σ := s_F (s_F σC 1 2 0) 1 3 0)
    have e1 : s.1 1 = (s_F (s_F σC 1 2 0) 1 3 0).1 1 := b3 1 (by decide)
    refine ⟨s, b1, ⟨t1, ?_, fun k b hb => ?_⟩, ?_, ?_, b2, fun i k hk hi => ?_, fun i hi => by rw [b4 i hi]; rfl, by rw [b5]; rfl⟩
    · rw [e1, s_F_rd, if_neg (by omega), s_F_rd, if_neg (by omega)]; exact t2
    · rw [b4 2 (by omega)]
      exact ⟨(t4 k b hb).1, (t4 k b hb).2.1⟩
    · rw [e1, s_F_rd, if_neg (by omega), s_F_at]
    · rw [e1, s_F_at]
    · rw [b3 i hi, s_F_rd, if_neg (by omega), s_F_rd, if_neg (by omega)]
  obtain ⟨sC, c1, c2, c3, c4, c5, c6⟩ := rC0
  -- the reference begins
  have hs0 : ∀ i k, ¬ (i = 0 ∧ (k = 20 ∨ k = 21 ∨ k = 24 ∨ k = 25 ∨ k = 26)) → (s_F (s_F (s_F (s_F (s_F σR 0 20 0) 0 21 0) 0 24 0) 0 25 0) 0 26 0).1 i k = σR.1 i k := by
    intro i k hk
    simp only [s_F_rd]
    rw [if_neg (by omega), if_neg (by omega), if_neg (by omega), if_neg (by omega), if_neg (by omega)]
  have hs20 : (s_F (s_F (s_F (s_F (s_F σR 0 20 0) 0 21 0) 0 24 0) 0 25 0) 0 26 0).1 0 20 = 0 := by simp [s_F_rd]
  have hs21 : (s_F (s_F (s_F (s_F (s_F σR 0 20 0) 0 21 0) 0 24 0) 0 25 0) 0 26 0).1 0 21 = 0 := by simp [s_F_rd]
  have hs2 : (s_F (s_F (s_F (s_F (s_F σR 0 20 0) 0 21 0) 0 24 0) 0 25 0) 0 26 0).2 = σR.2 := rfl
  unfold fX11_court fX12_court fX1_read fX12_readsAll fX12_starts
  rw [bd_some]
  generalize s_F (s_F (s_F (s_F (s_F σR 0 20 0) 0 21 0) 0 24 0) 0 25 0) 0 26 0 = s0 at hs0 hs20 hs21 hs2
  obtain ⟨sR, d1, d2, d3, d4, d5⟩ := clearR (sh := shR) (σ := s0)
  rw [d1]
  unfold fX12_readsAll_X73
  have hb : i_bd (fX9_rewind sh σC) (fun r1 s2 => i_bd (fX6_clear sh s2 3) (fun r4 s5 => fX1_read_L16 sh (fun (x59 : Int32) (s60 : St) => fX1_read_X48 sh x59 s60) (fun (x111 : Int32) (s112 : St) => fX1_read_X63 sh x111 s112) (fun (x163 : Int32) (s164 : St) => fX1_read_X87 sh x163 s164) i_F 0 s5)) = fX1_read_L16 sh (fun (x59 : Int32) (s60 : St) => fX1_read_X48 sh x59 s60) (fun (x111 : Int32) (s112 : St) => fX1_read_X63 sh x111 s112) (fun (x163 : Int32) (s164 : St) => fX1_read_X87 sh x163 s164) i_F 0 sC := by
    unfold fX9_rewind at c1 ⊢
    rw [bd_some] at c1 ⊢
    rw [c1, bd_some]
  rw [hb]
  have hPX : PX sC sR tp 0 := ⟨c2, ⟨t1, by rw [d3, hs0 0 19 (by omega)]; exact t3, fun k b hb => by rw [d4 19 (by omega), hs2]; exact ⟨(t4 k b hb).1, (t4 k b hb).2.2⟩⟩, c4, by rw [d3]; exact hs21, ⟨0, by omega, nz0.symm⟩, 0, 0, Nat.zero_le _, Nat.zero_le _, by rw [c3]; rfl, by rw [d3]; exact hs20, fun _ => rfl⟩
  have hF : 40 + 1 < i_F := i_F_gt (by omega)
  generalize i_F = F at hF ⊢
  obtain ⟨τC, τR, f, r1, r2, r3, r4, r5, r6, r7⟩ := readsLoop (sh := sh) (shR := shR) 40 F 0 sC sR R0 rfl hF hPX R0_wf c5 d2 (fun e => absurd rfl e)
  rw [nI_0] at r1 r2
  rw [r1, bd_some, r2, bd_some]
  -- what has stayed
  have kC : rdC σC τC := rdC_trans c6 r3
  have kR : (∀ i k, ¬ (i = 0 ∧ (k = 20 ∨ k = 21 ∨ k = 24 ∨ k = 25 ∨ k = 26)) → τR.1 i k = σR.1 i k) ∧ (∀ i, ¬ (13 ≤ i ∧ i ≤ 18) → τR.2.1 i = σR.2.1 i) := ⟨fun i k hk => by rw [r4.1 i k (by omega), d3, hs0 i k hk], fun i hi => by rw [r4.2.1 i hi, d4 i hi, hs2]⟩
  have e21 : (s_F τR 0 19 0).1 0 21 = f := by rw [s_F_rd, if_neg (by omega)]; exact r5
  rw [e21]
  obtain ⟨fm, fm1, fm2⟩ := r6
  have g1 : ∀ i k, ¬ (i = 0 ∧ (k = 19 ∨ k = 20 ∨ k = 21 ∨ k = 24 ∨ k = 25 ∨ k = 26)) → (s_F τR 0 19 0).1 i k = σR.1 i k := fun i k hk => by rw [s_F_rd, if_neg (by omega), kR.1 i k (by omega)]
  have g2 : ∀ i, ¬ (13 ≤ i ∧ i ≤ 18) → (s_F τR 0 19 0).2.1 i = σR.2.1 i := fun i hi => by rw [s_F_A]; exact kR.2 i hi
  have g3 : (s_F τR 0 19 0).1 0 19 = 0 := s_F_at
  have g4 : dR τR = dR (s_F τR 0 19 0) := rfl
  have p1 : ∀ i k, ¬ (i = 1 ∧ (k = 1 ∨ k = 2 ∨ k = 3)) → i ≠ 3 → (s_F τC 1 1 0).1 i k = σC.1 i k := fun i k hk hi => by rw [s_F_rd, if_neg (by omega), kC.1 i k (by omega) hi]
  have p2 : ∀ i, ¬ (4 ≤ i ∧ i ≤ 8) → (s_F τC 1 1 0).2.1 i = σC.2.1 i := fun i hi => by rw [s_F_A]; exact kC.2.1 i hi
  have p3 : (s_F τC 1 1 0).1 1 1 = 0 := s_F_at
  have p4 : ∀ i, i ≠ 1 → (s_F τC 1 1 0).1 i = τC.1 i := fun i hi => by funext k; rw [s_F_rd, if_neg (fun e => hi e.1)]
  have p5 : (s_F τC 1 1 0).2.2.2 = σC.2.2.2 := by show τC.2.2.2 = _; rw [kC.2.2]
  have p6 : (s_F τC 1 1 0).2.1 = τC.2.1 := rfl
  by_cases hf : f = 0
  · obtain ⟨R, w1, w2, w3, w4⟩ := r7 hf
    rw [if_pos hf, hf, if_pos (by decide)]
    have w2' : dC (s_F τC 1 1 0) R := by
      unfold dC
      rw [p4 3 (by decide), p6]
      exact w2
    rw [g4] at w3
    generalize s_F τC 1 1 0 = uC at p1 p2 p3 p4 p5 w2'
    generalize s_F τR 0 19 0 = uR at g1 g2 g3 w3
    -- the class takes it over
    obtain ⟨vC, x1, x2, x3, x4, x5⟩ := realmCopyC (sh := sh) (σ := uC) (a := 20) (b := 3) (wfRs_R w1.1) (by omega) (isRC_d (wfRs_R w1.1) w2')
    obtain ⟨wC, y1, y2, y3, y4⟩ := beginL (sh := sh) (σ := vC) (a := 26) (r := 3) (R := R) (sC_28 a1) (sC_29 a1) (sC_30 a1) (fun j hj => by rw [x4 (3 + 4) (by omega)]; exact w2'.2.2.2.2.2.2.2.2.1 j hj)
    rw [x1, bd_some, y1, bd_some]
    have z1 : ∀ i k, (s_F (s_F wC 19 7 0) 19 4 0).1 i k = if i = 19 ∧ k = 4 then 0 else if i = 19 ∧ k = 7 then 0 else wC.1 i k := fun i k => rfl
    have z2 : (s_F (s_F wC 19 7 0) 19 4 0).2 = wC.2 := rfl
    have z3 : ∀ i, i ≠ 19 → (s_F (s_F wC 19 7 0) 19 4 0).1 i = wC.1 i := fun i hi => by funext k; rw [z1, if_neg (fun e => hi e.1), if_neg (fun e => hi e.1)]
    have z20 : (s_F (s_F wC 19 7 0) 19 4 0).1 20 = vC.1 20 := by rw [z3 20 (by decide), y3.1 20 (by decide)]
    rw [show (s_F (s_F wC 19 7 0) 19 4 0).1 20 3 = nI R.1.2.2.1 from by rw [z20]; exact x2.2.2.2.1]
    -- the reference takes it over
    have hR21 : ∃ q, fX12_court_L21 shR (fun (x57 : Int32) (s58 : St) => fX12_court_X44 shR x57 s58) F 0 uR = fX12_court_X44 shR (nI 4) q ∧ q.1 = uR.1 ∧ q.2.2 = uR.2.2 ∧ (∀ i, i ≠ 1 → q.2.1 i = uR.2.1 i) ∧ (∀ j, j < 4 → q.2.1 1 j = uR.2.1 13 j) ∧ (∀ j, 4 ≤ j → q.2.1 1 j = uR.2.1 1 j) := by
      rw [← nz0]
      refine lpI (L := fun m k s => fX12_court_L21 shR (fun (x57 : Int32) (s58 : St) => fX12_court_X44 shR x57 s58) m (nI k) s) (E := fun r => ∃ q, r = fX12_court_X44 shR (nI 4) q ∧ q.1 = uR.1 ∧ q.2.2 = uR.2.2 ∧ (∀ i, i ≠ 1 → q.2.1 i = uR.2.1 i) ∧ (∀ j, j < 4 → q.2.1 1 j = uR.2.1 13 j) ∧ (∀ j, 4 ≤ j → q.2.1 1 j = uR.2.1 1 j)) (fun k q => q.1 = uR.1 ∧ q.2.2 = uR.2.2 ∧ (∀ i, i ≠ 1 → q.2.1 i = uR.2.1 i) ∧ (∀ j, j < k → q.2.1 1 j = uR.2.1 13 j) ∧ (∀ j, 4 ≤ j → q.2.1 1 j = uR.2.1 1 j)) 4 (fun m k q hk hI => Or.inl ?_) (fun m q hI => ?_) 4 F 0 uR rfl (by omega) ⟨rfl, rfl, fun _ _ => rfl, fun j hj => by omega, fun _ _ => rfl⟩
      · obtain ⟨i1, i2, i3, i4, i5⟩ := hI
        refine ⟨s_A q 1 k (uR.2.1 13 k), ?_, i1, i2, fun i hi => by rw [s_A_ne hi, i3 i hi], fun j hj => ?_, fun j hj => by rw [s_A_rd, if_neg (by omega)]; exact i5 j hj⟩
        · rw [fX12_court_L21, ← nz4, if_neg (nI_ge hk (by omega)), if_pos (ok_nI hk (by omega)), if_pos (ok_nI (by omega) (by omega)), nI_clamp (by omega), nI_1, i3 13 (by decide)]
        · rw [s_A_up, upd_pt]
          split
          · next e => rw [e]
          · exact i4 j (by omega)
      · obtain ⟨i1, i2, i3, i4, i5⟩ := hI
        exact ⟨q, by rw [fX12_court_L21, ← nz4, if_pos (nI_le (Nat.le_refl _) (by omega))], i1, i2, i3, i4, i5⟩
    obtain ⟨qR, q1, q2, q3, q4, q5, q6⟩ := hR21
    rw [q1]
    unfold fX12_court_X44
    rw [if_pos o_8, c_8]
    have j1 : (s_A qR 1 8 0).1 = uR.1 := q2
    have j2 : ∀ i, i ≠ 1 → (s_A qR 1 8 0).2.1 i = uR.2.1 i := fun i hi => by rw [s_A_ne hi, q4 i hi]
    have j3 : ∀ j, j < 4 → (s_A qR 1 8 0).2.1 1 j = uR.2.1 13 j := fun j hj => by rw [s_A_rd, if_neg (by omega), q5 j hj]
    have j4 : (s_A qR 1 8 0).2.1 1 8 = 0 := s_A_at
    have j5 : ∀ j, 9 ≤ j → (s_A qR 1 8 0).2.1 1 j = uR.2.1 1 j := fun j hj => by rw [s_A_rd, if_neg (by omega), q6 j (by omega)]
    generalize s_A qR 1 8 0 = k0 at j1 j2 j3 j4 j5
    obtain ⟨k1, l1, m1, n1, o1, u1⟩ := copyR (σ := k0) (sR_14 a2) (sR_2 a2) (by omega) (by decide)
    obtain ⟨k2, l2, m2, n2, o2, u2⟩ := copyR (σ := k1) (sR_15 a2) (sR_3 a2) (by omega) (by decide)
    obtain ⟨k3, l3, m3, n3, o3, u3⟩ := copyR (σ := k2) (sR_16 a2) (sR_5 a2) (by omega) (by decide)
    obtain ⟨k4, l4, m4, n4, o4, u4⟩ := copyR (σ := k3) (sR_17 a2) (sR_12 a2) (by omega) (by decide)
    obtain ⟨k5, l5, m5, n5, o5, u5⟩ := copyR (σ := k4) (sR_18 a2) (sR_7 a2) (by omega) (by decide)
    rw [l1, bd_some, l2, bd_some, l3, bd_some, l4, bd_some, l5, bd_some]
    have hk1 : ∀ i, i ≠ 1 → i ≠ 2 → i ≠ 3 → i ≠ 5 → i ≠ 12 → i ≠ 7 → k5.2.1 i = uR.2.1 i := fun i h1 h2 h3 h5 h12 h7 => by rw [o5 i h7, o4 i h12, o3 i h5, o2 i h3, o1 i h2, j2 i h1]
    have r1k : k5.2.1 1 = k0.2.1 1 := by rw [o5 1 (by decide), o4 1 (by decide), o3 1 (by decide), o2 1 (by decide), o1 1 (by decide)]
    have hT := w1.1.2.1
    have hP := w1.1.2.2.1
    have R2 : ∀ j, j < 6 → k5.2.1 2 j = uR.2.1 14 j := fun j hj => by rw [o5 2 (by decide), o4 2 (by decide), o3 2 (by decide), o2 2 (by decide), u1 j hj, j2 14 (by decide)]
    have R3 : ∀ j, j < 6 → k5.2.1 3 j = uR.2.1 15 j := fun j hj => by rw [o5 3 (by decide), o4 3 (by decide), o3 3 (by decide), u2 j hj, o1 15 (by decide), j2 15 (by decide)]
    have R5 : ∀ j, j < 12 → k5.2.1 5 j = uR.2.1 16 j := fun j hj => by rw [o5 5 (by decide), o4 5 (by decide), u3 j hj, o2 16 (by decide), o1 16 (by decide), j2 16 (by decide)]
    have R12 : ∀ j, j < 6 → k5.2.1 12 j = uR.2.1 17 j := fun j hj => by rw [o5 12 (by decide), u4 j hj, o3 17 (by decide), o2 17 (by decide), o1 17 (by decide), j2 17 (by decide)]
    have R7 : ∀ j, j < 6 → k5.2.1 7 j = uR.2.1 18 j := fun j hj => by rw [u5 j hj, o4 18 (by decide), o3 18 (by decide), o2 18 (by decide), o1 18 (by decide), j2 18 (by decide)]
    have isR5 : isRR k5 R := ⟨by rw [r1k, j3 0 (by omega)]; exact w3.1, by rw [r1k, j3 1 (by omega)]; exact w3.2.1, by rw [r1k, j3 2 (by omega)]; exact w3.2.2.1, by rw [r1k, j3 3 (by omega)]; exact w3.2.2.2.1, fun j hj => by rw [R2 j (by omega)]; exact w3.2.2.2.2.1 j hj, fun j hj => by rw [R3 j (by omega)]; exact w3.2.2.2.2.2.1 j (by omega), fun j hj => by rw [R5 j hj]; exact w3.2.2.2.2.2.2.1 j hj, fun j hj => by rw [R12 j hj]; exact w3.2.2.2.2.2.2.2.1 j hj, fun j hj => by rw [R7 j (by omega)]; exact w3.2.2.2.2.2.2.2.2 j hj⟩
    obtain ⟨k6, v1, v2, v3, v4⟩ := beginsR a2 (σ := k5) (R := R) isR5.2.2.2.2.2.2.2.1
    rw [v1, bd_some, if_pos o_2, c_2]
    have isR6 : isRR k6 R := isRR_fr (fun j hj => v3.2.2.1 j (by omega) (by omega) (by omega) (by omega)) (fun i hi => v3.2.1 i (by omega) (by omega) (by omega) (by omega) (by omega)) isR5
    have fk : k6.1 = uR.1 := by rw [v3.1, m5, m4, m3, m2, m1, j1]
    rw [show (s_F k6 0 41 0).2.1 1 2 = nI R.1.2.2.1 from isR6.2.2.1]
    have hrow6 : ∀ i, i ≠ 1 → i ≠ 2 → i ≠ 3 → i ≠ 5 → i ≠ 12 → i ≠ 7 → i ≠ 4 → i ≠ 6 → i ≠ 8 → i ≠ 9 → (s_F k6 0 41 0).2.1 i = uR.2.1 i := fun i h1 h2 h3 h5 h12 h7 h4 h6 h8 h9 => by
      rw [s_F_A, v3.2.1 i h1 h6 h8 h9 h4, hk1 i h1 h2 h3 h5 h12 h7]
    refine ⟨_, _, _, (R, lf0 R, [], [], W.2.2.2.2), rl, im, [], rfl, rfl, IV_actT h ⟨fun i hi => ⟨?_, ?_⟩, ?_⟩ ⟨⟨?_, ?_⟩, fun i hi => ?_, fun j _ => ?_⟩ ⟨wfRs_R w1.1, w1.2.1, wfL_mono (by omega) lf0_wf, fun l hl => (by cases hl), a3.2.2.2.2⟩ ⟨?_, ?_, ?_, ⟨Nat.zero_le _, ?_, fun k q hq => (by cases hq)⟩, ?_, ?_⟩ ⟨?_, v2, ⟨?_, fun i l hl => (by cases hl)⟩, ⟨Nat.zero_le _, ?_, fun k q hq => (by cases hq)⟩, ?_, ?_⟩ ⟨Nat.zero_le _, ?_, ?_, fun k b hb => (by cases hb)⟩⟩
    · rw [z3 i (by omega), y3.1 i (by omega), x3 i (by omega)]
      funext k
      exact p1 i k (by omega) (by omega)
    · rw [z2, y3.2.1 i (by omega) (by omega) (by omega) (by omega), x4 i (by omega), p2 i (by omega)]
    · rw [z2, y3.2.2, x5, p5]
    · rw [s_F_rd, if_neg (by omega), fk, g1 0 23 (by omega)]
    · rw [s_F_rd, if_neg (by omega), fk, g1 0 28 (by omega)]
    · rw [hrow6 i (by omega) (by omega) (by omega) (by omega) (by omega) (by omega) (by omega) (by omega) (by omega) (by omega), g2 i (by omega)]
    · rw [hrow6 36 (by omega) (by omega) (by omega) (by omega) (by omega) (by omega) (by omega) (by omega) (by omega) (by omega), g2 36 (by omega)]
    · exact isRC_fr z20 (fun i h1 h2 => by rw [z2, y3.2.1 i (by omega) (by omega) (by omega) (by omega)]) x2
    · exact (LfC_ext (z3 26 (by decide)) (fun i _ _ => by rw [z2])).trans y2
    · obtain ⟨fi, f1, f2, _, _, _⟩ := a4.2.2.1
      refine ⟨fi, f1, ?_, ?_, Nat.zero_le _, fun i l hl => (by cases hl)⟩
      · rw [z1, if_neg (by omega), if_neg (by omega), y3.1 19 (by decide), x3 19 (by decide), p1 19 3 (by omega) (by omega)]
        exact f2
      · rw [z1, if_pos ⟨rfl, rfl⟩]
        rfl
    · rw [z1, if_neg (by omega), if_pos ⟨rfl, rfl⟩]
      rfl
    · rw [z1, if_neg (by omega), if_neg (by omega), y3.1 19 (by decide), x3 19 (by decide), p1 19 8 (by omega) (by omega)]
      exact a4.2.2.2.2.1
    · rw [z1, if_neg (by omega), if_neg (by omega), y3.1 19 (by decide), x3 19 (by decide), p1 19 9 (by omega) (by omega)]
      exact a4.2.2.2.2.2
    · exact isR6
    · exact s_F_at.trans rfl
    · show (s_F k6 0 41 0).2.1 1 8 = nI 0
      rw [s_F_A, v3.2.2.1 8 (by omega) (by omega) (by omega) (by omega), r1k, j4]
      rfl
    · show (s_F k6 0 41 0).2.1 1 10 = _
      rw [s_F_A, v3.2.2.1 10 (by omega) (by omega) (by omega) (by omega), r1k, j5 10 (by omega), g2 1 (by omega)]
      exact a5.2.2.2.2.1
    · show (s_F k6 0 41 0).2.1 1 9 = _
      rw [s_F_A, v3.2.2.1 9 (by omega) (by omega) (by omega) (by omega), r1k, j5 9 (by omega), g2 1 (by omega)]
      exact a5.2.2.2.2.2
    · rw [z3 1 (by decide), y3.1 1 (by decide), x3 1 (by decide), p3]
      rfl
    · rw [s_F_rd, if_neg (by omega), fk, g3]
      rfl
  · have hpos : ¬ f ≤ 0 := by
      rw [fm2]
      refine nI_nle ?_ (by omega)
      by_cases e : fm = 0
      · exact absurd (by rw [fm2, e]; rfl) hf
      · omega
    rw [if_neg hf, if_neg hpos]
    exact ⟨_, _, _, W, rl, im, [], rfl, rfl, IV_actT h ⟨fun i hi => ⟨by funext k; exact p1 i k (by omega) (by omega), p2 i (by omega)⟩, p5⟩ ⟨⟨g1 0 23 (by omega), g1 0 28 (by omega)⟩, fun i hi => g2 i (by omega), fun j _ => by rw [g2 36 (by omega)]⟩ a3 (hdC_ext (fun i h1 h2 => ⟨by funext k; exact p1 i k (by omega) (by omega), p2 i (by omega)⟩) a4) (hdR_row (g1 0 41 (by omega)) (fun i hi => g2 i (by omega)) a5) ⟨Nat.zero_le _, p3.trans rfl, g3.trans rfl, fun k b hb => (by cases hb)⟩⟩
