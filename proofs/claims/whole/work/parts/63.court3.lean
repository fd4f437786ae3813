/-! ===== a CLAUSE of a COURT; the text ===== -/
theorem cw : ∀ k : Nat, k < 5 → ∀ (sh : List kd) (σ : St), fX12_courtWord sh σ (nI k) = some (7 + k, σ) := by
  intro k hk sh σ
  have : k = 0 ∨ k = 1 ∨ k = 2 ∨ k = 3 ∨ k = 4 := by omega
  unfold fX12_courtWord
  rcases this with e | e | e | e | e
  · subst e; rfl
  · subst e; rfl
  · subst e; rfl
  · subst e; rfl
  · subst e; rfl
/-- which of the five words stands here -/
theorem word5 {shR : List kd} {σR s2 : St} {tp : List Nat} {s : Nat} {p1 : Int32} {K : Int32 → St → Option (Unit × St)} (ht : tpR σR tp) (hs : s ≤ tp.length) (ha : σR.1 0 20 = nI s) :
    (∃ k, k < 5 ∧ wAt tp s (7 + k) ∧ wi tp s 0 [7, 8, 9, 10, 11] = nI k ∧ fX12_courtClause_L11 shR p1 s2 K i_F 0 σR = K (nI k) σR) ∨ (wi tp s 0 [7, 8, 9, 10, 11] = -1 ∧ fX12_courtClause_L11 shR p1 s2 K i_F 0 σR = K 5 σR) := by
  have hF : 5 < i_F := i_F_gt (by omega)
  generalize i_F = F at hF ⊢
  rw [← nz0, show (5 : Int32) = nI 5 from by decide]
  have key : ∀ (m N k : Nat) (ids : List Nat), k + m = 5 → m < N → ids = [7, 8, 9, 10, 11].drop k → ∀ (v : Int32), wi tp s k ids = v → (∃ k', k' < 5 ∧ wAt tp s (7 + k') ∧ v = nI k' ∧ fX12_courtClause_L11 shR p1 s2 K N (nI k) σR = K (nI k') σR) ∨ (v = -1 ∧ fX12_courtClause_L11 shR p1 s2 K N (nI k) σR = K (nI 5) σR) := by
    intro m
    induction m with
    | zero =>
      intro N k ids hk hN hids v hv
      obtain ⟨N, rfl⟩ : ∃ n', N = n' + 1 := ⟨N - 1, by omega⟩
      have hk5 : k = 5 := by omega
      subst hk5
      right
      refine ⟨?_, ?_⟩
      · rw [← hv, hids]; rfl
      · rw [fX12_courtClause_L11, if_pos (by decide)]
    | succ m ih =>
      intro N k ids hk hN hids v hv
      obtain ⟨N, rfl⟩ : ∃ n', N = n' + 1 := ⟨N - 1, by omega⟩
      have hids' : ids = (7 + k) :: [7, 8, 9, 10, 11].drop (k + 1) := by
        rw [hids]
        have : k = 0 ∨ k = 1 ∨ k = 2 ∨ k = 3 ∨ k = 4 := by omega
        rcases this with e | e | e | e | e
        · subst e; rfl
        · subst e; rfl
        · subst e; rfl
        · subst e; rfl
        · subst e; rfl
      rw [fX12_courtClause_L11, show (5 : Int32) = nI 5 from by decide, if_neg (nI_ge (by omega) (by omega)), cw k (by omega), bd_some]
      rcases stoodR (sh := shR) (k := 7 + k) ht hs ha (by omega) with ⟨w, e⟩ | ⟨w, e⟩
      · rw [e, bd_some, if_pos n10]
        left
        exact ⟨k, by omega, w, by rw [← hv, hids', wi_t w], rfl⟩
      · rw [e, bd_some, if_neg nn00, nI_1]
        exact ih N (k + 1) _ (by omega) (by omega) rfl v (by rw [← hv, hids', wi_f w])
  exact key 5 F 0 _ rfl hF rfl _ rfl
theorem place5 {sh shR : List kd} {σC σR : St} {k n : Nat} {R : Rl} (hk : k < 5) (hn : n ≤ 40) (hT : R.1.2.2.1 ≤ 6) (hP : R.1.2.2.2 ≤ 6) (hC : dC σC R) (hR : dR σR R) :
    ∃ b : Int32, fX1_isOutOfPlace sh σC (nI k) (nI n) = some (b, σC) ∧ fX12_isFull shR σR (nI k) (nI n) = some (b, σR) ∧ (b = 0 → n < 40 ∧ (k = 0 ↔ n = 0) ∧ (k = 1 → R.1.2.2.1 < 6) ∧ (k = 3 → R.1.2.2.2 < 6)) := by
  unfold fX1_isOutOfPlace fX12_isFull fX1_isOutOfPlace_J66
  rw [show (40 : Int32) = nI 40 from by decide, hC.2.2.2.1, hC.2.2.2.2.1]
  simp only [if_pos q2, if_pos q3, c_2, c_3]
  rw [hR.2.2.1, hR.2.2.2.1]
  by_cases h40 : n = 40
  · subst h40
    rw [if_pos (nI_le (Nat.le_refl _) (by omega)), if_pos rfl]
    exact ⟨1, rfl, rfl, fun e => absurd e n10⟩
  · rw [if_neg (nI_ge (by omega) (by omega)), if_neg (nI_ne h40 (by omega) (by omega))]
    have ek : (if ¬ nI k = 0 then (0 : Int32) else 1) = if k = 0 then 1 else 0 := by
      by_cases h : k = 0
      · rw [h]; rfl
      · rw [if_pos (nI_ne0 (by omega) (by omega)), if_neg h]
    have en : (if ¬ nI n = 0 then (0 : Int32) else 1) = if n = 0 then 1 else 0 := by
      by_cases h : n = 0
      · rw [h]; rfl
      · rw [if_pos (nI_ne0 (by omega) (by omega)), if_neg h]
    rw [ek, en]
    have e2 : ((if k = 0 then (1 : Int32) else 0) = if n = 0 then 1 else 0) ↔ (k = 0 ↔ n = 0) := by
      by_cases h1 : k = 0
      · by_cases h2 : n = 0
        · simp [h1, h2]
        · simp [h1, h2]
      · by_cases h2 : n = 0
        · simp [h1, h2]
        · simp [h1, h2]
    by_cases hkn : (k = 0 ↔ n = 0)
    · rw [if_neg (not_not_intro (e2.mpr hkn)), if_pos (e2.mpr hkn)]
      have n6 : (6 : Int32) = nI 6 := by decide
      rw [n6, show (1 : Int32) = nI 1 from by decide, show (3 : Int32) = nI 3 from by decide]
      by_cases hk1 : k = 1
      · subst hk1
        rw [if_neg (not_not_intro rfl), if_pos rfl]
        by_cases ht : R.1.2.2.1 = 6
        · rw [ht, if_pos (nI_le (Nat.le_refl _) (by omega)), if_neg (not_not_intro rfl)]
          exact ⟨nI 1, rfl, rfl, fun e => absurd e (by decide)⟩
        · rw [if_neg (nI_ge (by omega) (by omega)), if_pos (nI_ne (by decide) (by omega) (by omega)), if_pos (nI_ne ht (by omega) (by omega))]
          exact ⟨0, rfl, rfl, fun _ => ⟨by omega, hkn, fun _ => by omega, fun e => by omega⟩⟩
      · rw [if_pos (nI_ne hk1 (by omega) (by omega)), if_neg (nI_ne hk1 (by omega) (by omega))]
        by_cases hk3 : k = 3
        · subst hk3
          rw [if_neg (not_not_intro rfl), if_pos rfl]
          by_cases hp : R.1.2.2.2 = 6
          · rw [hp, if_neg (nI_nlt (Nat.le_refl _) (by omega)), if_neg (not_not_intro rfl)]
            exact ⟨nI 1, rfl, rfl, fun e => absurd e (by decide)⟩
          · rw [if_pos (nI_lt (by omega) (by omega)), if_pos (nI_ne hp (by omega) (by omega))]
            exact ⟨0, rfl, rfl, fun _ => ⟨by omega, hkn, fun e => by omega, fun _ => by omega⟩⟩
        · rw [if_pos (nI_ne hk3 (by omega) (by omega)), if_neg (nI_ne hk3 (by omega) (by omega))]
          exact ⟨0, rfl, rfl, fun _ => ⟨by omega, hkn, fun e => by omega, fun e => by omega⟩⟩
    · rw [if_pos (fun e => hkn (e2.mp e)), if_neg (fun e => hkn (e2.mp e))]
      exact ⟨1, rfl, rfl, fun e => absurd e n10⟩
theorem rdOK_pre {σC σR τC τR : St} {tp : List Nat} {x y : Option (Unit × St)} (hC : rdC σC τC) (hR : rdR σR τR) (h : rdOK τC τR tp x y) : rdOK σC σR tp x y := by
  obtain ⟨sC, sR, f, h1, h2, h3, h4, h5, h6⟩ := h
  exact ⟨sC, sR, f, h1, h2, h3, rdC_trans hC h4, rdR_trans hR h5, h6⟩
theorem bd_unit {x : Option (Unit × St)} : i_bd x (fun _ s => some ((), s)) = x := by
  cases x with
  | none => rfl
  | some q => rfl
theorem rd_clause {sh shR : List kd} {σC σR : St} {tp : List Nat} {R : Rl} {n : Nat} (h : PX σC σR tp 0) (hw : wfD R) (hC : dC σC R) (hR : dR σR R) (hn : n ≤ 40) (hD : ¬ n = 0 → 0 < R.1.1) : ∃ τC τR f, fX1_readClause sh σC (nI n) = some ((), τC) ∧ fX12_courtClause shR σR (nI n) = some ((), τR) ∧ PX τC τR tp f ∧ rdC σC τC ∧ rdR σR τR ∧ (f = 0 → n < 40 ∧ ∃ R, wfD R ∧ dC τC R ∧ dR τR R ∧ 0 < R.1.1) := by
  obtain ⟨h1, h2, h3, h4, h5, pc, pr, h6, h7, h8, h9, h10⟩ := h
  have hpp := h10 rfl
  subst hpp
  have h400 := h1.1
  have hs := skp_le h6
  have c2 : (s_F σC 1 2 (nI (skp tp pc))).1 1 2 = nI (skp tp pc) := s_F_at
  have r2 : (s_F σR 0 20 (nI (skp tp pc))).1 0 20 = nI (skp tp pc) := s_F_at
  have tC' := tpC_nf (nfC_2 (x := nI (skp tp pc))) h1
  have tR' := tpR_nf (nfR_20 (x := nI (skp tp pc))) h2
  have f3 : (s_F σC 1 2 (nI (skp tp pc))).1 1 3 = 0 := by rw [s_F_rd, if_neg (by omega)]; exact h3
  have f21 : (s_F σR 0 20 (nI (skp tp pc))).1 0 21 = 0 := by rw [s_F_rd, if_neg (by omega)]; exact h4
  have dC' := dC_nf (nfC_2 (x := nI (skp tp pc))) hC
  have dR' := dR_nf (nfR_20 (x := nI (skp tp pc))) hR
  have rC' := rdC_nf (nfC_2 (σ := σC) (x := nI (skp tp pc)))
  have rR' := rdR_nf (nfR_20 (σ := σR) (x := nI (skp tp pc)))
  unfold fX1_readClause fX12_courtClause
  rw [wordInC chk_court (by decide) h1 h6 h8, bd_some, blanksR h2 (by omega) h9, bd_some]
  generalize s_F σC 1 2 (nI (skp tp pc)) = sC at c2 tC' f3 dC' rC'
  generalize s_F σR 0 20 (nI (skp tp pc)) = sR at r2 tR' f21 dR' rR'
  generalize skp tp pc = s at hs c2 r2
  -- a FAULT
  have bad : ∀ c, c ≤ 4 → ∃ τC τR f, (some ((), s_F sC 1 3 (flt 0 s (some c))) : Option (Unit × St)) = some ((), τC) ∧ (some ((), s_F sR 0 21 (flt 0 s (some c))) : Option (Unit × St)) = some ((), τR) ∧ PX τC τR tp f ∧ rdC σC τC ∧ rdR σR τR ∧ (f = 0 → n < 40 ∧ ∃ R, wfD R ∧ dC τC R ∧ dR τR R ∧ 0 < R.1.1) := by
    intro c hc
    have hne : ¬ flt 0 s (some c) = 0 := flt_1 (by omega) hc
    exact ⟨_, _, flt 0 s (some c), rfl, rfl, ⟨tpC_nf nfC_3 tC', tpR_nf nfR_21 tR', s_F_at, s_F_at, flt_ok ⟨0, by omega, nz0.symm⟩ (by omega) (fun d hd => by cases hd; exact hc), s, s, hs, hs, by rw [s_F_rd, if_neg (by omega)]; exact c2, by rw [s_F_rd, if_neg (by omega)]; exact r2, fun _ => rfl⟩, rdC_trans rC' (rdC_nf nfC_3), rdR_trans rR' (rdR_nf nfR_21), fun e => absurd e hne⟩
  rcases word5 (shR := shR) (p1 := nI n) (s2 := sR) (K := fun (x56 : Int32) (s57 : St) => fX12_courtClause_X33 shR (nI n) sR x56 s57) tR' hs r2 with ⟨k, k1, k2, k3, k4⟩ | ⟨k3, k4⟩
  · rw [k3, k4]
    unfold fX12_courtClause_X33
    have hk1 : ¬ nI k = -1 := fun e => by
      have : ¬ nI k < 0 := nI_pos (by omega)
      rw [e] at this
      exact this (by decide)
    rw [if_pos hk1, show (5 : Int32) = nI 5 from by decide, if_pos (nI_ne (by omega) (by omega) (by omega))]
    obtain ⟨b, b1, b2, b3⟩ := place5 (sh := sh) (shR := shR) (k := k) (n := n) k1 hn hw.1.2.1 hw.1.2.2.1 dC' dR'
    rw [b1, bd_some, b2, bd_some]
    by_cases hb : b = 0
    · obtain ⟨n40, n2, n3, n4⟩ := b3 hb
      rw [if_pos hb, if_pos hb]
      unfold fX9_skipWord
      rw [wendC tC' hs c2, bd_some, bd_some, cw k k1, bd_some, if_pos (show 7 + k < 28 by omega), r2, ofN, nI_add, show rn isL tp s = i_slen (7 + k) from k2.1]
      have hrn := rn_le (f := isL) hs
      rw [show rn isL tp s = i_slen (7 + k) from k2.1] at hrn
      have dC2 := dC_nf (nfC_2 (x := nI (s + i_slen (7 + k)))) dC'
      have dR2 := dR_nf (nfR_20 (x := nI (s + i_slen (7 + k)))) dR'
      have P2 : PX (s_F sC 1 2 (nI (s + i_slen (7 + k)))) (s_F sR 0 20 (nI (s + i_slen (7 + k)))) tp 0 := ⟨tpC_nf nfC_2 tC', tpR_nf nfR_20 tR', by rw [s_F_rd, if_neg (by omega)]; exact f3, by rw [s_F_rd, if_neg (by omega)]; exact f21, ⟨0, by omega, nz0.symm⟩, _, _, hrn, hrn, s_F_at, s_F_at, fun _ => rfl⟩
      have rC2 := rdC_trans rC' (rdC_nf (nfC_2 (σ := sC) (x := nI (s + i_slen (7 + k)))))
      have rR2 := rdR_trans rR' (rdR_nf (nfR_20 (σ := sR) (x := nI (s + i_slen (7 + k)))))
      generalize s_F sC 1 2 (nI (s + i_slen (7 + k))) = uC at dC2 P2 rC2
      generalize s_F sR 0 20 (nI (s + i_slen (7 + k))) = uR at dR2 P2 rR2
      have fin : ∀ x y, rdOK uC uR tp x y → ∃ τC τR f, x = some ((), τC) ∧ y = some ((), τR) ∧ PX τC τR tp f ∧ rdC σC τC ∧ rdR σR τR ∧ (f = 0 → n < 40 ∧ ∃ R, wfD R ∧ dC τC R ∧ dR τR R ∧ 0 < R.1.1) := by
        intro x y hxy
        obtain ⟨τC, τR, f, g1, g2, g3, g4, g5, g6⟩ := rdOK_pre rC2 rR2 hxy
        exact ⟨τC, τR, f, g1, g2, g3, g4, g5, fun e => ⟨n40, g6 e⟩⟩
      unfold fX1_readClause_J128
      simp only [bd_unit]
      have hk : k = 0 ∨ k = 1 ∨ k = 2 ∨ k = 3 ∨ k = 4 := by omega
      rcases hk with e | e | e | e | e
      · subst e
        rw [nI_0, if_pos rfl]
        exact fin _ _ (rd_court P2 hw dC2 dR2)
      · subst e
        have hD' := hD (by omega)
        rw [nz1, if_neg (show ¬ (1 : Int32) = 0 by decide), if_pos rfl]
        exact fin _ _ (rd_thing P2 hw dC2 dR2 hD' (n3 rfl))
      · subst e
        have hD' := hD (by omega)
        rw [nz2, if_neg (show ¬ (2 : Int32) = 0 by decide), if_neg (show ¬ (2 : Int32) = 1 by decide), if_pos rfl]
        exact fin _ _ (rd_holds P2 hw dC2 dR2 hD')
      · subst e
        have hD' := hD (by omega)
        rw [nz3, if_neg (show ¬ (3 : Int32) = 0 by decide), if_neg (show ¬ (3 : Int32) = 1 by decide), if_neg (show ¬ (3 : Int32) = 2 by decide), if_pos rfl]
        exact fin _ _ (rd_person P2 hw dC2 dR2 hD' (n4 rfl))
      · subst e
        have hD' := hD (by omega)
        rw [nz4, if_neg (show ¬ (4 : Int32) = 0 by decide), if_neg (show ¬ (4 : Int32) = 1 by decide), if_neg (show ¬ (4 : Int32) = 2 by decide), if_neg (show ¬ (4 : Int32) = 3 by decide)]
        have e4 : fX12_courtPart shR uR 4 = fX12_quarrelPart shR uR := by
          unfold fX12_courtPart fX12_courtPart_J187
          rw [if_neg (show ¬ (4 : Int32) = 0 by decide), if_neg (show ¬ (4 : Int32) = 1 by decide), if_neg (show ¬ (4 : Int32) = 2 by decide), if_neg (show ¬ (4 : Int32) = 3 by decide)]
          exact bd_unit
        rw [e4]
        exact fin _ _ (rd_quarrel P2 hw dC2 dR2 hD')
    · rw [if_neg hb, if_neg hb, c2, refuseC rfl nz4.symm, bd_some, r2, failsR rfl nz4.symm, bd_some, f3, f21]
      exact bad 4 (by omega)
  · rw [k3, k4]
    unfold fX12_courtClause_X33
    rw [if_neg (not_not_intro rfl), if_neg (not_not_intro rfl), c2, refuseC rfl nz0.symm, bd_some, r2, failsR rfl nz0.symm, bd_some, f3, f21]
    exact bad 0 (by omega)
