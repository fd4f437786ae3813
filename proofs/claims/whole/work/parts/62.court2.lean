/-! ===== holds, person, quarrel ===== -/
theorem s_F_at {σ : St} {i k : Nat} {x : Int32} : (s_F σ i k x).1 i k = x := by rw [s_F_rd, if_pos ⟨rfl, rfl⟩]
theorem rd_holds {sh shR : List kd} {σC σR : St} {tp : List Nat} {R : Rl} (h : PX σC σR tp 0) (hw : wfD R) (hC : dC σC R) (hR : dR σR R) (hD : 0 < R.1.1) : rdOK σC σR tp (fX1_readHolds sh σC) (fX12_courtPart shR σR 2) := by
  obtain ⟨w1, w2, w3⟩ := hw
  have hD12 := w1.1
  have hT6 := w1.2.1
  obtain ⟨vC, vR, sC, sR, f, a1, a2, a3, a4, a5, a6, a7⟩ := nums (sh := sh) (shR := shR) (lo := 0) (hi := nI R.1.1 - 1) h
  have e4 := dC_nf a4 hC
  have e5 := dR_nf a5 hR
  obtain ⟨uC, uR, tC, tR, g, b1, b2, b3, b4, b5, b6, b7⟩ := nums (sh := sh) (shR := shR) (lo := 0) (hi := nI R.1.2.2.1 - 1) a3
  have e6 := dC_nf b4 e4
  have e7 := dR_nf b5 e5
  unfold fX1_readHolds fX1_readHolds_J56 fX12_courtPart fX12_courtPart_J187
  rw [hC.2.1, a1, bd_some, e4.2.2.2.1, b1, bd_some, if_neg (show ¬ (2 : Int32) = 0 by decide), if_neg (show ¬ (2 : Int32) = 1 by decide), if_pos (show (2 : Int32) = 2 from rfl)]
  simp only [if_pos q0, if_pos q2, c_0, c_2]
  rw [hR.1, a2, bd_some, e5.2.2.1, b2, bd_some]
  obtain ⟨k1, k2, k3, k4, k5, k6⟩ := b3
  have b3 : PX tC tR tp g := ⟨k1, k2, k3, k4, k5, k6⟩
  rw [k3, k4]
  by_cases hg : g = 0
  · obtain ⟨hf, v2, v21, v22, v23, v24, v25⟩ := b7 hg
    obtain ⟨_, v1, v11, v12, v13, v14, v15⟩ := a7 hf
    have d1 : v1 < R.1.1 := nle1 (by omega) (by omega) v15
    have d2 : v2 < R.1.2.2.1 := nle1 (by omega) (by omega) v25
    have hok : i_ok (nI v1) 12 := ok_nI (by omega) (by omega)
    rw [if_neg (not_not_intro hg), if_neg (not_not_intro hg), v12, v13, if_pos hok, if_pos hok, nI_clamp (by omega), v22, v23]
    refine ⟨_, _, g, rfl, rfl, PX_rd b3 (fun _ => rfl) (s_A_ne (by decide)) (fun _ => rfl) (s_A_ne (by decide)), rdC_trans (rdC_nf a4) (rdC_trans (rdC_nf b4) (rdC_A (by omega))), rdR_trans (rdR_nf a5) (rdR_trans (rdR_nf b5) (rdR_A (by omega))), fun _ => ⟨(R.1, R.2.1, R.2.2.1, upd R.2.2.2.1 v1 (nI v2), R.2.2.2.2), ⟨⟨w1.1, w1.2.1, w1.2.2.1, w1.2.2.2.1, fun j hj => ?_⟩, w2, w3⟩, ?_, ?_, hD⟩⟩
    · show isH R.1.2.2.1 (upd R.2.2.2.1 v1 (nI v2) j)
      rw [upd_pt]
      split
      · exact Or.inr ⟨v2, d2, rfl⟩
      · exact w1.2.2.2.2 j hj
    · refine ⟨e6.1, e6.2.1, e6.2.2.1, e6.2.2.2.1, e6.2.2.2.2.1, ?_, ?_, fun j hj => ?_, ?_, ?_⟩
      · rw [s_A_ne (by decide)]; exact e6.2.2.2.2.2.1
      · rw [s_A_ne (by decide)]; exact e6.2.2.2.2.2.2.1
      · show _ = upd R.2.2.2.1 v1 (nI v2) j
        rw [s_A_up, upd_pt, upd_pt]
        split
        · rfl
        · exact e6.2.2.2.2.2.2.2.1 j hj
      · rw [s_A_ne (by decide)]; exact e6.2.2.2.2.2.2.2.2.1
      · rw [s_A_ne (by decide)]; exact e6.2.2.2.2.2.2.2.2.2
    · refine ⟨?_, ?_, ?_, ?_, ?_, ?_, fun j hj => ?_, ?_, ?_⟩
      · rw [s_A_ne (by decide)]; exact e7.1
      · rw [s_A_ne (by decide)]; exact e7.2.1
      · rw [s_A_ne (by decide)]; exact e7.2.2.1
      · rw [s_A_ne (by decide)]; exact e7.2.2.2.1
      · rw [s_A_ne (by decide)]; exact e7.2.2.2.2.1
      · rw [s_A_ne (by decide)]; exact e7.2.2.2.2.2.1
      · show _ = upd R.2.2.2.1 v1 (nI v2) j
        rw [s_A_up, upd_pt, upd_pt]
        split
        · rfl
        · exact e7.2.2.2.2.2.2.1 j hj
      · rw [s_A_ne (by decide)]; exact e7.2.2.2.2.2.2.2.1
      · rw [s_A_ne (by decide)]; exact e7.2.2.2.2.2.2.2.2
  · rw [if_pos hg, if_pos hg]
    exact ⟨_, _, g, rfl, rfl, b3, rdC_trans (rdC_nf a4) (rdC_nf b4), rdR_trans (rdR_nf a5) (rdR_nf b5), fun e => absurd e hg⟩
theorem rd_person {sh shR : List kd} {σC σR : St} {tp : List Nat} {R : Rl} (h : PX σC σR tp 0) (hw : wfD R) (hC : dC σC R) (hR : dR σR R) (hD : 0 < R.1.1) (hP : R.1.2.2.2 < 6) : rdOK σC σR tp (fX1_readPerson sh σC) (fX12_courtPart shR σR 3) := by
  obtain ⟨w1, w2, w3⟩ := hw
  have hok : i_ok (nI R.1.2.2.2) 6 := ok_nI hP (by omega)
  have hcl : (nI R.1.2.2.2).toNatClampNeg = R.1.2.2.2 := nI_clamp (by omega)
  obtain ⟨vC, vR, sC, sR, f, a1, a2, a3, a4, a5, a6, a7⟩ := nums (sh := sh) (shR := shR) (lo := 0) (hi := 99) h
  have e4 := dC_nf a4 hC
  have e5 := dR_nf a5 hR
  have a3' : PX (s_A sC 7 R.1.2.2.2 vC) (s_A sR 17 R.1.2.2.2 vR) tp f := PX_rd a3 (fun _ => rfl) (s_A_ne (by decide)) (fun _ => rfl) (s_A_ne (by decide))
  obtain ⟨uC, uR, tC, tR, g, b1, b2, b3, b4, b5, b6, b7⟩ := nums (sh := sh) (shR := shR) (lo := 0) (hi := 9) a3'
  unfold fX1_readPerson fX12_courtPart fX12_courtPart_J187
  rw [a1, bd_some, hC.2.2.2.2.1, if_pos hok, hcl, b1, bd_some, show (s_A sC 7 R.1.2.2.2 vC).1 3 4 = nI R.1.2.2.2 from e4.2.2.2.2.1, if_pos hok, hcl, jp, show (s_A tC 8 R.1.2.2.2 uC).1 3 4 = nI R.1.2.2.2 from (b4.1 3 4 (by omega)).trans e4.2.2.2.2.1, nI_1, if_neg (by decide), if_neg (by decide), if_neg (by decide), if_pos rfl]
  simp only [if_pos q3, c_3, jp]
  rw [a2, bd_some, hR.2.2.2.1]
  simp only [if_pos hok, hcl]
  rw [b2, bd_some]
  have g13 : (s_A tR 18 R.1.2.2.2 uR).2.1 13 3 = nI R.1.2.2.2 := by rw [s_A_ne (by decide), b5.2, s_A_ne (by decide)]; exact e5.2.2.2.1
  rw [g13, nI_1]
  refine ⟨_, _, g, rfl, rfl, PX_rd b3 (fun k => by rw [s_F_rd, if_neg (by omega)]; rfl) (by rw [s_F_A, s_A_ne (by decide)]) (fun _ => rfl) (by rw [s_A_ne (by decide), s_A_ne (by decide)]), rdC_trans (rdC_nf a4) (rdC_trans (rdC_A (by omega)) (rdC_trans (rdC_nf b4) (rdC_trans (rdC_A (by omega)) rdC_F))), rdR_trans (rdR_nf a5) (rdR_trans (rdR_A (by omega)) (rdR_trans (rdR_nf b5) (rdR_trans (rdR_A (by omega)) (rdR_A (by omega))))), fun hg => ?_⟩
  obtain ⟨hf, v2, v21, v22, v23, v24, v25⟩ := b7 hg
  obtain ⟨_, v1, v11, v12, v13, v14, v15⟩ := a7 hf
  refine ⟨((R.1.1, R.1.2.1, R.1.2.2.1, R.1.2.2.2 + 1), R.2.1, R.2.2.1, R.2.2.2.1, upd R.2.2.2.2.1 R.1.2.2.2 (nI v1), upd R.2.2.2.2.2 R.1.2.2.2 (nI v2)), ⟨⟨w1.1, w1.2.1, by show R.1.2.2.2 + 1 ≤ 6; omega, fun e => by have : R.1.1 = 0 := e; omega, w1.2.2.2.2⟩, w2, w3⟩, ?_, ?_, hD⟩
  · have eA : ∀ i, i ≠ 7 → i ≠ 8 → (s_F (s_A tC 8 R.1.2.2.2 uC) 3 4 (nI (R.1.2.2.2 + 1))).2.1 i = sC.2.1 i := fun i h1 h2 => by rw [s_F_A, s_A_ne h2, b4.2, s_A_ne h1]
    have eF : ∀ k, k ≠ 4 → (s_F (s_A tC 8 R.1.2.2.2 uC) 3 4 (nI (R.1.2.2.2 + 1))).1 3 k = sC.1 3 k := fun k hk => by rw [s_F_rd, if_neg (fun e => hk e.2), s_A_F, b4.1 3 k (by omega)]; rfl
    refine ⟨?_, ?_, ?_, ?_, ?_, ?_, ?_, ?_, fun j hj => ?_, fun j hj => ?_⟩
    · rw [eF 0 (by decide)]; exact e4.1
    · rw [eF 1 (by decide)]; exact e4.2.1
    · rw [eF 2 (by decide)]; exact e4.2.2.1
    · rw [eF 3 (by decide)]; exact e4.2.2.2.1
    · rw [s_F_rd, if_pos ⟨rfl, rfl⟩]
    · rw [eA 4 (by decide) (by decide)]; exact e4.2.2.2.2.2.1
    · rw [eA 5 (by decide) (by decide)]; exact e4.2.2.2.2.2.2.1
    · rw [eA 6 (by decide) (by decide)]; exact e4.2.2.2.2.2.2.2.1
    · show _ = upd R.2.2.2.2.1 R.1.2.2.2 (nI v1) j
      rw [s_F_A, s_A_ne (by decide), b4.2, s_A_up, upd_pt, upd_pt]
      split
      · exact v12
      · exact e4.2.2.2.2.2.2.2.2.1 j hj
    · have hj' : j < R.1.2.2.2 + 1 := hj
      show _ = upd R.2.2.2.2.2 R.1.2.2.2 (nI v2) j
      rw [s_F_A, s_A_up, upd_pt, upd_pt]
      by_cases hje : j = R.1.2.2.2
      · rw [if_pos hje, if_pos hje, v22]
      · rw [if_neg hje, if_neg hje, b4.2, s_A_ne (by decide)]; exact e4.2.2.2.2.2.2.2.2.2 j (by omega)
  · have eA : ∀ i, i ≠ 13 → i ≠ 17 → i ≠ 18 → (s_A (s_A tR 18 R.1.2.2.2 uR) 13 3 (nI (R.1.2.2.2 + 1))).2.1 i = sR.2.1 i := fun i h1 h2 h3 => by rw [s_A_ne h1, s_A_ne h3, b5.2, s_A_ne h2]
    have e13 : ∀ k, k ≠ 3 → (s_A (s_A tR 18 R.1.2.2.2 uR) 13 3 (nI (R.1.2.2.2 + 1))).2.1 13 k = sR.2.1 13 k := fun k hk => by rw [s_A_rd, if_neg (fun e => hk e.2), s_A_ne (by decide), b5.2, s_A_ne (by decide)]
    refine ⟨?_, ?_, ?_, ?_, ?_, ?_, ?_, fun j hj => ?_, fun j hj => ?_⟩
    · rw [e13 0 (by decide)]; exact e5.1
    · rw [e13 1 (by decide)]; exact e5.2.1
    · rw [e13 2 (by decide)]; exact e5.2.2.1
    · exact s_A_at
    · rw [eA 14 (by decide) (by decide) (by decide)]; exact e5.2.2.2.2.1
    · rw [eA 15 (by decide) (by decide) (by decide)]; exact e5.2.2.2.2.2.1
    · rw [eA 16 (by decide) (by decide) (by decide)]; exact e5.2.2.2.2.2.2.1
    · show _ = upd R.2.2.2.2.1 R.1.2.2.2 (nI v1) j
      rw [s_A_ne (by decide), s_A_ne (by decide), b5.2, s_A_up, upd_pt, upd_pt]
      split
      · exact v13
      · exact e5.2.2.2.2.2.2.2.1 j hj
    · have hj' : j < R.1.2.2.2 + 1 := hj
      show _ = upd R.2.2.2.2.2 R.1.2.2.2 (nI v2) j
      rw [s_A_ne (by decide), s_A_up, upd_pt, upd_pt]
      by_cases hje : j = R.1.2.2.2
      · rw [if_pos hje, if_pos hje, v23]
      · rw [if_neg hje, if_neg hje, b5.2, s_A_ne (by decide)]; exact e5.2.2.2.2.2.2.2.2 j (by omega)
/-- blanks are skipped, both stand at the same place -/
theorem skips {sh shR : List kd} {σC σR : St} {tp : List Nat} {f : Int32} (h : PX σC σR tp f) : ∃ x τC τR, fX9_sign sh σC = some (x, τC) ∧ fX12_blanks shR σR = some ((), τR) ∧ PX τC τR tp f ∧ nfC σC τC ∧ nfR σR τR ∧ ∃ sc sr, sc ≤ tp.length ∧ sr ≤ tp.length ∧ τC.1 1 2 = nI sc ∧ τR.1 0 20 = nI sr ∧ x = sgn tp sc ∧ skp tp sc = sc ∧ (f = 0 → sc = sr) := by
  obtain ⟨h1, h2, h3, h4, h5, pc, pr, h6, h7, h8, h9, h10⟩ := h
  have h400 := h1.1
  have c2 : (s_F σC 1 2 (nI (skp tp pc))).1 1 2 = nI (skp tp pc) := by rw [s_F_rd, if_pos ⟨rfl, rfl⟩]
  have r2 : (s_F σR 0 20 (nI (skp tp pr))).1 0 20 = nI (skp tp pr) := by rw [s_F_rd, if_pos ⟨rfl, rfl⟩]
  have hs : f = 0 → skp tp pc = skp tp pr := fun e => by rw [h10 e]
  refine ⟨_, _, _, signC _ σC pc h1 h6 rfl h8, blanksR h2 (by omega) h9, ⟨tpC_nf nfC_2 h1, tpR_nf nfR_20 h2, by rw [s_F_rd, if_neg (by omega)]; exact h3, by rw [s_F_rd, if_neg (by omega)]; exact h4, h5, _, _, skp_le h6, skp_le h7, c2, r2, hs⟩, nfC_2, nfR_20, _, _, skp_le h6, skp_le h7, c2, r2, rfl, skp_skp, hs⟩
theorem getLsb_or_one {x : Int32} {b u : Nat} (hb : b < 31) (hu : u < 32) : (x ||| ((1 : Int32) <<< (nI b &&& 31))).toBitVec.getLsbD u = true ↔ x.toBitVec.getLsbD u = true ∨ u = b := by
  rw [Int32.toBitVec_or, BitVec.getLsbD_or, Bool.or_eq_true, Int32.toBitVec_shiftLeft, sh_at b (by omega)]
  have e1 : (1 : Int32).toBitVec = 1#32 := rfl
  rw [e1]
  have e2 : (1#32 <<< BitVec.ofNat 32 b) = 1#32 <<< b := by
    show 1#32 <<< (BitVec.ofNat 32 b).toNat = _
    rw [BitVec.toNat_ofNat, Nat.mod_eq_of_lt (by omega)]
  rw [e2, BitVec.getLsbD_shiftLeft, BitVec.getLsbD_one]
  constructor
  · rintro (h | h)
    · exact Or.inl h
    · right
      simp at h
      omega
  · rintro (h | h)
    · exact Or.inl h
    · right
      subst h
      simp
      omega
def qUp (q : Nat → Int32) (a b : Nat) : Nat → Int32 := upd (upd q a (q a ||| (1 <<< (nI b &&& 31)))) b (upd q a (q a ||| (1 <<< (nI b &&& 31))) b ||| (1 <<< (nI a &&& 31)))
theorem qUp_lsb {q : Nat → Int32} {a b t u : Nat} (ha : a < 6) (hb : b < 6) (hab : a ≠ b) (hu : u < 32) : (qUp q a b t).toBitVec.getLsbD u = true ↔ (q t).toBitVec.getLsbD u = true ∨ (t = a ∧ u = b) ∨ (t = b ∧ u = a) := by
  unfold qUp
  rw [upd_pt]
  by_cases htb : t = b
  · rw [if_pos htb, upd_pt, if_neg (Ne.symm hab), getLsb_or_one (by omega) hu]
    subst htb
    constructor
    · rintro (h | h)
      · exact Or.inl h
      · exact Or.inr (Or.inr ⟨rfl, h⟩)
    · rintro (h | ⟨h, _⟩ | ⟨_, h⟩)
      · exact Or.inl h
      · exact absurd h.symm hab
      · exact Or.inr h
  · rw [if_neg htb, upd_pt]
    by_cases hta : t = a
    · rw [if_pos hta, getLsb_or_one (by omega) hu]
      subst hta
      constructor
      · rintro (h | h)
        · exact Or.inl h
        · exact Or.inr (Or.inl ⟨rfl, h⟩)
      · rintro (h | ⟨_, h⟩ | ⟨h, _⟩)
        · exact Or.inl h
        · exact Or.inr h
        · exact absurd h hab
    · rw [if_neg hta]
      exact ⟨Or.inl, fun h => h.elim id (fun h => h.elim (fun h => absurd h.1 hta) (fun h => absurd h.1 htb))⟩
theorem rd_quarrel {sh shR : List kd} {σC σR : St} {tp : List Nat} {R : Rl} (h : PX σC σR tp 0) (hw : wfD R) (hC : dC σC R) (hR : dR σR R) (hD : 0 < R.1.1) : rdOK σC σR tp (fX1_readQuarrel sh σC) (fX12_quarrelPart shR σR) := by
  obtain ⟨w1, w2, w3⟩ := hw
  have hT6 := w1.2.1
  have h400 := h.1.1
  obtain ⟨vC, vR, sC, sR, f, a1, a2, a3, a4, a5, a6, a7⟩ := nums (sh := sh) (shR := shR) (lo := 0) (hi := nI R.1.2.2.1 - 1) h
  have e4 := dC_nf a4 hC
  have e5 := dR_nf a5 hR
  obtain ⟨x, pC, pR, p1, p2, p3, p4, p5, sc, sr, p6, p7, p8, p9, _, _, p10⟩ := skips (sh := sh) (shR := shR) a3
  have e6 := dC_nf p4 e4
  have e7 := dR_nf p5 e5
  obtain ⟨uC, uR, tC, tR, g, b1, b2, b3, b4, b5, b6, b7⟩ := nums (sh := sh) (shR := shR) (lo := 0) (hi := nI R.1.2.2.1 - 1) p3
  have e8 := dC_nf b4 e6
  have e9 := dR_nf b5 e7
  unfold fX1_readQuarrel fX12_quarrelPart
  simp only [if_pos q2, c_2]
  rw [hC.2.2.2.1, a1, bd_some, p1, bd_some, e6.2.2.2.1, b1, bd_some, hR.2.2.1, a2, bd_some, p2, bd_some, e7.2.2.1, b2, bd_some]
  have b3' := b3
  obtain ⟨k1, k2, k3, k4, k5, k6⟩ := b3'
  have rC0 : rdC σC tC := rdC_trans (rdC_nf a4) (rdC_trans (rdC_nf p4) (rdC_nf b4))
  have rR0 : rdR σR tR := rdR_trans (rdR_nf a5) (rdR_trans (rdR_nf p5) (rdR_nf b5))
  by_cases hg : g = 0
  · obtain ⟨hf, v2, v21, v22, v23, v24, v25⟩ := b7 hg
    obtain ⟨_, v1, v11, v12, v13, v14, v15⟩ := a7 hf
    have d1 : v1 < R.1.2.2.1 := nle1 (by omega) (by omega) v15
    have d2 : v2 < R.1.2.2.1 := nle1 (by omega) (by omega) v25
    have hpp := p10 hf
    subst hpp
    rw [v12, v13, v22, v23, k4, if_neg (not_not_intro hg)]
    by_cases heq : v1 = v2
    · subst heq
      rw [if_neg (not_not_intro rfl), if_neg (not_not_intro rfl), p8, refuseC rfl nz1.symm, bd_some, p9, failsR rfl nz1.symm, bd_some, k3, k4, hg]
      unfold fX1_readQuarrel_J66 fX12_quarrelPart_J55 fX1_readQuarrel_J106 fX12_quarrelPart_J86
      rw [s_F_at, s_F_at, if_pos (flt_1 (by omega) (by omega)), if_pos (flt_1 (by omega) (by omega))]
      obtain ⟨pc, pr, l6, l7, l8, l9, l10⟩ := k6
      refine ⟨_, _, flt 0 sc (some 1), rfl, rfl, ⟨tpC_nf nfC_3 k1, tpR_nf nfR_21 k2, by rw [s_F_rd, if_pos ⟨rfl, rfl⟩], by rw [s_F_rd, if_pos ⟨rfl, rfl⟩], flt_ok ⟨0, by omega, nz0.symm⟩ (by omega) (fun d hd => by cases hd; omega), pc, pr, l6, l7, by rw [s_F_rd, if_neg (by omega)]; exact l8, by rw [s_F_rd, if_neg (by omega)]; exact l9, fun e => absurd e (flt_1 (by omega) (by omega))⟩, rdC_trans rC0 (rdC_nf nfC_3), rdR_trans rR0 (rdR_nf nfR_21), fun e => absurd e (flt_1 (by omega) (by omega))⟩
    · rw [if_pos (nI_ne heq (by omega) (by omega)), if_pos (nI_ne heq (by omega) (by omega))]
      unfold fX1_readQuarrel_J66 fX12_quarrelPart_J55 fX1_readQuarrel_J106 fX12_quarrelPart_J86
      have hok1 : i_ok (nI v1) 6 := ok_nI (by omega) (by omega)
      have hok2 : i_ok (nI v2) 6 := ok_nI (by omega) (by omega)
      rw [k3, k4, if_neg (not_not_intro hg), if_neg (not_not_intro hg)]
      simp only [if_pos hok1, if_pos hok2, jp, nI_clamp (show v1 < 2 ^ 31 by omega), nI_clamp (show v2 < 2 ^ 31 by omega)]
      have rowC : ∀ j, j < 6 → (s_A (s_A tC 5 v1 (tC.2.1 5 v1 ||| (1 <<< (nI v2 &&& 31)))) 5 v2 ((s_A tC 5 v1 (tC.2.1 5 v1 ||| (1 <<< (nI v2 &&& 31)))).2.1 5 v2 ||| (1 <<< (nI v1 &&& 31)))).2.1 5 j = qUp R.2.2.1 v1 v2 j := by
        intro j hj
        unfold qUp
        rw [s_A_up, s_A_up, upd_pt, upd_pt, upd_pt, upd_pt, upd_pt, upd_pt, e8.2.2.2.2.2.2.1 v1 (by omega), e8.2.2.2.2.2.2.1 v2 (by omega), e8.2.2.2.2.2.2.1 j hj]
      have rowR : ∀ j, j < 6 → (s_A (s_A tR 15 v1 (tR.2.1 15 v1 ||| (1 <<< (nI v2 &&& 31)))) 15 v2 ((s_A tR 15 v1 (tR.2.1 15 v1 ||| (1 <<< (nI v2 &&& 31)))).2.1 15 v2 ||| (1 <<< (nI v1 &&& 31)))).2.1 15 j = qUp R.2.2.1 v1 v2 j := by
        intro j hj
        unfold qUp
        rw [s_A_up, s_A_up, upd_pt, upd_pt, upd_pt, upd_pt, upd_pt, upd_pt, e9.2.2.2.2.2.1 v1 (by omega), e9.2.2.2.2.2.1 v2 (by omega), e9.2.2.2.2.2.1 j hj]
      refine ⟨_, _, g, rfl, rfl, PX_rd b3 (fun _ => rfl) (by rw [s_A_ne (by decide), s_A_ne (by decide)]) (fun _ => rfl) (by rw [s_A_ne (by decide), s_A_ne (by decide)]), rdC_trans rC0 (rdC_trans (rdC_A (by omega)) (rdC_A (by omega))), rdR_trans rR0 (rdR_trans (rdR_A (by omega)) (rdR_A (by omega))), fun _ => ⟨(R.1, R.2.1, qUp R.2.2.1 v1 v2, R.2.2.2), ⟨w1, ⟨w2.1, fun t ht u hu => ?_⟩, fun t ht ht6 => ?_⟩, ?_, ?_, hD⟩⟩
      · have ht' : t < R.1.2.2.1 := ht
        have hu32 : u < 32 := by
          by_cases hk : u < 32
          · exact hk
          · rw [BitVec.getLsbD_of_ge _ _ (by omega)] at hu
            cases hu
        rcases (qUp_lsb (by omega) (by omega) heq hu32).mp hu with e | ⟨e1, e2⟩ | ⟨e1, e2⟩
        · obtain ⟨k1, k2⟩ := w2.2 t ht' u e
          exact ⟨k1, (qUp_lsb (by omega) (by omega) heq (by omega)).mpr (Or.inl k2)⟩
        · subst e1 e2
          exact ⟨d2, (qUp_lsb (by omega) (by omega) heq (by omega)).mpr (Or.inr (Or.inr ⟨rfl, rfl⟩))⟩
        · subst e1 e2
          exact ⟨d1, (qUp_lsb (by omega) (by omega) heq (by omega)).mpr (Or.inr (Or.inl ⟨rfl, rfl⟩))⟩
      · have ht' : R.1.2.2.1 ≤ t := ht
        show qUp R.2.2.1 v1 v2 t = 0
        unfold qUp
        rw [upd_pt, if_neg (by omega), upd_pt, if_neg (by omega)]
        exact w3 t ht ht6
      · refine ⟨e8.1, e8.2.1, e8.2.2.1, e8.2.2.2.1, e8.2.2.2.2.1, ?_, rowC, ?_, ?_, ?_⟩
        · rw [s_A_ne (by decide), s_A_ne (by decide)]; exact e8.2.2.2.2.2.1
        · rw [s_A_ne (by decide), s_A_ne (by decide)]; exact e8.2.2.2.2.2.2.2.1
        · rw [s_A_ne (by decide), s_A_ne (by decide)]; exact e8.2.2.2.2.2.2.2.2.1
        · rw [s_A_ne (by decide), s_A_ne (by decide)]; exact e8.2.2.2.2.2.2.2.2.2
      · refine ⟨?_, ?_, ?_, ?_, ?_, rowR, ?_, ?_, ?_⟩
        · rw [s_A_ne (by decide), s_A_ne (by decide)]; exact e9.1
        · rw [s_A_ne (by decide), s_A_ne (by decide)]; exact e9.2.1
        · rw [s_A_ne (by decide), s_A_ne (by decide)]; exact e9.2.2.1
        · rw [s_A_ne (by decide), s_A_ne (by decide)]; exact e9.2.2.2.1
        · rw [s_A_ne (by decide), s_A_ne (by decide)]; exact e9.2.2.2.2.1
        · rw [s_A_ne (by decide), s_A_ne (by decide)]; exact e9.2.2.2.2.2.2.1
        · rw [s_A_ne (by decide), s_A_ne (by decide)]; exact e9.2.2.2.2.2.2.2.1
        · rw [s_A_ne (by decide), s_A_ne (by decide)]; exact e9.2.2.2.2.2.2.2.2
  · have hfin : rdOK σC σR tp (fX1_readQuarrel_J66 sh vC pC uC tC) (fX12_quarrelPart_J55 shR vR pR uR tR) := by
      unfold fX1_readQuarrel_J66 fX12_quarrelPart_J55 fX1_readQuarrel_J106 fX12_quarrelPart_J86
      rw [k3, k4, if_pos hg, if_pos hg]
      exact ⟨_, _, g, rfl, rfl, b3, rC0, rR0, fun e => absurd e hg⟩
    rw [k4, if_pos hg]
    by_cases he : vC = uC
    · rw [if_neg (not_not_intro he), p8, refuseC rfl nz1.symm, bd_some, k3, flt_f hg, s_F_self k3]
      exact hfin
    · rw [if_pos he]
      exact hfin
