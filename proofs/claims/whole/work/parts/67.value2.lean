/-! ===== a RULE is read: a word, a value ===== -/
theorem isW_rn {tp : List Nat} {s id : Nat} (h : wAt tp s id) : rn isL tp s = i_slen id := h.1
theorem fault0 {sC sR : St} {tp : List Nat} {sl s cnt c : Nat} {out : Cd} (hC : AC sC tp s out cnt) (hc : c ≤ 4) : ¬ flt 0 s (some c) = 0 ∧ fOK (flt 0 s (some c)) := by
  have h400 := hC.1.1
  have := hC.2.2.1
  exact ⟨flt_1 (by omega) hc, flt_ok f0 (by omega) (fun d hd => by cases hd; omega)⟩
theorem cnt_f {sh : List kd} {σ : St} {tp : List Nat} {f x : Int32} (h0 : ¬ f = 0) (h : FC σ tp f) (hx : ∃ s, x = nI s) : ∃ τ, fX8_countPart sh σ x = some ((), τ) ∧ fmC σ τ ∧ τ.1 1 2 = σ.1 1 2 ∧ FC τ tp f := by
  obtain ⟨s, rfl⟩ := hx
  unfold fX8_countPart fX8_countPart_J18
  by_cases h6 : σ.1 10 7 < 60
  · rw [if_pos h6]
    exact ⟨_, rfl, fmC_10 (by omega), by rw [s_F_rd, if_neg (by omega)], FC_7 h⟩
  · rw [if_neg h6, refuseC rfl (show (3 : Int32) = nI 3 from by decide), bd_some, h.2.1, flt_f h0, s_F_self h.2.1]
    exact ⟨_, rfl, fmC_10 (by omega), by rw [s_F_rd, if_neg (by omega)], FC_7 h⟩
theorem val_word {sh shR : List kd} {σC σR : St} {tp : List Nat} {sl s cnt : Nat} {out : Cd} {r2 : Int32} (hC : AC σC tp s out cnt) (hR : AR σR tp sl s out cnt) (hs : skp tp s = s) (hc : cnt ≤ 60) (hl : out.length < 300) (hsl : sl < 6) : ∃ τC τR, i_bd (fX9_wordIn sh σC 2) (fun r56 s57 => if ¬ r56 = (-1) then fX8_readValue_J87 sh r2 σC r56 s57 else i_bd (fX9_refuse sh s57 (σC.1 1 2) 0) (fun r120 s121 => fX8_readValue_J87 sh r2 σC r56 s121)) = some ((), τC) ∧ fX12_value_L37 shR σR (fun (x60 : Int32) (s61 : St) => fX12_value_X62 shR σR x60 s61) i_F 0 σR = some ((), τR) ∧ VE σC σR τC τR tp sl s out cnt := by
  have h400 := hC.1.1
  have hsle := hC.2.2.1
  have hrn := rn_le (f := isL) hsle
  rw [wordInC (ids := wds) chk_words (by decide) hC.1 hsle hC.2.2.2.1, bd_some, hs, s_F_self hC.2.2.2.1]
  rcases word12 (shR := shR) (s2 := σR) (K := fun (x60 : Int32) (s61 : St) => fX12_value_X62 shR σR x60 s61) hR.1 hR.2.2.1 hR.2.2.2.1 hR.2.2.2.2.2.2.2.1 with ⟨k, id, k1, k2, k3, k4, k5, k6⟩ | ⟨k5, k6⟩
  · have hk12 : ¬ nI k = 12 := by rw [show (12 : Int32) = nI 12 from by decide]; exact nI_ne (by omega) (by omega) (by omega)
    have hkm : ¬ nI k = -1 := fun e => by
      have : ¬ nI k < 0 := nI_pos (by omega)
      rw [e] at this
      exact this (by decide)
    rw [k5, k6, if_pos hkm]
    unfold fX8_readValue_J87 fX12_value_X62
    rw [skipWC hC.1 hsle hC.2.2.2.1, bd_some, hC.2.2.2.1, hR.2.2.2.2.2.2.2.1, if_pos hk12, hR.2.2.2.1]
    have aC := AC_p hC hrn
    obtain ⟨τ1, c1, c2, c3⟩ := cntC (sh := sh) (s := s) aC rfl hc
    obtain ⟨τ2, d1, d2, d20, d3⟩ := cntR (sh := shR) (s := s) hR rfl hc
    obtain ⟨id', w1, w2, w3⟩ := wordOfR k k1 shR τ2
    have : id' = id := by rw [k2] at w1; exact (Option.some.inj w1).symm
    subst this
    have hps : τ2.1 0 20 + Int32.ofNat (i_slen id') = nI (s + rn isL tp s) := by
      rw [d20, isW_rn k4]
      exact nI_add _ _
    rw [c1, bd_some, d1, bd_some, w3, bd_some, if_pos k3, hps]
    rcases c3 with ⟨c4, c5⟩ | ⟨c4, c5⟩
    · rcases d3 with ⟨d4, d5⟩ | ⟨d4, d5⟩
      · obtain ⟨τ3, e1, e2, e3⟩ := writeC (sh := sh) (k := 1) (v := nI k) c5 hl
        obtain ⟨τ4, g1, g2, g3⟩ := entryR (sh := shR) (k := 1) (v := nI k) (x := 1) (AR_p d5 hrn) hl hsl (by decide)
        rw [← nz1, e1, bd_some, nz1, g1, bd_some]
        exact ⟨_, _, rfl, rfl, fmC_trans (fmC_nf nfC_2) (fmC_trans c2 e3), fmR_trans d2 (fmR_trans (fmR_0 (by omega)) g3), Or.inl ⟨c4, (1, nI k), _, Nat.le_add_right _ _, Or.inr ⟨rfl, ok_nI k1 (by omega)⟩, e2, g2⟩⟩
      · exact absurd c4 d4
    · rcases d3 with ⟨d4, d5⟩ | ⟨d4, d5⟩
      · exact absurd d4 c4
      · obtain ⟨hn, hk⟩ := fault0 (sC := σC) (sR := σR) (sl := sl) (c := 3) hC (by omega)
        have d6 := FR_p d5 hrn
        rw [writeF (by rw [c5.2.1]; exact hn), bd_some, entryF (by rw [d6.2.1]; exact hn), bd_some]
        exact ⟨_, _, rfl, rfl, fmC_trans (fmC_nf nfC_2) c2, fmR_trans d2 (fmR_0 (by omega)), Or.inr ⟨_, hn, hk, c5, d6⟩⟩
  · rw [k5, k6, if_neg (not_not_intro rfl)]
    unfold fX8_readValue_J87 fX12_value_X62
    obtain ⟨hn, hk⟩ := fault0 (sC := σC) (sR := σR) (sl := sl) (c := 0) hC (by omega)
    rw [hR.2.2.2.2.2.2.2.1, if_neg (not_not_intro rfl), hC.2.2.2.1, hR.2.2.2.1, refuseC rfl nz0.symm, bd_some, failsR rfl nz0.symm, bd_some, hC.2.1, hR.2.1]
    have aC := AC_FC (f := flt 0 s (some 0)) hC
    rw [skipWC aC.1 hsle (by rw [s_F_rd, if_neg (by omega)]; exact hC.2.2.2.1), bd_some]
    obtain ⟨τ1, c1, c2, c3, c4⟩ := cnt_f (sh := sh) (x := nI s) hn (FC_p aC hrn) ⟨s, rfl⟩
    rw [c1, bd_some, writeF (by rw [c4.2.1]; exact hn), bd_some]
    exact ⟨_, _, rfl, rfl, fmC_trans (fmC_nf (nfC_trans nfC_3 nfC_2)) c2, fmR_0 (by omega), Or.inr ⟨_, hn, hk, c4, AR_FR hR⟩⟩
theorem val_both {sh shR : List kd} {σC σR : St} {tp : List Nat} {sl p cnt : Nat} {out : Cd} (hC : AC σC tp p out cnt) (hR : AR σR tp sl p out cnt) (hc : cnt ≤ 60) (hl : out.length < 300) (hsl : sl < 6) : ∃ τC τR, fX8_readValue sh σC = some ((), τC) ∧ fX12_value shR σR = some ((), τR) ∧ VE σC σR τC τR tp sl p out cnt := by
  have h400 := hC.1.1
  have hp := hC.2.2.1
  have hs := skp_le hp
  have aC := AC_p hC hs
  have aR := AR_p hR hs
  have hge : p ≤ skp tp p := skp_ge
  have fin : ∀ τC τR, VE (s_F σC 1 2 (nI (skp tp p))) (s_F σR 0 20 (nI (skp tp p))) τC τR tp sl (skp tp p) out cnt → VE σC σR τC τR tp sl p out cnt := by
    intro τC τR h
    refine ⟨fmC_trans (fmC_nf nfC_2) h.1, fmR_trans (fmR_0 (by omega)) h.2.1, ?_⟩
    rcases h.2.2 with ⟨h1, q, p', h2, h3⟩ | h1
    · exact Or.inl ⟨h1, q, p', Nat.le_trans hge h2, h3⟩
    · exact Or.inr h1
  have word : ∀ r2, ∃ τC τR, i_bd (fX9_wordIn sh (s_F σC 1 2 (nI (skp tp p))) 2) (fun r56 s57 => if ¬ r56 = (-1) then fX8_readValue_J87 sh r2 (s_F σC 1 2 (nI (skp tp p))) r56 s57 else i_bd (fX9_refuse sh s57 ((s_F σC 1 2 (nI (skp tp p))).1 1 2) 0) (fun r120 s121 => fX8_readValue_J87 sh r2 (s_F σC 1 2 (nI (skp tp p))) r56 s121)) = some ((), τC) ∧ fX12_value_L37 shR (s_F σR 0 20 (nI (skp tp p))) (fun (x60 : Int32) (s61 : St) => fX12_value_X62 shR (s_F σR 0 20 (nI (skp tp p))) x60 s61) i_F 0 (s_F σR 0 20 (nI (skp tp p))) = some ((), τR) ∧ VE σC σR τC τR tp sl p out cnt := by
    intro r2
    obtain ⟨τC, τR, e1, e2, e3⟩ := val_word (sh := sh) (shR := shR) (r2 := r2) aC aR skp_skp hc hl hsl
    exact ⟨τC, τR, e1, e2, fin _ _ e3⟩
  unfold fX8_readValue fX12_value
  rw [hC.2.1, if_pos rfl, signC _ σC p hC.1 hp rfl hC.2.2.2.1, bd_some, blanksR hR.1 (by omega) hR.2.2.2.1, bd_some, isDigR aR.1 (by omega) aR.2.2.2.1, bd_some]
  cases hb : tp[skp tp p]? with
  | none =>
    rw [sgn_n hb, dgV_n hb, if_pos (by decide), if_pos rfl]
    exact word _
  | some b =>
    have hb256 := (hC.1.2.2 _ b hb).1
    by_cases hd : isD b = true
    · have hd' : 48 ≤ b ∧ b ≤ 57 := by
        unfold isD at hd
        exact of_decide_eq_true hd
      rw [sgn_s hb, dgV_t hb hd, if_neg (by rw [show (48 : Int32) = nI 48 from by decide]; exact nI_nlt (by omega) (by omega)), if_neg (by rw [show (57 : Int32) = nI 57 from by decide]; exact nI_nlt (by omega) (by omega)), if_neg n10, aC.2.2.2.1, aR.2.2.2.1]
      obtain ⟨τC, τR, e1, e2, e3⟩ := val_num (sh := sh) (shR := shR) aC aR skp_skp hc hl hsl
      exact ⟨τC, τR, e1, e2, fin _ _ e3⟩
    · have hd' : ¬ (48 ≤ b ∧ b ≤ 57) := by
        intro e
        apply hd
        unfold isD
        exact decide_eq_true e
      rw [sgn_s hb, dgV_f hb hd]
      by_cases h48 : b < 48
      · rw [if_pos (by rw [show (48 : Int32) = nI 48 from by decide]; exact nI_lt (by omega) (by omega)), if_pos rfl]
        exact word _
      · rw [if_neg (by rw [show (48 : Int32) = nI 48 from by decide]; exact nI_nlt (by omega) (by omega)), if_pos (by rw [show (57 : Int32) = nI 57 from by decide]; exact nI_lt (by omega) (by omega)), if_pos rfl]
        exact word (nI b)
/-- in a fault -/
theorem val_fC {sh : List kd} {σ : St} (h : ¬ σ.1 1 3 = 0) : fX8_readValue sh σ = some ((), σ) := by
  unfold fX8_readValue
  rw [if_neg h]
