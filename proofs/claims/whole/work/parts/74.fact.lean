/-! ===== a FACT is read alike ===== -/
theorem J164_ok {sh : List kd} {s : St} {tp : List Nat} {sl p cnt d : Nat} {out : Cd} {S : List Nat} {k9 : Int32 → Int32 → Value → Value → St → Option (Unit × St)} (h : AR s tp sl p out cnt) (hT : ST s (S ++ [12]) (d + 1)) (hp : p + 1 ≤ tp.length) : ∃ τ, fX12_test_J164 sh 0 1 0 0 k9 s = k9 0 1 (.int 0) (.int 0) τ ∧ AR τ tp sl (p + 1) out cnt ∧ ST τ S d ∧ fmT sl s τ := by
  have hR := AR_p h hp
  obtain ⟨g1, g2, g3⟩ := hT
  rw [List.length_append] at g1
  have g1' : s.1 0 27 = nI (S.length + 1) := g1
  have e27 : (s_F s 0 20 (nI (p + 1))).1 0 27 = nI (S.length + 1) := by rw [s_F_rd, if_neg (by omega)]; exact g1'
  have e25 : (s_F (s_F s 0 20 (nI (p + 1))) 0 27 (nI S.length)).1 0 25 = nI (d + 1) := by rw [s_F_rd, if_neg (by omega), s_F_rd, if_neg (by omega)]; exact g2
  refine ⟨s_F (s_F (s_F s 0 20 (nI (p + 1))) 0 27 (nI S.length)) 0 25 (nI d), ?_, AR_k (by omega) (AR_k (by omega) hR), ⟨?_, s_F_at, fun k b hk => ?_⟩, fmT_trans (fmT_0 (by omega)) (fmT_trans (fmT_0 (by omega)) (fmT_0 (by omega)))⟩
  · unfold fX12_test_J164
    rw [h.2.2.2.1, nI_1, e27, nI_pred, e25, nI_pred]
    rfl
  · rw [s_F_rd, if_neg (by omega), s_F_at]
  · have hlt := (List.getElem?_eq_some_iff.mp hk).1
    exact g3 k b (by rw [List.getElem?_append_left hlt]; exact hk)
theorem J164_f {sh : List kd} {s : St} {tp : List Nat} {sl p : Nat} {f : Int32} {k9 : Int32 → Int32 → Value → Value → St → Option (Unit × St)} (h : FR s tp f) (ha : s.1 0 20 = nI p) (hp : p ≤ tp.length) : ∃ τ, fX12_test_J164 sh 0 1 0 0 k9 s = k9 0 1 (.int 0) (.int 0) τ ∧ FW τ tp f ∧ fmT sl s τ := by
  have h400 := h.1.1
  refine ⟨s_F (s_F (s_F s 0 20 (nI (p + 1))) 0 27 ((s_F s 0 20 (nI (p + 1))).1 0 27 - 1)) 0 25 ((s_F (s_F s 0 20 (nI (p + 1))) 0 27 ((s_F s 0 20 (nI (p + 1))).1 0 27 - 1)).1 0 25 - 1), ?_, ⟨tpR_F (by decide) (tpR_F (by decide) (tpR_F (by decide) h.1)), ?_, p + 1, by omega, ?_⟩, fmT_trans (fmT_0 (by omega)) (fmT_trans (fmT_0 (by omega)) (fmT_0 (by omega)))⟩
  · unfold fX12_test_J164
    rw [ha, nI_1]
    rfl
  · rw [s_F_rd, if_neg (by omega), s_F_rd, if_neg (by omega), s_F_rd, if_neg (by omega)]; exact h.2.1
  · rw [s_F_rd, if_neg (by omega), s_F_rd, if_neg (by omega), s_F_at]
theorem sl25 : i_slen 25 = 3 := by decide
theorem z01 : ((if ¬ (0 : Int32) = 0 then 0 else 1) : Int32) = 1 := rfl
theorem z10 : ((if ¬ (1 : Int32) = 0 then 0 else 1) : Int32) = 0 := rfl
theorem BD_not {o : Cd} {cnt k nt : Nat} (h : BD o cnt k nt) (hn : nt + 1 ≤ 150) : BD (o ++ [(2, 0)]) cnt k (nt + 1) := BD_op (k := k) ⟨h.1, h.2.1, by have := h.2.2.1; omega, hn⟩ (by omega)
theorem FW_p {σ : St} {tp : List Nat} {p : Nat} {f : Int32} (h : FW σ tp f) (hp : p < 900) : FW (s_F σ 0 20 (nI p)) tp f := ⟨tpR_nf nfR_20 h.1, by rw [s_F_rd, if_neg (by omega)]; exact h.2.1, p, hp, s_F_at⟩
theorem factP {sh shR : List kd} {tp : List Nat} {sl : Nat} (hsl : sl < 6) : ∀ (n d : Nat), d ≤ 10 → 11 ≤ d + n → FactP sh shR tp sl (rdF sh n) d := by
  intro n
  induction n with
  | zero => intro d h1 h2; omega
  | succ n ih =>
  intro d hd hdn N x3 x4 σC σR p o cnt nt K sk S hSp hC hR hT hb hnt hN
  have h400 := hC.1.1
  have hp := hC.2.2.1
  have hs := skp_le hp
  have hge : p ≤ skp tp p := skp_ge
  have hss : skp tp (skp tp p) = skp tp p := skp_skp
  obtain ⟨N, rfl⟩ : ∃ n', N = n' + 1 + 1 := ⟨N - 2, by omega⟩
  have aC := AC_p hC hs
  have aR := AR_p hR hs
  have aT : ST (s_F σR 0 20 (nI (skp tp p))) S d := ST_R (sl := sl) (fmR_0 (by omega)) hT
  have e10 : (10 : Int32) = nI 10 := by decide
  rw [L9_1 hR.2.1]
  show ∃ τC τR, fX8_readFact_o sh (fun σ p => fX8_readTest_o sh (rdF sh n) σ p) (rdF sh n) σC (nI d) = some ((), τC) ∧ _
  unfold fX8_readFact_o fX12_fact
  rw [hC.2.1, if_pos rfl, wordInC chk_not (by omega) hC.1 hp hC.2.2.2.1, bd_some, blanksR hR.1 (by omega) hR.2.2.2.1, bd_some]
  rcases stoodR (sh := shR) (k := 25) aR.1 hs aR.2.2.2.1 (by omega) with ⟨w, e⟩ | ⟨w, e⟩
  · -- NOT
    have hrn := rn_le (f := isL) hs
    have hr3 : rn isL tp (skp tp p) = 3 := w.1.trans sl25
    rw [hr3] at hrn
    rw [wi_t w, nz0, z01, if_pos n10, e, bd_some, if_neg n10, if_neg n10]
    obtain ⟨uR, o1, o2, o20, o3⟩ := openNB (sh := shR) (b := 9) (x := 9) (by decide) (Or.inl rfl) aR aT (by omega) hd
    rw [o1, bd_some, bd_some, z01, o20, show (3 : Int32) = nI 3 from by decide, nI_add]
    rcases o3 with ⟨o4, o5, o6⟩ | ⟨o4, o5⟩
    · rw [e10, if_pos (nI_lt o4 (by omega)), skipWC aC.1 hs aC.2.2.2.1, bd_some, s_F_F, hr3, nI_1]
      have bC := AC_p hC hrn
      have bR := AR_p o5 hrn
      have bT : ST (s_F uR 0 20 (nI (skp tp p + 3))) (S ++ [9]) (d + 1) := ST_R (sl := sl) (fmR_0 (by omega)) o6
      obtain ⟨τC, τR, f1, f2, f3, f4⟩ := ih (d + 1) (by omega) (by omega) (N + 1) x3 x4 _ _ (skp tp p + 3) o cnt nt (K + 3) sk (S ++ [9]) (by rw [List.length_append]; show S.length + 1 < _; omega) bC bR bT hb (by omega) (by omega)
      rw [f1, bd_some]
      rcases f4 with ⟨N', M', c', p', cnt', nt', q1, q2, q3, q4, q5, q6, q7, q8, q9, q10⟩ | ⟨⟨f, q1, q2, q3, q4⟩, q5⟩
      · have hp' := q8.2.2.1
        rw [List.length_append] at q2
        have q2' : S.length + 1 + 2 ≤ M' := q2
        obtain ⟨M', rfl⟩ : ∃ n', M' = n' + 1 := ⟨M' - 1, by omega⟩
        obtain ⟨vC, e1, e2, e3⟩ := writeC (sh := sh) (k := 2) (v := 0) q8 (BD_lt q6)
        obtain ⟨vR, b1, b2, b3, b4⟩ := ansPop (sh := shR) (S := S) (b := 9) (k := 2) (d := d) (M := M') (x := 9) (by decide) (Or.inl ⟨rfl, rfl⟩) hsl q9 q10 (by omega) (BD_lt q6)
        rw [← nz2, e1, bd_some]
        have eo : o ++ c' ++ [(2, (0 : Int32))] = o ++ (c' ++ [(2, 0)]) := by simp
        have q6' := BD_not q6 (by omega)
        rw [eo] at e2 b2 q6'
        refine ⟨vC, vR, rfl, fmC_trans (fmC_nf nfC_2) (fmC_trans f2 e3), fmT_trans (fmT_0 (by omega)) (fmT_trans o2 (fmT_trans (fmT_0 (by omega)) (fmT_trans f3 b4))), Or.inl ⟨N', M', c' ++ [(2, 0)], p', cnt', nt' + 1, ?_, by omega, q3, by omega, tst_not q5, q6', by omega, e2, b2, b3⟩⟩
        rw [q1]
        unfold gR
        rw [b1]
      · have hn1 : ¬ τC.1 1 3 = 0 := by rw [q3.2.1]; exact q1
        rw [writeF hn1, bd_some, q5]
        exact ⟨τC, τR, rfl, fmC_trans (fmC_nf nfC_2) f2, fmT_trans (fmT_0 (by omega)) (fmT_trans o2 (fmT_trans (fmT_0 (by omega)) f3)), Or.inr ⟨⟨f, q1, q2, q3, q4⟩, rfl⟩⟩
    · subst o4
      obtain ⟨hn, hk⟩ := fault0 (sR := σR) (sl := sl) (c := 2) aC (by omega)
      rw [e10, if_neg (nI_nlt (Nat.le_refl _) (by omega)), aC.2.2.2.1, refuseC rfl nz2.symm, bd_some, aC.2.1]
      have hW := FW_p (p := skp tp p + 3) (FR_W o5) (by omega)
      rw [L9_f (by rw [hW.2.1]; exact hn)]
      exact ⟨_, _, rfl, fmC_nf (nfC_trans nfC_2 nfC_3), fmT_trans (fmT_0 (by omega)) (fmT_trans o2 (fmT_0 (by omega))), Or.inr ⟨⟨_, hn, hk, AC_FC aC, hW⟩, rfl⟩⟩
  · have hr2 : ¬ wi tp (skp tp p) 0 [25] = 0 := by
      rw [wi_f w]
      show ¬ (-1 : Int32) = 0
      decide
    have zr : ((if ¬ wi tp (skp tp p) 0 [25] = 0 then 0 else 1) : Int32) = 0 := if_pos hr2
    rw [zr, if_neg nn00, e, bd_some, if_pos rfl, signC _ _ (skp tp p) aC.1 hs rfl aC.2.2.2.1, bd_some, hss, s_F_F, signR aR.1 (by omega) aR.2.2.2.1, bd_some]
    by_cases h91 : sgn tp (skp tp p) = 91
    · -- BRACKET
      have hlt : skp tp p < tp.length := sgn_lt (by rw [h91]; decide)
      rw [if_pos h91, if_neg (not_not_intro h91)]
      obtain ⟨uR, o1, o2, o20, o3⟩ := openNB (sh := shR) (b := 12) (x := 12) (by decide) (Or.inr rfl) aR aT (by omega) hd
      rw [o1, bd_some, bd_some, z01, o20, nI_1]
      rcases o3 with ⟨o4, o5, o6⟩ | ⟨o4, o5⟩
      · rw [e10, if_pos (nI_lt o4 (by omega)), if_pos rfl, takeSC aC, hss, if_pos h91, bd_some, s_F_F, nI_1]
        have bC := AC_p hC (show skp tp p + 1 ≤ tp.length by omega)
        have bR := AR_p o5 (show skp tp p + 1 ≤ tp.length by omega)
        have bT : ST (s_F uR 0 20 (nI (skp tp p + 1))) (S ++ [12]) (d + 1) := ST_R (sl := sl) (fmR_0 (by omega)) o6
        obtain ⟨τC, τR, f1, f2, f3, f4⟩ := testP (sh := sh) (shR := shR) (x3 := x3) (x4 := x4) (N := N + 1) (K := K) hsl (ih (d + 1) (by omega) (by omega)) (Or.inr ⟨S, rfl⟩) (by rw [List.length_append]; show S.length + 1 < _; omega) bC bR bT hb (by omega) (by omega)
        have f1' : (fun σ p => fX8_readTest_o sh (rdF sh n) σ p) (s_F σC 1 2 (nI (skp tp p + 1))) (nI (d + 1)) = some ((), τC) := f1
        rw [f1', bd_some]
        rcases f4 with ⟨N', c', p', cnt', nt', q1, q3, q4, q0, q5, q6, q7, q8, q9, q10⟩ | ⟨⟨f, q1, q2, q3, q4⟩, q5⟩
        · have hp' := q8.2.2.1
          rw [takeSC q8, q0, q1]
          unfold eR
          rw [topS q10 (by omega), bd_some, if_neg (not_not_intro (show nI 12 = 12 by decide)), signR q9.1 (by omega) q9.2.2.2.1, bd_some]
          obtain ⟨N', rfl⟩ : ∃ n', N' = n' + 1 := ⟨N' - 1, by omega⟩
          by_cases h93 : sgn tp p' = 93
          · have hlt' : p' < tp.length := sgn_lt (by rw [h93]; decide)
            rw [if_pos h93, if_pos h93, bd_some, if_pos n10]
            obtain ⟨vR, j1, j2, j3, j4⟩ := J164_ok (sh := shR) (k9 := fX12_test_L9 shR (N' + 1)) q9 q10 (show p' + 1 ≤ tp.length by omega)
            rw [j1, L9_g j2.2.1]
            exact ⟨_, vR, rfl, fmC_trans (fmC_nf nfC_2) (fmC_trans f2 (fmC_nf nfC_2)), fmT_trans (fmT_0 (by omega)) (fmT_trans o2 (fmT_trans (fmT_0 (by omega)) (fmT_trans f3 j4))), Or.inl ⟨N', i_F, c', p' + 1, cnt', nt', rfl, Nat.le_of_lt (i_F_gt (by omega)), by omega, by omega, q5, q6, by omega, AC_p q8 (by omega), j2, j3⟩⟩
          · obtain ⟨hn, hk⟩ := fault0 (sR := σR) (sl := sl) (c := 0) q8 (by omega)
            rw [if_neg h93, if_neg h93, bd_some, if_neg nn00, s_F_self q8.2.2.2.1, q8.2.2.2.1, refuseC rfl nz0.symm, bd_some, q8.2.1, q9.2.2.2.1, failsR rfl nz0.symm, bd_some, q9.2.1]
            have bR' := AR_FR (f := flt 0 p' (some 0)) q9
            obtain ⟨vR, j1, j2, j3⟩ := J164_f (sh := shR) (sl := sl) (p := p') (k9 := fX12_test_L9 shR (N' + 1)) bR' (by rw [s_F_rd, if_neg (by omega)]; exact q9.2.2.2.1) hp'
            rw [j1, L9_f (by rw [j2.2.1]; exact hn)]
            exact ⟨_, vR, rfl, fmC_trans (fmC_nf nfC_2) (fmC_trans f2 (fmC_nf nfC_3)), fmT_trans (fmT_0 (by omega)) (fmT_trans o2 (fmT_trans (fmT_0 (by omega)) (fmT_trans f3 (fmT_trans (fmT_0 (by omega)) j3)))), Or.inr ⟨⟨_, hn, hk, AC_FC q8, j2⟩, rfl⟩⟩
        · have hn1 : ¬ τC.1 1 3 = 0 := by rw [q3.2.1]; exact q1
          obtain ⟨c1, c2, pc, c3, c4⟩ := q3
          rw [takeSf hn1, bd_some, if_neg nn00, c4, refuseC rfl nz0.symm, bd_some, c2, flt_f q1, s_F_self c2, q5]
          exact ⟨_, _, rfl, fmC_trans (fmC_nf nfC_2) f2, fmT_trans (fmT_0 (by omega)) (fmT_trans o2 (fmT_trans (fmT_0 (by omega)) f3)), Or.inr ⟨⟨f, q1, q2, ⟨c1, c2, pc, c3, c4⟩, q4⟩, rfl⟩⟩
      · subst o4
        obtain ⟨hn, hk⟩ := fault0 (sR := σR) (sl := sl) (c := 2) aC (by omega)
        rw [e10, if_neg (nI_nlt (Nat.le_refl _) (by omega)), aC.2.2.2.1, refuseC rfl nz2.symm, bd_some, aC.2.1, nI_1]
        have hW := FW_p (p := skp tp p + 1) (FR_W o5) (by omega)
        rw [L9_f (by rw [hW.2.1]; exact hn)]
        exact ⟨_, _, rfl, fmC_nf (nfC_trans nfC_2 nfC_3), fmT_trans (fmT_0 (by omega)) (fmT_trans o2 (fmT_0 (by omega))), Or.inr ⟨⟨_, hn, hk, AC_FC aC, hW⟩, rfl⟩⟩
    · -- COMPARED
      rw [if_neg h91, if_pos h91]
      obtain ⟨τC, τR, f1, f2, f3, f4, f5⟩ := cmp_both (sh := sh) (shR := shR) hsl (show 0 < skp tp p by omega) aC aR hb (nI d) (wi tp (skp tp p) 0 [25])
      rw [f1, f2, bd_some, bd_some, z10]
      rcases f5 with ⟨c', p', cnt', q4, q2, q5, q6, q8, q9⟩ | hFL
      · have hp' := q8.2.2.1
        rw [L9_g q9.2.1]
        exact ⟨τC, τR, rfl, fmC_trans (fmC_nf nfC_2) f3, fmT_trans (fmT_0 (by omega)) (fmT_R f4), Or.inl ⟨N, i_F, c', p', cnt', nt, rfl, Nat.le_of_lt (i_F_gt (by omega)), by omega, by omega, q5, BD_le q6 (by omega), by omega, q8, q9, ST_R f4 aT⟩⟩
      · obtain ⟨f, q1, q2, q3, q4⟩ := hFL
        rw [L9_f (by rw [q4.2.1]; exact q1)]
        exact ⟨τC, τR, rfl, fmC_trans (fmC_nf nfC_2) f3, fmT_trans (fmT_0 (by omega)) (fmT_R f4), Or.inr ⟨⟨f, q1, q2, q3, FR_W q4⟩, rfl⟩⟩
