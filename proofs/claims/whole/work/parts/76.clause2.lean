/-! ===== a CLAUSE of a RULE is read alike ===== -/
noncomputable def clT (sh : List kd) (K : St → Option (Int32 × St)) (s168 : St) : Option (Int32 × St) := i_bd (fX8_closeSum sh s168) (fun r170 s171 => i_bd (fX9_takeWord sh s171 3) (fun r173 s174 => if r173 = 0 then i_bd (fX8_closeClause sh s174) (fun _ s => K s) else i_bd (fX8_readTest sh s174 0) (fun r240 s241 => i_bd (fX8_closeClause sh s241) (fun _ s => K s))))
noncomputable def clK (sh : List kd) (K : St → Option (Int32 × St)) (s5 : St) : Option (Int32 × St) := i_bd (fX8_openClause sh s5) (fun r164 s165 => i_bd (fX8_readSum sh s165) (fun r167 s168 => clT sh K s168))
theorem clT_f {sh : List kd} {σ : St} {tp : List Nat} {f : Int32} {k : Nat} (h0 : ¬ f = 0) (h : FC σ tp f) (h6 : σ.1 10 6 = nI k) (hk : k ≤ 12) : ∃ τ, (∀ K, clT sh K σ = K τ) ∧ FC τ tp f ∧ fmC' σ τ := by
  by_cases h12 : k = 12
  · refine ⟨σ, fun K => ?_, h, fmC'_refl⟩
    unfold clT
    rw [closeS h6 hk, bd_some, if_pos h12, takeWf (by rw [h.2.1]; exact h0), bd_some, if_pos rfl, closeCl h6 hk, bd_some, if_pos h12]
  · have h1 := FC_13 (i := 13) (k := k) (x := σ.1 10 5) (Or.inl rfl) h
    refine ⟨s_F (s_A (s_A σ 13 k (σ.1 10 5)) 14 k (σ.1 10 5)) 10 6 (nI (k + 1)), fun K => ?_, FC_6 (FC_13 (Or.inr rfl) h1), fmC'_trans (fmC'_A (Or.inl rfl)) (fmC'_trans (fmC'_A (Or.inr rfl)) fmC'_6)⟩
    unfold clT
    rw [closeS h6 hk, bd_some, if_neg h12, takeWf (by rw [h1.2.1]; exact h0), bd_some, if_pos rfl, closeCl (σ := s_A σ 13 k (σ.1 10 5)) (k := k) h6 hk, bd_some, if_neg h12]
    rfl
theorem sl12 : i_slen 12 = 4 := by decide
theorem sl24 : i_slen 24 = 2 := by decide
theorem takesR {sh : List kd} {σ : St} {tp : List Nat} {sl p cnt : Nat} {out : Cd} (h : AR σ tp sl p out cnt) : (wAt tp (skp tp p) 24 ∧ fX12_takes sh σ 24 = some (1, s_F σ 0 20 (nI (skp tp p + 2)))) ∨ (¬ wAt tp (skp tp p) 24 ∧ fX12_takes sh σ 24 = some (0, s_F σ 0 20 (nI (skp tp p)))) := by
  have h400 := h.1.1
  have hs := skp_le h.2.2.1
  have hR := AR_p h hs
  unfold fX12_takes fX12_takes_J27
  rw [blanksR h.1 (by have := h.2.2.1; omega) h.2.2.2.1, bd_some]
  rcases stoodR (sh := sh) (k := 24) hR.1 hs hR.2.2.2.1 (by omega) with ⟨w, e⟩ | ⟨w, e⟩
  · left
    rw [e, bd_some, if_neg n10, if_pos (by omega), hR.2.2.2.1, if_pos (and1_01 (Or.inr rfl)), s_F_F, sl24]
    exact ⟨w, by rw [show (Int32.ofNat 2) = nI 2 from rfl, nI_add]⟩
  · right
    rw [e, bd_some, if_pos rfl, hR.2.2.2.1, if_pos (and1_01 (Or.inl rfl)), s_F_F, Int32.add_zero]
    exact ⟨w, rfl⟩
theorem wfCl_snoc {cl : Cl} {q : Cd × Cd} (h : wfCl cl) (h1 : isSum q.1) (h2 : q.2.length = 0 ∨ isTst q.2) (h3 : pus q.1 ≤ 64) (h4 : pus q.2 ≤ 64) : wfCl (cl ++ [q]) := by
  intro u hu
  rcases List.mem_append.mp hu with e | e
  · exact h u e
  · rw [List.mem_singleton] at e
    subst e
    exact ⟨h1, h2, h3, h4⟩
theorem sum_1 {c : Cd} (h : puN 1 c) : isSum c := by
  intro w s
  obtain ⟨xs, h1, h2⟩ := h w s
  match xs, h1 with
  | [x], _ => exact ⟨x, h2⟩
/-- behind the words of a CLAUSE: both close it -/
theorem cl_close {σC σR τC τR vC vR : St} {tp : List Nat} {sl p p' cnt cnt' nt nt' : Nat} {cl : Cl} {c1 c2 : Cd} (hsl : sl < 6) (h : CI σC σR tp sl p cnt nt cl) (hk : cl.length < 12) (h1 : puN 1 c1) (h2 : c2.length = 0 ∨ isTst c2)
    (aC : AC τC tp p' (flat cl ++ c1 ++ c2) cnt') (aR : AR τR tp sl p' (flat cl ++ c1 ++ c2) cnt') (hd : τR.1 0 25 = nI 0) (hb : BD (flat cl ++ c1 ++ c2) cnt' 0 nt') (hnt : 3 * nt' ≤ p')
    (e13 : τC.2.1 13 = upd (σC.2.1 13) cl.length (nI (tl cl + c1.length))) (e14 : τC.2.1 14 = σC.2.1 14)
    (e23 : τR.2.1 23 = upd (σR.2.1 23) (12 * sl + cl.length) (nI (tl cl))) (e24 : τR.2.1 24 = upd (σR.2.1 24) (12 * sl + cl.length) (nI (tl cl + c1.length))) (e25 : τR.2.1 25 = σR.2.1 25)
    (hvC : vC = s_F (s_A τC 14 cl.length (τC.1 10 5)) 10 6 (nI (cl.length + 1))) (hvR : vR = s_A τR 25 (12 * sl + cl.length) (τR.1 0 24)) : CI vC vR tp sl p' cnt' nt' (cl ++ [(c1, c2)]) := by
  subst hvC hvR
  obtain ⟨_, _, g1, g2, g3, g4, g5, g6, g7, g8⟩ := h
  have ef : flat (cl ++ [(c1, c2)]) = flat cl ++ c1 ++ c2 := by
    rw [flat_app]
    show flat cl ++ (c1 ++ c2 ++ []) = _
    simp
  have el : (flat cl ++ c1 ++ c2).length = tl cl + c1.length + c2.length := by rw [List.length_append, List.length_append, flat_tl]
  have hpu := hb.2.1
  rw [pus_app, pus_app] at hpu
  have hb1 := hb.1
  refine ⟨by rw [ef]; exact AC_6 (AC_13 (Or.inr rfl) aC), by rw [ef]; exact AR_23 (by omega) aR, by rw [List.length_append]; show cl.length + 1 ≤ 12; omega, by rw [s_F_at, List.length_append]; rfl, hd, ?_, ?_, wfCl_snoc g6 (sum_1 h1) h2 (by show pus c1 ≤ 64; omega) (by show pus c2 ≤ 64; omega), by rw [ef]; exact hb, hnt⟩
  · rw [s_F_A, s_A_ne (by decide), s_A_up, e13, e14, aC.2.2.2.2.1, el]
    refine enC_snoc cl 0 0 (enC_ext cl 0 0 (fun j _ hj => ⟨?_, ?_⟩) g4) ?_ ?_
    · rw [upd_pt, if_neg (by omega)]
    · rw [upd_pt, if_neg (by omega)]
    · rw [upd_pt, if_pos (by omega), Nat.zero_add]
    · rw [upd_pt, if_pos (by omega), Nat.zero_add]
  · rw [s_A_ne (by decide), s_A_ne (by decide), s_A_up, e23, e24, e25, aR.2.2.2.2.1, el]
    refine enR_snoc cl 0 0 (enR_ext cl 0 0 (fun j _ hj => ⟨?_, ?_, ?_⟩) g5) ?_ ?_ ?_
    · rw [upd_pt, if_neg (by omega)]
    · rw [upd_pt, if_neg (by omega)]
    · rw [upd_pt, if_neg (by omega)]
    · rw [upd_pt, if_pos (by omega), Nat.zero_add]
    · rw [upd_pt, if_pos (by omega), Nat.zero_add]
    · rw [upd_pt, if_pos (by omega), Nat.zero_add]
def clOK (sh shR : List kd) (σC σR : St) (tp : List Nat) (sl p : Nat) (cl : Cl) (y : Option (Unit × St)) : Prop := ∃ τC τR, (∀ K, clK sh K σC = K τC) ∧ y = some ((), τR) ∧ fmC' σC τC ∧ fmR' sl σR τR ∧ ((∃ p' cnt' nt' q, p < p' ∧ CI τC τR tp sl p' cnt' nt' (cl ++ [q])) ∨ FL' τC τR tp)
theorem clause_both {sh shR : List kd} {σC σR : St} {tp : List Nat} {sl p cnt nt : Nat} {cl : Cl} (hsl : sl < 6) (h : CI σC σR tp sl p cnt nt cl) : clOK sh shR σC σR tp sl p cl (fX12_ruleClause shR σR (nI cl.length)) := by
  obtain ⟨hC, hR, hk12, h6, hd, hen, hern, hwf, hb, hnt⟩ := id h
  have h400 := hC.1.1
  have hp := hC.2.2.1
  have hs := skp_le hp
  have hge : p ≤ skp tp p := skp_ge
  have aC := AC_p hC hs
  have aR := AR_p hR hs
  have a6 : (s_F σC 1 2 (nI (skp tp p))).1 10 6 = nI cl.length := by rw [s_F_rd, if_neg (by omega)]; exact h6
  unfold clOK fX12_ruleClause
  rw [blanksR hR.1 (by omega) hR.2.2.2.1, bd_some]
  have hop : fX8_openClause sh σC = if ¬ wi tp (skp tp p) 0 [12] = -1 then (if nI cl.length < nI 12 then i_bd (fX9_skipWord sh (s_F σC 1 2 (nI (skp tp p)))) (fun r57 s58 => some ((), s58)) else i_bd (fX9_refuse sh (s_F σC 1 2 (nI (skp tp p))) (nI (skp tp p)) 4) (fun r60 s61 => some ((), s61))) else i_bd (fX9_refuse sh (s_F σC 1 2 (nI (skp tp p))) (nI (skp tp p)) 0) (fun r63 s64 => some ((), s64)) := by
    unfold fX8_openClause fX8_openClause_J65
    rw [wordInC chk_hold (by omega) hC.1 hp hC.2.2.2.1, bd_some, a6, aC.2.2.2.1, show (12 : Int32) = nI 12 from by decide]
  have flt3 : ∀ c, c ≤ 4 → fX8_openClause sh σC = some ((), s_F (s_F σC 1 2 (nI (skp tp p))) 1 3 (flt 0 (skp tp p) (some c))) → ∀ y, y = some ((), s_F (s_F σR 0 20 (nI (skp tp p))) 0 21 (flt 0 (skp tp p) (some c))) → ∃ τC τR, (∀ K, clK sh K σC = K τC) ∧ y = some ((), τR) ∧ fmC' σC τC ∧ fmR' sl σR τR ∧ ((∃ p' cnt' nt' q, p < p' ∧ CI τC τR tp sl p' cnt' nt' (cl ++ [q])) ∨ FL' τC τR tp) := by
    intro c hc hoc y hy
    obtain ⟨hn, hk⟩ := fault0 (sR := σR) (sl := sl) (c := c) aC hc
    have bC := AC_FC (f := flt 0 (skp tp p) (some c)) aC
    have bR := AR_FR (f := flt 0 (skp tp p) (some c)) aR
    obtain ⟨τ, t1, t2, t3⟩ := clT_f (sh := sh) (k := cl.length) hn bC (by rw [s_F_rd, if_neg (by omega)]; exact a6) hk12
    refine ⟨τ, _, fun K => ?_, hy, fmC'_trans (fmC'_C (fmC_nf (nfC_trans nfC_2 nfC_3))) t3, fmR'_T (fmT_R (fmR_nf (nfR_trans nfR_20 nfR_21))), Or.inr ⟨_, hn, hk, t2, FR_W bR⟩⟩
    unfold clK
    rw [hoc, bd_some, sum_fC (by rw [bC.2.1]; exact hn), bd_some, t1]
  rcases stoodR (sh := shR) (k := 12) aR.1 hs aR.2.2.2.1 (by omega) with ⟨w, e⟩ | ⟨w, e⟩
  · rw [wi_t w, nz0, if_pos (by decide)] at hop
    rw [e, bd_some, if_pos n10, show (12 : Int32) = nI 12 from by decide]
    by_cases hlt : cl.length < 12
    · have hrn := rn_le (f := isL) hs
      have hr4 : rn isL tp (skp tp p) = 4 := w.1.trans sl12
      rw [hr4] at hrn
      rw [if_pos (nI_lt hlt (by omega)), skipWC aC.1 hs aC.2.2.2.1, bd_some, s_F_F, hr4] at hop
      have bC := AC_p hC hrn
      have bR0 := AR_p hR hrn
      have e22 : (s_F σR 0 20 (nI (skp tp p + 4))).1 0 22 = nI sl := bR0.2.2.2.2.2.2.1
      have e24 : (s_F σR 0 20 (nI (skp tp p + 4))).1 0 24 = nI (tl cl) := by rw [bR0.2.2.2.2.1, flat_tl]
      have hix : i_ok (nI (12 * sl + cl.length)) 72 := ok_nI (by omega) (by omega)
      have hcx : (nI (12 * sl + cl.length)).toNatClampNeg = 12 * sl + cl.length := nI_clamp (by omega)
      unfold fX12_ruleClause_J104
      rw [if_pos (nI_ne (by omega) (by omega) (by omega)), aR.2.2.2.1, show (4 : Int32) = nI 4 from by decide, nI_add, s_F_F]
      simp only [e22, e24, ← show (12 : Int32) = nI 12 from by decide, i12 sl hsl, nI_add, if_pos hix, hcx, jp]
      have bR := AR_23 (i := 23) (k := 12 * sl + cl.length) (x := nI (tl cl)) (by omega) bR0
      obtain ⟨s1, s2, a1, a2, a3, a4, a5⟩ := sum_both (sh := sh) (shR := shR) hsl (show 0 < skp tp p + 4 by omega) bC bR hb
      rw [a2, bd_some]
      have fC1 : fmC' σC s1 := fmC'_trans (fmC'_C (fmC_nf nfC_2)) (fmC'_C a3)
      have fR1 : fmR' sl σR s2 := fmR'_trans (fmR'_T (fmT_0 (by omega))) (fmR'_trans (fmR'_A (i := 23) (k := 12 * sl + cl.length) (by omega) (by omega)) (fmR'_T (fmT_R a4)))
      have s16 : s1.1 10 6 = nI cl.length := by rw [a3.1 10 6 (by omega) (by omega), s_F_rd, if_neg (by omega)]; exact h6
      have s225 : s2.1 0 25 = nI 0 := by rw [a4.1 0 25 (by omega), s_A_F, s_F_rd, if_neg (by omega)]; exact hd
      have r13 : s1.2.1 13 = σC.2.1 13 := by rw [a3.2.1 13 (by decide) (by decide), s_F_A]
      have r14 : s1.2.1 14 = σC.2.1 14 := by rw [a3.2.1 14 (by decide) (by decide), s_F_A]
      have r23 : s2.2.1 23 = upd (σR.2.1 23) (12 * sl + cl.length) (nI (tl cl)) := by rw [a4.2.1 23 (by decide) (by decide), s_A_up, s_F_A]
      have r24 : s2.2.1 24 = σR.2.1 24 := by rw [a4.2.1 24 (by decide) (by decide), s_A_ne (by decide), s_F_A]
      have r25 : s2.2.1 25 = σR.2.1 25 := by rw [a4.2.1 25 (by decide) (by decide), s_A_ne (by decide), s_F_A]
      rcases a5 with ⟨c1, q, cnt1, b1, b2, b0, b3, b4, b5, b6⟩ | ⟨f, b1, b2, b3, b4⟩
      · have hl1 : (flat cl ++ c1).length = tl cl + c1.length := by rw [List.length_append, flat_tl]
        have d5 := AC_13 (i := 13) (k := cl.length) (x := s1.1 10 5) (Or.inl rfl) b5
        have d6 := AR_23 (i := 24) (k := 12 * sl + cl.length) (x := s2.1 0 24) (by omega) b6
        have t13 : (s_A s1 13 cl.length (s1.1 10 5)).2.1 13 = upd (σC.2.1 13) cl.length (nI (tl cl + c1.length)) := by rw [s_A_up, r13, b5.2.2.2.2.1, hl1]
        have t14 : (s_A s1 13 cl.length (s1.1 10 5)).2.1 14 = σC.2.1 14 := by rw [s_A_ne (by decide), r14]
        have t24 : (s_A s2 24 (12 * sl + cl.length) (s2.1 0 24)).2.1 24 = upd (σR.2.1 24) (12 * sl + cl.length) (nI (tl cl + c1.length)) := by rw [s_A_up, r24, b6.2.2.2.2.1, hl1]
        have t23 : (s_A s2 24 (12 * sl + cl.length) (s2.1 0 24)).2.1 23 = upd (σR.2.1 23) (12 * sl + cl.length) (nI (tl cl)) := by rw [s_A_ne (by decide), r23]
        have t25 : (s_A s2 24 (12 * sl + cl.length) (s2.1 0 24)).2.1 25 = σR.2.1 25 := by rw [s_A_ne (by decide), r25]
        have fC2 : fmC' σC (s_A s1 13 cl.length (s1.1 10 5)) := fmC'_trans fC1 (fmC'_A (Or.inl rfl))
        have fR2 : fmR' sl σR (s_A s2 24 (12 * sl + cl.length) (s2.1 0 24)) := fmR'_trans fR1 (fmR'_A (by omega) (by omega))
        have hq' := b5.2.2.1
        have hclose : fX8_closeSum sh s1 = some ((), s_A s1 13 cl.length (s1.1 10 5)) := by rw [closeS s16 hk12, if_neg (by omega)]
        rw [s_A_F, b6.2.1, if_neg (not_not_intro rfl)]
        rcases takesR (sh := shR) d6 with ⟨w1, k1⟩ | ⟨w1, k1⟩
        · -- IF
          rw [b0] at w1 k1
          rcases takeWC (sh := sh) (w := 3) (id := 24) chk_if (by omega) d5 with ⟨u1, u2, u3⟩ | ⟨u1, u3⟩
          · rw [b0, sl24] at u2 u3
            rw [k1, bd_some, if_neg n10]
            unfold fX12_test
            have eC := AC_p d5 u2
            have eRR := AR_k (k := 27) (x := 0) (Or.inr rfl) (AR_p d6 u2)
            have eT : ST (s_F (s_F (s_A s2 24 (12 * sl + cl.length) (s2.1 0 24)) 0 20 (nI (q + 2))) 0 27 0) [] 0 := ⟨s_F_at.trans (by decide), by rw [s_F_rd, if_neg (by omega), s_F_rd, if_neg (by omega)]; exact s225, fun k b hk => by cases hk⟩
            obtain ⟨x1, x2, y1, y2, y3, y4⟩ := testP (sh := sh) (shR := shR) (K := 0) (N := i_F) (x3 := .retAddr 0) (x4 := .retAddr 0) hsl (factP hsl 12 0 (by omega) (by omega)) (Or.inl rfl) (show ([] : List Nat).length < q + 2 by show 0 < _; omega) eC eRR eT (BD_le b4 (show 0 ≤ _ by omega)) (show 3 * nt + 0 ≤ q + 2 by omega) (Nat.le_of_lt (i_F_gt (by omega)))
            have y1' : fX8_readTest sh (s_F (s_A s1 13 cl.length (s1.1 10 5)) 1 2 (nI (q + 2))) 0 = some ((), x1) := by
              rw [← nz0]
              exact y1
            have z6 : x1.1 10 6 = nI cl.length := by rw [y2.1 10 6 (by omega) (by omega), s_F_rd, if_neg (by omega), s_A_F]; exact s16
            have hchain : ∀ K, clK sh K σC = K (s_F (s_A x1 14 cl.length (x1.1 10 5)) 10 6 (nI (cl.length + 1))) := by
              intro K
              unfold clK clT
              rw [hop, bd_some, a1, bd_some, hclose, bd_some, u3, bd_some, if_neg n10, y1', bd_some, closeCl z6 hk12, bd_some, if_neg (by omega)]
            have fC3 : fmC' σC (s_F (s_A x1 14 cl.length (x1.1 10 5)) 10 6 (nI (cl.length + 1))) := fmC'_trans fC2 (fmC'_trans (fmC'_C (fmC_trans (fmC_nf nfC_2) y2)) (fmC'_trans (fmC'_A (Or.inr rfl)) fmC'_6))
            have fR3 : fmR' sl σR (s_A x2 25 (12 * sl + cl.length) (x2.1 0 24)) := fmR'_trans fR2 (fmR'_trans (fmR'_T (fmT_trans (fmT_0 (by omega)) (fmT_trans (fmT_0 (by omega)) y3))) (fmR'_A (by omega) (by omega)))
            rcases y4 with ⟨N', c', p', cnt', nt', q1, q3, q4, q0, q5, q6, q7, q8, q9, q10⟩ | ⟨⟨f, q1, q2, q3, q4⟩, q5⟩
            · rw [q1]
              unfold eR
              rw [top0 q10, bd_some, if_pos (by decide)]
              obtain ⟨N', rfl⟩ : ∃ n', N' = n' + 1 := ⟨N' - 1, by omega⟩
              rw [L9_e, bd_some]
              refine ⟨_, _, hchain, rfl, fC3, fR3, Or.inl ⟨p', cnt', nt', (c1, c'), by omega, cl_close (τC := x1) (τR := x2) hsl h hlt b3 (Or.inr q5) q8 q9 ?_ (BD_le q6 (by omega)) (by omega) ?_ ?_ ?_ ?_ ?_ rfl rfl⟩⟩
              · exact q10.2.1
              · rw [y2.2.1 13 (by decide) (by decide), s_F_A]; exact t13
              · rw [y2.2.1 14 (by decide) (by decide), s_F_A]; exact t14
              · rw [y3.2.1 23 (by decide) (by decide) (by decide), s_F_A, s_F_A]; exact t23
              · rw [y3.2.1 24 (by decide) (by decide) (by decide), s_F_A, s_F_A]; exact t24
              · rw [y3.2.1 25 (by decide) (by decide) (by decide), s_F_A, s_F_A]; exact t25
            · rw [q5, bd_some]
              exact ⟨_, _, hchain, rfl, fC3, fR3, Or.inr ⟨f, q1, q2, FC_6 (FC_13 (Or.inr rfl) q3), FW_23 (by omega) q4⟩⟩
          · rw [b0] at u1
            exact absurd w1 u1
        · rw [b0] at w1 k1
          rcases takeWC (sh := sh) (w := 3) (id := 24) chk_if (by omega) d5 with ⟨u1, u2, u3⟩ | ⟨u1, u3⟩
          · rw [b0] at u1
            exact absurd u1 w1
          · rw [b0, s_F_self d5.2.2.2.1] at u3
            rw [k1, bd_some, if_pos rfl, s_F_self d6.2.2.2.1]
            refine ⟨_, _, fun K => ?_, rfl, fmC'_trans fC2 (fmC'_trans (fmC'_A (Or.inr rfl)) fmC'_6), fmR'_trans fR2 (fmR'_A (by omega) (by omega)), Or.inl ⟨q, cnt1, nt, (c1, []), by omega, cl_close (c2 := []) (τC := s_A s1 13 cl.length (s1.1 10 5)) (τR := s_A s2 24 (12 * sl + cl.length) (s2.1 0 24)) hsl h hlt b3 (Or.inl rfl) (by rw [List.append_nil]; exact d5) (by rw [List.append_nil]; exact d6) s225 (by rw [List.append_nil]; exact BD_le b4 (by omega)) (by omega) t13 t14 t23 t24 t25 rfl rfl⟩⟩
            unfold clK clT
            rw [hop, bd_some, a1, bd_some, hclose, bd_some, u3, bd_some, if_pos rfl, closeCl (σ := s_A s1 13 cl.length (s1.1 10 5)) (k := cl.length) s16 hk12, bd_some, if_neg (by omega)]
      · obtain ⟨τ, t1, t2, t3⟩ := clT_f (sh := sh) b1 b3 s16 hk12
        rw [s_A_F, if_pos (by rw [b4.2.1]; exact b1)]
        refine ⟨τ, _, fun K => ?_, rfl, fmC'_trans fC1 t3, fmR'_trans fR1 (fmR'_trans (fmR'_A (i := 24) (by omega) (by omega)) (fmR'_A (i := 25) (by omega) (by omega))), Or.inr ⟨f, b1, b2, t2, FW_23 (by omega) (FW_23 (by omega) (FR_W b4))⟩⟩
        unfold clK
        rw [hop, bd_some, a1, bd_some, t1]
    · have h12 : cl.length = 12 := by omega
      rw [h12] at hop
      rw [if_neg (nI_nlt (Nat.le_refl _) (by omega)), refuseC rfl nz4.symm, bd_some, aC.2.1] at hop
      rw [h12, if_neg (not_not_intro rfl), aR.2.2.2.1, failsR rfl nz4.symm, bd_some, aR.2.1]
      exact flt3 4 (by omega) hop _ rfl
  · have hm1 : wi tp (skp tp p) 0 [12] = -1 := by
      rw [wi_f w]
      rfl
    rw [hm1, if_neg (not_not_intro rfl), refuseC rfl nz0.symm, bd_some, aC.2.1] at hop
    rw [e, bd_some, if_neg nn00, aR.2.2.2.1, failsR rfl nz0.symm, bd_some, aR.2.1]
    exact flt3 0 (by omega) hop _ rfl
