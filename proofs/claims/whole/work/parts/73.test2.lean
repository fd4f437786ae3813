/-! ===== a TEST is read alike ===== -/
def wI (w : Bool) : Int32 := if w then 1 else 0
def wn (w : Bool) : Nat := if w then 1 else 0
theorem orFlush {sh shR : List kd} {σC sR : St} {tp : List Nat} {sl p q cnt nt sk d : Nat} {o c : Cd} {S : List Nat} {w : Bool} (hsl : sl < 6) (hS : bas S) (hSl : S.length < 400) (hC : AC σC tp p (o ++ c) cnt) (hR : AR sR tp sl q (o ++ c) cnt) (hT : ST sR (S ++ orW w) d) (hw : tw w c) (hb : BD (o ++ c) cnt (sk + 2 + wn w) nt) :
    ∃ tC tR c', (∀ K : St → Option (Unit × St), (if wI w = 0 then K σC else i_bd (fX8_write sh σC 14 0) (fun _ s => K s)) = K tC) ∧ fX12_answers shR sR 11 = some ((), tR) ∧ AC tC tp p (o ++ c') cnt ∧ AR tR tp sl q (o ++ c') cnt ∧ ST tR S d ∧ isTst c' ∧ BD (o ++ c') cnt (sk + 2) nt ∧ fmC σC tC ∧ fmT sl sR tR := by
  unfold fX12_answers
  have hF : 2 < i_F := i_F_gt (by omega)
  generalize i_F = F at hF ⊢
  obtain ⟨F, rfl⟩ : ∃ n', F = n' + 1 + 1 := ⟨F - 2, by omega⟩
  have stop : ∀ T c, S = T ++ [c] → c ≠ 11 ∧ c < 100 := fun T c e => by
    have := last_bas hS (w := false) (a := false) T c (by show S ++ [] ++ [] = _; rw [List.append_nil, List.append_nil]; exact e)
    have h2 : c = 11 → False := fun e => by have := this.2.2 e; cases this
    refine ⟨h2, ?_⟩
    have := this.1
    omega
  cases w with
  | true =>
    obtain ⟨c1, c2, hc, hc1, hc2⟩ : ∃ c1 c2, c = c1 ++ c2 ∧ isTst c1 ∧ isTst c2 := hw
    have hl := BD_lt hb
    obtain ⟨tC, e1, e2, e3⟩ := writeC (sh := sh) (k := 14) (v := 0) hC hl
    obtain ⟨tR, b1, b2, b3, b4⟩ := ansPop (sh := shR) (S := S) (b := 11) (k := 14) (d := d) (M := F + 1) (x := 11) (by decide) (Or.inr (Or.inr ⟨rfl, rfl⟩)) hsl hR hT (by omega) hl
    rw [b1, ansStop (b := 11) (by decide) (by omega) b3 (by omega) stop]
    refine ⟨tC, tR, c ++ [(14, 0)], fun K => ?_, rfl, by rw [← List.append_assoc]; exact e2, by rw [← List.append_assoc]; exact b2, b3, ?_, ?_, e3, b4⟩
    · rw [if_neg (by decide)]
      rw [← nz14, e1, bd_some]
    · rw [hc]
      exact tst_join hc1 hc2 (Or.inr rfl)
    · rw [← List.append_assoc]
      exact BD_op hb (by omega)
  | false =>
    have hT' : ST sR S d := by
      have : ST sR (S ++ []) d := hT
      rwa [List.append_nil] at this
    rw [ansStop (b := 11) (by decide) (by omega) hT' (by omega) stop]
    exact ⟨σC, sR, c, fun K => if_pos rfl, rfl, hC, hR, hT', hw, hb, fmC_refl, fmT_refl⟩
theorem sl26 : i_slen 26 = 3 := by decide
theorem sl27 : i_slen 27 = 2 := by decide
theorem tw_and {w : Bool} {c c1 : Cd} (h : tw w c) (h1 : isTst c1) : tw w (c ++ c1 ++ [(13, 0)]) := by
  cases w with
  | true =>
    obtain ⟨a, b, e1, e2, e3⟩ : ∃ c1 c2, c = c1 ++ c2 ∧ isTst c1 ∧ isTst c2 := h
    show ∃ d1 d2, _ = d1 ++ d2 ∧ isTst d1 ∧ isTst d2
    exact ⟨a, b ++ c1 ++ [(13, 0)], by rw [e1]; simp, e2, tst_join e3 h1 (Or.inl rfl)⟩
  | false => exact tst_join (show isTst c from h) h1 (Or.inl rfl)
theorem tLoop {sh shR : List kd} {tp : List Nat} {sl d : Nat} {rF : St → Int32 → Option (Unit × St)} {o : Cd} {K sk p0 : Nat} {S : List Nat} (hsl : sl < 6) (hF : FactP sh shR tp sl rF d) (hS : bas S) : ∀ (m n N1 N M : Nat) (w a : Bool) (σC σR : St) (p : Nat) (outR c : Cd) (cnt nt : Nat),
    tp.length - p = m → m < N1 → n < p → 2 * (tp.length - p) + 4 ≤ N → 0 < M → S.length < p → AC σC tp p (o ++ c) cnt → AR σR tp sl p outR cnt → o ++ c = outR ++ anC a → ST σR (S ++ orW w ++ anP a) d → tw w c → BD (o ++ c) cnt (sk + 2 + wn w) nt → 3 * nt + K ≤ p → p0 < p →
    TestQ sh shR tp sl (fX8_readTest_L9 sh rF (nI d) (kT sh (nI d)) N1 (wI w) (nI n) σC) (gR shR N M σR) σC σR p0 o K sk S d := by
  intro m
  induction m using Nat.strongRecOn with
  | ind m ih =>
  intro n N1 N M w a σC σR p outR c cnt nt hm hN1 hnp hN hM hSp hC hR ho hT hw hb hnt hp0
  obtain ⟨N1, rfl⟩ : ∃ n', N1 = n' + 1 := ⟨N1 - 1, by omega⟩
  have h400 := hC.1.1
  have hp := hC.2.2.1
  have hge : p ≤ skp tp p := skp_ge
  have hol : outR.length < 299 := by
    have h1 : (o ++ c).length = outR.length + (anC a).length := by rw [ho, List.length_append]
    have h2 := hb.2.2.1
    have h3 := hb.1
    have h4 := hb.2.2.2
    omega
  obtain ⟨sR, r66, r69, g1, g2, g3, g4, g5, g6⟩ := gR_head (shR := shR) (N := N) (M := M) hsl hS hSp hR hT hM hol
  rw [← ho] at g2
  rw [g1, fX8_readTest_L9, show (400 : Int32) = nI 400 from by decide, if_neg (nI_ge (by omega) (by omega)), hC.2.1, if_neg (not_not_intro rfl)]
  have hlw : (S ++ orW w).length ≤ S.length + 1 := by
    rw [List.length_append]
    cases w <;> simp [orW]
  rcases takeWC (sh := sh) (w := 5) (id := 26) chk_and (by omega) hC with ⟨t1, t2, t3⟩ | ⟨t1, t3⟩
  · -- AND
    rw [sl26] at t2 t3
    rw [t3, bd_some, if_neg n10]
    have h66 : r66 = 1 := by
      rcases g5 with ⟨_, e⟩ | ⟨e, _⟩
      · exact e
      · exact absurd t1 e
    have h69 : r69 = 0 := by
      rcases g6 with ⟨e, _⟩ | ⟨_, e⟩
      · have a1 := isW_rn e
        have a2 := isW_rn t1
        rw [sl27] at a1
        rw [sl26] at a2
        omega
      · exact e
    subst h66 h69
    unfold gT
    rw [if_pos n10, if_pos rfl]
    unfold fX12_test_J93
    obtain ⟨uR, o1, o2, o3, o4⟩ := openAO (sh := shR) (b := 10) (x := (if (1 : Int32) = 0 then 11 else 10 : Int32)) (by decide) (Or.inl rfl) g2 g3 (by omega)
    rw [o1, bd_some, o2.2.2.2.1, show ((if (1 : Int32) = 0 then 2 else 3) : Int32) = nI 3 from by decide, nI_add]
    have aC := AC_p hC t2
    have aR := AR_p o2 t2
    have o3' : ST (s_F uR 0 20 (nI (skp tp p + 3))) (S ++ orW w ++ [10]) d := ST_R (sl := sl) (fmR_0 (by omega)) o3
    obtain ⟨τC, τR, f1, f2, f3, f4⟩ := hF N (.int 1) (.int 0) _ _ (skp tp p + 3) (o ++ c) cnt nt K (sk + 2 + wn w) (S ++ orW w ++ [10]) (by rw [List.length_append]; show (S ++ orW w).length + 1 < _; omega) aC aR o3' hb (by omega) (by omega)
    rw [f1, bd_some]
    rcases f4 with ⟨N', M', c', p', cnt', nt', q1, q2, q3, q4, q5, q6, q7, q8, q9, q10⟩ | ⟨⟨f, q1, q2, q3, q4⟩, q5⟩
    · obtain ⟨vC, e1, e2, e3⟩ := writeC (sh := sh) (k := 13) (v := 0) q8 (BD_lt q6)
      have q6' := BD_op (o := 13) (v := 0) q6 (by omega)
      have eo : o ++ c ++ c' ++ [(13, (0 : Int32))] = o ++ (c ++ c' ++ [(13, 0)]) := by simp
      have e2' := e2
      rw [eo] at e2 q6'
      have hp' := q8.2.2.1
      rw [← nz13, e1, bd_some, nI_1, q1]
      obtain ⟨xC, xR, x1, x2, x3, x4⟩ := ih (tp.length - p') (by omega) (n + 1) N1 N' M' w true vC τR p' (o ++ c ++ c') (c ++ c' ++ [(13, 0)]) cnt' nt' rfl (by omega) (by omega) q3 (by omega) (by omega) e2 q9 eo.symm q10 (tw_and hw q5) (BD_le q6' (by omega)) q7 (by omega)
      exact ⟨xC, xR, x1, fmC_trans (fmC_nf nfC_2) (fmC_trans f2 (fmC_trans e3 x2)), fmT_trans g4 (fmT_trans o4 (fmT_trans (fmT_0 (by omega)) (fmT_trans f3 x3))), x4⟩
    · have hn1 : ¬ τC.1 1 3 = 0 := by rw [q3.2.1]; exact q1
      rw [writeF hn1, bd_some, q5]
      refine ⟨τC, τR, tL_f (by omega) hn1, fmC_trans (fmC_nf nfC_2) f2, fmT_trans g4 (fmT_trans o4 (fmT_trans (fmT_0 (by omega)) f3)), Or.inr ⟨⟨f, q1, q2, q3, q4⟩, rfl⟩⟩
  · rw [t3, bd_some, if_pos rfl]
    have h66 : r66 = 0 := by
      rcases g5 with ⟨e, _⟩ | ⟨_, e⟩
      · exact absurd e t1
      · exact e
    subst h66
    have aC := AC_p hC (skp_le hp)
    have hss : skp tp (skp tp p) = skp tp p := skp_skp
    rcases takeWC (sh := sh) (w := 6) (id := 27) chk_or (by omega) aC with ⟨u1, u2, u3⟩ | ⟨u1, u3⟩
    · -- OR
      rw [hss] at u1 u2 u3
      rw [sl27] at u2 u3
      rw [s_F_F] at u3
      rw [u3, bd_some, if_neg n10]
      have h69 : r69 = 1 := by
        rcases g6 with ⟨_, e⟩ | ⟨e, _⟩
        · exact e
        · exact absurd u1 e
      subst h69
      unfold gT
      rw [if_neg nn00, if_neg n10, if_neg n10]
      obtain ⟨tC, tR, c1, k1, k2, k3, k4, k5, k6, k7, k8, k9⟩ := orFlush (sh := sh) (shR := shR) (sk := sk) hsl hS (by omega) (AC_p hC u2) g2 g3 hw hb
      have k1' := k1 (fun s => fX8_readTest_J76 sh rF (nI d) (wI w) (nI n) (fX8_readTest_L9 sh rF (nI d) (kT sh (nI d)) N1) s)
      rw [k2, bd_some]
      unfold fX12_test_J93_404
      obtain ⟨uR, o1, o2, o3, o4⟩ := openAO (sh := shR) (b := 11) (x := (if (0 : Int32) = 0 then 11 else 10 : Int32)) (by decide) (Or.inr rfl) k4 k5 (by omega)
      rw [o1, bd_some, o2.2.2.2.1, show ((if (0 : Int32) = 0 then 2 else 3) : Int32) = nI 2 from by decide, nI_add]
      rw [k1']
      unfold fX8_readTest_J76
      have aR := AR_p o2 u2
      have o3' : ST (s_F uR 0 20 (nI (skp tp p + 2))) (S ++ [11]) d := ST_R (sl := sl) (fmR_0 (by omega)) o3
      obtain ⟨τC, τR, f1, f2, f3, f4⟩ := hF N (.int 0) (.int 1) _ _ (skp tp p + 2) (o ++ c1) cnt nt K (sk + 2) (S ++ [11]) (by rw [List.length_append]; show S.length + 1 < _; omega) k3 aR o3' k7 (by omega) (by omega)
      rw [f1, bd_some]
      rcases f4 with ⟨N', M', c', p', cnt', nt', q1, q2, q3, q4, q5, q6, q7, q8, q9, q10⟩ | ⟨⟨f, q1, q2, q3, q4⟩, q5⟩
      · have hp' := q8.2.2.1
        have eo : o ++ c1 ++ c' = o ++ (c1 ++ c') := by simp
        rw [eo] at q6 q8 q9
        rw [nI_1, q1]
        obtain ⟨xC, xR, x1, x2, x3, x4⟩ := ih (tp.length - p') (by omega) (n + 1) N1 N' M' true false τC τR p' (o ++ (c1 ++ c')) (c1 ++ c') cnt' nt' rfl (by omega) (by omega) q3 (by omega) (by omega) q8 q9 (by show _ = _ ++ []; rw [List.append_nil]) (by show ST τR (S ++ [11] ++ []) d; rw [List.append_nil]; exact q10) (show ∃ d1 d2, _ = d1 ++ d2 ∧ isTst d1 ∧ isTst d2 from ⟨c1, c', rfl, k6, q5⟩) (BD_le q6 (by show sk + 2 + 1 ≤ _; omega)) q7 (by omega)
        exact ⟨xC, xR, x1, fmC_trans (fmC_nf nfC_2) (fmC_trans k8 (fmC_trans f2 x2)), fmT_trans g4 (fmT_trans k9 (fmT_trans o4 (fmT_trans (fmT_0 (by omega)) (fmT_trans f3 x3)))), x4⟩
      · have hn1 : ¬ τC.1 1 3 = 0 := by rw [q3.2.1]; exact q1
        rw [q5]
        refine ⟨τC, τR, tL_f (by omega) hn1, fmC_trans (fmC_nf nfC_2) (fmC_trans k8 f2), fmT_trans g4 (fmT_trans k9 (fmT_trans o4 (fmT_trans (fmT_0 (by omega)) f3))), Or.inr ⟨⟨f, q1, q2, q3, q4⟩, rfl⟩⟩
    · -- the end
      rw [hss] at u1 u3
      rw [s_F_F] at u3
      rw [u3, bd_some, if_pos rfl]
      have h69 : r69 = 0 := by
        rcases g6 with ⟨e, _⟩ | ⟨_, e⟩
        · exact absurd e u1
        · exact e
      subst h69
      unfold gT
      rw [if_neg nn00, if_pos rfl]
      obtain ⟨tC, tR, c1, k1, k2, k3, k4, k5, k6, k7, k8, k9⟩ := orFlush (sh := sh) (shR := shR) (sk := sk) hsl hS (by omega) aC g2 g3 hw hb
      rw [k2, bd_some]
      exact ⟨tC, tR, k1 (fun s => some ((), s)), fmC_trans (fmC_nf nfC_2) k8, fmT_trans g4 k9, Or.inl ⟨N, c1, skp tp p, cnt, nt, rfl, by omega, by omega, hss, k6, k7, by omega, k3, k4, k5⟩⟩
/-- a TEST -/
theorem testP {sh shR : List kd} {tp : List Nat} {sl d : Nat} {rF : St → Int32 → Option (Unit × St)} (hsl : sl < 6) (hF : FactP sh shR tp sl rF d) {N : Nat} {x3 x4 : Value} {σC σR : St} {p : Nat} {o : Cd} {cnt nt K sk : Nat} {S : List Nat} (hS : bas S) (hSp : S.length < p) (hC : AC σC tp p o cnt) (hR : AR σR tp sl p o cnt) (hT : ST σR S d) (hb : BD o cnt sk nt) (hnt : 3 * nt + K ≤ p) (hN : 2 * (tp.length - p) + 4 ≤ N) : TestQ sh shR tp sl (fX8_readTest_o sh rF σC (nI d)) (fX12_test_L9 shR N 1 1 x3 x4 σR) σC σR p o K sk S d := by
  have h400 := hC.1.1
  obtain ⟨τC, τR, f1, f2, f3, f4⟩ := hF N x3 x4 σC σR p o cnt nt K sk S hSp hC hR hT hb hnt hN
  unfold fX8_readTest_o
  rw [f1, bd_some]
  rcases f4 with ⟨N', M', c', p', cnt', nt', q1, q2, q3, q4, q5, q6, q7, q8, q9, q10⟩ | ⟨⟨f, q1, q2, q3, q4⟩, q5⟩
  · rw [q1]
    have hp' := q8.2.2.1
    obtain ⟨xC, xR, x1, x2, x3, x4⟩ := tLoop (sh := sh) (shR := shR) (o := o) (K := K) (sk := sk) (p0 := p) (S := S) hsl hF hS _ 0 i_F N' M' false false τC τR p' (o ++ c') c' cnt' nt' rfl (i_F_gt (by omega)) (by omega) q3 (by omega) (by omega) q8 q9 (by show _ = _ ++ []; rw [List.append_nil]) (by show ST τR (S ++ [] ++ []) d; rw [List.append_nil, List.append_nil]; exact q10) q5 q6 q7 q4
    exact ⟨xC, xR, x1, fmC_trans f2 x2, fmT_trans f3 x3, x4⟩
  · have hn1 : ¬ τC.1 1 3 = 0 := by rw [q3.2.1]; exact q1
    rw [q5]
    exact ⟨τC, τR, tL_f (i_F_gt (by omega)) hn1, f2, f3, Or.inr ⟨⟨f, q1, q2, q3, q4⟩, rfl⟩⟩
