/-! ===== a SUM is read alike ===== -/
def SE (σC σR τC τR : St) (tp : List Nat) (sl p : Nat) (o : Cd) (cnt nt sk : Nat) : Prop := fmC σC τC ∧ fmR sl σR τR ∧ ((∃ c' p' cnt', p ≤ p' ∧ cnt ≤ cnt' ∧ skp tp p' = p' ∧ puN 1 c' ∧ BD (o ++ c') cnt' (sk + 1) nt ∧ AC τC tp p' (o ++ c') cnt' ∧ AR τR tp sl p' (o ++ c') cnt') ∨ FL τC τR tp)
theorem flush {sh shR : List kd} {σC σR : St} {tp : List Nat} {sl p p' cnt nt sk : Nat} {o c : Cd} {pe : Option Nat} (hsl : sl < 6) (hpe : pOK pe) (hC : AC σC tp p (o ++ c) cnt) (hR : AR σR tp sl p' (o ++ c) cnt) (hn : puN (1 + pn pe) c) (hb : BD (o ++ c) cnt (sk + 1 + pn pe) nt) :
    ∃ sC sR c', (∀ K : St → Option (Unit × St), (if pI pe = -1 then K σC else i_bd (fX8_write sh σC (pI pe) 0) (fun _ s => K s)) = K sC) ∧ (∀ N v, TR shR pe N v σR = fX12_sum_L4 shR N v sR) ∧ AC sC tp p (o ++ c') cnt ∧ AR sR tp sl p' (o ++ c') cnt ∧ puN 1 c' ∧ BD (o ++ c') cnt (sk + 1) nt ∧ fmC σC sC ∧ fmR sl σR sR := by
  cases pe with
  | none => exact ⟨σC, σR, c, fun K => if_pos rfl, fun N v => rfl, hC, hR, hn, hb, fmC_refl, fmR_refl⟩
  | some k =>
    have hk : ¬ pI (some k) = -1 := by
      rcases hpe with e | e
      · subst e; decide
      · subst e; decide
    have hl := BD_lt hb
    obtain ⟨τ3, e1, e2, e3⟩ := writeC (sh := sh) (k := k) (v := 0) hC hl
    obtain ⟨τ4, g1, g2, g3⟩ := entryR (sh := shR) (k := k) (v := 0) hR hl hsl rfl
    refine ⟨τ3, τ4, c ++ [(k, 0)], fun K => ?_, fun N v => ?_, by rw [← List.append_assoc]; exact e2, by rw [← List.append_assoc]; exact g2, puN_op (k := 0) hn (by rcases hpe with e | e <;> omega) (by rcases hpe with e | e <;> omega), ?_, e3, g3⟩
    · rw [if_neg hk]
      show i_bd (fX8_write sh σC (nI k) 0) _ = _
      rw [e1, bd_some]
    · show i_bd (fX12_entry shR σR (nI (om k)) 0) (fun _ s => fX12_sum_L4 shR N v s) = _
      rw [g1, bd_some]
    · rw [← List.append_assoc]
      exact BD_op hb (by rcases hpe with e | e <;> omega)
theorem sgn_lt {tp : List Nat} {s : Nat} (h : ¬ sgn tp s = -1) : s < tp.length := by
  cases e : tp[s]? with
  | none => exact absurd (sgn_n e) h
  | some b => exact at_lt e
theorem mulC {sh : List kd} {σ : St} {tp : List Nat} {p n N cnt k : Nat} {out : Cd} {x4 x : Int32} {v6 : Value} (h : AC σ tp p out cnt) (hn : n < p) (hx : sgn tp (skp tp p) = x) (hk : (x = 42 ∧ k = 5) ∨ (x = 47 ∧ k = 6) ∨ (x = 37 ∧ k = 7)) : fX8_readSum_L8 sh (kS sh) (N + 1) x4 (nI n) v6 σ = i_bd (fX8_readValue sh (s_F σ 1 2 (nI (skp tp p + 1)))) (fun _ s70 => i_bd (fX8_write sh s70 (nI k) 0) (fun _ s73 => fX8_readSum_L8 sh (kS sh) N x4 (nI (n + 1)) (.int x) s73)) := by
  have h400 := h.1.1
  have hp := h.2.2.1
  rw [fX8_readSum_L8, show (400 : Int32) = nI 400 from by decide, if_neg (nI_ge (by omega) (by omega)), h.2.1, if_neg (not_not_intro rfl), signC _ σ p h.1 hp rfl h.2.2.2.1, bd_some, hx]
  simp only [s_F_at, nI_1, s_F_F]
  rcases hk with ⟨e1, e2⟩ | ⟨e1, e2⟩ | ⟨e1, e2⟩
  · subst e1 e2; rfl
  · subst e1 e2; rfl
  · subst e1 e2; rfl
theorem mulR {sh : List kd} {σ : St} {tp : List Nat} {sl s N cnt k : Nat} {out : Cd} {x : Int32} {v7 : Value} (h : AR σ tp sl s out cnt) (hx : sgn tp s = x) (hk : (x = 42 ∧ k = 5) ∨ (x = 47 ∧ k = 6) ∨ (x = 37 ∧ k = 7)) : fX12_term_L8 sh (N + 1) v7 σ = i_bd (fX12_value sh (s_F σ 0 20 (nI (s + 1)))) (fun _ s122 => i_bd (fX12_entry sh s122 (nI (om k)) 0) (fun _ s125 => i_bd (fX12_blanks sh s125) (fun _ s128 => fX12_term_L8 sh N (.int (nI (om k))) s128))) := by
  have h400 := h.1.1
  have hp := h.2.2.1
  have hsg := signR (sh := sh) h.1 (show s < 1000 by omega) h.2.2.2.1
  rw [fX12_term_L8, h.2.1, if_neg (not_not_intro rfl)]
  simp only [hsg, bd_some, hx, fX12_term_J72, fX12_term_J72_193, fX12_term_J72_266, h.2.2.2.1, nI_1]
  rcases hk with ⟨e1, e2⟩ | ⟨e1, e2⟩ | ⟨e1, e2⟩
  · subst e1 e2; rfl
  · subst e1 e2; rfl
  · subst e1 e2; rfl
theorem endT {sh : List kd} {σ : St} {tp : List Nat} {sl s N cnt : Nat} {out : Cd} {v7 : Value} (h : AR σ tp sl s out cnt) (h1 : ¬ sgn tp s = 42) (h2 : ¬ sgn tp s = 47) (h3 : ¬ sgn tp s = 37) : fX12_term_L8 sh (N + 1) v7 σ = some ((), σ) := by
  have h400 := h.1.1
  have hp := h.2.2.1
  have hsg := signR (sh := sh) h.1 (show s < 1000 by omega) h.2.2.2.1
  rw [fX12_term_L8, h.2.1, if_neg (not_not_intro rfl)]
  simp only [hsg, bd_some]
  rw [if_neg h1, if_neg h2, if_pos h3]
  rfl
theorem addC {sh : List kd} {σ : St} {tp : List Nat} {p n N cnt : Nat} {out : Cd} {pe : Option Nat} {v6 : Value} (h : AC σ tp p out cnt) (hn : n < p) (h1 : ¬ sgn tp (skp tp p) = 42) (h2 : ¬ sgn tp (skp tp p) = 47) (h3 : ¬ sgn tp (skp tp p) = 37) : fX8_readSum_L8 sh (kS sh) (N + 1) (pI pe) (nI n) v6 σ = if sgn tp (skp tp p) = 43 ∨ sgn tp (skp tp p) = 45 then (if pI pe = -1 then fX8_readSum_J122 sh (pI pe) (nI n) (sgn tp (skp tp p)) (fX8_readSum_L8 sh (kS sh) N) (s_F σ 1 2 (nI (skp tp p))) else i_bd (fX8_write sh (s_F σ 1 2 (nI (skp tp p))) (pI pe) 0) (fun _ s => fX8_readSum_J122 sh (pI pe) (nI n) (sgn tp (skp tp p)) (fX8_readSum_L8 sh (kS sh) N) s)) else (if pI pe = -1 then some ((), (s_F σ 1 2 (nI (skp tp p)))) else i_bd (fX8_write sh (s_F σ 1 2 (nI (skp tp p))) (pI pe) 0) (fun _ s => some ((), s))) := by
  have h400 := h.1.1
  have hp := h.2.2.1
  rw [fX8_readSum_L8, show (400 : Int32) = nI 400 from by decide, if_neg (nI_ge (by omega) (by omega)), h.2.1, if_neg (not_not_intro rfl), signC _ σ p h.1 hp rfl h.2.2.2.1, bd_some, if_neg h1, if_neg h2, if_pos h3]
  by_cases h43 : sgn tp (skp tp p) = 43
  · rw [if_pos h43, if_pos (Or.inl h43)]
  · rw [if_neg h43]
    by_cases h45 : sgn tp (skp tp p) = 45
    · rw [if_neg (not_not_intro h45), if_pos (Or.inr h45)]
      rfl
    · rw [if_pos h45, if_neg (by rintro (e | e); exact h43 e; exact h45 e)]
      rfl
theorem addR {sh : List kd} {σ : St} {tp : List Nat} {sl s N cnt : Nat} {out : Cd} {v : Value} (h : AR σ tp sl s out cnt) : fX12_sum_L4 sh (N + 1) v σ = if sgn tp s = 43 ∨ sgn tp s = 45 then i_bd (fX12_term sh (s_F σ 0 20 (nI (s + 1)))) (fun _ s67 => i_bd (fX12_entry sh s67 ((if ¬ sgn tp s = 43 then 3 else 2) : Int32) 0) (fun _ s70 => fX12_sum_L4 sh N (.int ((if ¬ sgn tp s = 43 then 3 else 2) : Int32)) s70)) else some ((), σ) := by
  have h400 := h.1.1
  have hp := h.2.2.1
  have hsg := signR (sh := sh) h.1 (show s < 1000 by omega) h.2.2.2.1
  rw [fX12_sum_L4, h.2.1, if_neg (not_not_intro rfl)]
  simp only [hsg, bd_some, h.2.2.2.1, nI_1]
  by_cases h43 : sgn tp s = 43
  · rw [if_pos h43, if_pos (Or.inl h43)]
  · rw [if_neg h43]
    by_cases h45 : sgn tp s = 45
    · rw [if_neg (not_not_intro h45), if_pos (Or.inr h45)]
    · rw [if_pos h45, if_neg (by rintro (e | e); exact h43 e; exact h45 e)]
      rfl
theorem sumL {sh shR : List kd} {tp : List Nat} {sl nt sk : Nat} {o : Cd} (hsl : sl < 6) : ∀ (m N1 N2 N3 n p cnt : Nat) (v6 v7 v : Value) (σC σR : St) (c : Cd) (pe : Option Nat), tp.length - p = m → m < N1 → m < N2 → m < N3 → n < p → pOK pe → AC σC tp p (o ++ c) cnt → AR σR tp sl (skp tp p) (o ++ c) cnt → puN (1 + pn pe) c → BD (o ++ c) cnt (sk + 1 + pn pe) nt →
    ∃ τC τR, fX8_readSum_L8 sh (kS sh) N1 (pI pe) (nI n) v6 σC = some ((), τC) ∧ i_bd (fX12_term_L8 shR N2 v7 σR) (fun _ s => TR shR pe N3 v s) = some ((), τR) ∧ SE σC σR τC τR tp sl p o cnt nt sk := by
  intro m
  induction m using Nat.strongRecOn with
  | ind m ih =>
  intro N1 N2 N3 n p cnt v6 v7 v σC σR c pe hm hN1 hN2 hN3 hnp hpe hC hR hu hb
  obtain ⟨N1, rfl⟩ : ∃ n', N1 = n' + 1 := ⟨N1 - 1, by omega⟩
  obtain ⟨N2, rfl⟩ : ∃ n', N2 = n' + 1 := ⟨N2 - 1, by omega⟩
  obtain ⟨N3, rfl⟩ : ∃ n', N3 = n' + 1 := ⟨N3 - 1, by omega⟩
  have h400 := hC.1.1
  have hp := hC.2.2.1
  have hge : p ≤ skp tp p := skp_ge
  have hl := BD_lt hb
  by_cases hmul : ∃ x k, sgn tp (skp tp p) = x ∧ ((x = 42 ∧ k = 5) ∨ (x = 47 ∧ k = 6) ∨ (x = 37 ∧ k = 7))
  · obtain ⟨x, k, hx, hk⟩ := hmul
    have hlt : skp tp p < tp.length := sgn_lt (by rw [hx]; rcases hk with ⟨e, _⟩ | ⟨e, _⟩ | ⟨e, _⟩ <;> (rw [e]; decide))
    have hk57 : 5 ≤ k ∧ k ≤ 7 := by omega
    rw [mulC hC hnp hx hk, mulR hR hx hk]
    obtain ⟨τ1, τ2, a1, a2, a3, a4, a5⟩ := val_both (sh := sh) (shR := shR) (AC_p hC (show skp tp p + 1 ≤ tp.length by omega)) (AR_p hR (show skp tp p + 1 ≤ tp.length by omega)) hb.1 hl hsl
    rw [a1, bd_some, a2, bd_some]
    rcases a5 with ⟨b1, q, p', b2, b3, b4, b5⟩ | ⟨f, b1, b2, b3, b4⟩
    · have hb1 := BD_v (q := q) hb b1
      have hl1 := BD_lt hb1
      obtain ⟨τ3, e1, e2, e3⟩ := writeC (sh := sh) (k := k) (v := 0) b4 hl1
      obtain ⟨τ4, g1, g2, g3⟩ := entryR (sh := shR) (k := k) (v := 0) b5 hl1 hsl rfl
      have hb2 := BD_op (k := sk + 1 + pn pe) (o := k) (v := 0) hb1 (by omega)
      have eo : o ++ c ++ [q] ++ [(k, (0 : Int32))] = o ++ (c ++ [q] ++ [(k, 0)]) := by simp
      rw [eo] at e2 g2 hb2
      have hp' := e2.2.2.1
      rw [e1, bd_some, g1, bd_some, blanksR g2.1 (by omega) g2.2.2.2.1, bd_some]
      have hu2 : puN (1 + pn pe) (c ++ [q] ++ [(k, 0)]) := by
        have h1 := puN_v hu b3
        rw [show 1 + pn pe + 1 = pn pe + 2 by omega] at h1
        rw [show 1 + pn pe = pn pe + 1 by omega]
        exact puN_op h1 (by omega) (by omega)
      obtain ⟨τC, τR, r1, r2, r3, r4, r5⟩ := ih (tp.length - p') (by omega) N1 N2 (N3 + 1) (n + 1) p' (cnt + 1) (.int x) (.int (nI (om k))) v τ3 (s_F τ4 0 20 (nI (skp tp p'))) _ pe rfl (by omega) (by omega) (by omega) (by omega) hpe e2 (AR_p g2 (skp_le hp')) hu2 hb2
      refine ⟨τC, τR, r1, r2, fmC_trans (fmC_nf nfC_2) (fmC_trans a3 (fmC_trans e3 r3)), fmR_trans (fmR_0 (by omega)) (fmR_trans a4 (fmR_trans g3 (fmR_trans (fmR_0 (by omega)) r4))), ?_⟩
      rcases r5 with ⟨c', p2, cnt', t1, t2, t3⟩ | t1
      · exact Or.inl ⟨c', p2, cnt', by omega, by omega, t3⟩
      · exact Or.inr t1
    · have hn1 : ¬ τ1.1 1 3 = 0 := by rw [b3.2.1]; exact b1
      have hn2 : ¬ τ2.1 0 21 = 0 := by rw [b4.2.1]; exact b1
      obtain ⟨c1, c2, pr, c3, c4⟩ := b4
      have d4 := FR_p (p := skp tp pr) ⟨c1, c2, pr, c3, c4⟩ (skp_le c3)
      have hn3 : ¬ (s_F τ2 0 20 (nI (skp tp pr))).1 0 21 = 0 := by rw [d4.2.1]; exact b1
      rw [writeF hn1, bd_some, entryF hn2, bd_some, blanksR c1 (by omega) c4, bd_some, sL_f (by omega) hn1, tR_f (by omega) hn3, bd_some, TR_f (by omega) hn3]
      exact ⟨_, _, rfl, rfl, fmC_trans (fmC_nf nfC_2) a3, fmR_trans (fmR_0 (by omega)) (fmR_trans a4 (fmR_0 (by omega))), Or.inr ⟨f, b1, b2, b3, d4⟩⟩
  · have h42 : ¬ sgn tp (skp tp p) = 42 := fun e => hmul ⟨42, 5, e, Or.inl ⟨rfl, rfl⟩⟩
    have h47 : ¬ sgn tp (skp tp p) = 47 := fun e => hmul ⟨47, 6, e, Or.inr (Or.inl ⟨rfl, rfl⟩)⟩
    have h37 : ¬ sgn tp (skp tp p) = 37 := fun e => hmul ⟨37, 7, e, Or.inr (Or.inr ⟨rfl, rfl⟩)⟩
    rw [addC hC hnp h42 h47 h37, endT hR h42 h47 h37, bd_some]
    obtain ⟨sC, sR, c', f1, f2, f3, f4, f5, f6, f7, f8⟩ := flush (sh := sh) (shR := shR) hsl hpe (AC_p hC (skp_le hp)) hR hu hb
    rw [f2, addR f4]
    by_cases hadd : sgn tp (skp tp p) = 43 ∨ sgn tp (skp tp p) = 45
    · have hlt : skp tp p < tp.length := sgn_lt (by rcases hadd with e | e <;> (rw [e]; decide))
      rw [if_pos hadd, if_pos hadd, f1]
      unfold fX8_readSum_J122 fX12_term
      rw [f3.2.2.2.1, nI_1]
      obtain ⟨τ1, τ2, a1, a2, a3, a4, a5⟩ := val_both (sh := sh) (shR := shR) (AC_p f3 (show skp tp p + 1 ≤ tp.length by omega)) (AR_p f4 (show skp tp p + 1 ≤ tp.length by omega)) f6.1 (BD_lt f6) hsl
      rw [a1, bd_some, a2, bd_some]
      rcases a5 with ⟨b1, q, p', b2, b3, b4, b5⟩ | ⟨f, b1, b2, b3, b4⟩
      · have hb1 := BD_v (q := q) f6 b1
        have hp' := b4.2.2.1
        rw [blanksR b5.1 (by omega) b5.2.2.2.1, bd_some]
        have eo : o ++ c' ++ [q] = o ++ (c' ++ [q]) := by simp
        rw [eo] at b4 b5 hb1
        have key : ∀ k, (k = 3 ∨ k = 4) → ((if ¬ sgn tp (skp tp p) = 43 then 4 else 3) : Int32) = nI k → ((if ¬ sgn tp (skp tp p) = 43 then 3 else 2) : Int32) = nI (om k) → ∃ τC τR, fX8_readSum_L8 sh (kS sh) N1 (if ¬ sgn tp (skp tp p) = 43 then 4 else 3) (nI n + 1) (.int (sgn tp (skp tp p))) τ1 = some ((), τC) ∧ i_bd (fX12_term_L8 shR i_F (.retAddr 0) (s_F τ2 0 20 (nI (skp tp p')))) (fun _ s67 => i_bd (fX12_entry shR s67 ((if ¬ sgn tp (skp tp p) = 43 then 3 else 2) : Int32) 0) (fun _ s70 => fX12_sum_L4 shR N3 (.int ((if ¬ sgn tp (skp tp p) = 43 then 3 else 2) : Int32)) s70)) = some ((), τR) ∧ SE σC σR τC τR tp sl p o cnt nt sk := by
          intro k hk e1 e2
          rw [e1, e2, nI_1]
          obtain ⟨τC, τR, r1, r2, r3, r4, r5⟩ := ih (tp.length - p') (by omega) N1 i_F N3 (n + 1) p' (cnt + 1) (.int (sgn tp (skp tp p))) (.retAddr 0) (.int (nI (om k))) τ1 (s_F τ2 0 20 (nI (skp tp p'))) _ (some k) rfl (by omega) (i_F_gt (by omega)) (by omega) (by omega) hk b4 (AR_p b5 (skp_le hp')) (puN_v f5 b3) hb1
          refine ⟨τC, τR, r1, r2, fmC_trans (fmC_nf nfC_2) (fmC_trans f7 (fmC_trans (fmC_nf nfC_2) (fmC_trans a3 r3))), fmR_trans f8 (fmR_trans (fmR_0 (by omega)) (fmR_trans a4 (fmR_trans (fmR_0 (by omega)) r4))), ?_⟩
          rcases r5 with ⟨c', p2, cnt', t1, t2, t3⟩ | t1
          · exact Or.inl ⟨c', p2, cnt', by omega, by omega, t3⟩
          · exact Or.inr t1
        by_cases h43 : sgn tp (skp tp p) = 43
        · exact key 3 (Or.inl rfl) (by rw [h43]; rfl) (by rw [h43]; rfl)
        · exact key 4 (Or.inr rfl) (by rw [if_pos h43]; rfl) (by rw [if_pos h43]; rfl)
      · have hn1 : ¬ τ1.1 1 3 = 0 := by rw [b3.2.1]; exact b1
        obtain ⟨c1, c2, pr, c3, c4⟩ := b4
        have d4 := FR_p (p := skp tp pr) ⟨c1, c2, pr, c3, c4⟩ (skp_le c3)
        have hn3 : ¬ (s_F τ2 0 20 (nI (skp tp pr))).1 0 21 = 0 := by rw [d4.2.1]; exact b1
        rw [blanksR c1 (by omega) c4, bd_some, sL_f (by omega) hn1, tR_f (i_F_gt (by omega)) hn3, bd_some, entryF hn3, bd_some, sR_f (by omega) hn3]
        exact ⟨_, _, rfl, rfl, fmC_trans (fmC_nf nfC_2) (fmC_trans f7 (fmC_trans (fmC_nf nfC_2) a3)), fmR_trans f8 (fmR_trans (fmR_0 (by omega)) (fmR_trans a4 (fmR_0 (by omega)))), Or.inr ⟨f, b1, b2, b3, d4⟩⟩
    · rw [if_neg hadd, if_neg hadd, f1 (fun s => some ((), s))]
      exact ⟨_, _, rfl, rfl, fmC_trans (fmC_nf nfC_2) f7, f8, Or.inl ⟨c', skp tp p, cnt, hge, Nat.le_refl _, skp_skp, f5, f6, f3, f4⟩⟩
/-- a SUM -/
theorem sum_both {sh shR : List kd} {σC σR : St} {tp : List Nat} {sl p cnt nt sk : Nat} {o : Cd} (hsl : sl < 6) (hp0 : 0 < p) (hC : AC σC tp p o cnt) (hR : AR σR tp sl p o cnt) (hb : BD o cnt sk nt) : ∃ τC τR, fX8_readSum sh σC = some ((), τC) ∧ fX12_sum shR σR = some ((), τR) ∧ SE σC σR τC τR tp sl p o cnt nt sk := by
  have h400 := hC.1.1
  unfold fX8_readSum fX12_sum fX12_term
  obtain ⟨τ1, τ2, a1, a2, a3, a4, a5⟩ := val_both (sh := sh) (shR := shR) hC hR hb.1 (BD_lt hb) hsl
  rw [a1, bd_some, a2, bd_some]
  rcases a5 with ⟨b1, q, p', b2, b3, b4, b5⟩ | ⟨f, b1, b2, b3, b4⟩
  · have hp' := b4.2.2.1
    have hb1 := BD_v (q := q) hb b1
    rw [blanksR b5.1 (by omega) b5.2.2.2.1, bd_some]
    obtain ⟨τC, τR, r1, r2, r3, r4, r5⟩ := sumL (sh := sh) (shR := shR) (tp := tp) (nt := nt) (o := o) hsl _ i_F i_F i_F 0 p' (cnt + 1) (.retAddr 0) (.retAddr 0) (.retAddr 0) τ1 (s_F τ2 0 20 (nI (skp tp p'))) [q] none rfl (i_F_gt (by omega)) (i_F_gt (by omega)) (i_F_gt (by omega)) (by omega) trivial b4 (AR_p b5 (skp_le hp')) (puN_v puN_0 b3) hb1
    refine ⟨τC, τR, r1, r2, fmC_trans a3 r3, fmR_trans a4 (fmR_trans (fmR_0 (by omega)) r4), ?_⟩
    rcases r5 with ⟨c', p2, cnt', t1, t2, t3⟩ | t1
    · exact Or.inl ⟨c', p2, cnt', by omega, by omega, t3⟩
    · exact Or.inr t1
  · have hn1 : ¬ τ1.1 1 3 = 0 := by rw [b3.2.1]; exact b1
    obtain ⟨c1, c2, pr, c3, c4⟩ := b4
    have d4 := FR_p (p := skp tp pr) ⟨c1, c2, pr, c3, c4⟩ (skp_le c3)
    have hn3 : ¬ (s_F τ2 0 20 (nI (skp tp pr))).1 0 21 = 0 := by rw [d4.2.1]; exact b1
    rw [blanksR c1 (by omega) c4, bd_some, tR_f (i_F_gt (by omega)) hn3, bd_some, sR_f (i_F_gt (by omega)) hn3]
    exact ⟨_, _, sL_f (i_F_gt (by omega)) hn1, rfl, a3, fmR_trans a4 (fmR_0 (by omega)), Or.inr ⟨f, b1, b2, b3, d4⟩⟩
theorem sum_fC {sh : List kd} {σ : St} (h : ¬ σ.1 1 3 = 0) : fX8_readSum sh σ = some ((), σ) := by
  unfold fX8_readSum
  rw [val_fC h, bd_some]
  exact sL_f (i_F_gt (by omega)) h
theorem sum_fR {sh : List kd} {σ : St} {tp : List Nat} {f : Int32} {sl : Nat} (h0 : ¬ f = 0) (h : FR σ tp f) (h28 : σ.1 0 28 = 12) : ∃ τ, fX12_sum sh σ = some ((), τ) ∧ FR τ tp f ∧ fmR sl σ τ := by
  have h400 := h.1.1
  obtain ⟨τ, a1, a2, a3⟩ := val_fR (sh := sh) (sl := sl) h0 h h28
  obtain ⟨c1, c2, pr, c3, c4⟩ := a2
  have d4 := FR_p (p := skp tp pr) ⟨c1, c2, pr, c3, c4⟩ (skp_le c3)
  have hn3 : ¬ (s_F τ 0 20 (nI (skp tp pr))).1 0 21 = 0 := by rw [d4.2.1]; exact h0
  unfold fX12_sum fX12_term
  rw [a1, bd_some, blanksR c1 (by omega) c4, bd_some, tR_f (i_F_gt (by omega)) hn3, bd_some, sR_f (i_F_gt (by omega)) hn3]
  exact ⟨_, rfl, d4, fmR_trans a3 (fmR_0 (by omega))⟩
