/-! ===== two SUMS compared ===== -/
def eqa (tp : List Nat) (q : Nat) (x : Int32) : Nat := if x = 61 then 0 else if tp[q + 1]? = some 61 then 1 else 0
def kc (x : Int32) (e : Nat) : Nat := if x = 61 then 10 else if x = 60 then (if e = 0 then 8 else 9) else (if e = 0 then 12 else 11)
def isQ (x : Int32) : Prop := x = 60 ∨ x = 61 ∨ x = 62
theorem kc_3 {x : Int32} {e : Nat} : 3 ≤ kc x e ∧ kc x e ≤ 14 ∧ 8 ≤ kc x e ∧ kc x e ≤ 12 := by
  unfold kc
  split
  · omega
  · split
    · split <;> omega
    · split <;> omega
theorem eqa_le {tp : List Nat} {q : Nat} {x : Int32} (hq : q < tp.length) : q + 1 + eqa tp q x ≤ tp.length ∧ eqa tp q x ≤ 1 := by
  unfold eqa
  split
  · omega
  · split
    · next h => have := at_lt h; omega
    · omega
theorem rcC {sh : List kd} {σ s6 : St} {tp : List Nat} {p : Nat} {x : Int32} (ht : tpC σ tp) (hp : p ≤ tp.length) (ha : σ.1 1 2 = nI p) (hx : sgn tp (skp tp p) = x) (hq : isQ x) (hc : fX8_countPart sh (s_F σ 1 2 (nI (skp tp p))) (nI (skp tp p)) = some ((), s6)) (ht6 : tpC s6 tp) (ha6 : s6.1 1 2 = nI (skp tp p)) : fX8_readComparing sh σ = some (nI (kc x (eqa tp (skp tp p) x)), s_F s6 1 2 (nI (skp tp p + 1 + eqa tp (skp tp p) x))) := by
  have h400 := ht.1
  have hlt : skp tp p < tp.length := sgn_lt (by rw [hx]; rcases hq with e | e | e <;> (rw [e]; decide))
  have e1 : (s_F s6 1 2 (nI (skp tp p + 1))).1 1 2 = nI (skp tp p + 1) := s_F_at
  have e2 : (s_F s6 1 2 (nI (skp tp p + 1))).1 1 1 = nI tp.length := by rw [s_F_rd, if_neg (by omega)]; exact ht6.2.1
  have tail : ∀ (K : Int32 → Option (Int32 × St)), (if nI tp.length ≤ nI (skp tp p + 1) then K 0 else if i_ok (nI (skp tp p + 1)) 400 then K ((if ¬ (s_F s6 1 2 (nI (skp tp p + 1))).2.1 2 (nI (skp tp p + 1)).toNatClampNeg = 61 then 0 else 1) : Int32) else none) = K (if tp[skp tp p + 1]? = some 61 then 1 else 0) := by
    intro K
    cases hb : tp[skp tp p + 1]? with
    | none =>
      rw [if_pos (nI_le (at_no hb) (by have := at_no hb; omega)), if_neg (by intro e; cases e)]
    | some b =>
      have hlt1 := at_lt hb
      have hb2 := ht6.2.2 _ b hb
      rw [if_neg (nI_ge hlt1 (by omega)), if_pos (ok_nI (by omega) (by omega)), s_F_A, nI_clamp (by omega), hb2.2, show (61 : Int32) = nI 61 from by decide]
      by_cases h61 : b = 61
      · subst h61
        rw [if_neg (not_not_intro rfl), if_pos rfl]
      · rw [if_pos (fun e => h61 ((nI_b hb2.1 (by omega)).mp e)), if_neg (fun e => h61 (Option.some.inj e))]
  unfold fX8_readComparing
  rw [signC _ σ p ht hp rfl ha, bd_some, hx]
  have ea : (s_F σ 1 2 (nI (skp tp p))).1 1 2 = nI (skp tp p) := s_F_at
  rw [ea, hc]
  simp only [bd_some, ha6, nI_1, e1, e2]
  rcases hq with e | e | e
  · subst e
    rw [if_pos rfl, if_pos (by decide), tail (fX8_readComparing_J118 sh 60 s6)]
    unfold fX8_readComparing_J118 fX8_readComparing_J136 eqa kc
    rw [if_neg (show ¬ (60 : Int32) = 61 by decide), if_neg (show ¬ (60 : Int32) = 61 by decide)]
    by_cases h61 : tp[skp tp p + 1]? = some 61
    · rw [if_pos h61, if_pos h61]
      simp only [ha6, nI_1, e1, s_F_F]
      rfl
    · rw [if_neg h61, if_neg h61]
      simp only [ha6, nI_1, e1, s_F_F]
      rfl
  · subst e
    rw [if_neg (by decide), if_pos rfl, if_neg (by decide)]
    unfold eqa kc
    rw [if_pos rfl, if_pos rfl]
    rfl
  · subst e
    rw [if_neg (by decide), if_neg (by decide), if_pos rfl, if_pos (by decide), tail (fX8_readComparing_J118_287 sh 62 s6)]
    unfold fX8_readComparing_J118_287 fX8_readComparing_J136_338 eqa kc
    rw [if_neg (show ¬ (62 : Int32) = 61 by decide), if_neg (show ¬ (62 : Int32) = 61 by decide), if_neg (show ¬ (62 : Int32) = 60 by decide)]
    by_cases h61 : tp[skp tp p + 1]? = some 61
    · rw [if_pos h61, if_pos h61]
      simp only [ha6, nI_1, e1, s_F_F]
      rfl
    · rw [if_neg h61, if_neg h61]
      simp only [ha6, nI_1, e1, s_F_F]
      rfl
theorem rcC0 {sh : List kd} {σ : St} {tp : List Nat} {p : Nat} (ht : tpC σ tp) (hp : p ≤ tp.length) (ha : σ.1 1 2 = nI p) (hq : ¬ isQ (sgn tp (skp tp p))) : fX8_readComparing sh σ = some (-1, s_F (s_F σ 1 2 (nI (skp tp p))) 1 3 (flt (σ.1 1 3) (skp tp p) (some 0))) := by
  unfold fX8_readComparing
  rw [signC _ σ p ht hp rfl ha, bd_some, if_neg (fun e => hq (Or.inl e)), if_neg (fun e => hq (Or.inr (Or.inl e))), if_neg (fun e => hq (Or.inr (Or.inr e))), s_F_at, refuseC rfl nz0.symm, bd_some, s_F_rd, if_neg (by omega)]
noncomputable def cpR (sh : List kd) (s2 : St) : Option (Unit × St) := i_bd (fX12_sign sh s2) (fun r4 s5 => if r4 = 60 then i_bd (fX12_isCounted sh s5 (s5.1 0 20)) (fun r8 s9 => if r4 = 61 then fX12_compared_J75 sh r4 0 (s_F s9 0 20 ((s9.1 0 20) + 1)) else i_bd (fX12_sign sh (s_F s9 0 20 ((s9.1 0 20) + 1))) (fun r75 s76 => fX12_compared_J75 sh r4 ((if ¬ r75 = 61 then 0 else 1) : Int32) s76)) else if r4 = 61 then i_bd (fX12_isCounted sh s5 (s5.1 0 20)) (fun r80 s81 => if r4 = 61 then fX12_compared_J75_134 sh r4 0 (s_F s81 0 20 ((s81.1 0 20) + 1)) else i_bd (fX12_sign sh (s_F s81 0 20 ((s81.1 0 20) + 1))) (fun r147 s148 => fX12_compared_J75_134 sh r4 ((if ¬ r147 = 61 then 0 else 1) : Int32) s148)) else if r4 = 62 then i_bd (fX12_isCounted sh s5 (s5.1 0 20)) (fun r152 s153 => if r4 = 61 then fX12_compared_J75_206 sh r4 0 (s_F s153 0 20 ((s153.1 0 20) + 1)) else i_bd (fX12_sign sh (s_F s153 0 20 ((s153.1 0 20) + 1))) (fun r219 s220 => fX12_compared_J75_206 sh r4 ((if ¬ r219 = 61 then 0 else 1) : Int32) s220)) else i_bd (fX12_fails sh s5 0 (s5.1 0 20)) (fun r223 s224 => some ((), s224)))
theorem cpR_eq {sh : List kd} {σ : St} : fX12_compared sh σ = i_bd (fX12_sum sh σ) (fun _ s => cpR sh s) := rfl
theorem sg61 {tp : List Nat} {q : Nat} {σ : St} (ht : tpR σ tp) : sgn tp q = 61 ↔ tp[q]? = some 61 := by
  cases hb : tp[q]? with
  | none =>
    rw [sgn_n hb]
    constructor
    · intro e; exact absurd e (by decide)
    · intro e; cases e
  | some b =>
    rw [sgn_s hb, show (61 : Int32) = nI 61 from by decide, nI_b (ht.2.2 _ b hb).1 (by omega)]
    constructor
    · intro e; rw [e]
    · intro e; exact Option.some.inj e
theorem zi1 : ((if (1 : Int32) = 0 then 0 else 1) : Int32) = 1 := rfl
theorem zi0 : ((if (0 : Int32) = 0 then 0 else 1) : Int32) = 0 := rfl
theorem crR {sh : List kd} {σ s9 : St} {tp : List Nat} {q : Nat} {x : Int32} (ht : tpR σ tp) (hp : q ≤ tp.length) (ha : σ.1 0 20 = nI q) (hx : sgn tp q = x) (hq : isQ x) (hc : fX12_isCounted sh σ (nI q) = some ((), s9)) (ht9 : tpR s9 tp) (ha9 : s9.1 0 20 = nI q) : cpR sh σ = i_bd (fX12_sum sh (s_F s9 0 20 (nI (q + 1 + eqa tp q x)))) (fun _ s64 => i_bd (fX12_entry sh s64 (nI (om (kc x (eqa tp q x)))) 0) (fun _ s => some ((), s))) := by
  have h400 := ht.1
  have e1 : (s_F s9 0 20 (nI (q + 1))).1 0 20 = nI (q + 1) := s_F_at
  have hsg := signR (sh := sh) (tpR_nf (nfR_20 (x := nI (q + 1))) ht9) (show q + 1 < 1000 by omega) e1
  unfold cpR
  rw [signR ht (by omega) ha, bd_some, hx, ha, hc]
  simp only [bd_some, ha9, nI_1, hsg]
  have s61 := sg61 (q := q + 1) ht
  rcases hq with e | e | e
  · subst e
    rw [if_pos rfl, if_neg (by decide)]
    unfold fX12_compared_J75 eqa kc
    rw [if_neg (show ¬ (60 : Int32) = 61 by decide), if_neg (show ¬ (60 : Int32) = 61 by decide)]
    by_cases h61 : tp[q + 1]? = some 61
    · rw [if_neg (not_not_intro (s61.mpr h61)), if_pos h61, e1, s_F_F, zi1, nI_1]
      rfl
    · rw [if_pos (fun e => h61 (s61.mp e)), if_neg h61, e1, s_F_F, zi0, Int32.add_zero]
      rfl
  · subst e
    rw [if_neg (by decide), if_pos rfl, if_pos rfl]
    unfold fX12_compared_J75_134 eqa kc
    rw [e1, s_F_F, zi0, Int32.add_zero]
    rfl
  · subst e
    rw [if_neg (by decide), if_neg (by decide), if_pos rfl, if_neg (by decide)]
    unfold fX12_compared_J75_206 eqa kc
    rw [if_neg (show ¬ (62 : Int32) = 61 by decide), if_neg (show ¬ (62 : Int32) = 61 by decide), if_neg (show ¬ (62 : Int32) = 60 by decide)]
    by_cases h61 : tp[q + 1]? = some 61
    · rw [if_neg (not_not_intro (s61.mpr h61)), if_pos h61, e1, s_F_F, zi1, nI_1]
      rfl
    · rw [if_pos (fun e => h61 (s61.mp e)), if_neg h61, e1, s_F_F, zi0, Int32.add_zero]
      rfl
theorem crR0 {sh : List kd} {σ : St} {tp : List Nat} {q : Nat} (ht : tpR σ tp) (hp : q ≤ tp.length) (ha : σ.1 0 20 = nI q) (hq : ¬ isQ (sgn tp q)) : cpR sh σ = some ((), s_F σ 0 21 (flt (σ.1 0 21) q (some 0))) := by
  have h400 := ht.1
  unfold cpR
  rw [signR ht (by omega) ha, bd_some, if_neg (fun e => hq (Or.inl e)), if_neg (fun e => hq (Or.inr (Or.inl e))), if_neg (fun e => hq (Or.inr (Or.inr e))), ha, failsR rfl nz0.symm, bd_some]
def isT1 (x : Int64) : Prop := x = 0 ∨ x = 1
theorem if01 {c : Prop} [Decidable c] : isT1 (if c then (0 : Int64) else 1) := by
  unfold isT1
  split
  · exact Or.inl rfl
  · exact Or.inr rfl
theorem if10 {c : Prop} [Decidable c] : isT1 (if c then (1 : Int64) else 0) := by
  unfold isT1
  split
  · exact Or.inr rfl
  · exact Or.inl rfl
theorem jn_01 {k : Nat} {x y : Int64} (h1 : 8 ≤ k) (h2 : k ≤ 12) : isT1 (jn k x y) := by
  have : k = 8 ∨ k = 9 ∨ k = 10 ∨ k = 11 ∨ k = 12 := by omega
  rcases this with e | e | e | e | e
  · subst e; exact if01 (c := 0 ≤ lg_cmp x y)
  · subst e; exact if01 (c := 0 < lg_cmp x y)
  · subst e; exact if10 (c := lg_cmp x y = 0)
  · subst e; exact if01 (c := lg_cmp x y < 0)
  · subst e; exact if01 (c := lg_cmp x y ≤ 0)
theorem tst_cmp {a b : Cd} {k : Nat} (ha : puN 1 a) (hb : puN 1 b) (h1 : 8 ≤ k) (h2 : k ≤ 12) : isTst (a ++ b ++ [(k, 0)]) := by
  intro w s
  obtain ⟨xs, a1, a2⟩ := ha w s
  match xs, a1 with
  | [x], _ =>
    obtain ⟨ys, b1, b2⟩ := hb w (x :: s)
    match ys, b1 with
    | [y], _ =>
      have e : ev w (a ++ b) s = some (y :: x :: s) := by rw [ev_app _ _ _ _ a2]; exact b2
      refine ⟨jn k x y, jn_01 h1 h2, ?_⟩
      rw [ev_app _ _ _ _ e]
      show (match evs w (k, 0) (y :: x :: s) with
        | some s' => ev w [] s'
        | none => none) = _
      have : evs w (k, 0) (y :: x :: s) = some (jn k x y :: s) := by
        unfold evs
        dsimp only
        rw [if_neg (by omega), if_neg (by omega), if_neg (by omega), if_pos (by omega)]
      rw [this]
      rfl
/-- both stand behind a FACT, or both hold the same fault -/
def CE (σC σR τC τR : St) (tp : List Nat) (sl p : Nat) (o : Cd) (cnt nt sk : Nat) : Prop := fmC σC τC ∧ fmR sl σR τR ∧ ((∃ c' p' cnt', p < p' ∧ cnt ≤ cnt' ∧ isTst c' ∧ BD (o ++ c') cnt' (sk + 3) nt ∧ AC τC tp p' (o ++ c') cnt' ∧ AR τR tp sl p' (o ++ c') cnt') ∨ FL τC τR tp)
theorem AC_F {σ : St} {tp : List Nat} {p cnt : Nat} {out : Cd} (h : AC σ tp p out cnt) : FC σ tp 0 := ⟨h.1, h.2.1, p, h.2.2.1, h.2.2.2.1⟩
theorem cmp_both {sh shR : List kd} {σC σR : St} {tp : List Nat} {sl p cnt nt sk : Nat} {o : Cd} (hsl : sl < 6) (hp0 : 0 < p) (hC : AC σC tp p o cnt) (hR : AR σR tp sl p o cnt) (hb : BD o cnt sk nt) (p1 r2 : Int32) : ∃ τC τR, i_bd (fX8_readSum sh σC) (fun r116 s117 => i_bd (fX8_readComparing sh s117) (fun r119 s120 => i_bd (fX8_readSum sh s120) (fun r122 s123 => i_bd (fX8_write sh s123 r119 0) (fun r125 s126 => fX8_readFact_J162 sh p1 r2 (.int r119) s126)))) = some ((), τC) ∧ fX12_compared shR σR = some ((), τR) ∧ CE σC σR τC τR tp sl p o cnt nt sk := by
  have h400 := hC.1.1
  rw [cpR_eq]
  unfold fX8_readFact_J162
  have h28' : σR.1 0 28 = 12 := hR.2.2.2.2.2.2.2.1
  obtain ⟨s1, s2, a1, a2, a3, a4, a5⟩ := sum_both (sh := sh) (shR := shR) hsl hp0 hC hR hb
  rw [a1, bd_some, a2, bd_some]
  rcases a5 with ⟨c1, q, cnt1, b1, b2, b0, b3, b4, b5, b6⟩ | ⟨f, b1, b2, b3, b4⟩
  · have hq := b5.2.2.1
    by_cases hQ : isQ (sgn tp q)
    · have hlt : q < tp.length := sgn_lt (by rcases hQ with e | e | e <;> (rw [e]; decide))
      have hea := eqa_le (x := sgn tp q) hlt
      have b5' : AC (s_F s1 1 2 (nI q)) tp q (o ++ c1) cnt1 := by rw [s_F_self b5.2.2.2.1]; exact b5
      obtain ⟨s3, d1, d2, d3⟩ := cntC (sh := sh) (s := q) b5' rfl b4.1
      obtain ⟨s4, e1, e2, e20, e3⟩ := cntR (sh := shR) (s := q) b6 rfl b4.1
      have ht3 : tpC s3 tp ∧ s3.1 1 2 = nI q := by
        have hcc := countC (sh := sh) (s := q) (cnt := cnt1) (x := nI q) b5'.2.2.2.2.2.1 rfl (by have := b4.1; omega)
        rw [d1] at hcc
        have hs3 := congrArg Prod.snd (Option.some.inj hcc)
        have hs3' : s3 = s_F (s_F (s_F s1 1 2 (nI q)) 1 3 (flt ((s_F s1 1 2 (nI q)).1 1 3) q (cd3 cnt1))) 10 7 (nI (cnt1 + 1)) := hs3
        have hF := FC_7 (x := nI (cnt1 + 1)) (FC_3 (g := flt ((s_F s1 1 2 (nI q)).1 1 3) q (cd3 cnt1)) (AC_F b5'))
        rw [← hs3'] at hF
        refine ⟨hF.1, ?_⟩
        rw [hs3', s_F_rd, if_neg (by omega), s_F_rd, if_neg (by omega), s_F_at]
      have ht4 : tpR s4 tp := by
        rcases e3 with ⟨_, e3⟩ | ⟨_, e3⟩
        · exact e3.1
        · exact e3.1
      rw [rcC (s6 := s3) b5.1 hq b5.2.2.2.1 (by rw [b0]) hQ (by rw [b0]; exact d1) ht3.1 (by rw [b0]; exact ht3.2), bd_some, b0, crR b6.1 hq b6.2.2.2.1 rfl hQ e1 ht4 e20]
      rcases d3 with ⟨d4, d5⟩ | ⟨d4, d5⟩
      · rcases e3 with ⟨_, e5⟩ | ⟨e4, e5⟩
        · have hb1 : BD (o ++ c1) (cnt1 + 1) (sk + 3) nt := ⟨by omega, by have := b4.2.1; omega, by have := b4.2.2.1; omega, b4.2.2.2⟩
          obtain ⟨s5, s6, g1, g2, g3, g4, g5⟩ := sum_both (sh := sh) (shR := shR) hsl (show 0 < q + 1 + eqa tp q (sgn tp q) by omega) (AC_p d5 hea.1) (AR_p e5 hea.1) hb1
          rw [g1, bd_some, g2, bd_some]
          rcases g5 with ⟨c2, q2, cnt2, t1, t2, t0, t3, t4, t5, t6⟩ | ⟨f, t1, t2, t3, t4⟩
          · have hk := kc_3 (x := sgn tp q) (e := eqa tp q (sgn tp q))
            obtain ⟨s7, u1, u2, u3⟩ := writeC (sh := sh) (k := kc (sgn tp q) (eqa tp q (sgn tp q))) (v := 0) t5 (BD_lt t4)
            obtain ⟨s8, v1, v2, v3⟩ := entryR (sh := shR) (k := kc (sgn tp q) (eqa tp q (sgn tp q))) (v := 0) t6 (BD_lt t4) hsl rfl
            have t7 := BD_op (o := kc (sgn tp q) (eqa tp q (sgn tp q))) (v := 0) t4 (by omega)
            have eo : o ++ c1 ++ c2 ++ [(kc (sgn tp q) (eqa tp q (sgn tp q)), (0 : Int32))] = o ++ (c1 ++ c2 ++ [(kc (sgn tp q) (eqa tp q (sgn tp q)), 0)]) := by simp
            rw [eo] at u2 v2 t7
            rw [u1, bd_some, v1, bd_some]
            exact ⟨_, _, rfl, rfl, fmC_trans a3 (fmC_trans (fmC_trans (fmC_nf nfC_2) d2) (fmC_trans (fmC_nf nfC_2) (fmC_trans g3 u3))), fmR_trans a4 (fmR_trans e2 (fmR_trans (fmR_0 (by omega)) (fmR_trans g4 v3))), Or.inl ⟨_, q2, cnt2, by omega, by omega, tst_cmp b3 t3 hk.2.2.1 hk.2.2.2, t7, u2, v2⟩⟩
          · rw [writeF (by rw [t3.2.1]; exact t1), bd_some, entryF (by rw [t4.2.1]; exact t1), bd_some]
            exact ⟨_, _, rfl, rfl, fmC_trans a3 (fmC_trans (fmC_trans (fmC_nf nfC_2) d2) (fmC_trans (fmC_nf nfC_2) g3)), fmR_trans a4 (fmR_trans e2 (fmR_trans (fmR_0 (by omega)) g4)), Or.inr ⟨f, t1, t2, t3, t4⟩⟩
        · exact absurd d4 e4
      · rcases e3 with ⟨e4, e5⟩ | ⟨_, e5⟩
        · exact absurd e4 d4
        · obtain ⟨hn, hk⟩ := fault0 (sC := s1) (sR := s2) (sl := sl) (c := 3) b5 (by omega)
          have d6 := FC_p d5 hea.1
          have e6 := FR_p e5 hea.1
          have h28 : (s_F s4 0 20 (nI (q + 1 + eqa tp q (sgn tp q)))).1 0 28 = 12 := by
            rw [s_F_rd, if_neg (by omega), e2.1 0 28 (by omega), a4.1 0 28 (by omega)]
            exact h28'
          obtain ⟨s6, g1, g2, g3⟩ := sum_fR (sh := shR) (sl := sl) hn e6 h28
          rw [sum_fC (by rw [d6.2.1]; exact hn), bd_some, writeF (by rw [d6.2.1]; exact hn), bd_some, g1, bd_some, entryF (by rw [g2.2.1]; exact hn), bd_some]
          exact ⟨_, _, rfl, rfl, fmC_trans a3 (fmC_trans (fmC_trans (fmC_nf nfC_2) d2) (fmC_nf nfC_2)), fmR_trans a4 (fmR_trans e2 (fmR_trans (fmR_0 (by omega)) g3)), Or.inr ⟨_, hn, hk, d6, g2⟩⟩
    · obtain ⟨hn, hk⟩ := fault0 (sC := s1) (sR := s2) (sl := sl) (c := 0) b5 (by omega)
      rw [rcC0 b5.1 hq b5.2.2.2.1 (by rw [b0]; exact hQ), bd_some, b0, s_F_self b5.2.2.2.1, b5.2.1, crR0 b6.1 hq b6.2.2.2.1 hQ, b6.2.1]
      have d6 := AC_FC (f := flt 0 q (some 0)) b5
      rw [sum_fC (by rw [d6.2.1]; exact hn), bd_some, writeF (by rw [d6.2.1]; exact hn), bd_some]
      exact ⟨_, _, rfl, rfl, fmC_trans a3 (fmC_nf nfC_3), fmR_trans a4 (fmR_0 (by omega)), Or.inr ⟨_, hn, hk, d6, AR_FR b6⟩⟩
  · have hc : ∃ r τ, fX8_readComparing sh s1 = some (r, τ) ∧ FC τ tp f ∧ fmC s1 τ := by
      obtain ⟨c1, c2, pc, c3, c4⟩ := b3
      have hs := skp_le c3
      have d := FC_p (p := skp tp pc) ⟨c1, c2, pc, c3, c4⟩ hs
      by_cases hQ : isQ (sgn tp (skp tp pc))
      · obtain ⟨τ, e1, e2, e3, e4⟩ := cnt_f (sh := sh) (x := nI (skp tp pc)) b1 d ⟨_, rfl⟩
        rw [s_F_at] at e3
        have hlt : skp tp pc < tp.length := sgn_lt (by rcases hQ with e | e | e <;> (rw [e]; decide))
        exact ⟨_, _, rcC c1 c3 c4 rfl hQ e1 e4.1 e3, FC_p e4 (eqa_le hlt).1, fmC_trans (fmC_nf nfC_2) (fmC_trans e2 (fmC_nf nfC_2))⟩
      · refine ⟨_, _, rcC0 c1 c3 c4 hQ, ?_, fmC_nf (nfC_trans nfC_2 nfC_3)⟩
        rw [c2, flt_f b1]
        exact FC_3 d
    have hr : ∃ τ, cpR shR s2 = some ((), τ) ∧ FR τ tp f ∧ fmR sl s2 τ := by
      obtain ⟨c1, c2, pr, c3, c4⟩ := b4
      by_cases hQ : isQ (sgn tp pr)
      · obtain ⟨τ, e1, e2, e3, e4⟩ := cntRf (sh := shR) (x := nI pr) (sl := sl) b1 ⟨c1, c2, pr, c3, c4⟩ ⟨_, rfl⟩
        rw [c4] at e3
        have hlt : pr < tp.length := sgn_lt (by rcases hQ with e | e | e <;> (rw [e]; decide))
        have e6 := FR_p e4 (eqa_le (x := sgn tp pr) hlt).1
        have h28 : (s_F τ 0 20 (nI (pr + 1 + eqa tp pr (sgn tp pr)))).1 0 28 = 12 := by
          rw [s_F_rd, if_neg (by omega), e2.1 0 28 (by omega), a4.1 0 28 (by omega)]
          exact h28'
        obtain ⟨s6, g1, g2, g3⟩ := sum_fR (sh := shR) (sl := sl) b1 e6 h28
        rw [crR c1 c3 c4 rfl hQ e1 e4.1 e3, g1, bd_some, entryF (by rw [g2.2.1]; exact b1), bd_some]
        exact ⟨_, rfl, g2, fmR_trans e2 (fmR_trans (fmR_0 (by omega)) g3)⟩
      · rw [crR0 c1 c3 c4 hQ, c2, flt_f b1]
        exact ⟨_, rfl, FR_21 ⟨c1, c2, pr, c3, c4⟩, fmR_0 (by omega)⟩
    obtain ⟨r, τ, x1, x2, x3⟩ := hc
    obtain ⟨τ2, y1, y2, y3⟩ := hr
    rw [x1, bd_some, sum_fC (by rw [x2.2.1]; exact b1), bd_some, writeF (by rw [x2.2.1]; exact b1), bd_some, y1]
    exact ⟨_, _, rfl, rfl, fmC_trans a3 x3, fmR_trans a4 y3, Or.inr ⟨f, b1, b2, x2, y2⟩⟩
