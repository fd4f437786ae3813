/-! ===== a RULE is read: a SUM ===== -/
theorem digitsRf {sh : List kd} {σ : St} {tp : List Nat} {f : Int32} {s : Nat} (h0 : ¬ f = 0) (h : FR σ tp f) (hs : s ≤ tp.length) (ha : σ.1 0 20 = nI s) : ∃ v τ, fX12_digits sh σ 99999 = some (v, τ) ∧ FR τ tp f ∧ nfR σ τ := by
  have ht := h.1
  have h400 := ht.1
  have hb := nm_bd hs
  unfold fX12_digits
  rw [isDigR ht (by omega) ha, bd_some]
  by_cases hd : ∃ b, tp[s]? = some b ∧ isD b = true
  · obtain ⟨b, hb1, hb2⟩ := hd
    rw [dgV_t hb1 hb2, if_pos n10]
    have hF : tp.length - (s + 0) < i_F := i_F_gt (by omega)
    generalize i_F = F at hF ⊢
    have hdg := digR (sh := sh) (tp := tp) (mo := 99999) (s2 := σ) (s := s) (K := fun (x57 : Int32) (s58 : St) => fX12_digits_X72 sh 99999 σ x57 s58) ha hs _ F 0 0 σ ht (by omega) rfl hF (by rw [ha]; rfl) (by decide)
    rw [nI_0, Nat.add_zero] at hdg
    rw [hdg]
    have en : dv 0 0 (tp.drop s) = nm tp s := rfl
    rw [en]
    have hq := FR_p (p := s + (nm tp s).2) h hb.2
    unfold fX12_digits_X72 fX12_digits_J93
    rw [ha, failsR rfl nz1.symm, bd_some, hq.2.1, flt_f h0, s_F_self hq.2.1]
    have e3 : ∀ (c d : Prop) [Decidable c] [Decidable d] (y : Option (Int32 × St)), (if c then y else if d then y else y) = y := by
      intro c d _ _ y
      split
      · rfl
      · split
        · rfl
        · rfl
    rw [e3]
    exact ⟨_, _, rfl, hq, nfR_20⟩
  · have e0 : dgV tp s = 0 := by
      cases h : tp[s]? with
      | none => exact dgV_n h
      | some b => exact dgV_f h (fun e => hd ⟨b, h, e⟩)
    rw [e0, if_neg nn00, ha, failsR rfl nz0.symm, bd_some, h.2.1, flt_f h0, s_F_self h.2.1]
    exact ⟨_, _, rfl, h, ⟨fun _ _ _ => rfl, rfl⟩⟩
theorem val_fR {sh : List kd} {σ : St} {tp : List Nat} {f : Int32} {sl : Nat} (h0 : ¬ f = 0) (h : FR σ tp f) (h28 : σ.1 0 28 = 12) : ∃ τ, fX12_value sh σ = some ((), τ) ∧ FR τ tp f ∧ fmR sl σ τ := by
  obtain ⟨h1, h2, p, h3, h4⟩ := h
  have h400 := h1.1
  have hs := skp_le h3
  have a := FR_p ⟨h1, h2, p, h3, h4⟩ hs
  have a20 : (s_F σ 0 20 (nI (skp tp p))).1 0 20 = nI (skp tp p) := s_F_at
  have a28 : (s_F σ 0 20 (nI (skp tp p))).1 0 28 = 12 := by rw [s_F_rd, if_neg (by omega)]; exact h28
  unfold fX12_value
  rw [blanksR h1 (by omega) h4, bd_some, isDigR a.1 (by omega) a20, bd_some]
  by_cases hd : dgV tp (skp tp p) = 0
  · rw [if_pos hd]
    rcases word12 (shR := sh) (s2 := s_F σ 0 20 (nI (skp tp p))) (K := fun (x60 : Int32) (s61 : St) => fX12_value_X62 sh (s_F σ 0 20 (nI (skp tp p))) x60 s61) a.1 hs a20 a28 with ⟨k, id, k1, k2, k3, k4, k5, k6⟩ | ⟨k5, k6⟩
    · have hk12 : ¬ nI k = 12 := by rw [show (12 : Int32) = nI 12 from by decide]; exact nI_ne (by omega) (by omega) (by omega)
      rw [k6]
      unfold fX12_value_X62
      obtain ⟨τ2, d1, d2, d20, d3⟩ := cntRf (sh := sh) (x := nI (skp tp p)) (sl := sl) h0 a ⟨_, rfl⟩
      obtain ⟨id', w1, w2, w3⟩ := wordOfR k k1 sh τ2
      have : id' = id := by rw [k2] at w1; exact (Option.some.inj w1).symm
      subst this
      have hrn := rn_le (f := isL) hs
      have hps : τ2.1 0 20 + Int32.ofNat (i_slen id') = nI (skp tp p + rn isL tp (skp tp p)) := by
        rw [d20, a20, isW_rn k4]
        exact nI_add _ _
      rw [a28, if_pos hk12, a20, d1, bd_some, w3, bd_some, if_pos k3, hps]
      have b := FR_p d3 hrn
      rw [entryF (by rw [b.2.1]; exact h0), bd_some]
      exact ⟨_, rfl, b, fmR_trans (fmR_0 (by omega)) (fmR_trans d2 (fmR_0 (by omega)))⟩
    · rw [k6]
      unfold fX12_value_X62
      rw [a28, if_neg (not_not_intro rfl), a20, failsR rfl nz0.symm, bd_some, a.2.1, flt_f h0, s_F_self a.2.1]
      exact ⟨_, rfl, a, fmR_0 (by omega)⟩
  · rw [if_neg hd]
    obtain ⟨v, τ, e1, e2, e3⟩ := digitsRf (sh := sh) h0 a hs a20
    obtain ⟨τ2, d1, d2, d20, d3⟩ := cntRf (sh := sh) (x := nI (skp tp p)) (sl := sl) h0 e2 ⟨_, rfl⟩
    rw [e1, bd_some, a20, d1, bd_some, entryF (by rw [d3.2.1]; exact h0), bd_some]
    exact ⟨_, rfl, d3, fmR_trans (fmR_0 (by omega)) (fmR_trans (fmR_nf e3) d2)⟩
def puN (k : Nat) (c : Cd) : Prop := ∀ (w : Nat → Int64) (s : List Int64), ∃ xs : List Int64, xs.length = k ∧ ev w c s = some (xs ++ s)
theorem puN_0 : puN 0 [] := fun _ s => ⟨[], rfl, rfl⟩
theorem puN_v {k : Nat} {c : Cd} {q : Nat × Int32} (h : puN k c) (hq : isV q) : puN (k + 1) (c ++ [q]) := by
  intro w s
  obtain ⟨xs, h1, h2⟩ := h w s
  obtain ⟨q1, q2⟩ := q
  rw [ev_app _ _ _ _ h2]
  rcases hq with e | ⟨e, e2⟩
  · have e' : q1 = 0 := e
    subst e'
    exact ⟨q2.toInt64 :: xs, by rw [List.length_cons, h1], rfl⟩
  · have e' : q1 = 1 := e
    subst e'
    refine ⟨w q2.toNatClampNeg :: xs, by rw [List.length_cons, h1], ?_⟩
    show (match evs w (1, q2) (xs ++ s) with
      | some s' => ev w [] s'
      | none => none) = _
    have : evs w (1, q2) (xs ++ s) = some (w q2.toNatClampNeg :: (xs ++ s)) := by
      unfold evs
      dsimp only
      rw [if_neg (by omega), if_pos rfl, if_pos e2]
    rw [this]
    rfl
theorem puN_op {k o : Nat} {c : Cd} (h : puN (k + 2) c) (h3 : 3 ≤ o) (h14 : o ≤ 14) : puN (k + 1) (c ++ [(o, 0)]) := by
  intro w s
  obtain ⟨xs, h1, h2⟩ := h w s
  rw [ev_app _ _ _ _ h2]
  match xs, h1 with
  | y :: x :: xs, h1 =>
    refine ⟨jn o x y :: xs, by simp at h1 ⊢; omega, ?_⟩
    show (match evs w (o, 0) (y :: x :: xs ++ s) with
      | some s' => ev w [] s'
      | none => none) = _
    have : evs w (o, 0) (y :: x :: xs ++ s) = some (jn o x y :: (xs ++ s)) := by
      unfold evs
      dsimp only
      rw [if_neg (by omega), if_neg (by omega), if_neg (by omega), if_pos h14]
      rfl
    rw [this]
    rfl
/-- how much is written, how much is counted -/
def BD (out : Cd) (cnt k nt : Nat) : Prop := cnt ≤ 60 ∧ pus out ≤ cnt ∧ out.length + k ≤ 2 * cnt + nt ∧ nt ≤ 150
theorem BD_v {out : Cd} {cnt k nt : Nat} {q : Nat × Int32} (h : BD out cnt k nt) (hc : cnt < 60) : BD (out ++ [q]) (cnt + 1) (k + 1) nt := by
  obtain ⟨h1, h2, h3, h4⟩ := h
  refine ⟨by omega, ?_, ?_, h4⟩
  · rw [pus_app]
    show pus out + ((if q.1 ≤ 1 then 1 else 0) + 0) ≤ cnt + 1
    split <;> omega
  · rw [List.length_append]
    show out.length + 1 + (k + 1) ≤ _
    omega
theorem BD_op {out : Cd} {cnt k nt o : Nat} {v : Int32} (h : BD out cnt (k + 1) nt) (ho : 2 ≤ o) : BD (out ++ [(o, v)]) cnt k nt := by
  obtain ⟨h1, h2, h3, h4⟩ := h
  refine ⟨h1, ?_, ?_, h4⟩
  · rw [pus_app]
    show pus out + ((if o ≤ 1 then 1 else 0) + 0) ≤ cnt
    rw [if_neg (by omega)]
    omega
  · rw [List.length_append]
    show out.length + 1 + k ≤ _
    omega
theorem BD_le {out : Cd} {cnt k j nt : Nat} (h : BD out cnt k nt) (hj : j ≤ k) : BD out cnt j nt := ⟨h.1, h.2.1, by have := h.2.2.1; omega, h.2.2.2⟩
theorem BD_lt {out : Cd} {cnt k nt : Nat} (h : BD out cnt k nt) : out.length < 300 := by
  obtain ⟨h1, h2, h3, h4⟩ := h
  omega
def pI : Option Nat → Int32
  | none => -1
  | some o => nI o
def pn : Option Nat → Nat
  | none => 0
  | some _ => 1
def pOK : Option Nat → Prop
  | none => True
  | some o => o = 3 ∨ o = 4
noncomputable def TR (shR : List kd) (pe : Option Nat) (N : Nat) (v : Value) (s : St) : Option (Unit × St) := match pe with
  | none => fX12_sum_L4 shR N v s
  | some o => i_bd (fX12_entry shR s (nI (om o)) 0) (fun _ s => fX12_sum_L4 shR N v s)
noncomputable def kS (sh : List kd) : Int32 → Int32 → Value → St → Option (Unit × St) := fun (x58 : Int32) (x59 : Int32) (x60 : Value) (s61 : St) => fX8_readSum_X157 sh x58 x59 x60 s61
theorem kS_f {sh : List kd} {s : St} {x y : Int32} {v : Value} (h : ¬ s.1 1 3 = 0) : kS sh x y v s = some ((), s) := by
  unfold kS fX8_readSum_X157 fX8_readSum_J168
  rw [writeF h, bd_some]
  split <;> rfl
theorem sL_f {sh : List kd} {s : St} {x y : Int32} {v : Value} {N : Nat} (hN : 0 < N) (h : ¬ s.1 1 3 = 0) : fX8_readSum_L8 sh (kS sh) N x y v s = some ((), s) := by
  obtain ⟨N, rfl⟩ : ∃ n', N = n' + 1 := ⟨N - 1, by omega⟩
  rw [fX8_readSum_L8, if_pos h, kS_f h]
  split <;> rfl
theorem sR_f {sh : List kd} {s : St} {v : Value} {N : Nat} (hN : 0 < N) (h : ¬ s.1 0 21 = 0) : fX12_sum_L4 sh N v s = some ((), s) := by
  obtain ⟨N, rfl⟩ : ∃ n', N = n' + 1 := ⟨N - 1, by omega⟩
  rw [fX12_sum_L4, if_pos h]
  rfl
theorem tR_f {sh : List kd} {s : St} {v : Value} {N : Nat} (hN : 0 < N) (h : ¬ s.1 0 21 = 0) : fX12_term_L8 sh N v s = some ((), s) := by
  obtain ⟨N, rfl⟩ : ∃ n', N = n' + 1 := ⟨N - 1, by omega⟩
  rw [fX12_term_L8, if_pos h]
  rfl
theorem TR_f {sh : List kd} {s : St} {v : Value} {N : Nat} {pe : Option Nat} (hN : 0 < N) (h : ¬ s.1 0 21 = 0) : TR sh pe N v s = some ((), s) := by
  cases pe with
  | none => exact sR_f hN h
  | some o =>
    show i_bd (fX12_entry sh s (nI (om o)) 0) (fun _ s => fX12_sum_L4 sh N v s) = _
    rw [entryF h, bd_some]
    exact sR_f hN h
