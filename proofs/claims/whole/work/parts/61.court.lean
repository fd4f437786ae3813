/-! ===== a COURT is read: the clauses ===== -/
def fOK (f : Int32) : Prop := ∃ m, m < 5000 ∧ f = nI m
def PX (σC σR : St) (tp : List Nat) (f : Int32) : Prop := tpC σC tp ∧ tpR σR tp ∧ σC.1 1 3 = f ∧ σR.1 0 21 = f ∧ fOK f ∧ ∃ pc pr, pc ≤ tp.length ∧ pr ≤ tp.length ∧ σC.1 1 2 = nI pc ∧ σR.1 0 20 = nI pr ∧ (f = 0 → pc = pr)
def nfC (σ τ : St) : Prop := (∀ i k, ¬ (i = 1 ∧ (k = 2 ∨ k = 3)) → τ.1 i k = σ.1 i k) ∧ τ.2 = σ.2
def nfR (σ τ : St) : Prop := (∀ i k, ¬ (i = 0 ∧ (k = 20 ∨ k = 21)) → τ.1 i k = σ.1 i k) ∧ τ.2 = σ.2
theorem nfC_trans {σ τ υ : St} (h : nfC σ τ) (g : nfC τ υ) : nfC σ υ := ⟨fun i k hk => (g.1 i k hk).trans (h.1 i k hk), g.2.trans h.2⟩
theorem nfR_trans {σ τ υ : St} (h : nfR σ τ) (g : nfR τ υ) : nfR σ υ := ⟨fun i k hk => (g.1 i k hk).trans (h.1 i k hk), g.2.trans h.2⟩
theorem tpC_nf {σ τ : St} {tp : List Nat} (h : nfC σ τ) (g : tpC σ tp) : tpC τ tp := ⟨g.1, by rw [h.1 1 1 (by omega)]; exact g.2.1, by rw [h.2]; exact g.2.2⟩
theorem tpR_nf {σ τ : St} {tp : List Nat} (h : nfR σ τ) (g : tpR σ tp) : tpR τ tp := ⟨g.1, by rw [h.1 0 19 (by omega)]; exact g.2.1, by rw [h.2]; exact g.2.2⟩
theorem nfC_2 {σ : St} {x : Int32} : nfC σ (s_F σ 1 2 x) := ⟨fun i k hk => by rw [s_F_rd, if_neg (by omega)], rfl⟩
theorem nfC_3 {σ : St} {x : Int32} : nfC σ (s_F σ 1 3 x) := ⟨fun i k hk => by rw [s_F_rd, if_neg (by omega)], rfl⟩
theorem nfR_20 {σ : St} {x : Int32} : nfR σ (s_F σ 0 20 x) := ⟨fun i k hk => by rw [s_F_rd, if_neg (by omega)], rfl⟩
theorem nfR_21 {σ : St} {x : Int32} : nfR σ (s_F σ 0 21 x) := ⟨fun i k hk => by rw [s_F_rd, if_neg (by omega)], rfl⟩
theorem flt_ok {f : Int32} {s : Nat} {c : Option Nat} (hf : fOK f) (hs : s ≤ 400) (hc : ∀ d, c = some d → d ≤ 4) : fOK (flt f s c) := by
  cases c with
  | none => exact hf
  | some d =>
    have := hc d rfl
    unfold flt
    dsimp only
    split
    · exact hf
    · refine ⟨1 + 8 * s + d, by omega, ?_⟩
      rw [show (1 : Int32) = nI 1 from by decide, show (8 : Int32) = nI 8 from by decide, nI_mul, nI_add, nI_add]
theorem ncode_le {n v : Nat} {lo hi : Int32} : ∀ d, ncode n v lo hi = some d → d ≤ 4 := by
  intro d h
  unfold ncode at h
  split at h
  · cases h; omega
  · split at h
    · cases h; omega
    · split at h
      · cases h; omega
      · split at h
        · cases h
        · cases h; omega
theorem ncode_none {n v : Nat} {lo hi : Int32} (h : ncode n v lo hi = none) : ¬ nI v < lo ∧ nI v ≤ hi := by
  unfold ncode at h
  split at h
  · cases h
  · split at h
    · cases h
    · split at h
      · cases h
      · next h1 =>
        split at h
        · next h2 => exact ⟨h1, h2⟩
        · cases h
theorem flt_0 {s : Nat} {c : Option Nat} (hs : s ≤ 400) (hc : ∀ d, c = some d → d ≤ 4) (h : flt 0 s c = 0) : c = none := by
  cases c with
  | none => rfl
  | some d => exact absurd h (flt_1 hs (hc d rfl))
/-- both read a NUMBER -/
theorem nums {sh shR : List kd} {σC σR : St} {tp : List Nat} {f lo hi : Int32} (h : PX σC σR tp f) : ∃ vC vR τC τR f', fX9_number sh σC lo hi = some (vC, τC) ∧ fX12_amount shR σR lo hi = some (vR, τR) ∧ PX τC τR tp f' ∧ nfC σC τC ∧ nfR σR τR ∧ (¬ f = 0 → f' = f) ∧ (f' = 0 → f = 0 ∧ ∃ v, v < 100000 ∧ vC = nI v ∧ vR = nI v ∧ ¬ nI v < lo ∧ nI v ≤ hi) := by
  obtain ⟨h1, h2, h3, h4, h5, pc, pr, h6, h7, h8, h9, h10⟩ := h
  have h400 := h1.1
  have hsC := skp_le h6
  have hbC := nm_bd hsC
  have hC := numC (sh := sh) (lo := lo) (hi := hi) h1 h6 h8
  rw [h3] at hC
  have nC : nfC σC (s_F (s_F σC 1 2 (nI (skp tp pc + (nm tp (skp tp pc)).2))) 1 3 (flt f (skp tp pc) (ncode (nm tp (skp tp pc)).2 (nm tp (skp tp pc)).1 lo hi))) := nfC_trans nfC_2 nfC_3
  have c2 : (s_F (s_F σC 1 2 (nI (skp tp pc + (nm tp (skp tp pc)).2))) 1 3 (flt f (skp tp pc) (ncode (nm tp (skp tp pc)).2 (nm tp (skp tp pc)).1 lo hi))).1 1 2 = nI (skp tp pc + (nm tp (skp tp pc)).2) := by rw [s_F_rd, if_neg (by omega), s_F_rd, if_pos ⟨rfl, rfl⟩]
  have c3 : (s_F (s_F σC 1 2 (nI (skp tp pc + (nm tp (skp tp pc)).2))) 1 3 (flt f (skp tp pc) (ncode (nm tp (skp tp pc)).2 (nm tp (skp tp pc)).1 lo hi))).1 1 3 = flt f (skp tp pc) (ncode (nm tp (skp tp pc)).2 (nm tp (skp tp pc)).1 lo hi) := by rw [s_F_rd, if_pos ⟨rfl, rfl⟩]
  by_cases h0 : f = 0
  · have hpp := h10 h0
    subst hpp h0
    have hR := amtR (sh := shR) (lo := lo) (hi := hi) h2 h7 h9 h4
    refine ⟨_, _, _, _, _, hC, hR, ⟨tpC_nf nC h1, tpR_nf (nfR_trans nfR_20 nfR_21) h2, c3, by rw [s_F_rd, if_pos ⟨rfl, rfl⟩], flt_ok h5 (by omega) ncode_le, _, _, hbC.2, hbC.2, c2, by rw [s_F_rd, if_neg (by omega), s_F_rd, if_pos ⟨rfl, rfl⟩], fun _ => rfl⟩, nC, nfR_trans nfR_20 nfR_21, fun e => absurd rfl e, fun e => ⟨rfl, _, hbC.1, rfl, rfl, ncode_none (flt_0 (by omega) ncode_le e)⟩⟩
  · have hR := amtRf (sh := shR) (lo := lo) (hi := hi) h2 h7 h9 (by rw [h4]; exact h0)
    have ef : flt f (skp tp pc) (ncode (nm tp (skp tp pc)).2 (nm tp (skp tp pc)).1 lo hi) = f := flt_f h0
    rw [ef] at hC nC c2 c3
    refine ⟨_, _, _, _, f, hC, hR, ⟨tpC_nf nC h1, tpR_nf nfR_20 h2, c3, by rw [s_F_rd, if_neg (by omega)]; exact h4, h5, _, _, hbC.2, skp_le h7, c2, by rw [s_F_rd, if_pos ⟨rfl, rfl⟩], fun e => absurd e h0⟩, nC, nfR_20, fun _ => rfl, fun e => absurd e h0⟩
/-- the COURT that is being read -/
def dC (σ : St) (R : Rl) : Prop := σ.1 3 0 = (if R.1.1 = 0 then 0 else 1) ∧ σ.1 3 1 = nI R.1.1 ∧ σ.1 3 2 = R.1.2.1 ∧ σ.1 3 3 = nI R.1.2.2.1 ∧ σ.1 3 4 = nI R.1.2.2.2 ∧
  (∀ j, j < R.1.2.2.1 → σ.2.1 4 j = R.2.1 j) ∧ (∀ j, j < 6 → σ.2.1 5 j = R.2.2.1 j) ∧ (∀ j, j < 12 → σ.2.1 6 j = R.2.2.2.1 j) ∧ (∀ j, j < 6 → σ.2.1 7 j = R.2.2.2.2.1 j) ∧ (∀ j, j < R.1.2.2.2 → σ.2.1 8 j = R.2.2.2.2.2 j)
def dR (σ : St) (R : Rl) : Prop := σ.2.1 13 0 = nI R.1.1 ∧ σ.2.1 13 1 = R.1.2.1 ∧ σ.2.1 13 2 = nI R.1.2.2.1 ∧ σ.2.1 13 3 = nI R.1.2.2.2 ∧
  (∀ j, j < R.1.2.2.1 → σ.2.1 14 j = R.2.1 j) ∧ (∀ j, j < 6 → σ.2.1 15 j = R.2.2.1 j) ∧ (∀ j, j < 12 → σ.2.1 16 j = R.2.2.2.1 j) ∧ (∀ j, j < 6 → σ.2.1 17 j = R.2.2.2.2.1 j) ∧ (∀ j, j < R.1.2.2.2 → σ.2.1 18 j = R.2.2.2.2.2 j)
def wfD (R : Rl) : Prop := wfRs R ∧ wfK R ∧ ∀ t, R.1.2.2.1 ≤ t → t < 6 → R.2.2.1 t = 0
theorem dC_nf {σ τ : St} {R : Rl} (h : nfC σ τ) (g : dC σ R) : dC τ R := by
  unfold dC
  rw [h.1 3 0 (by omega), h.1 3 1 (by omega), h.1 3 2 (by omega), h.1 3 3 (by omega), h.1 3 4 (by omega), h.2]
  exact g
theorem dR_nf {σ τ : St} {R : Rl} (h : nfR σ τ) (g : dR σ R) : dR τ R := by
  unfold dR
  rw [h.2]
  exact g
/-- what reading leaves alone -/
def rdC (σ τ : St) : Prop := (∀ i k, ¬ (i = 1 ∧ (k = 2 ∨ k = 3)) → i ≠ 3 → τ.1 i k = σ.1 i k) ∧ (∀ i, ¬ (4 ≤ i ∧ i ≤ 8) → τ.2.1 i = σ.2.1 i) ∧ τ.2.2 = σ.2.2
def rdR (σ τ : St) : Prop := (∀ i k, ¬ (i = 0 ∧ (k = 20 ∨ k = 21)) → τ.1 i k = σ.1 i k) ∧ (∀ i, ¬ (13 ≤ i ∧ i ≤ 18) → τ.2.1 i = σ.2.1 i) ∧ τ.2.2 = σ.2.2
theorem rdC_trans {σ τ υ : St} (h : rdC σ τ) (g : rdC τ υ) : rdC σ υ := ⟨fun i k hk hi => (g.1 i k hk hi).trans (h.1 i k hk hi), fun i hi => (g.2.1 i hi).trans (h.2.1 i hi), g.2.2.trans h.2.2⟩
theorem rdR_trans {σ τ υ : St} (h : rdR σ τ) (g : rdR τ υ) : rdR σ υ := ⟨fun i k hk => (g.1 i k hk).trans (h.1 i k hk), fun i hi => (g.2.1 i hi).trans (h.2.1 i hi), g.2.2.trans h.2.2⟩
theorem rdC_nf {σ τ : St} (h : nfC σ τ) : rdC σ τ := ⟨fun i k hk _ => h.1 i k hk, fun i _ => by rw [h.2], by rw [h.2]⟩
theorem rdR_nf {σ τ : St} (h : nfR σ τ) : rdR σ τ := ⟨h.1, fun i _ => by rw [h.2], by rw [h.2]⟩
theorem rdC_F {σ : St} {k : Nat} {x : Int32} : rdC σ (s_F σ 3 k x) := ⟨fun i q hq hi => by rw [s_F_rd, if_neg (fun e => hi e.1)], fun _ _ => rfl, rfl⟩
theorem rdC_A {σ : St} {i k : Nat} {x : Int32} (h : 4 ≤ i ∧ i ≤ 8) : rdC σ (s_A σ i k x) := ⟨fun _ _ _ _ => rfl, fun j hj => s_A_ne (by omega), rfl⟩
theorem rdR_A {σ : St} {i k : Nat} {x : Int32} (h : 13 ≤ i ∧ i ≤ 18) : rdR σ (s_A σ i k x) := ⟨fun _ _ _ => rfl, fun j hj => s_A_ne (by omega), rfl⟩
theorem PX_rd {σC σR τC τR : St} {tp : List Nat} {f : Int32} (h : PX σC σR tp f) (gC : ∀ k, τC.1 1 k = σC.1 1 k) (gC2 : τC.2.1 2 = σC.2.1 2) (gR : ∀ k, τR.1 0 k = σR.1 0 k) (gR2 : τR.2.1 19 = σR.2.1 19) : PX τC τR tp f := by
  obtain ⟨h1, h2, h3, h4, h5, pc, pr, h6, h7, h8, h9, h10⟩ := h
  refine ⟨⟨h1.1, by rw [gC]; exact h1.2.1, by rw [gC2]; exact h1.2.2⟩, ⟨h2.1, by rw [gR]; exact h2.2.1, by rw [gR2]; exact h2.2.2⟩, by rw [gC]; exact h3, by rw [gR]; exact h4, h5, pc, pr, h6, h7, by rw [gC]; exact h8, by rw [gR]; exact h9, h10⟩
/-- a CLAUSE is read alike -/
def rdOK (σC σR : St) (tp : List Nat) (x y : Option (Unit × St)) : Prop := ∃ τC τR f, x = some ((), τC) ∧ y = some ((), τR) ∧ PX τC τR tp f ∧ rdC σC τC ∧ rdR σR τR ∧ (f = 0 → ∃ R, wfD R ∧ dC τC R ∧ dR τR R ∧ 0 < R.1.1)
theorem q0 : i_ok 0 4 := by decide
theorem q1 : i_ok 1 4 := by decide
theorem q2 : i_ok 2 4 := by decide
theorem q3 : i_ok 3 4 := by decide
theorem nge {v : Nat} {lo : Nat} (hv : v < 2 ^ 31) (h : ¬ nI v < nI lo) (hl : lo < 2 ^ 31) : lo ≤ v := by
  have := mt (nI_ltI hv hl).mpr h
  omega
theorem nle {v hi : Nat} (hv : v < 2 ^ 31) (hh : hi < 2 ^ 31) (h : nI v ≤ nI hi) : v ≤ hi := (nI_leI hv hh).mp h
theorem nle1 {v n : Nat} (hv : v < 2 ^ 31) (hh : n < 2 ^ 31) (h : nI v ≤ nI n - 1) : v < n := by
  cases n with
  | zero =>
    exfalso
    have a := Int32.le_iff_toInt_le.mp h
    rw [nI_toInt hv, show (nI 0 - 1).toInt = -1 from by decide] at a
    omega
  | succ n =>
    rw [nI_pred] at h
    have := (nI_leI hv (by omega)).mp h
    omega
theorem rd_court {sh shR : List kd} {σC σR : St} {tp : List Nat} {R : Rl} (h : PX σC σR tp 0) (hw : wfD R) (hC : dC σC R) (hR : dR σR R) : rdOK σC σR tp (fX1_readCourt sh σC) (i_bd (fX12_amount shR σR 1 12) (fun r55 s56 => if i_ok 0 4 then i_bd (fX12_amount shR (s_A s56 13 (0 : Int32).toNatClampNeg r55) 1 99) (fun r59 s60 => if i_ok 1 4 then fX12_courtPart_J187 shR 0 (.retAddr 0) (.retAddr 0) (s_A s60 13 (1 : Int32).toNatClampNeg r59) else none) else none)) := by
  obtain ⟨vC, vR, sC, sR, f, a1, a2, a3, a4, a5, a6, a7⟩ := nums (sh := sh) (shR := shR) (lo := 1) (hi := 12) h
  have a3' : PX (s_F sC 3 1 vC) (s_A sR 13 0 vR) tp f := PX_rd a3 (fun k => by rw [s_F_rd, if_neg (by omega)]) rfl (fun _ => rfl) (s_A_ne (by decide))
  obtain ⟨uC, uR, tC, tR, g, b1, b2, b3, b4, b5, b6, b7⟩ := nums (sh := sh) (shR := shR) (lo := 1) (hi := 99) a3'
  unfold fX1_readCourt
  rw [a1, bd_some, b1, bd_some, a2, bd_some, if_pos q0, c_0, b2, bd_some, if_pos q1, c_1]
  refine ⟨_, _, g, rfl, rfl, PX_rd b3 (fun k => by rw [s_F_rd, if_neg (by omega), s_F_rd, if_neg (by omega)]) rfl (fun _ => rfl) (s_A_ne (by decide)), rdC_trans (rdC_nf a4) (rdC_trans rdC_F (rdC_trans (rdC_nf b4) (rdC_trans rdC_F rdC_F))), rdR_trans (rdR_nf a5) (rdR_trans (rdR_A (by omega)) (rdR_trans (rdR_nf b5) (rdR_A (by omega)))), fun hg => ?_⟩
  obtain ⟨hf, v2, v21, v22, v23, v24, v25⟩ := b7 hg
  obtain ⟨_, v1, v11, v12, v13, v14, v15⟩ := a7 hf
  have d1 : 1 ≤ v1 := nge (by omega) (by rw [nz1]; exact v14) (by omega)
  have d12 : v1 ≤ 12 := nle (by omega) (by omega) (by rw [nz12]; exact v15)
  obtain ⟨w1, w2, w3⟩ := hw
  have hD0 := w1.1
  refine ⟨((v1, nI v2, R.1.2.2), R.2), ⟨⟨d12, w1.2.1, w1.2.2.1, fun e => by have : v1 = 0 := e; omega, w1.2.2.2.2⟩, w2, w3⟩, ?_, ?_, d1⟩
  · have e4 := dC_nf a4 hC
    refine ⟨?_, ?_, ?_, ?_, ?_, ?_, ?_, ?_, ?_, ?_⟩
    · rw [s_F_rd, if_pos ⟨rfl, rfl⟩, if_neg (by show ¬ v1 = 0; omega)]
    · rw [s_F_rd, if_neg (by omega), s_F_rd, if_neg (by omega), b4.1 3 1 (by omega), s_F_rd, if_pos ⟨rfl, rfl⟩, v12]
    · rw [s_F_rd, if_neg (by omega), s_F_rd, if_pos ⟨rfl, rfl⟩, v22]
    · rw [s_F_rd, if_neg (by omega), s_F_rd, if_neg (by omega), b4.1 3 3 (by omega), s_F_rd, if_neg (by omega)]; exact e4.2.2.2.1
    · rw [s_F_rd, if_neg (by omega), s_F_rd, if_neg (by omega), b4.1 3 4 (by omega), s_F_rd, if_neg (by omega)]; exact e4.2.2.2.2.1
    · rw [s_F_A, s_F_A, b4.2]; exact e4.2.2.2.2.2.1
    · rw [s_F_A, s_F_A, b4.2]; exact e4.2.2.2.2.2.2.1
    · rw [s_F_A, s_F_A, b4.2]; exact e4.2.2.2.2.2.2.2.1
    · rw [s_F_A, s_F_A, b4.2]; exact e4.2.2.2.2.2.2.2.2.1
    · rw [s_F_A, s_F_A, b4.2]; exact e4.2.2.2.2.2.2.2.2.2
  · have e4 := dR_nf a5 hR
    have eo : ∀ i, i ≠ 13 → (s_A tR 13 1 uR).2.1 i = sR.2.1 i := fun i hi => by rw [s_A_ne hi, b5.2, s_A_ne hi]
    have e13 : ∀ k, (s_A tR 13 1 uR).2.1 13 k = if k = 1 then uR else if k = 0 then vR else sR.2.1 13 k := fun k => by
      rw [s_A_up, upd_pt, b5.2, s_A_up, upd_pt]
    refine ⟨?_, ?_, ?_, ?_, ?_, ?_, ?_, ?_, ?_⟩
    · rw [e13, if_neg (by omega), if_pos rfl, v13]
    · rw [e13, if_pos rfl, v23]
    · rw [e13, if_neg (by omega), if_neg (by omega)]; exact e4.2.2.1
    · rw [e13, if_neg (by omega), if_neg (by omega)]; exact e4.2.2.2.1
    · rw [eo 14 (by decide)]; exact e4.2.2.2.2.1
    · rw [eo 15 (by decide)]; exact e4.2.2.2.2.2.1
    · rw [eo 16 (by decide)]; exact e4.2.2.2.2.2.2.1
    · rw [eo 17 (by decide)]; exact e4.2.2.2.2.2.2.2.1
    · rw [eo 18 (by decide)]; exact e4.2.2.2.2.2.2.2.2
theorem rd_thing {sh shR : List kd} {σC σR : St} {tp : List Nat} {R : Rl} (h : PX σC σR tp 0) (hw : wfD R) (hC : dC σC R) (hR : dR σR R) (hD : 0 < R.1.1) (hT : R.1.2.2.1 < 6) : rdOK σC σR tp (fX1_readThing sh σC) (fX12_courtPart shR σR 1) := by
  obtain ⟨vC, vR, sC, sR, f, a1, a2, a3, a4, a5, a6, a7⟩ := nums (sh := sh) (shR := shR) (lo := 0) (hi := 20) h
  have hok : i_ok (nI R.1.2.2.1) 6 := ok_nI hT (by omega)
  have hcl : (nI R.1.2.2.1).toNatClampNeg = R.1.2.2.1 := nI_clamp (by omega)
  have e4 := dC_nf a4 hC
  have e5 := dR_nf a5 hR
  unfold fX1_readThing fX12_courtPart fX12_courtPart_J187
  rw [a1, bd_some, hC.2.2.2.1, if_pos hok, hcl, if_neg (by decide), if_pos rfl]
  simp only [if_pos q2, c_2, jp]
  rw [a2, bd_some, hR.2.2.1]
  simp only [if_pos hok, hcl]
  rw [show (s_A sC 4 R.1.2.2.1 vC).1 3 3 = nI R.1.2.2.1 from e4.2.2.2.1, show (s_A sR 14 R.1.2.2.1 vR).2.1 13 2 = nI R.1.2.2.1 from (by rw [s_A_ne (by decide)]; exact e5.2.2.1), nI_1]
  refine ⟨_, _, f, rfl, rfl, PX_rd a3 (fun k => by rw [s_F_rd, if_neg (by omega)]; rfl) (by rw [s_F_A, s_A_ne (by decide)]) (fun _ => rfl) (by rw [s_A_ne (by decide), s_A_ne (by decide)]), rdC_trans (rdC_nf a4) (rdC_trans (rdC_A (by omega)) rdC_F), rdR_trans (rdR_nf a5) (rdR_trans (rdR_A (by omega)) (rdR_A (by omega))), fun hf => ?_⟩
  obtain ⟨_, v, v1, v2, v3, v4, v5⟩ := a7 hf
  have d20 : v ≤ 20 := nle (by omega) (by omega) (by rw [show nI 20 = 20 from by decide]; exact v5)
  obtain ⟨w1, w2, w3⟩ := hw
  refine ⟨((R.1.1, R.1.2.1, R.1.2.2.1 + 1, R.1.2.2.2), upd R.2.1 R.1.2.2.1 (nI v), R.2.2), ⟨⟨w1.1, by show R.1.2.2.1 + 1 ≤ 6; omega, w1.2.2.1, fun e => by have : R.1.1 = 0 := e; omega, fun j hj => ?_⟩, ⟨fun t ht => ?_, fun t ht u hu => ?_⟩, fun t ht ht6 => ?_⟩, ?_, ?_, hD⟩
  · rcases w1.2.2.2.2 j hj with e | ⟨z, z1, z2⟩
    · exact Or.inl e
    · exact Or.inr ⟨z, by show z < R.1.2.2.1 + 1; omega, z2⟩
  · show ∃ r, r ≤ 20 ∧ upd R.2.1 R.1.2.2.1 (nI v) t = nI r
    have ht' : t < R.1.2.2.1 + 1 := ht
    rw [upd_pt]
    by_cases hte : t = R.1.2.2.1
    · rw [if_pos hte]; exact ⟨v, d20, rfl⟩
    · rw [if_neg hte]; exact w2.1 t (by omega)
  · have ht' : t < R.1.2.2.1 + 1 := ht
    have hu' : (R.2.2.1 t).toBitVec.getLsbD u = true := hu
    by_cases hte : t = R.1.2.2.1
    · exfalso
      rw [hte, w3 _ (Nat.le_refl _) hT] at hu'
      simp at hu'
    · obtain ⟨k1, k2⟩ := w2.2 t (by omega) u hu'
      exact ⟨by show u < R.1.2.2.1 + 1; omega, k2⟩
  · exact w3 t (by have : R.1.2.2.1 + 1 ≤ t := ht; omega) ht6
  · refine ⟨?_, ?_, ?_, ?_, ?_, fun j hj => ?_, ?_, ?_, ?_, ?_⟩
    · rw [s_F_rd, if_neg (by omega)]; exact e4.1
    · rw [s_F_rd, if_neg (by omega)]; exact e4.2.1
    · rw [s_F_rd, if_neg (by omega)]; exact e4.2.2.1
    · rw [s_F_rd, if_pos ⟨rfl, rfl⟩]
    · rw [s_F_rd, if_neg (by omega)]; exact e4.2.2.2.2.1
    · have hj' : j < R.1.2.2.1 + 1 := hj
      show (s_F _ 3 3 _).2.1 4 j = upd R.2.1 R.1.2.2.1 (nI v) j
      rw [s_F_A, s_A_up, upd_pt, upd_pt]
      by_cases hje : j = R.1.2.2.1
      · rw [if_pos hje, if_pos hje, v2]
      · rw [if_neg hje, if_neg hje]; exact e4.2.2.2.2.2.1 j (by omega)
    · rw [s_F_A, s_A_ne (by decide)]; exact e4.2.2.2.2.2.2.1
    · rw [s_F_A, s_A_ne (by decide)]; exact e4.2.2.2.2.2.2.2.1
    · rw [s_F_A, s_A_ne (by decide)]; exact e4.2.2.2.2.2.2.2.2.1
    · rw [s_F_A, s_A_ne (by decide)]; exact e4.2.2.2.2.2.2.2.2.2
  · have eo : ∀ i, i ≠ 13 → i ≠ 14 → (s_A (s_A sR 14 R.1.2.2.1 vR) 13 2 (nI (R.1.2.2.1 + 1))).2.1 i = sR.2.1 i := fun i h1 h2 => by rw [s_A_ne h1, s_A_ne h2]
    have e13 : ∀ k, k ≠ 2 → (s_A (s_A sR 14 R.1.2.2.1 vR) 13 2 (nI (R.1.2.2.1 + 1))).2.1 13 k = sR.2.1 13 k := fun k hk => by rw [s_A_rd, if_neg (fun e => hk e.2), s_A_ne (by decide)]
    refine ⟨?_, ?_, ?_, ?_, fun j hj => ?_, ?_, ?_, ?_, ?_⟩
    · rw [e13 0 (by decide)]; exact e5.1
    · rw [e13 1 (by decide)]; exact e5.2.1
    · exact s_A_at
    · rw [e13 3 (by decide)]; exact e5.2.2.2.1
    · have hj' : j < R.1.2.2.1 + 1 := hj
      show _ = upd R.2.1 R.1.2.2.1 (nI v) j
      rw [s_A_ne (by decide), s_A_up, upd_pt, upd_pt]
      by_cases hje : j = R.1.2.2.1
      · rw [if_pos hje, if_pos hje, v3]
      · rw [if_neg hje, if_neg hje]; exact e5.2.2.2.2.1 j (by omega)
    · rw [eo 15 (by decide) (by decide)]; exact e5.2.2.2.2.2.1
    · rw [eo 16 (by decide) (by decide)]; exact e5.2.2.2.2.2.2.1
    · rw [eo 17 (by decide) (by decide)]; exact e5.2.2.2.2.2.2.2.1
    · rw [eo 18 (by decide) (by decide)]; exact e5.2.2.2.2.2.2.2.2
