/-! ===== whether a number is such ===== -/
theorem inR {sh : List kd} {σ : St} {x y z : Int64} : fX12_in sh σ x y z = some ((if x.toInt < y.toInt ∨ z.toInt < x.toInt then 0 else 1 : Int32), σ) := by
  unfold fX12_in
  by_cases h1 : lg_cmp x y < 0
  · rw [if_pos h1, if_pos (by decide), if_pos (Or.inl (Int64.lt_iff_toInt_lt.mp ((lg_cmp_lt x y).mp h1)))]
  · have h1' : ¬ x.toInt < y.toInt := fun e => h1 ((lg_cmp_lt x y).mpr (Int64.lt_iff_toInt_lt.mpr e))
    rw [if_neg h1]
    by_cases h2 : 0 < lg_cmp x z
    · rw [if_pos h2, if_pos (by decide), if_pos (Or.inr (Int64.lt_iff_toInt_lt.mp ((lg_cmp_gt x z).mp h2)))]
    · have h2' : ¬ z.toInt < x.toInt := fun e => h2 ((lg_cmp_gt x z).mpr (Int64.lt_iff_toInt_lt.mpr e))
      rw [if_neg h2, if_pos (by decide), if_neg (by omega)]
theorem withinC {sh : List kd} {σ : St} {x y z : Int32} : fX11_isWithin sh σ x y z = some ((if x.toInt < y.toInt ∨ z.toInt < x.toInt then 0 else 1 : Int32), σ) := by
  unfold fX11_isWithin
  by_cases h1 : x < y
  · rw [if_pos h1, if_pos (by decide), if_pos (Or.inl (Int32.lt_iff_toInt_lt.mp h1))]
  · have h1' : ¬ x.toInt < y.toInt := fun e => h1 (Int32.lt_iff_toInt_lt.mpr e)
    rw [if_neg h1]
    by_cases h2 : z < x
    · rw [if_pos h2, if_pos (by decide), if_pos (Or.inr (Int32.lt_iff_toInt_lt.mp h2))]
    · have h2' : ¬ z.toInt < x.toInt := fun e => h2 (Int32.lt_iff_toInt_lt.mpr e)
      rw [if_neg h2, if_pos (by decide), if_neg (by omega)]
/-- x is one of a, .., b -/
def btw (x : Int32) (a b : Nat) : Prop := ∃ k, a ≤ k ∧ k ≤ b ∧ x = nI k
theorem btw_iff {x : Int32} {a b : Nat} (hb : b < 2 ^ 31) : ¬ (x.toInt < (a : Int) ∨ (b : Int) < x.toInt) ↔ btw x a b := by
  constructor
  · intro h
    have h0 : ¬ x < 0 := fun e => by
      have := Int32.lt_iff_toInt_lt.mp e
      have z : (0 : Int32).toInt = 0 := by decide
      omega
    obtain ⟨k, h1, h2⟩ := nI_of h0
    refine ⟨k, ?_, ?_, h2⟩
    · rw [h2, nI_toInt h1] at h; omega
    · rw [h2, nI_toInt h1] at h; omega
  · rintro ⟨k, h1, h2, h3⟩
    rw [h3, nI_toInt (by omega)]
    omega
theorem within_t {sh : List kd} {σ : St} {x y z : Int32} {a b : Nat} (ha : a < 2 ^ 31) (hb : b < 2 ^ 31) (hy : y = nI a) (hz : z = nI b) (h : btw x a b) : fX11_isWithin sh σ x y z = some (1, σ) := by
  rw [withinC, hy, hz, nI_toInt ha, nI_toInt hb, if_neg ((btw_iff hb).mpr h)]
theorem within_f {sh : List kd} {σ : St} {x y z : Int32} {a b : Nat} (ha : a < 2 ^ 31) (hb : b < 2 ^ 31) (hy : y = nI a) (hz : z = nI b) (h : ¬ btw x a b) : fX11_isWithin sh σ x y z = some (0, σ) := by
  rw [withinC, hy, hz, nI_toInt ha, nI_toInt hb, if_pos (Decidable.byContradiction fun e => h ((btw_iff hb).mp e))]
theorem in_t {sh : List kd} {σ : St} {x : Int32} {y z : Int64} {a b : Nat} (ha : a < 2 ^ 31) (hb : b < 2 ^ 31) (hy : y = lN a) (hz : z = lN b) (h : btw x a b) : fX12_in sh σ x.toInt64 y z = some (1, σ) := by
  rw [inR, hy, hz, lN_toInt ha, lN_toInt hb, Int32.toInt_toInt64, if_neg ((btw_iff hb).mpr h)]
theorem in_f {sh : List kd} {σ : St} {x : Int32} {y z : Int64} {a b : Nat} (ha : a < 2 ^ 31) (hb : b < 2 ^ 31) (hy : y = lN a) (hz : z = lN b) (h : ¬ btw x a b) : fX12_in sh σ x.toInt64 y z = some (0, σ) := by
  rw [inR, hy, hz, lN_toInt ha, lN_toInt hb, Int32.toInt_toInt64, if_pos (Decidable.byContradiction fun e => h ((btw_iff hb).mp e))]
/-- x is one of n -/
def isN (n : Nat) (x : Int32) : Prop := ∃ k, k < n ∧ x = nI k
theorem isN_iff {n : Nat} {x : Int32} (hn : n < 2 ^ 31) : ¬ (x < 0) ∧ ¬ (nI n ≤ x) ↔ isN n x := by
  constructor
  · rintro ⟨h1, h2⟩
    obtain ⟨k, h3, h4⟩ := nI_of h1
    rw [h4, nI_leI hn h3] at h2
    exact ⟨k, by omega, h4⟩
  · rintro ⟨k, h1, h2⟩
    rw [h2]
    exact ⟨nI_pos (by omega), nI_ge h1 hn⟩
theorem hasC_aux {σ : St} {n : Nat} {x : Int32} (hn : n < 2 ^ 31) (c : Int32) (hc : c = nI n) : (if ((if x < 0 then 0 else (if c ≤ x then 0 else 1)) : Int32) &&& 1 = ((if x < 0 then 0 else (if c ≤ x then 0 else 1)) : Int32) then some (((if x < 0 then 0 else (if c ≤ x then 0 else 1)) : Int32), σ) else none) = some ((if ¬ (¬ (x < 0) ∧ ¬ (c ≤ x)) then 0 else 1 : Int32), σ) := by
  by_cases h1 : x < 0
  · rw [if_pos h1, if_pos (by decide), if_pos (fun e => e.1 h1)]
  · rw [if_neg h1]
    by_cases h2 : c ≤ x
    · rw [if_pos h2, if_pos (by decide), if_pos (fun e => e.2 h2)]
    · rw [if_neg h2, if_pos (by decide), if_neg (not_not_intro ⟨h1, h2⟩)]
theorem hasP_t {sh : List kd} {σ : St} {r n : Nat} {x : Int32} (hn : n < 2 ^ 31) (hc : σ.1 r 4 = nI n) (h : isN n x) : fX6_hasPerson sh σ r x = some (1, σ) := by
  unfold fX6_hasPerson
  rw [hasC_aux hn _ hc, hc, if_neg (not_not_intro ((isN_iff hn).mpr h))]
theorem hasP_f {sh : List kd} {σ : St} {r n : Nat} {x : Int32} (hn : n < 2 ^ 31) (hc : σ.1 r 4 = nI n) (h : ¬ isN n x) : fX6_hasPerson sh σ r x = some (0, σ) := by
  unfold fX6_hasPerson
  rw [hasC_aux hn _ hc, hc, if_pos (fun e => h ((isN_iff hn).mp e))]
theorem hasT_t {sh : List kd} {σ : St} {r n : Nat} {x : Int32} (hn : n < 2 ^ 31) (hc : σ.1 r 3 = nI n) (h : isN n x) : fX6_hasThing sh σ r x = some (1, σ) := by
  unfold fX6_hasThing
  rw [hasC_aux hn _ hc, hc, if_neg (not_not_intro ((isN_iff hn).mpr h))]
theorem hasT_f {sh : List kd} {σ : St} {r n : Nat} {x : Int32} (hn : n < 2 ^ 31) (hc : σ.1 r 3 = nI n) (h : ¬ isN n x) : fX6_hasThing sh σ r x = some (0, σ) := by
  unfold fX6_hasThing
  rw [hasC_aux hn _ hc, hc, if_pos (fun e => h ((isN_iff hn).mp e))]
theorem isR_aux {sh : List kd} {σ : St} {n : Nat} {x : Int32} (hn : n < 2 ^ 30) : (isN n x → fX12_in sh σ x.toInt64 0 ((nI n - 1).toInt64) = some (1, σ)) ∧ (¬ isN n x → fX12_in sh σ x.toInt64 0 ((nI n - 1).toInt64) = some (0, σ)) := by
  have e0 : (0 : Int64).toInt = 0 := by decide
  have e1 : (nI n - 1).toInt = (n : Int) - 1 := by
    cases n with
    | zero => decide
    | succ n =>
      rw [nI_pred, nI_toInt (by omega)]
      omega
  constructor
  · rintro ⟨k, h1, h2⟩
    rw [inR, e0, Int32.toInt_toInt64, Int32.toInt_toInt64, e1, h2, nI_toInt (by omega), if_neg (by omega)]
  · intro h
    rw [inR, e0, Int32.toInt_toInt64, Int32.toInt_toInt64, e1]
    by_cases h1 : x.toInt < 0
    · rw [if_pos (Or.inl h1)]
    · obtain ⟨k, h3, h4⟩ := nI_of (x := x) (fun e => h1 (by
        have := Int32.lt_iff_toInt_lt.mp e
        have z : (0 : Int32).toInt = 0 := by decide
        omega))
      have hk : ¬ k < n := fun e => h ⟨k, e, h4⟩
      rw [h4, nI_toInt h3, if_pos (by omega)]
theorem isP_t {sh : List kd} {σ : St} {n : Nat} {x : Int32} (hn : n < 2 ^ 30) (hc : σ.2.1 1 3 = nI n) (h : isN n x) : fX12_isPerson sh σ x = some (1, σ) := by
  unfold fX12_isPerson
  rw [if_pos o_3, c_3, hc, isR_aux hn |>.1 h, bd_some, if_pos (by decide)]
theorem isP_f {sh : List kd} {σ : St} {n : Nat} {x : Int32} (hn : n < 2 ^ 30) (hc : σ.2.1 1 3 = nI n) (h : ¬ isN n x) : fX12_isPerson sh σ x = some (0, σ) := by
  unfold fX12_isPerson
  rw [if_pos o_3, c_3, hc, isR_aux hn |>.2 h, bd_some, if_pos (by decide)]
theorem isT_t {sh : List kd} {σ : St} {n : Nat} {x : Int32} (hn : n < 2 ^ 30) (hc : σ.2.1 1 2 = nI n) (h : isN n x) : fX12_isThing sh σ x = some (1, σ) := by
  unfold fX12_isThing
  rw [if_pos o_2, c_2, hc, isR_aux hn |>.1 h, bd_some, if_pos (by decide)]
theorem isT_f {sh : List kd} {σ : St} {n : Nat} {x : Int32} (hn : n < 2 ^ 30) (hc : σ.2.1 1 2 = nI n) (h : ¬ isN n x) : fX12_isThing sh σ x = some (0, σ) := by
  unfold fX12_isThing
  rw [if_pos o_2, c_2, hc, isR_aux hn |>.2 h, bd_some, if_pos (by decide)]
theorem isCt_t {sh : List kd} {σ : St} {n : Nat} (hn : n < 2 ^ 31) (hc : σ.2.1 1 0 = nI n) (h : 0 < n) : fX12_isCourt sh σ = some (1, σ) := by
  unfold fX12_isCourt
  rw [if_pos o_0, c_0, hc, if_neg (nI_nle h hn), if_pos (by decide)]
theorem isCt_f {sh : List kd} {σ : St} (hc : σ.2.1 1 0 = nI 0) : fX12_isCourt sh σ = some (0, σ) := by
  unfold fX12_isCourt
  rw [if_pos o_0, c_0, hc, if_pos (by decide), if_pos (by decide)]
/-- a bit -/
def bitOf (x k : Int32) : Prop := ¬ ((x >>> (k &&& 31)) &&& 1) = 0
theorem and1 (x : Int32) : x &&& 1 = 0 ∨ x &&& 1 = 1 := by
  have h : (x &&& 1).toBitVec = 0#32 ∨ (x &&& 1).toBitVec = 1#32 := by
    rw [Int32.toBitVec_and]
    have e : (1 : Int32).toBitVec = 1#32 := by decide
    rw [e]
    by_cases hb : x.toBitVec.getLsbD 0 = true
    · right
      apply BitVec.eq_of_getLsbD_eq
      intro i hi
      rw [BitVec.getLsbD_and, BitVec.getLsbD_one]
      by_cases h0 : i = 0
      · subst h0; simp [hb]
      · simp [h0]
    · left
      have hb2 : x.toBitVec.getLsbD 0 = false := by simpa using hb
      apply BitVec.eq_of_getLsbD_eq
      intro i hi
      rw [BitVec.getLsbD_and, BitVec.getLsbD_one]
      by_cases h0 : i = 0
      · subst h0; rw [hb2]; simp
      · simp [h0]
  rcases h with h | h
  · left; exact Int32.toBitVec_inj.mp h
  · right; exact Int32.toBitVec_inj.mp h
theorem hasR {sh : List kd} {σ : St} {x k : Int32} : fX12_has sh σ x k = some ((if ((x >>> (k &&& 31)) &&& 1) = 0 then 0 else 1 : Int32), σ) := by
  unfold fX12_has
  rcases and1 (x >>> (k &&& 31)) with h | h
  · rw [h, if_pos (by decide)]
    rfl
  · rw [h, if_pos (by decide)]
    rfl
theorem hasTC {sh : List kd} {σ : St} {a : Nat} {p t : Int32} (h : i_ok p 6) : fX4_hasTitle sh σ a p t = some ((if ((σ.2.1 (a + 2) p.toNatClampNeg >>> (t &&& 31)) &&& 1) = 0 then 0 else 1 : Int32), σ) := by
  unfold fX4_hasTitle
  rw [if_pos h]
  rcases and1 (σ.2.1 (a + 2) p.toNatClampNeg >>> (t &&& 31)) with h | h
  · rw [h, if_pos (by decide)]
  · rw [h, if_pos (by decide)]
/-! ===== what asks changes nothing that lasts ===== -/
/-- the class' cells that a question may change -/
def scC (i : Nat) : Prop := (3 ≤ i ∧ i ≤ 14) ∨ (134 ≤ i ∧ i ≤ 158)
def agr (S : Nat → Prop) (σ τ : St) : Prop := (∀ i, ¬ S i → τ.1 i = σ.1 i ∧ τ.2.1 i = σ.2.1 i) ∧ τ.2.2.2 = σ.2.2.2
theorem agr_refl {S : Nat → Prop} {σ : St} : agr S σ σ := ⟨fun _ _ => ⟨rfl, rfl⟩, rfl⟩
theorem agr_trans {S : Nat → Prop} {σ τ υ : St} (h : agr S σ τ) (g : agr S τ υ) : agr S σ υ := ⟨fun i hi => ⟨(g.1 i hi).1.trans (h.1 i hi).1, (g.1 i hi).2.trans (h.1 i hi).2⟩, g.2.trans h.2⟩
theorem agr_frC {a : Nat} {σ τ : St} {S : Nat → Prop} (hS : ∀ i, ¬ S i → i ≠ a ∧ i ≠ a + 1 ∧ i ≠ a + 2 ∧ i ≠ a + 3 ∧ i ≠ a + 4) (h : frC a σ τ) : agr S σ τ :=
  ⟨fun i hi => ⟨h.1 i (hS i hi).1, h.2.1 i (hS i hi).2.1 (hS i hi).2.2.1 (hS i hi).2.2.2.1 (hS i hi).2.2.2.2⟩, h.2.2⟩
theorem agr_L {S : Nat → Prop} {σ τ : St} (h : sameL σ τ) : agr S σ τ := ⟨fun i _ => ⟨by rw [h.1], by rw [h.2.1]⟩, h.2.2⟩
theorem agr_F {S : Nat → Prop} {σ : St} {i k : Nat} {x : Int32} (h : S i) : agr S σ (s_F σ i k x) := ⟨fun j hj => ⟨by
  funext q
  rw [s_F_rd, if_neg (fun e => hj (by rw [e.1]; exact h))], rfl⟩, rfl⟩
theorem agr_A {S : Nat → Prop} {σ : St} {i k : Nat} {x : Int32} (h : S i) : agr S σ (s_A σ i k x) := ⟨fun j hj => ⟨rfl, by
  rw [s_A_ne (fun e => hj (by rw [e]; exact h))]⟩, rfl⟩
theorem isRC_agr {S : Nat → Prop} {σ τ : St} {r : Nat} {R : Rl} (h : agr S σ τ) (hS : ∀ i, r ≤ i → i ≤ r + 5 → ¬ S i) (g : isRC σ r R) : isRC τ r R := by
  unfold isRC
  rw [(h.1 r (hS r (by omega) (by omega))).1, (h.1 (r + 1) (hS _ (by omega) (by omega))).2, (h.1 (r + 2) (hS _ (by omega) (by omega))).2, (h.1 (r + 3) (hS _ (by omega) (by omega))).2, (h.1 (r + 4) (hS _ (by omega) (by omega))).2, (h.1 (r + 5) (hS _ (by omega) (by omega))).2]
  exact g
theorem LfC_agr {S : Nat → Prop} {σ τ : St} {a : Nat} (h : agr S σ τ) (hS : ∀ i, a ≤ i → i ≤ a + 4 → ¬ S i) : LfC τ a = LfC σ a := by
  unfold LfC
  rw [(h.1 a (hS a (by omega) (by omega))).1, (h.1 (a + 1) (hS _ (by omega) (by omega))).2, (h.1 (a + 2) (hS _ (by omega) (by omega))).2, (h.1 (a + 3) (hS _ (by omega) (by omega))).2, (h.1 (a + 4) (hS _ (by omega) (by omega))).2]
/-- what a question finds in the class -/
def CX (sh : List kd) (σ : St) (R : Rl) (ru : Option Cl) (lf : Lf) : Prop := cSh sh ∧ wfR R ∧ 0 < R.1.1 ∧ isRC σ 20 R ∧ LfC σ 26 = lf ∧ ∀ τ, agr scC σ τ → ruC sh τ (σ.1 19 8) ru
theorem CX_agr {sh : List kd} {σ τ : St} {R : Rl} {ru : Option Cl} {lf : Lf} (h : CX sh σ R ru lf) (g : agr scC σ τ) : CX sh τ R ru lf := by
  obtain ⟨h1, h2, h3, h4, h5, h6⟩ := h
  refine ⟨h1, h2, h3, isRC_agr g (by unfold scC; omega) h4, (LfC_agr g (by unfold scC; omega)).trans h5, fun υ hυ => ?_⟩
  rw [(g.1 19 (by unfold scC; omega)).1]
  exact h6 υ (agr_trans g hυ)
/-- the trial's cells -/
def trS (i : Nat) : Prop := 135 ≤ i ∧ i ≤ 139
theorem agr_tr {σ τ : St} (h : agr trS σ τ) : agr scC σ τ := ⟨fun i hi => h.1 i (fun e => hi (by unfold trS at e; unfold scC; omega)), h.2⟩
/-- an HOUR of the trial -/
theorem trialC2 {sh : List kd} {σ : St} {R : Rl} {ru : Option Cl} {lf0 lf : Lf} {b : Nat} (h : CX sh σ R ru lf0) (hb : b < 2 ^ 31) (hl : LfC σ 135 = lf) (hwl : wfL R b lf) :
    ∃ τ, fX0_pass sh σ 135 20 (σ.1 19 8) = some ((spHour R ru lf).1, τ) ∧ LfC τ 135 = (spHour R ru lf).2 ∧ agr trS σ τ := by
  obtain ⟨h1, h2, h3, h4, h5, h6⟩ := h
  obtain ⟨τ, t1, t2, t3⟩ := hourC h1 (a := 135) (r := 20) h2 h3 hb h4 hl hwl (h6 σ agr_refl) (by decide) (by decide)
  exact ⟨τ, t1, t2, agr_frC (by unfold trS; omega) t3⟩
theorem trialC {sh : List kd} {σ : St} {R : Rl} {ru : Option Cl} {lf0 lf : Lf} {b : Nat} (h : CX sh σ R ru lf0) (hb : b < 2 ^ 31) (hl : LfC σ 135 = lf) (hwl : wfL R b lf) :
    ∃ τ, fX0_pass sh σ 135 20 (σ.1 19 8) = some ((spHour R ru lf).1, τ) ∧ LfC τ 135 = (spHour R ru lf).2 ∧ agr scC σ τ := by
  obtain ⟨τ, t1, t2, t3⟩ := trialC2 h hb hl hwl
  exact ⟨τ, t1, t2, agr_tr t3⟩
theorem cok6 : i_cok 0 0 6 6 6 := by decide
theorem tr_cpy {f g : Nat → Int32} {n : Nat} : tr n (va_cpy f g 0 0 n) = tr n f := by
  funext j
  unfold tr
  by_cases hj : j < n
  · rw [if_pos hj, if_pos hj, cpy_in (by omega) (by omega), Nat.zero_add, Nat.sub_zero]
  · rw [if_neg hj, if_neg hj]
theorem lifeCopyC {sh : List kd} {σ : St} {a b : Nat} (hab : a + 4 < b ∨ b + 4 < a) : ∃ τ, fX4_copyFrom sh σ a b = some ((), τ) ∧ LfC τ a = LfC σ b ∧ frC a σ τ := by
  have hne : ¬ b = a := by omega
  unfold fX4_copyFrom
  rw [jp, if_pos cok6, jp, if_pos cok6, if_pos cok6, jp]
  simp only [c_0, c_6]
  rw [if_pos cok6]
  generalize hτ : s_C _ (b + 4) (a + 4) 0 0 6 = τ
  have hF : ∀ i k, τ.1 i k = if i = a ∧ k = 3 then σ.1 b 3 else if i = a ∧ k = 2 then σ.1 b 2 else if i = a ∧ k = 1 then σ.1 b 1 else if i = a ∧ k = 0 then σ.1 b 0 else σ.1 i k := by
    intro i k
    subst hτ
    simp only [s_C_F, s_F_rd]
    simp [hne]
  have hA : ∀ i, τ.2.1 i = if i = a + 4 then va_cpy (σ.2.1 (b + 4)) (σ.2.1 (a + 4)) 0 0 6 else if i = a + 3 then va_cpy (σ.2.1 (b + 3)) (σ.2.1 (a + 3)) 0 0 6 else if i = a + 2 then va_cpy (σ.2.1 (b + 2)) (σ.2.1 (a + 2)) 0 0 6 else if i = a + 1 then va_cpy (σ.2.1 (b + 1)) (σ.2.1 (a + 1)) 0 0 6 else σ.2.1 i := by
    intro i
    subst hτ
    simp only [s_C_rd, s_F_A]
    simp [show ¬ b + 4 = a + 3 by omega, show ¬ b + 4 = a + 2 by omega, show ¬ b + 4 = a + 1 by omega, show ¬ b + 3 = a + 2 by omega, show ¬ b + 3 = a + 1 by omega, show ¬ b + 2 = a + 1 by omega]
  have hQ : τ.2.2.2 = σ.2.2.2 := by subst hτ; rfl
  refine ⟨τ, rfl, ?_, ?_, ?_, hQ⟩
  · unfold LfC
    rw [hA, hA, hA, hA, hF, hF, hF, hF]
    simp [tr_cpy]
  · intro i hi
    funext k
    rw [hF]
    simp [hi]
  · intro i h1 h2 h3 h4
    rw [hA]
    simp [h1, h2, h3, h4]
theorem beginC2 {sh : List kd} {σ : St} : ∃ τ, fX5_begin sh σ = some ((), τ) ∧ LfC τ 135 = LfC σ 26 ∧ agr trS σ τ := by
  obtain ⟨τ, t1, t2, t3⟩ := lifeCopyC (sh := sh) (σ := σ) (a := 135) (b := 26) (by omega)
  unfold fX5_begin
  rw [t1, bd_some]
  exact ⟨τ, rfl, t2, agr_frC (by unfold trS; omega) t3⟩
theorem beginC {sh : List kd} {σ : St} : ∃ τ, fX5_begin sh σ = some ((), τ) ∧ LfC τ 135 = LfC σ 26 ∧ agr scC σ τ := by
  obtain ⟨τ, t1, t2, t3⟩ := beginC2 (sh := sh) (σ := σ)
  exact ⟨τ, t1, t2, agr_tr t3⟩
/-! ===== HOURS on end ===== -/
theorem spGl_ok : ∀ g : Nat, g ≤ 9 → ∃ g', g' ≤ 9 ∧ spGl (nI g) = nI g' := by
  intro g hg
  refine ⟨g - 1, by omega, ?_⟩
  revert g
  decide
theorem spTurns_hi {owed held : Int32} {sv : Nat → Int32} : ∀ (m k : Nat) (q : Tn) (j : Nat), k + m ≤ j → (spTurns owed held sv m k q).2.2.1 j = q.2.2.1 j
  | 0, _, _, _, _ => rfl
  | m + 1, k, q, j, h => by
    rw [spTurns, spTurns_hi m (k + 1) _ j (by omega)]
    unfold spOne
    split
    · rfl
    · split
      · rfl
      · show upd _ k _ j = _
        rw [upd_pt, if_neg (by omega)]
theorem wfL_hour {R : Rl} {ru : Option Cl} {lf : Lf} {b : Nat} (hR : wfR R) (hD : 0 < R.1.1) (hb : b < 2 ^ 31) (h : wfL R b lf) : wfL R (b + 1) (spHour R ru lf).2 := by
  obtain ⟨⟨n, n1, n2⟩, h2, h3, ⟨g, g1, g2⟩, h5⟩ := h
  unfold spHour spPass
  refine ⟨⟨n + 1, by omega, ?_⟩, ?_, Or.inl rfl, ?_, ?_⟩
  · show lf.1.1 + 1 = _
    rw [n2, nI_1]
  · exact spHand_ok hR hD hb ⟨⟨n, n1, n2⟩, h2, h3, ⟨g, g1, g2⟩, h5⟩
  · show ∃ g', g' ≤ 9 ∧ spGl lf.1.2.2.2 = nI g'
    rw [g2]
    exact spGl_ok g g1
  · intro j hj
    show (spTurns _ _ _ _ 0 _).2.2.1 j = 0
    rw [spTurns_hi _ _ _ _ (by omega)]
    exact h5 j hj
def spGo (R : Rl) (ru : Option Cl) : Nat → Lf → Lf
  | 0, lf => lf
  | n + 1, lf => spGo R ru n (spHour R ru lf).2
theorem spGo_succ {R : Rl} {ru : Option Cl} : ∀ (n : Nat) (lf : Lf), spGo R ru (n + 1) lf = (spHour R ru (spGo R ru n lf)).2
  | 0, _ => rfl
  | n + 1, lf => by
    show spGo R ru (n + 1) (spHour R ru lf).2 = _
    rw [spGo_succ n]
    rfl
theorem wfL_go {R : Rl} {ru : Option Cl} (hR : wfR R) (hD : 0 < R.1.1) : ∀ (n : Nat) (lf : Lf) (b : Nat), b + n < 2 ^ 31 → wfL R b lf → wfL R (b + n) (spGo R ru n lf)
  | 0, _, _, _, h => h
  | n + 1, lf, b, hb, h => by
    have h2 := wfL_go (ru := ru) hR hD n _ (b + 1) (by omega) (wfL_hour (ru := ru) hR hD (by omega) h)
    rw [show b + (n + 1) = b + 1 + n by omega]
    exact h2
theorem goOnC2 {sh : List kd} {σ : St} {R : Rl} {ru : Option Cl} {lf0 lf : Lf} {n b : Nat} (h : CX sh σ R ru lf0) (hn : n ≤ 1000) (hb : b ≤ 100000) (hl : LfC σ 135 = lf) (hwl : wfL R b lf) :
    ∃ τ, fX5_goOn sh σ (nI n) = some ((), τ) ∧ LfC τ 135 = spGo R ru n lf ∧ agr trS σ τ := by
  unfold fX5_goOn
  have hF : n < i_F := i_F_gt (by omega)
  generalize i_F = F at hF ⊢
  rw [← nz0]
  have key : ∀ (m N k b : Nat) (σ : St) (lf : Lf), CX sh σ R ru lf0 → k + m = n → m < N → b + m ≤ 102000 → LfC σ 135 = lf → wfL R b lf → ∃ τ, fX5_goOn_L2 sh (nI n) N (nI k) σ = some ((), τ) ∧ LfC τ 135 = spGo R ru m lf ∧ agr trS σ τ := by
    intro m
    induction m with
    | zero =>
      intro N k b σ lf h hk hN hb hl hwl
      obtain ⟨N, rfl⟩ : ∃ n', N = n' + 1 := ⟨N - 1, by omega⟩
      refine ⟨σ, ?_, hl, agr_refl⟩
      rw [fX5_goOn_L2, if_pos (nI_le (by omega) (by omega))]
    | succ m ih =>
      intro N k b σ lf h hk hN hb hl hwl
      obtain ⟨N, rfl⟩ : ∃ n', N = n' + 1 := ⟨N - 1, by omega⟩
      obtain ⟨τ, t1, t2, t3⟩ := trialC2 h (b := b) (by omega) hl hwl
      rw [fX5_goOn_L2, if_neg (nI_ge (by omega) (by omega)), t1, bd_some, nI_1]
      obtain ⟨υ, u1, u2, u3⟩ := ih N (k + 1) (b + 1) τ (spHour R ru lf).2 (CX_agr h (agr_tr t3)) (by omega) (by omega) (by omega) t2 (wfL_hour h.2.1 h.2.2.1 (by omega) hwl)
      exact ⟨υ, u1, u2, agr_trans t3 u3⟩
  exact key n F 0 b σ lf h (by omega) hF (by omega) hl hwl
theorem goOnC {sh : List kd} {σ : St} {R : Rl} {ru : Option Cl} {lf0 lf : Lf} {n b : Nat} (h : CX sh σ R ru lf0) (hn : n ≤ 1000) (hb : b ≤ 100000) (hl : LfC σ 135 = lf) (hwl : wfL R b lf) :
    ∃ τ, fX5_goOn sh σ (nI n) = some ((), τ) ∧ LfC τ 135 = spGo R ru n lf ∧ agr scC σ τ := by
  obtain ⟨τ, t1, t2, t3⟩ := goOnC2 h hn hb hl hwl
  exact ⟨τ, t1, t2, agr_tr t3⟩
/-! the reference -/
/-- within a question: what lasts is as in σ0, or kept -/
def qR (σ0 σ : St) : Prop := agS σ0 σ ∧ KeptOf σ0 σ
def RX (σ : St) (R : Rl) (ru : Option Cl) : Prop := wfR R ∧ 0 < R.1.1 ∧ isRR σ R ∧ ruR σ ru
theorem isRR_agS {σ τ : St} {R : Rl} (h : agS σ τ) (g : isRR σ R) : isRR τ R := by
  unfold isRR
  rw [h.2.2.2.1 0 (by omega), h.2.2.2.1 1 (by omega), h.2.2.2.1 2 (by omega), h.2.2.2.1 3 (by omega), h.2.1 2 (by decide) (by decide) (by decide) (by decide) (by decide) (by decide) (by decide) (by decide) (by decide) (by decide) (by decide), h.2.1 3 (by decide) (by decide) (by decide) (by decide) (by decide) (by decide) (by decide) (by decide) (by decide) (by decide) (by decide), h.2.1 5 (by decide) (by decide) (by decide) (by decide) (by decide) (by decide) (by decide) (by decide) (by decide) (by decide) (by decide), h.2.1 7 (by decide) (by decide) (by decide) (by decide) (by decide) (by decide) (by decide) (by decide) (by decide) (by decide) (by decide), h.2.1 12 (by decide) (by decide) (by decide) (by decide) (by decide) (by decide) (by decide) (by decide) (by decide) (by decide) (by decide)]
  exact g
theorem ruR_agS {σ τ : St} {ru : Option Cl} (h : agS σ τ) (hf : τ.2.1 1 10 = σ.2.1 1 10) (g : ruR σ ru) : ruR τ ru := by
  unfold ruR
  rw [hf, h.2.1 20 (by decide) (by decide) (by decide) (by decide) (by decide) (by decide) (by decide) (by decide) (by decide) (by decide) (by decide), h.2.1 21 (by decide) (by decide) (by decide) (by decide) (by decide) (by decide) (by decide) (by decide) (by decide) (by decide) (by decide), h.2.1 22 (by decide) (by decide) (by decide) (by decide) (by decide) (by decide) (by decide) (by decide) (by decide) (by decide) (by decide), h.2.1 23 (by decide) (by decide) (by decide) (by decide) (by decide) (by decide) (by decide) (by decide) (by decide) (by decide) (by decide), h.2.1 24 (by decide) (by decide) (by decide) (by decide) (by decide) (by decide) (by decide) (by decide) (by decide) (by decide) (by decide), h.2.1 25 (by decide) (by decide) (by decide) (by decide) (by decide) (by decide) (by decide) (by decide) (by decide) (by decide) (by decide)]
  exact g
/-- nothing but life differs -/
def lifeR (σ τ : St) : Prop := agS σ τ ∧ τ.2.1 36 = σ.2.1 36 ∧ τ.2.1 31 = σ.2.1 31 ∧ τ.2.1 32 = σ.2.1 32 ∧ τ.2.1 33 = σ.2.1 33 ∧ τ.2.1 34 = σ.2.1 34 ∧ τ.2.1 35 = σ.2.1 35 ∧ ∀ j, j ≠ 4 → j ≠ 5 → j ≠ 6 → j ≠ 7 → τ.2.1 1 j = σ.2.1 1 j
theorem lifeR_refl {σ : St} : lifeR σ σ := ⟨agS_refl, rfl, rfl, rfl, rfl, rfl, rfl, fun _ _ _ _ _ => rfl⟩
theorem lifeR_trans {σ τ υ : St} (h : lifeR σ τ) (g : lifeR τ υ) : lifeR σ υ := ⟨agS_trans h.1 g.1, g.2.1.trans h.2.1, g.2.2.1.trans h.2.2.1, g.2.2.2.1.trans h.2.2.2.1, g.2.2.2.2.1.trans h.2.2.2.2.1, g.2.2.2.2.2.1.trans h.2.2.2.2.2.1, g.2.2.2.2.2.2.1.trans h.2.2.2.2.2.2.1, fun j a b c d => (g.2.2.2.2.2.2.2 j a b c d).trans (h.2.2.2.2.2.2.2 j a b c d)⟩
theorem lifeR_fr {σ τ : St} (h : frR σ τ) : lifeR σ τ := by
  obtain ⟨h1, h2, h3, h4⟩ := h
  have e : ∀ i, i ≠ 1 → i ≠ 6 → i ≠ 8 → i ≠ 9 → i ≠ 4 → τ.2.1 i = σ.2.1 i := h2
  exact ⟨⟨fun i k _ => by rw [h1], fun i a b c d f _ _ _ _ _ _ => e i a c d f b, fun j _ => by rw [e 36 (by decide) (by decide) (by decide) (by decide) (by decide)], fun j hj => h3 j (by omega) (by omega) (by omega) (by omega), h4⟩, e 36 (by decide) (by decide) (by decide) (by decide) (by decide), e 31 (by decide) (by decide) (by decide) (by decide) (by decide), e 32 (by decide) (by decide) (by decide) (by decide) (by decide), e 33 (by decide) (by decide) (by decide) (by decide) (by decide), e 34 (by decide) (by decide) (by decide) (by decide) (by decide), e 35 (by decide) (by decide) (by decide) (by decide) (by decide), h3⟩
theorem RX_life {σ τ : St} {R : Rl} {ru : Option Cl} (h : RX σ R ru) (g : lifeR σ τ) : RX τ R ru := ⟨h.1, h.2.1, isRR_agS g.1 h.2.2.1, ruR_agS g.1 (g.2.2.2.2.2.2.2 10 (by decide) (by decide) (by decide) (by decide)) h.2.2.2⟩
theorem stepR {sh : List kd} {σ : St} {R : Rl} {ru : Option Cl} {lf : Lf} {b : Nat} (h : RX σ R ru) (hb : b < 2 ^ 31) (hl : LfR σ = lf) (hwl : wfL R b lf) :
    ∃ τ, fX12_goes sh σ = some ((spHour R ru lf).1, τ) ∧ LfR τ = (spHour R ru lf).2 ∧ lifeR σ τ := by
  obtain ⟨τ, t1, t2, t3⟩ := hourR (sh := sh) h.1 h.2.1 hb h.2.2.1 hl hwl h.2.2.2
  exact ⟨τ, t1, t2, lifeR_fr t3⟩
theorem goForR {sh : List kd} {σ : St} {R : Rl} {ru : Option Cl} {lf : Lf} {n b : Nat} (h : RX σ R ru) (hn : n ≤ 1000) (hb : b ≤ 100000) (hl : LfR σ = lf) (hwl : wfL R b lf) :
    ∃ τ, fX12_goFor sh σ (nI n) = some ((), τ) ∧ LfR τ = spGo R ru n lf ∧ lifeR σ τ := by
  unfold fX12_goFor
  have hF : n < i_F := i_F_gt (by omega)
  generalize i_F = F at hF ⊢
  rw [← nz0]
  have key : ∀ (m N k b : Nat) (σ : St) (lf : Lf), RX σ R ru → k + m = n → m < N → b + m ≤ 102000 → LfR σ = lf → wfL R b lf → ∃ τ, fX12_goFor_L2 sh (nI n) N (nI k) σ = some ((), τ) ∧ LfR τ = spGo R ru m lf ∧ lifeR σ τ := by
    intro m
    induction m with
    | zero =>
      intro N k b σ lf h hk hN hb hl hwl
      obtain ⟨N, rfl⟩ : ∃ n', N = n' + 1 := ⟨N - 1, by omega⟩
      refine ⟨σ, ?_, hl, lifeR_refl⟩
      rw [fX12_goFor_L2, if_pos (nI_le (by omega) (by omega))]
    | succ m ih =>
      intro N k b σ lf h hk hN hb hl hwl
      obtain ⟨N, rfl⟩ : ∃ n', N = n' + 1 := ⟨N - 1, by omega⟩
      obtain ⟨τ, t1, t2, t3⟩ := stepR (sh := sh) h (b := b) (by omega) hl hwl
      rw [fX12_goFor_L2, if_neg (nI_ge (by omega) (by omega)), t1, bd_some, nI_1]
      obtain ⟨υ, u1, u2, u3⟩ := ih N (k + 1) (b + 1) τ (spHour R ru lf).2 (RX_life h t3) (by omega) (by omega) (by omega) t2 (wfL_hour h.1 h.2.1 (by omega) hwl)
      exact ⟨υ, u1, u2, lifeR_trans t3 u3⟩
  exact key n F 0 b σ lf h (by omega) hF (by omega) hl hwl
