/-! ===== reading a text: bytes, blanks, digits, words ===== -/
def tpC (σ : St) (tp : List Nat) : Prop := tp.length ≤ 400 ∧ σ.1 1 1 = nI tp.length ∧ ∀ k b, tp[k]? = some b → b < 256 ∧ σ.2.1 2 k = nI b
def tpR (σ : St) (tp : List Nat) : Prop := tp.length ≤ 400 ∧ σ.1 0 19 = nI tp.length ∧ ∀ k b, tp[k]? = some b → b < 256 ∧ σ.2.1 19 k = (nI b).toInt8.toInt32
def run (f : Nat → Bool) : List Nat → Nat
  | [] => 0
  | b :: t => if f b = true then run f t + 1 else 0
def rn (f : Nat → Bool) (tp : List Nat) (p : Nat) : Nat := run f (tp.drop p)
theorem drop_some {tp : List Nat} {p b : Nat} (h : tp[p]? = some b) : tp.drop p = b :: tp.drop (p + 1) := by
  obtain ⟨h1, h2⟩ := List.getElem?_eq_some_iff.mp h
  rw [List.drop_eq_getElem_cons h1, h2]
theorem drop_none {tp : List Nat} {p : Nat} (h : tp[p]? = none) : tp.drop p = [] := List.drop_eq_nil_of_le (List.getElem?_eq_none_iff.mp h)
theorem rn_s {f : Nat → Bool} {tp : List Nat} {p b : Nat} (h : tp[p]? = some b) : rn f tp p = if f b = true then rn f tp (p + 1) + 1 else 0 := by
  unfold rn
  rw [drop_some h]
  rfl
theorem rn_n {f : Nat → Bool} {tp : List Nat} {p : Nat} (h : tp[p]? = none) : rn f tp p = 0 := by
  unfold rn
  rw [drop_none h]
  rfl
theorem run_le {f : Nat → Bool} : ∀ (l : List Nat), run f l ≤ l.length
  | [] => Nat.le_refl _
  | b :: t => by
    have := run_le (f := f) t
    rw [run, List.length_cons]
    split <;> omega
theorem rn_le {f : Nat → Bool} {tp : List Nat} {p : Nat} (hp : p ≤ tp.length) : p + rn f tp p ≤ tp.length := by
  have := run_le (f := f) (tp.drop p)
  rw [List.length_drop] at this
  unfold rn
  omega
def isB (b : Nat) : Bool := decide (b = 32)
def isL (b : Nat) : Bool := decide (97 ≤ b ∧ b ≤ 122)
def isD (b : Nat) : Bool := decide (48 ≤ b ∧ b ≤ 57)
def skp (tp : List Nat) (p : Nat) : Nat := p + rn isB tp p
def sgn (tp : List Nat) (p : Nat) : Int32 := match tp[p]? with
  | some b => nI b
  | none => -1
theorem sgn_s {tp : List Nat} {p b : Nat} (h : tp[p]? = some b) : sgn tp p = nI b := by
  unfold sgn
  rw [h]
theorem sgn_n {tp : List Nat} {p : Nat} (h : tp[p]? = none) : sgn tp p = -1 := by
  unfold sgn
  rw [h]
theorem skp_s {tp : List Nat} {p : Nat} (h : tp[p]? = some 32) : skp tp p = skp tp (p + 1) := by
  unfold skp
  rw [rn_s h, if_pos (by decide)]
  omega
theorem skp_o {tp : List Nat} {p b : Nat} (h : tp[p]? = some b) (hb : b ≠ 32) : skp tp p = p := by
  unfold skp
  rw [rn_s h, if_neg (by unfold isB; simp [hb])]
  rfl
theorem skp_n {tp : List Nat} {p : Nat} (h : tp[p]? = none) : skp tp p = p := by
  unfold skp
  rw [rn_n h]
  rfl
theorem skp_le {tp : List Nat} {p : Nat} (hp : p ≤ tp.length) : skp tp p ≤ tp.length := rn_le hp
theorem skp_ge {tp : List Nat} {p : Nat} : p ≤ skp tp p := Nat.le_add_right _ _
theorem at_lt {tp : List Nat} {p b : Nat} (h : tp[p]? = some b) : p < tp.length := (List.getElem?_eq_some_iff.mp h).1
theorem at_no {tp : List Nat} {p : Nat} (h : tp[p]? = none) : tp.length ≤ p := List.getElem?_eq_none_iff.mp h
theorem skp_b {tp : List Nat} : ∀ (m p : Nat), tp.length - p = m → tp[skp tp p]? ≠ some 32 := by
  intro m
  induction m with
  | zero =>
    intro p hm
    have hn : tp[p]? = none := List.getElem?_eq_none_iff.mpr (by omega)
    rw [skp_n hn, hn]
    exact fun e => by cases e
  | succ m ih =>
    intro p hm
    cases h : tp[p]? with
    | none => rw [skp_n h, h]; exact fun e => by cases e
    | some b =>
      by_cases hb : b = 32
      · subst hb
        rw [skp_s h]
        exact ih (p + 1) (by omega)
      · rw [skp_o h hb, h]
        exact fun e => hb (Option.some.inj e)
theorem skp_skp {tp : List Nat} {p : Nat} : skp tp (skp tp p) = skp tp p := by
  cases h : tp[skp tp p]? with
  | none => exact skp_n h
  | some b => exact skp_o h (fun e => skp_b _ p rfl (by rw [h, e]))
theorem tpC_F {σ : St} {tp : List Nat} {k : Nat} {x : Int32} (hk : k ≠ 1) (h : tpC σ tp) : tpC (s_F σ 1 k x) tp := ⟨h.1, by rw [s_F_rd, if_neg (by omega)]; exact h.2.1, h.2.2⟩
theorem tpR_F {σ : St} {tp : List Nat} {k : Nat} {x : Int32} (hk : k ≠ 19) (h : tpR σ tp) : tpR (s_F σ 0 k x) tp := ⟨h.1, by rw [s_F_rd, if_neg (by omega)]; exact h.2.1, h.2.2⟩
theorem nI_b {b : Nat} {c : Nat} (hb : b < 256) (hc : c < 256) : nI b = nI c ↔ b = c := nI_eq (by omega) (by omega)
theorem n32 : (32 : Int32) = nI 32 := by decide
theorem signC {sh : List kd} {tp : List Nat} : ∀ (m : Nat) (σ : St) (p : Nat), tpC σ tp → p ≤ tp.length → tp.length - p = m → σ.1 1 2 = nI p → fX9_sign sh σ = some (sgn tp (skp tp p), s_F σ 1 2 (nI (skp tp p))) := by
  have key : ∀ (m N : Nat) (σ : St) (p : Nat), tpC σ tp → p ≤ tp.length → tp.length - p = m → m < N → σ.1 1 2 = nI p → fX9_sign_L0 sh (fun (s52 : St) => fX9_sign_X38 sh s52) N σ = some (sgn tp (skp tp p), s_F σ 1 2 (nI (skp tp p))) := by
    intro m
    induction m with
    | zero =>
      intro N σ p ht hp hm hN ha
      obtain ⟨N, rfl⟩ : ∃ n', N = n' + 1 := ⟨N - 1, by omega⟩
      have hn : tp[p]? = none := List.getElem?_eq_none_iff.mpr (by omega)
      have h400 := ht.1
      rw [fX9_sign_L0, ht.2.1, ha, if_pos (nI_le (by omega) (by omega))]
      unfold fX9_sign_X38 fX9_sign_J62
      rw [ht.2.1, ha, if_pos (nI_le (by omega) (by omega)), skp_n hn, sgn_n hn, s_F_self ha]
    | succ m ih =>
      intro N σ p ht hp hm hN ha
      obtain ⟨N, rfl⟩ : ∃ n', N = n' + 1 := ⟨N - 1, by omega⟩
      have h400 := ht.1
      have hlt : p < tp.length := by omega
      obtain ⟨b, hb⟩ : ∃ b, tp[p]? = some b := ⟨_, List.getElem?_eq_getElem hlt⟩
      obtain ⟨b1, b2⟩ := ht.2.2 p b hb
      have hcl : (nI p).toNatClampNeg = p := nI_clamp (by omega)
      rw [fX9_sign_L0, ht.2.1, ha, if_neg (nI_ge hlt (by omega)), if_pos (ok_nI (by omega) (by omega)), hcl, b2, n32]
      by_cases h32 : b = 32
      · subst h32
        rw [if_neg (not_not_intro rfl), nI_1, ih N (s_F σ 1 2 (nI (p + 1))) (p + 1) (tpC_F (by decide) ht) (by omega) (by omega) (by omega) (by rw [s_F_rd, if_pos ⟨rfl, rfl⟩]), s_F_F, skp_s hb]
      · rw [if_pos (fun e => h32 ((nI_b b1 (by omega)).mp e))]
        unfold fX9_sign_X38 fX9_sign_J62
        rw [ht.2.1, ha, if_neg (nI_ge hlt (by omega)), if_pos (ok_nI (by omega) (by omega)), hcl, b2, skp_o hb h32, sgn_s hb, s_F_self ha]
  intro m σ p ht hp hm ha
  unfold fX9_sign
  have h400 := ht.1
  exact key m i_F σ p ht hp hm (i_F_gt (by omega)) ha
theorem sg8 : ∀ b : Nat, b < 256 → (nI b).toInt8.toInt32 &&& 255 = nI b := by decide +kernel
theorem signR {sh : List kd} {σ : St} {tp : List Nat} {p : Nat} (ht : tpR σ tp) (hp : p < 1000) (ha : σ.1 0 20 = nI p) : fX12_sign sh σ = some (sgn tp p, σ) := by
  have h400 := ht.1
  unfold fX12_sign fX12_sign_J28
  rw [ht.2.1, ha]
  cases h : tp[p]? with
  | none => rw [if_pos (nI_le (at_no h) (by omega)), sgn_n h]
  | some b =>
    have hlt := at_lt h
    obtain ⟨b1, b2⟩ := ht.2.2 p b h
    rw [if_neg (nI_ge hlt (by omega)), if_pos (ok_nI (by omega) (by omega)), nI_clamp (by omega), b2, sg8 b b1, sgn_s h]
theorem blanksR {sh : List kd} {tp : List Nat} {σ : St} {p : Nat} (ht : tpR σ tp) (hp : p < 900) (ha : σ.1 0 20 = nI p) : fX12_blanks sh σ = some ((), s_F σ 0 20 (nI (skp tp p))) := by
  have key : ∀ (m N : Nat) (σ : St) (p : Nat), tpR σ tp → p < 900 → tp.length - p = m → m < N → σ.1 0 20 = nI p → fX12_blanks_L0 sh N σ = some ((), s_F σ 0 20 (nI (skp tp p))) := by
    intro m
    induction m with
    | zero =>
      intro N σ p ht hp hm hN ha
      obtain ⟨N, rfl⟩ : ∃ n', N = n' + 1 := ⟨N - 1, by omega⟩
      have hn : tp[p]? = none := List.getElem?_eq_none_iff.mpr (by omega)
      rw [fX12_blanks_L0, signR ht (by omega) ha, bd_some, sgn_n hn, if_pos (by decide), skp_n hn, s_F_self ha]
    | succ m ih =>
      intro N σ p ht hp hm hN ha
      obtain ⟨N, rfl⟩ : ∃ n', N = n' + 1 := ⟨N - 1, by omega⟩
      have h400 := ht.1
      have hlt : p < tp.length := by omega
      obtain ⟨b, hb⟩ : ∃ b, tp[p]? = some b := ⟨_, List.getElem?_eq_getElem hlt⟩
      have b1 := (ht.2.2 p b hb).1
      rw [fX12_blanks_L0, signR ht (by omega) ha, bd_some, sgn_s hb, n32]
      by_cases h32 : b = 32
      · subst h32
        rw [if_neg (not_not_intro rfl), ha, nI_1, ih N (s_F σ 0 20 (nI (p + 1))) (p + 1) (tpR_F (by decide) ht) (by omega) (by omega) (by omega) (by rw [s_F_rd, if_pos ⟨rfl, rfl⟩]), s_F_F, skp_s hb]
      · rw [if_pos (fun e => h32 ((nI_b b1 (by omega)).mp e)), skp_o hb h32, s_F_self ha]
  have h400 := ht.1
  unfold fX12_blanks
  exact key _ i_F σ p ht hp rfl (i_F_gt (by omega)) ha
/-! a NUMBER -/
def dv : Nat → Nat → List Nat → Nat × Nat
  | v, _, [] => (v, 0)
  | v, k, b :: t => if isD b = true then ((dv (if k < 5 then 10 * v + (b - 48) else v) (k + 1) t).1, (dv (if k < 5 then 10 * v + (b - 48) else v) (k + 1) t).2 + 1) else (v, 0)
def nm (tp : List Nat) (s : Nat) : Nat × Nat := dv 0 0 (tp.drop s)
theorem dv_bd : ∀ (l : List Nat) (v k : Nat), v < 10 ^ (if k < 5 then k else 5) → (dv v k l).1 < 100000 ∧ (dv v k l).2 ≤ l.length
  | [], v, k, h => by
    refine ⟨?_, Nat.le_refl _⟩
    show v < 100000
    have : 10 ^ (if k < 5 then k else 5) ≤ 10 ^ 5 := Nat.pow_le_pow_right (by omega) (by split <;> omega)
    omega
  | b :: t, v, k, h => by
    rw [dv]
    split
    · next hb =>
      have hb' : 48 ≤ b ∧ b ≤ 57 := by unfold isD at hb; simpa using hb
      have := dv_bd t (if k < 5 then 10 * v + (b - 48) else v) (k + 1) (by
        by_cases hk : k < 5
        · rw [if_pos hk] at h ⊢
          have e : 10 ^ (if k + 1 < 5 then k + 1 else 5) = 10 ^ k * 10 := by
            by_cases hk2 : k + 1 < 5
            · rw [if_pos hk2, Nat.pow_succ]
            · rw [if_neg hk2, show k = 4 by omega]
          rw [e]
          omega
        · rw [if_neg hk] at h ⊢
          rw [if_neg (by omega)]
          exact h)
      exact ⟨this.1, by rw [List.length_cons]; omega⟩
    · refine ⟨?_, Nat.zero_le _⟩
      have : 10 ^ (if k < 5 then k else 5) ≤ 10 ^ 5 := Nat.pow_le_pow_right (by omega) (by split <;> omega)
      show v < 100000
      omega
theorem nm_bd {tp : List Nat} {s : Nat} (hs : s ≤ tp.length) : (nm tp s).1 < 100000 ∧ s + (nm tp s).2 ≤ tp.length := by
  have := dv_bd (tp.drop s) 0 0 (by decide)
  rw [List.length_drop] at this
  exact ⟨this.1, by unfold nm; omega⟩
theorem digC {sh : List kd} {tp : List Nat} {lo hi : Int32} {s2 : St} {s : Nat} {K : Int32 → St → Option (Int32 × St)} (hs2 : s2.1 1 2 = nI s) (hs : s ≤ tp.length) : ∀ (m N k v : Nat) (σ : St), tpC σ tp → s + k ≤ tp.length → tp.length - (s + k) = m → m < N → σ.1 1 2 = nI (s + k) → v < 10 ^ (if k < 5 then k else 5) →
    fX9_number_L13 sh lo hi s2 K N (nI v) σ = K (nI (dv v k (tp.drop (s + k))).1) (s_F σ 1 2 (nI (s + k + (dv v k (tp.drop (s + k))).2))) := by
  intro m
  induction m with
  | zero =>
    intro N k v σ ht hk hm hN ha hv
    obtain ⟨N, rfl⟩ : ∃ n', N = n' + 1 := ⟨N - 1, by omega⟩
    have hn : tp[s + k]? = none := List.getElem?_eq_none_iff.mpr (by omega)
    have h400 := ht.1
    rw [fX9_number_L13, ht.2.1, ha, if_pos (nI_le (by omega) (by omega)), drop_none hn]
    show K (nI v) σ = K (nI v) (s_F σ 1 2 (nI (s + k + 0)))
    rw [Nat.add_zero, s_F_self ha]
  | succ m ih =>
    intro N k v σ ht hk hm hN ha hv
    obtain ⟨N, rfl⟩ : ∃ n', N = n' + 1 := ⟨N - 1, by omega⟩
    have h400 := ht.1
    have hlt : s + k < tp.length := by omega
    obtain ⟨b, hb⟩ : ∃ b, tp[s + k]? = some b := ⟨_, List.getElem?_eq_getElem hlt⟩
    obtain ⟨b1, b2⟩ := ht.2.2 _ b hb
    have hok : i_ok (nI (s + k)) 400 := ok_nI (by omega) (by omega)
    have hcl : (nI (s + k)).toNatClampNeg = s + k := nI_clamp (by omega)
    rw [fX9_number_L13, ht.2.1, ha, if_neg (nI_ge hlt (by omega))]
    simp only [if_pos hok, hcl, b2]
    rw [drop_some hb, show (48 : Int32) = nI 48 from by decide, show (57 : Int32) = nI 57 from by decide, dv]
    by_cases hd : isD b = true
    · have hd' : 48 ≤ b ∧ b ≤ 57 := by unfold isD at hd; simpa using hd
      have hv5 : v < 100000 := by
        have : 10 ^ (if k < 5 then k else 5) ≤ 10 ^ 5 := Nat.pow_le_pow_right (by omega) (by split <;> omega)
        omega
      rw [if_neg (nI_nlt (by omega) (by omega)), if_neg (nI_nlt (by omega) (by omega)), if_pos hd, hs2, nI_sub (by omega), show s + k - s = k by omega, show (5 : Int32) = nI 5 from by decide]
      unfold fX9_number_J82
      rw [ha, nI_1]
      have hnext : (if k < 5 then 10 * v + (b - 48) else v) < 10 ^ (if k + 1 < 5 then k + 1 else 5) := by
        by_cases hk5 : k < 5
        · rw [if_pos hk5] at hv ⊢
          have e : 10 ^ (if k + 1 < 5 then k + 1 else 5) = 10 ^ k * 10 := by
            by_cases hk2 : k + 1 < 5
            · rw [if_pos hk2, Nat.pow_succ]
            · rw [if_neg hk2, show k = 4 by omega]
          rw [e]
          omega
        · rw [if_neg hk5] at hv ⊢
          rw [if_neg (by omega)]
          exact hv
      have ihk := fun v' hv' => ih N (k + 1) v' (s_F σ 1 2 (nI (s + k + 1))) (tpC_F (by decide) ht) (by omega) (by omega) (by omega) (by rw [s_F_rd, if_pos ⟨rfl, rfl⟩]; rfl) hv'
      by_cases hk5 : k < 5
      · rw [if_neg (nI_ge hk5 (by omega)), if_pos hk5]
        rw [if_pos hk5] at hnext
        rw [show (10 : Int32) = nI 10 from by decide, nI_mul, nI_add, nI_sub (by omega), show v * 10 + b - 48 = 10 * v + (b - 48) by omega, ihk _ hnext, s_F_F]
        simp only [Nat.add_assoc, Nat.add_comm 1]
      · rw [if_pos (nI_le (by omega) (by omega)), if_neg hk5]
        rw [if_neg hk5] at hnext
        rw [ihk _ hnext, s_F_F]
        simp only [Nat.add_assoc, Nat.add_comm 1]
    · have hd' : ¬ (48 ≤ b ∧ b ≤ 57) := fun e => hd (by unfold isD; simpa using e)
      rw [if_neg hd]
      dsimp only
      rw [Nat.add_zero, s_F_self ha]
      by_cases h48 : b < 48
      · rw [if_pos (nI_lt h48 (by omega))]
      · rw [if_neg (nI_nlt (by omega) (by omega)), if_pos (nI_lt (by omega) (by omega))]
def ncode (n v : Nat) (lo hi : Int32) : Option Nat := if n = 0 then some 0 else if 5 < n then some 1 else if nI v < lo then some 1 else if nI v ≤ hi then none else some 1
def flt (f : Int32) (s : Nat) (c : Option Nat) : Int32 := match c with
  | none => f
  | some c => if ¬ f = 0 then f else 1 + 8 * nI s + nI c
theorem refuseC {sh : List kd} {σ : St} {s c : Nat} {x y : Int32} (hx : x = nI s) (hy : y = nI c) : fX9_refuse sh σ x y = some ((), s_F σ 1 3 (flt (σ.1 1 3) s (some c))) := by
  subst hx hy
  unfold fX9_refuse fX9_refuse_J19 flt
  by_cases h : σ.1 1 3 = 0
  · rw [if_neg (not_not_intro h)]
    dsimp only
    rw [if_neg (not_not_intro h)]
  · rw [if_pos h]
    dsimp only
    rw [if_pos h, s_F_self rfl]
theorem failsR {sh : List kd} {σ : St} {s c : Nat} {x y : Int32} (hx : x = nI s) (hy : y = nI c) : fX12_fails sh σ y x = some ((), s_F σ 0 21 (flt (σ.1 0 21) s (some c))) := by
  subst hx hy
  rfl
/-- the class reads a NUMBER -/
theorem numC {sh : List kd} {σ : St} {tp : List Nat} {p : Nat} {lo hi : Int32} (ht : tpC σ tp) (hp : p ≤ tp.length) (ha : σ.1 1 2 = nI p) :
    fX9_number sh σ lo hi = some (nI (nm tp (skp tp p)).1, s_F (s_F σ 1 2 (nI (skp tp p + (nm tp (skp tp p)).2))) 1 3 (flt (σ.1 1 3) (skp tp p) (ncode (nm tp (skp tp p)).2 (nm tp (skp tp p)).1 lo hi))) := by
  have h400 := ht.1
  have hs := skp_le hp
  unfold fX9_number
  rw [signC _ σ p ht hp rfl ha, bd_some]
  have hF : tp.length - (skp tp p + 0) < i_F := i_F_gt (by omega)
  have e2 : (s_F σ 1 2 (nI (skp tp p))).1 1 2 = nI (skp tp p) := by rw [s_F_rd, if_pos ⟨rfl, rfl⟩]
  generalize i_F = F at hF ⊢
  have hd := digC (sh := sh) (tp := tp) (lo := lo) (hi := hi) (s2 := s_F σ 1 2 (nI (skp tp p))) (s := skp tp p) (K := fun (x56 : Int32) (s57 : St) => fX9_number_X95 sh lo hi (s_F σ 1 2 (nI (skp tp p))) x56 s57) e2 hs _ F 0 0 (s_F σ 1 2 (nI (skp tp p))) (tpC_F (by decide) ht) (by omega) rfl hF (by rw [e2]; rfl) (by decide)
  rw [nI_0, Nat.add_zero] at hd
  rw [hd]
  have hb := nm_bd hs
  have en : dv 0 0 (tp.drop (skp tp p)) = nm tp (skp tp p) := rfl
  rw [en, s_F_F]
  generalize nm tp (skp tp p) = q at hb
  generalize skp tp p = s at hb hs e2
  obtain ⟨v, n⟩ := q
  dsimp only at hb ⊢
  unfold fX9_number_X95 fX9_number_J140
  have f1 : (s_F σ 1 2 (nI (s + n))).1 1 2 = nI (s + n) := by rw [s_F_rd, if_pos ⟨rfl, rfl⟩]
  have f3 : (s_F σ 1 2 (nI (s + n))).1 1 3 = σ.1 1 3 := by rw [s_F_rd, if_neg (by omega)]
  rw [f1, e2]
  unfold ncode
  by_cases h0 : n = 0
  · subst h0
    rw [Nat.add_zero] at f3 ⊢
    rw [if_neg (not_not_intro rfl), refuseC rfl nz0.symm, bd_some, if_pos rfl, f3]
  · rw [if_pos (nI_ne (by omega) (by omega) (by omega)), if_neg h0, nI_sub (by omega), show s + n - s = n by omega, show (5 : Int32) = nI 5 from by decide, refuseC rfl nz1.symm, bd_some, f3]
    by_cases h5 : 5 < n
    · rw [if_pos (nI_lt h5 (by omega)), if_pos h5]
    · rw [if_neg (nI_nlt (by omega) (by omega)), if_neg h5]
      by_cases hlo : nI v < lo
      · rw [if_pos hlo, if_pos hlo]
      · rw [if_neg hlo, if_neg hlo]
        by_cases hhi : nI v ≤ hi
        · rw [if_pos hhi, if_pos hhi]
          show some _ = some (_, s_F _ 1 3 (σ.1 1 3))
          rw [s_F_self f3]
        · rw [if_neg hhi, if_neg hhi]
