/-! ===== the reference reads a NUMBER; words ===== -/
theorem and1_01 {x : Int32} (h : x = 0 ∨ x = 1) : x &&& 1 = x := by
  rcases h with h | h
  · rw [h]; decide
  · rw [h]; decide
def dgV (tp : List Nat) (p : Nat) : Int32 := match tp[p]? with
  | some b => if isD b = true then 1 else 0
  | none => 0
theorem dgV_t {tp : List Nat} {p b : Nat} (h : tp[p]? = some b) (hd : isD b = true) : dgV tp p = 1 := by
  unfold dgV
  rw [h]
  exact if_pos hd
theorem dgV_f {tp : List Nat} {p b : Nat} (h : tp[p]? = some b) (hd : ¬ isD b = true) : dgV tp p = 0 := by
  unfold dgV
  rw [h]
  exact if_neg hd
theorem dgV_n {tp : List Nat} {p : Nat} (h : tp[p]? = none) : dgV tp p = 0 := by
  unfold dgV
  rw [h]
theorem isDigR {sh : List kd} {σ : St} {tp : List Nat} {p : Nat} (ht : tpR σ tp) (hp : p < 1000) (ha : σ.1 0 20 = nI p) : fX12_isDigit sh σ = some (dgV tp p, σ) := by
  unfold fX12_isDigit
  rw [signR ht hp ha, bd_some, inR, bd_some, Int32.toInt_toInt64, show (48 : Int64).toInt = 48 from by decide, show (57 : Int64).toInt = 57 from by decide]
  have key : (if (sgn tp p).toInt < 48 ∨ 57 < (sgn tp p).toInt then (0 : Int32) else 1) = dgV tp p := by
    cases h : tp[p]? with
    | none =>
      rw [sgn_n h, dgV_n h]
      decide
    | some b =>
      have b1 := (ht.2.2 p b h).1
      rw [sgn_s h, nI_toInt (by omega)]
      by_cases hd : isD b = true
      · have hd' : 48 ≤ b ∧ b ≤ 57 := by unfold isD at hd; simpa using hd
        rw [dgV_t h hd]
        exact if_neg (by omega)
      · have hd' : ¬ (48 ≤ b ∧ b ≤ 57) := fun e => hd (by unfold isD; simpa using e)
        rw [dgV_f h hd]
        exact if_pos (by omega)
  rw [key]
  have h01 : dgV tp p = 0 ∨ dgV tp p = 1 := by
    unfold dgV
    split
    · split
      · exact Or.inr rfl
      · exact Or.inl rfl
    · exact Or.inl rfl
  rw [if_pos (and1_01 h01)]
theorem digR {sh : List kd} {tp : List Nat} {mo : Int32} {s2 : St} {s : Nat} {K : Int32 → St → Option (Int32 × St)} (hs2 : s2.1 0 20 = nI s) (hs : s ≤ tp.length) : ∀ (m N k v : Nat) (σ : St), tpR σ tp → s + k ≤ tp.length → tp.length - (s + k) = m → m < N → σ.1 0 20 = nI (s + k) → v < 10 ^ (if k < 5 then k else 5) →
    fX12_digits_L25 sh mo s2 K N (nI v) σ = K (nI (dv v k (tp.drop (s + k))).1) (s_F σ 0 20 (nI (s + k + (dv v k (tp.drop (s + k))).2))) := by
  intro m
  induction m with
  | zero =>
    intro N k v σ ht hk hm hN ha hv
    obtain ⟨N, rfl⟩ : ∃ n', N = n' + 1 := ⟨N - 1, by omega⟩
    have hn : tp[s + k]? = none := List.getElem?_eq_none_iff.mpr (by omega)
    have h400 := ht.1
    rw [fX12_digits_L25, isDigR ht (by omega) ha, bd_some, dgV_n hn, drop_none hn, if_pos rfl]
    show K (nI v) σ = K (nI v) (s_F σ 0 20 (nI (s + k + 0)))
    rw [Nat.add_zero, s_F_self ha]
  | succ m ih =>
    intro N k v σ ht hk hm hN ha hv
    obtain ⟨N, rfl⟩ : ∃ n', N = n' + 1 := ⟨N - 1, by omega⟩
    have h400 := ht.1
    have hlt : s + k < tp.length := by omega
    obtain ⟨b, hb⟩ : ∃ b, tp[s + k]? = some b := ⟨_, List.getElem?_eq_getElem hlt⟩
    have b1 := (ht.2.2 _ b hb).1
    rw [fX12_digits_L25, isDigR ht (by omega) ha, bd_some, drop_some hb, dv]
    by_cases hd : isD b = true
    · have hd' : 48 ≤ b ∧ b ≤ 57 := by unfold isD at hd; simpa using hd
      have hv5 : v < 100000 := by
        have : 10 ^ (if k < 5 then k else 5) ≤ 10 ^ 5 := Nat.pow_le_pow_right (by omega) (by split <;> omega)
        omega
      rw [dgV_t hb hd, if_neg n10, if_pos hd, hs2, ha, nI_sub (by omega), show s + k - s = k by omega, show (5 : Int32) = nI 5 from by decide, signR ht (by omega) ha, bd_some, sgn_s hb]
      unfold fX12_digits_J58
      rw [ha, nI_1]
      have hnext : (if k < 5 then 10 * v + (b - 48) else v) < 10 ^ (if k + 1 < 5 then k + 1 else 5) := by
        by_cases hk5 : k < 5
        · rw [if_pos hk5] at hv ⊢
          have e : 10 ^ (if k + 1 < 5 then k + 1 else 5) = 10 ^ k * 10 := by
            by_cases hk2 : k + 1 < 5
            · rw [if_pos hk2, Nat.pow_succ]
            · rw [if_neg hk2, show k = 4 by omega]
          rw [e]
          omega
        · rw [if_neg hk5] at hv ⊢
          rw [if_neg (by omega)]
          exact hv
      have ihk := fun v' hv' => ih N (k + 1) v' (s_F σ 0 20 (nI (s + k + 1))) (tpR_F (by decide) ht) (by omega) (by omega) (by omega) (by rw [s_F_rd, if_pos ⟨rfl, rfl⟩]; rfl) hv'
      by_cases hk5 : k < 5
      · rw [if_neg (nI_ge hk5 (by omega)), if_pos hk5]
        rw [if_pos hk5] at hnext
        rw [show (10 : Int32) = nI 10 from by decide, show (48 : Int32) = nI 48 from by decide, nI_mul, nI_add, nI_sub (by omega), show 10 * v + b - 48 = 10 * v + (b - 48) by omega, ihk _ hnext, s_F_F]
        simp only [Nat.add_assoc, Nat.add_comm 1]
      · rw [if_pos (nI_le (by omega) (by omega)), if_neg hk5]
        rw [if_neg hk5] at hnext
        rw [ihk _ hnext, s_F_F]
        simp only [Nat.add_assoc, Nat.add_comm 1]
    · rw [dgV_f hb hd, if_pos rfl, if_neg hd]
      dsimp only
      rw [Nat.add_zero, s_F_self ha]
theorem flt_1 {s c : Nat} (hs : s ≤ 400) (hc : c ≤ 4) : ¬ flt 0 s (some c) = 0 := by
  unfold flt
  dsimp only
  rw [if_neg (not_not_intro rfl), show (1 : Int32) = nI 1 from by decide, show (8 : Int32) = nI 8 from by decide, nI_mul, nI_add, nI_add]
  exact nI_ne0 (by omega) (by omega)
theorem flt_f {f : Int32} {s : Nat} {c : Option Nat} (h : ¬ f = 0) : flt f s c = f := by
  cases c with
  | none => rfl
  | some c =>
    unfold flt
    dsimp only
    rw [if_pos h]
theorem digitsR {sh : List kd} {σ : St} {tp : List Nat} {s : Nat} (ht : tpR σ tp) (hs : s ≤ tp.length) (ha : σ.1 0 20 = nI s) (hf : σ.1 0 21 = 0) :
    fX12_digits sh σ 99999 = some (nI (nm tp s).1, s_F (s_F σ 0 20 (nI (s + (nm tp s).2))) 0 21 (flt 0 s (if (nm tp s).2 = 0 then some 0 else if 5 < (nm tp s).2 then some 1 else none))) := by
  have h400 := ht.1
  have hb := nm_bd hs
  unfold fX12_digits
  rw [isDigR ht (by omega) ha, bd_some]
  by_cases hd : ∃ b, tp[s]? = some b ∧ isD b = true
  · obtain ⟨b, hb1, hb2⟩ := hd
    rw [dgV_t hb1 hb2, if_pos n10]
    have hF : tp.length - (s + 0) < i_F := i_F_gt (by omega)
    generalize i_F = F at hF ⊢
    have hdg := digR (sh := sh) (tp := tp) (mo := 99999) (s2 := σ) (s := s) (K := fun (x57 : Int32) (s58 : St) => fX12_digits_X72 sh 99999 σ x57 s58) ha hs _ F 0 0 σ ht (by omega) rfl hF (by rw [ha]; rfl) (by decide)
    rw [nI_0, Nat.add_zero] at hdg
    rw [hdg]
    have hn0 : ¬ (nm tp s).2 = 0 := by
      unfold nm
      rw [drop_some hb1, dv, if_pos hb2]
      exact Nat.succ_ne_zero _
    have en : dv 0 0 (tp.drop s) = nm tp s := rfl
    rw [en]
    generalize nm tp s = q at hb hn0
    obtain ⟨v, n⟩ := q
    dsimp only at hb hn0 ⊢
    unfold fX12_digits_X72 fX12_digits_J93
    have f1 : (s_F σ 0 20 (nI (s + n))).1 0 20 = nI (s + n) := by rw [s_F_rd, if_pos ⟨rfl, rfl⟩]
    have f3 : (s_F σ 0 20 (nI (s + n))).1 0 21 = 0 := by rw [s_F_rd, if_neg (by omega), hf]
    rw [f1, ha, nI_sub (by omega), show s + n - s = n by omega, show (5 : Int32) = nI 5 from by decide, if_neg hn0, failsR rfl nz1.symm, bd_some, f3]
    by_cases h5 : 5 < n
    · rw [if_pos (nI_lt h5 (by omega)), if_pos h5]
    · rw [if_neg (nI_nlt (by omega) (by omega)), if_neg h5, show (99999 : Int32) = nI 99999 from by decide, if_pos (nI_le (by omega) (by omega))]
      show some _ = some (_, s_F _ 0 21 0)
      rw [s_F_self f3]
  · have e0 : dgV tp s = 0 := by
      cases h : tp[s]? with
      | none => exact dgV_n h
      | some b => exact dgV_f h (fun e => hd ⟨b, h, e⟩)
    have en : nm tp s = (0, 0) := by
      unfold nm
      cases h : tp[s]? with
      | none => rw [drop_none h]; rfl
      | some b => rw [drop_some h, dv, if_neg (fun e => hd ⟨b, h, e⟩)]
    rw [e0, if_neg nn00, ha, failsR rfl nz0.symm, bd_some, hf, en]
    dsimp only
    rw [if_pos rfl, Nat.add_zero, s_F_self ha, nI_0]
/-- the reference reads a NUMBER: no FAULT so far -/
theorem amtR {sh : List kd} {σ : St} {tp : List Nat} {p : Nat} {lo hi : Int32} (ht : tpR σ tp) (hp : p ≤ tp.length) (ha : σ.1 0 20 = nI p) (hf : σ.1 0 21 = 0) :
    fX12_amount sh σ lo hi = some (nI (nm tp (skp tp p)).1, s_F (s_F σ 0 20 (nI (skp tp p + (nm tp (skp tp p)).2))) 0 21 (flt 0 (skp tp p) (ncode (nm tp (skp tp p)).2 (nm tp (skp tp p)).1 lo hi))) := by
  have h400 := ht.1
  have hs := skp_le hp
  unfold fX12_amount
  rw [blanksR ht (by omega) ha, bd_some]
  have e1 : (s_F σ 0 20 (nI (skp tp p))).1 0 20 = nI (skp tp p) := by rw [s_F_rd, if_pos ⟨rfl, rfl⟩]
  have e2 : (s_F σ 0 20 (nI (skp tp p))).1 0 21 = 0 := by rw [s_F_rd, if_neg (by omega), hf]
  rw [e2, if_neg (not_not_intro rfl), digitsR (tpR_F (by decide) ht) hs e1 e2, bd_some, s_F_F]
  have hb := nm_bd hs
  generalize nm tp (skp tp p) = q at hb
  generalize skp tp p = s at hb hs e1 e2
  obtain ⟨v, n⟩ := q
  dsimp only at hb ⊢
  unfold fX12_amount_J26 fX12_amount_J54 ncode
  have g1 : ∀ x, (s_F (s_F σ 0 20 (nI (s + n))) 0 21 x).1 0 21 = x := fun x => by rw [s_F_rd, if_pos ⟨rfl, rfl⟩]
  rw [g1]
  by_cases h0 : n = 0
  · rw [if_pos h0, if_pos h0, if_pos (flt_1 (by omega) (by omega))]
  · rw [if_neg h0, if_neg h0]
    by_cases h5 : 5 < n
    · rw [if_pos h5, if_pos h5, if_pos (flt_1 (by omega) (by omega))]
    · rw [if_neg h5, if_neg h5]
      rw [show flt 0 s none = 0 from rfl, if_neg (not_not_intro rfl), inR, bd_some, Int32.toInt_toInt64, Int32.toInt_toInt64, Int32.toInt_toInt64, e1, failsR rfl nz1.symm, bd_some, g1, s_F_F]
      by_cases hlo : nI v < lo
      · have := Int32.lt_iff_toInt_lt.mp hlo
        rw [if_pos hlo, show (if (nI v).toInt < lo.toInt ∨ hi.toInt < (nI v).toInt then (0 : Int32) else 1) = 0 from if_pos (Or.inl this), if_neg nn00]
      · have hlo' : ¬ (nI v).toInt < lo.toInt := fun e => hlo (Int32.lt_iff_toInt_lt.mpr e)
        rw [if_neg hlo]
        by_cases hhi : nI v ≤ hi
        · have := Int32.le_iff_toInt_le.mp hhi
          rw [if_pos hhi, show (if (nI v).toInt < lo.toInt ∨ hi.toInt < (nI v).toInt then (0 : Int32) else 1) = 1 from if_neg (by omega), if_pos n10]
          rfl
        · have hhi' : ¬ (nI v).toInt ≤ hi.toInt := fun e => hhi (Int32.le_iff_toInt_le.mpr e)
          rw [if_neg hhi, show (if (nI v).toInt < lo.toInt ∨ hi.toInt < (nI v).toInt then (0 : Int32) else 1) = 0 from if_pos (by omega), if_neg nn00]
/-- and with a FAULT -/
theorem amtRf {sh : List kd} {σ : St} {tp : List Nat} {p : Nat} {lo hi : Int32} (ht : tpR σ tp) (hp : p ≤ tp.length) (ha : σ.1 0 20 = nI p) (hf : ¬ σ.1 0 21 = 0) :
    fX12_amount sh σ lo hi = some (0, s_F σ 0 20 (nI (skp tp p))) := by
  have h400 := ht.1
  unfold fX12_amount
  rw [blanksR ht (by omega) ha, bd_some]
  have e2 : (s_F σ 0 20 (nI (skp tp p))).1 0 21 = σ.1 0 21 := by rw [s_F_rd, if_neg (by omega)]
  rw [e2, if_pos hf]
  unfold fX12_amount_J26 fX12_amount_J54
  rw [e2, if_pos hf]
/-! words -/
def isW (tp : List Nat) (s : Nat) (f : Nat → Int32) (L : Nat) : Prop := rn isL tp s = L ∧ ∀ i, i < L → ∃ b, tp[s + i]? = some b ∧ nI b = f i
theorem isW_congr {tp : List Nat} {s L : Nat} {f g : Nat → Int32} (h : ∀ i, i < L → f i = g i) : isW tp s f L ↔ isW tp s g L := by
  constructor
  · rintro ⟨h1, h2⟩
    exact ⟨h1, fun i hi => by obtain ⟨b, b1, b2⟩ := h2 i hi; exact ⟨b, b1, b2.trans (h i hi)⟩⟩
  · rintro ⟨h1, h2⟩
    exact ⟨h1, fun i hi => by obtain ⟨b, b1, b2⟩ := h2 i hi; exact ⟨b, b1, b2.trans (h i hi).symm⟩⟩
theorem wendC {sh : List kd} {σ : St} {tp : List Nat} {p : Nat} (ht : tpC σ tp) (hp : p ≤ tp.length) (ha : σ.1 1 2 = nI p) : fX9_wordEnd sh σ = some (nI (p + rn isL tp p), σ) := by
  have h400 := ht.1
  have key : ∀ (m N p : Nat), p ≤ tp.length → tp.length - p = m → m < N → fX9_wordEnd_L5 sh σ N (nI p) = some (nI (p + rn isL tp p), σ) := by
    intro m
    induction m with
    | zero =>
      intro N p hp hm hN
      obtain ⟨N, rfl⟩ : ∃ n', N = n' + 1 := ⟨N - 1, by omega⟩
      have hn : tp[p]? = none := List.getElem?_eq_none_iff.mpr (by omega)
      rw [fX9_wordEnd_L5, ht.2.1, if_pos (nI_le (by omega) (by omega)), rn_n hn]
      rfl
    | succ m ih =>
      intro N p hp hm hN
      obtain ⟨N, rfl⟩ : ∃ n', N = n' + 1 := ⟨N - 1, by omega⟩
      have hlt : p < tp.length := by omega
      obtain ⟨b, hb⟩ : ∃ b, tp[p]? = some b := ⟨_, List.getElem?_eq_getElem hlt⟩
      obtain ⟨b1, b2⟩ := ht.2.2 p b hb
      have hok : i_ok (nI p) 400 := ok_nI (by omega) (by omega)
      have hcl : (nI p).toNatClampNeg = p := nI_clamp (by omega)
      rw [fX9_wordEnd_L5, ht.2.1, if_neg (nI_ge hlt (by omega))]
      simp only [if_pos hok, hcl, b2]
      unfold fX9_wordEnd_J41
      rw [rn_s hb, show (97 : Int32) = nI 97 from by decide, show (122 : Int32) = nI 122 from by decide, nI_1]
      by_cases hl : isL b = true
      · have hl' : 97 ≤ b ∧ b ≤ 122 := by unfold isL at hl; simpa using hl
        rw [if_neg (nI_nlt (by omega) (by omega)), if_neg (nI_nlt (by omega) (by omega)), if_pos hl, ih N (p + 1) (by omega) (by omega) (by omega)]
        congr 3
        omega
      · have hl' : ¬ (97 ≤ b ∧ b ≤ 122) := fun e => hl (by unfold isL; simpa using e)
        rw [if_neg hl, Nat.add_zero]
        by_cases h97 : b < 97
        · rw [if_pos (nI_lt h97 (by omega))]
          rfl
        · rw [if_neg (nI_nlt (by omega) (by omega)), if_pos (nI_lt (by omega) (by omega))]
          rfl
  unfold fX9_wordEnd
  rw [ha]
  exact key _ i_F p hp rfl (i_F_gt (by omega))
theorem let8 : ∀ b : Nat, b < 256 → ((¬ (nI b).toInt8.toInt32 < 97 ∧ ¬ 122 < (nI b).toInt8.toInt32) ↔ (97 ≤ b ∧ b ≤ 122)) := by decide +kernel
theorem let8v : ∀ b : Nat, b < 256 → 97 ≤ b → b ≤ 122 → (nI b).toInt8.toInt32 = nI b := by decide +kernel
theorem stoodR {sh : List kd} {σ : St} {tp : List Nat} {p k : Nat} (ht : tpR σ tp) (hp : p ≤ tp.length) (ha : σ.1 0 20 = nI p) (hk : k < 28) :
    (isW tp p (i_schr k) (i_slen k) ∧ fX12_stood sh σ k = some (1, σ)) ∨ (¬ isW tp p (i_schr k) (i_slen k) ∧ fX12_stood sh σ k = some (0, σ)) := by
  have h400 := ht.1
  have hsl := i_slen_lt k hk
  have hrn := rn_le (f := isL) hp
  -- the end of the word
  have key : ∀ (m N e : Nat) (K : Int32 → Option (Int32 × St)), e ≤ tp.length → tp.length - e = m → m < N → fX12_stood_L5 sh k σ K N (nI e) = K (nI (e + rn isL tp e)) := by
    intro m
    induction m with
    | zero =>
      intro N e K he hm hN
      obtain ⟨N, rfl⟩ : ∃ n', N = n' + 1 := ⟨N - 1, by omega⟩
      have hn : tp[e]? = none := List.getElem?_eq_none_iff.mpr (by omega)
      rw [fX12_stood_L5, ht.2.1, if_pos (nI_le (by omega) (by omega)), rn_n hn]
      rfl
    | succ m ih =>
      intro N e K he hm hN
      obtain ⟨N, rfl⟩ : ∃ n', N = n' + 1 := ⟨N - 1, by omega⟩
      have hlt : e < tp.length := by omega
      obtain ⟨b, hb⟩ : ∃ b, tp[e]? = some b := ⟨_, List.getElem?_eq_getElem hlt⟩
      obtain ⟨b1, b2⟩ := ht.2.2 e b hb
      have hok : i_ok (nI e) 400 := ok_nI (by omega) (by omega)
      have hcl : (nI e).toNatClampNeg = e := nI_clamp (by omega)
      rw [fX12_stood_L5, ht.2.1, if_neg (nI_ge hlt (by omega))]
      simp only [if_pos hok, hcl, b2]
      rw [rn_s hb, nI_1]
      by_cases hl : isL b = true
      · have hl' : 97 ≤ b ∧ b ≤ 122 := by unfold isL at hl; simpa using hl
        obtain ⟨c1, c2⟩ := (let8 b b1).mpr hl'
        rw [if_neg c1, if_neg c2, if_pos hl, ih N (e + 1) K (by omega) (by omega) (by omega)]
        congr 2
        omega
      · have hl' : ¬ (97 ≤ b ∧ b ≤ 122) := fun e => hl (by unfold isL; simpa using e)
        rw [if_neg hl, Nat.add_zero]
        by_cases h97 : (nI b).toInt8.toInt32 < 97
        · rw [if_pos h97]
          rfl
        · rw [if_neg h97]
          by_cases h122 : 122 < (nI b).toInt8.toInt32
          · rw [if_pos h122]
            rfl
          · exact absurd ((let8 b b1).mp ⟨h97, h122⟩) hl'
  unfold fX12_stood
  rw [ha, key _ i_F p _ hp rfl (i_F_gt (by omega))]
  unfold fX12_stood_X41
  rw [if_pos hk, ha, nI_sub (by omega), show p + rn isL tp p - p = rn isL tp p by omega, ofN]
  by_cases hL : rn isL tp p = i_slen k
  · rw [hL, if_neg (not_not_intro rfl)]
    have hF : i_slen k < i_F := i_F_gt (by omega)
    generalize i_F = F at hF ⊢
    -- the signs one by one
    have hlet : ∀ (m q : Nat), rn isL tp q = m → ∀ i, i < m → ∃ b, tp[q + i]? = some b ∧ 97 ≤ b ∧ b ≤ 122 := by
      intro m
      induction m with
      | zero => intro q _ i hi; omega
      | succ m ih =>
        intro q hq i hi
        cases h : tp[q]? with
        | none => rw [rn_n h] at hq; omega
        | some b =>
          rw [rn_s h] at hq
          by_cases hl : isL b = true
          · rw [if_pos hl] at hq
            cases i with
            | zero => exact ⟨b, h, by unfold isL at hl; simpa using hl⟩
            | succ i =>
              obtain ⟨b', h1, h2⟩ := ih (q + 1) (by omega) i (by omega)
              exact ⟨b', by rw [show q + (i + 1) = q + 1 + i by omega]; exact h1, h2⟩
          · rw [if_neg hl] at hq; omega
    rw [← nz0]
    have hloop : ∀ (m N i : Nat), i + m = i_slen k → m < N → (∀ j, j < i → ∃ b, tp[p + j]? = some b ∧ nI b = i_schr k j) → (isW tp p (i_schr k) (i_slen k) ∧ fX12_stood_L63 sh k σ (nI (p + i_slen k)) N 1 (nI i) = some (1, σ)) ∨ (¬ isW tp p (i_schr k) (i_slen k) ∧ fX12_stood_L63 sh k σ (nI (p + i_slen k)) N 1 (nI i) = some (0, σ)) := by
      intro m
      induction m with
      | zero =>
        intro N i hi hN hpre
        obtain ⟨N, rfl⟩ : ∃ n', N = n' + 1 := ⟨N - 1, by omega⟩
        left
        refine ⟨⟨hL, fun j hj => hpre j (by omega)⟩, ?_⟩
        rw [fX12_stood_L63, if_pos hk, ofN, if_pos (nI_le (by omega) (by omega))]
        rfl
      | succ m ih =>
        intro N i hi hN hpre
        obtain ⟨N, rfl⟩ : ∃ n', N = n' + 1 := ⟨N - 1, by omega⟩
        obtain ⟨b, hb, hb1, hb2⟩ := hlet _ p hL i (by omega)
        obtain ⟨c1, c2⟩ := ht.2.2 _ b hb
        have hlt := at_lt hb
        rw [fX12_stood_L63, if_pos hk, ofN, if_neg (nI_ge (by omega) (by omega)), if_neg n10, ha, nI_add, if_pos (ok_nI (by omega) (by omega)), if_pos hk, if_pos (ok_nI (by omega) (by omega)), nI_clamp (by omega), nI_clamp (by omega), c2, let8v b c1 hb1 hb2, nI_1]
        by_cases he : nI b = i_schr k i
        · rw [if_neg (not_not_intro he)]
          exact ih N (i + 1) (by omega) (by omega) (fun j hj => by
            by_cases hji : j = i
            · subst hji; exact ⟨b, hb, he⟩
            · exact hpre j (by omega))
        · rw [if_pos he]
          right
          refine ⟨fun hw => ?_, ?_⟩
          · obtain ⟨b', h1, h2⟩ := hw.2 i (by omega)
            rw [hb] at h1
            cases h1
            exact he h2
          · obtain ⟨N, rfl⟩ : ∃ n', N = n' + 1 := ⟨N - 1, by omega⟩
            rw [fX12_stood_L63, if_pos hk, ofN]
            unfold fX12_stood_J109
            by_cases hle : nI (i_slen k) ≤ nI (i + 1)
            · rw [if_pos hle]; rfl
            · rw [if_neg hle, if_pos rfl]; rfl
    exact hloop (i_slen k) F 0 (by omega) (by omega) (fun j hj => by omega)
  · right
    rw [if_pos (nI_ne hL (by omega) (by omega))]
    refine ⟨fun hw => hL hw.1, ?_⟩
    have hF : 0 < i_F := i_F_gt (by omega)
    generalize i_F = F at hF ⊢
    obtain ⟨F, rfl⟩ : ∃ n', F = n' + 1 := ⟨F - 1, by omega⟩
    rw [fX12_stood_L63, if_pos hk, ofN]
    unfold fX12_stood_J109
    by_cases hle : nI (i_slen k) ≤ 0
    · rw [if_pos hle]; rfl
    · rw [if_neg hle, if_pos rfl]; rfl
