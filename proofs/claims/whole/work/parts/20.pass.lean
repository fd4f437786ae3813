/-! ===== LEVEL 3: what the functions come to. Four arrays of a state at a time (thanks, titles, byHand, times) ===== -/
def aSet (σ : St) (i1 i2 i3 i4 : Nat) (f1 f2 f3 f4 : Nat → Int32) : St := (σ.1, fun i => if i = i1 then f1 else if i = i2 then f2 else if i = i3 then f3 else if i = i4 then f4 else σ.2.1 i, σ.2.2)
def a4 (i1 i2 i3 i4 : Nat) : Prop := i1 ≠ i2 ∧ i1 ≠ i3 ∧ i1 ≠ i4 ∧ i2 ≠ i3 ∧ i2 ≠ i4 ∧ i3 ≠ i4
section AS
variable {σ : St} {i1 i2 i3 i4 : Nat} {f1 f2 f3 f4 : Nat → Int32}
theorem aSet_self : aSet σ i1 i2 i3 i4 (σ.2.1 i1) (σ.2.1 i2) (σ.2.1 i3) (σ.2.1 i4) = σ := by
  unfold aSet
  refine Prod.ext rfl (Prod.ext (funext fun i => ?_) rfl)
  dsimp only
  split
  · next h => rw [h]
  · split
    · next h => rw [h]
    · split
      · next h => rw [h]
      · split
        · next h => rw [h]
        · rfl
theorem aSet_r1 : (aSet σ i1 i2 i3 i4 f1 f2 f3 f4).2.1 i1 = f1 := if_pos rfl
theorem aSet_r2 (h : a4 i1 i2 i3 i4) : (aSet σ i1 i2 i3 i4 f1 f2 f3 f4).2.1 i2 = f2 := by
  show (if i2 = i1 then f1 else if i2 = i2 then f2 else _) = f2
  rw [if_neg (Ne.symm h.1), if_pos rfl]
theorem aSet_r3 (h : a4 i1 i2 i3 i4) : (aSet σ i1 i2 i3 i4 f1 f2 f3 f4).2.1 i3 = f3 := by
  show (if i3 = i1 then f1 else if i3 = i2 then f2 else if i3 = i3 then f3 else _) = f3
  rw [if_neg (Ne.symm h.2.1), if_neg (Ne.symm h.2.2.2.1), if_pos rfl]
theorem aSet_r4 (h : a4 i1 i2 i3 i4) : (aSet σ i1 i2 i3 i4 f1 f2 f3 f4).2.1 i4 = f4 := by
  show (if i4 = i1 then f1 else if i4 = i2 then f2 else if i4 = i3 then f3 else if i4 = i4 then f4 else _) = f4
  rw [if_neg (Ne.symm h.2.2.1), if_neg (Ne.symm h.2.2.2.2.1), if_neg (Ne.symm h.2.2.2.2.2), if_pos rfl]
theorem aSet_ro {i : Nat} (h1 : i ≠ i1) (h2 : i ≠ i2) (h3 : i ≠ i3) (h4 : i ≠ i4) : (aSet σ i1 i2 i3 i4 f1 f2 f3 f4).2.1 i = σ.2.1 i := by
  show (if i = i1 then f1 else if i = i2 then f2 else if i = i3 then f3 else if i = i4 then f4 else σ.2.1 i) = _
  rw [if_neg h1, if_neg h2, if_neg h3, if_neg h4]
theorem upd_pt (f : Nat → Int32) (j q : Nat) (x : Int32) : upd f j x q = if q = j then x else f q := rfl
theorem aSet_w1 {j : Nat} {x : Int32} : s_A (aSet σ i1 i2 i3 i4 f1 f2 f3 f4) i1 j x = aSet σ i1 i2 i3 i4 (upd f1 j x) f2 f3 f4 := by
  refine Prod.ext rfl (Prod.ext (funext fun i => funext fun q => ?_) rfl)
  show (if i = i1 ∧ q = j then x else (aSet σ i1 i2 i3 i4 f1 f2 f3 f4).2.1 i q) = (aSet σ i1 i2 i3 i4 (upd f1 j x) f2 f3 f4).2.1 i q
  by_cases h1 : i = i1
  · subst h1
    rw [aSet_r1, aSet_r1, upd_pt]
    by_cases hq : q = j
    · rw [if_pos ⟨rfl, hq⟩, if_pos hq]
    · rw [if_neg (fun e => hq e.2), if_neg hq]
  · rw [if_neg (fun e => h1 e.1)]
    unfold aSet
    dsimp only
    rw [if_neg h1, if_neg h1]
theorem aSet_w2 (h : a4 i1 i2 i3 i4) {j : Nat} {x : Int32} : s_A (aSet σ i1 i2 i3 i4 f1 f2 f3 f4) i2 j x = aSet σ i1 i2 i3 i4 f1 (upd f2 j x) f3 f4 := by
  refine Prod.ext rfl (Prod.ext (funext fun i => funext fun q => ?_) rfl)
  show (if i = i2 ∧ q = j then x else (aSet σ i1 i2 i3 i4 f1 f2 f3 f4).2.1 i q) = (aSet σ i1 i2 i3 i4 f1 (upd f2 j x) f3 f4).2.1 i q
  by_cases h1 : i = i2
  · subst h1
    rw [aSet_r2 h, aSet_r2 h, upd_pt]
    by_cases hq : q = j
    · rw [if_pos ⟨rfl, hq⟩, if_pos hq]
    · rw [if_neg (fun e => hq e.2), if_neg hq]
  · rw [if_neg (fun e => h1 e.1)]
    unfold aSet
    dsimp only
    rw [if_neg h1, if_neg h1]
theorem aSet_w3 (h : a4 i1 i2 i3 i4) {j : Nat} {x : Int32} : s_A (aSet σ i1 i2 i3 i4 f1 f2 f3 f4) i3 j x = aSet σ i1 i2 i3 i4 f1 f2 (upd f3 j x) f4 := by
  refine Prod.ext rfl (Prod.ext (funext fun i => funext fun q => ?_) rfl)
  show (if i = i3 ∧ q = j then x else (aSet σ i1 i2 i3 i4 f1 f2 f3 f4).2.1 i q) = (aSet σ i1 i2 i3 i4 f1 f2 (upd f3 j x) f4).2.1 i q
  by_cases h1 : i = i3
  · subst h1
    rw [aSet_r3 h, aSet_r3 h, upd_pt]
    by_cases hq : q = j
    · rw [if_pos ⟨rfl, hq⟩, if_pos hq]
    · rw [if_neg (fun e => hq e.2), if_neg hq]
  · rw [if_neg (fun e => h1 e.1)]
    unfold aSet
    dsimp only
    rw [if_neg h1, if_neg h1]
theorem aSet_w4 (h : a4 i1 i2 i3 i4) {j : Nat} {x : Int32} : s_A (aSet σ i1 i2 i3 i4 f1 f2 f3 f4) i4 j x = aSet σ i1 i2 i3 i4 f1 f2 f3 (upd f4 j x) := by
  refine Prod.ext rfl (Prod.ext (funext fun i => funext fun q => ?_) rfl)
  show (if i = i4 ∧ q = j then x else (aSet σ i1 i2 i3 i4 f1 f2 f3 f4).2.1 i q) = (aSet σ i1 i2 i3 i4 f1 f2 f3 (upd f4 j x)).2.1 i q
  by_cases h1 : i = i4
  · subst h1
    rw [aSet_r4 h, aSet_r4 h, upd_pt]
    by_cases hq : q = j
    · rw [if_pos ⟨rfl, hq⟩, if_pos hq]
    · rw [if_neg (fun e => hq e.2), if_neg hq]
  · rw [if_neg (fun e => h1 e.1)]
    unfold aSet
    dsimp only
    rw [if_neg h1, if_neg h1]
end AS
theorem ok_nI {k n : Nat} (h : k < n) (hn : n < 2 ^ 31) : i_ok (nI k) n := ⟨nI_pos (by omega), by rw [nI_clamp (by omega)]; exact h⟩
theorem upd_same (f : Nat → Int32) (k : Nat) : upd f k (f k) = f := by
  funext q
  rw [upd_pt]
  split
  · next h => rw [h]
  · rfl
theorem upd_upd (f : Nat → Int32) (k : Nat) (x y : Int32) : upd (upd f k x) k y = upd f k y := by
  funext q
  rw [upd_pt, upd_pt, upd_pt]
  split <;> rfl
theorem upd_at (f : Nat → Int32) (k : Nat) (x : Int32) : upd f k x k = x := if_pos rfl
/-! a PERSON's turn in an HOUR: bits of who is dubbed, THANKS, TITLES, by a hand -/
abbrev Tn : Type := Int32 × (Nat → Int32) × (Nat → Int32) × (Nat → Int32)
def spThank (t v : Int32) : Int32 := if t + v < 999 then t + v else 999
def spOne (owed held : Int32) (serves : Nat → Int32) (k : Nat) (q : Tn) : Tn :=
  if spThank (q.2.1 k) (serves k) < owed then (q.1, upd q.2.1 k (spThank (q.2.1 k) (serves k)), q.2.2.1, q.2.2.2)
  else if held < 0 then (q.1 ||| (1 <<< (nI k &&& 31)), upd q.2.1 k 0, q.2.2.1, upd q.2.2.2 k (q.2.2.2 k + 1))
  else (q.1 ||| (1 <<< (nI k &&& 31)), upd q.2.1 k 0, upd q.2.2.1 k (q.2.2.1 k ||| (1 <<< (held &&& 31))), q.2.2.2)
/-- PEOPLE k to k + n - 1 -/
def spTurns (owed held : Int32) (serves : Nat → Int32) : Nat → Nat → Tn → Tn
  | 0, _, q => q
  | n + 1, k, q => spTurns owed held serves n (k + 1) (spOne owed held serves k q)
theorem spThank_r (v : Int32) : (if v ≤ 999 then v else 999) = (if v < 999 then v else (999 : Int32)) := by
  by_cases h : v < 999
  · rw [if_pos h, if_pos (by have := Int32.lt_iff_toInt_lt.mp h; exact Int32.le_iff_toInt_le.mpr (by omega))]
  · by_cases h2 : v ≤ 999
    · rw [if_pos h2, if_neg h]
      apply Int32.toInt_inj.mp
      have h3 : ¬ v.toInt < (999 : Int32).toInt := fun q => h (Int32.lt_iff_toInt_lt.mpr q)
      have h4 := Int32.le_iff_toInt_le.mp h2
      omega
    · rw [if_neg h2, if_neg h]
def aC (a : Nat) : a4 (a + 1) (a + 2) (a + 3) (a + 4) := ⟨by omega, by omega, by omega, by omega, by omega, by omega⟩
/-- the class' loop over PEOPLE, of the Life at a and the Realm at r -/
theorem passC_loop {sh : List kd} {σ : St} {a r : Nat} {p3 held : Int32} {K : Int32 → Int32 → St → Option (Int32 × St)} {P : Nat} (hP : P ≤ 6) (hp : σ.1 r 4 = nI P) (hr : r + 5 ≠ a + 1 ∧ r + 5 ≠ a + 2 ∧ r + 5 ≠ a + 3 ∧ r + 5 ≠ a + 4) (tm : Nat → Int32) :
    ∀ (m n k : Nat) (q : Tn), k + m = P → m < n → fX0_pass_L56 sh a r p3 held K n q.1 (nI k) (aSet σ (a + 1) (a + 2) (a + 3) (a + 4) q.2.1 q.2.2.1 q.2.2.2 tm) =
      K (spTurns (σ.1 r 2) held (σ.2.1 (r + 5)) m k q).1 (nI P) (aSet σ (a + 1) (a + 2) (a + 3) (a + 4) (spTurns (σ.1 r 2) held (σ.2.1 (r + 5)) m k q).2.1 (spTurns (σ.1 r 2) held (σ.2.1 (r + 5)) m k q).2.2.1 (spTurns (σ.1 r 2) held (σ.2.1 (r + 5)) m k q).2.2.2 tm) := by
  intro m
  induction m with
  | zero =>
    intro n k q hk hn
    obtain ⟨n, rfl⟩ : ∃ n', n = n' + 1 := ⟨n - 1, by omega⟩
    have hkP : k = P := by omega
    subst hkP
    rw [fX0_pass_L56]
    have h1 : (aSet σ (a + 1) (a + 2) (a + 3) (a + 4) q.2.1 q.2.2.1 q.2.2.2 tm).1 r 4 = nI k := hp
    rw [h1, if_pos (nI_le (Nat.le_refl _) (by omega))]
    rfl
  | succ m ih =>
    intro n k q hk hn
    obtain ⟨n, rfl⟩ : ∃ n', n = n' + 1 := ⟨n - 1, by omega⟩
    have hk6 : i_ok (nI k) 6 := ok_nI (by omega) (by omega)
    have hcl : (nI k).toNatClampNeg = k := nI_clamp (by omega)
    obtain ⟨db, th, ti, bh⟩ := q
    rw [fX0_pass_L56]
    have h1 : (aSet σ (a + 1) (a + 2) (a + 3) (a + 4) th ti bh tm).1 r 4 = nI P := hp
    have h2 : (aSet σ (a + 1) (a + 2) (a + 3) (a + 4) th ti bh tm).2.1 (r + 5) = σ.2.1 (r + 5) := aSet_ro hr.1 hr.2.1 hr.2.2.1 hr.2.2.2
    dsimp only
    rw [h1, if_neg (nI_ge (by omega) (by omega)), if_pos hk6, h2]
    unfold fX4_thank
    simp only [if_pos hk6, hcl, i_jp, i_bd, aSet_r1, aSet_w1]
    have hthank : (if th k + σ.2.1 (r + 5) k < 999 then th k + σ.2.1 (r + 5) k else 999) = spThank (th k) (σ.2.1 (r + 5) k) := rfl
    rw [hthank]
    have h3 : ∀ f1, (aSet σ (a + 1) (a + 2) (a + 3) (a + 4) f1 ti bh tm).1 r 2 = σ.1 r 2 := fun _ => rfl
    rw [upd_at, h3]
    have ihk := fun q' => ih n (k + 1) q' (by omega) (by omega)
    rw [spTurns]
    by_cases hc : spThank (th k) (σ.2.1 (r + 5) k) < σ.1 r 2
    · rw [if_pos hc]
      unfold fX0_pass_J142
      rw [nI_1, ihk (db, upd th k (spThank (th k) (σ.2.1 (r + 5) k)), ti, bh)]
      have e : spOne (σ.1 r 2) held (σ.2.1 (r + 5)) k (db, th, ti, bh) = (db, upd th k (spThank (th k) (σ.2.1 (r + 5) k)), ti, bh) := by
        unfold spOne
        rw [if_pos hc]
      rw [e]
    · rw [if_neg hc]
      by_cases hh : held < 0
      · rw [if_pos hh]
        simp only [aSet_r3 (aC a), aSet_w3 (aC a), upd_upd]
        unfold fX0_pass_J142
        rw [nI_1, ihk (db ||| (1 <<< (nI k &&& 31)), upd th k 0, ti, upd bh k (bh k + 1))]
        have e : spOne (σ.1 r 2) held (σ.2.1 (r + 5)) k (db, th, ti, bh) = (db ||| (1 <<< (nI k &&& 31)), upd th k 0, ti, upd bh k (bh k + 1)) := by
          unfold spOne
          rw [if_neg hc, if_pos hh]
        rw [e]
      · rw [if_neg hh]
        simp only [aSet_r2 (aC a), aSet_w2 (aC a), upd_upd]
        unfold fX0_pass_J142
        rw [nI_1, ihk (db ||| (1 <<< (nI k &&& 31)), upd th k 0, upd ti k (ti k ||| (1 <<< (held &&& 31))), bh)]
        have e : spOne (σ.1 r 2) held (σ.2.1 (r + 5)) k (db, th, ti, bh) = (db ||| (1 <<< (nI k &&& 31)), upd th k 0, upd ti k (ti k ||| (1 <<< (held &&& 31))), bh) := by
          unfold spOne
          rw [if_neg hc, if_neg hh]
        rw [e]
