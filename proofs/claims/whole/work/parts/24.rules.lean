/-! ===== RULES as code for a stack: (step, operand), steps numbered as the class does ===== -/
abbrev Cd : Type := List (Nat × Int32)
def jn (k : Nat) (x y : Int64) : Int64 :=
  if k = 3 then x + y else if k = 4 then x - y else if k = 5 then x * y
  else if k = 6 then (if lg_cmp y 0 = 0 then 0 else x / y)
  else if k = 7 then (if lg_cmp y 0 = 0 then 0 else x - x / y * y)
  else if k = 8 then (if 0 ≤ lg_cmp x y then 0 else 1)
  else if k = 9 then (if 0 < lg_cmp x y then 0 else 1)
  else if k = 10 then (if lg_cmp x y = 0 then 1 else 0)
  else if k = 11 then (if lg_cmp x y < 0 then 0 else 1)
  else if k = 12 then (if lg_cmp x y ≤ 0 then 0 else 1)
  else if k = 13 then x &&& y else x ||| y
/-- the reference's number of a step -/
def om (k : Nat) : Nat := if k = 0 then 0 else if k = 1 then 1 else if k = 2 then 9 else if k = 3 then 2 else if k = 4 then 3 else if k = 5 then 13 else if k = 6 then 14 else if k = 7 then 15 else if k = 8 then 4 else if k = 9 then 5 else if k = 10 then 6 else if k = 11 then 7 else if k = 12 then 8 else if k = 13 then 10 else 11
theorem lg_00 : lg_cmp 0 0 = 0 := by decide +kernel
theorem op_all {k : Nat} (h1 : 3 ≤ k) (h2 : k ≤ 14) : k = 3 ∨ k = 4 ∨ k = 5 ∨ k = 6 ∨ k = 7 ∨ k = 8 ∨ k = 9 ∨ k = 10 ∨ k = 11 ∨ k = 12 ∨ k = 13 ∨ k = 14 := by omega
theorem nz3 : nI 3 = 3 := by decide
theorem nz4 : nI 4 = 4 := by decide
theorem nz5 : nI 5 = 5 := by decide
theorem nz6 : nI 6 = 6 := by decide
theorem nz7 : nI 7 = 7 := by decide
theorem nz8 : nI 8 = 8 := by decide
theorem nz9 : nI 9 = 9 := by decide
theorem nz10 : nI 10 = 10 := by decide
theorem nz11 : nI 11 = 11 := by decide
theorem nz12 : nI 12 = 12 := by decide
theorem nz13 : nI 13 = 13 := by decide
theorem nz14 : nI 14 = 14 := by decide
theorem nz15 : nI 15 = 15 := by decide
theorem nz2 : nI 2 = 2 := by decide
theorem nz1 : nI 1 = 1 := by decide
theorem lg_n0 {y : Int64} (h : ¬ lg_cmp y 0 = 0) : ¬ y = 0 := fun e => h (by rw [e]; exact lg_00)
theorem joinedC {sh : List kd} {σ : St} {x y : Int64} {k : Nat} (h1 : 3 ≤ k) (h2 : k ≤ 14) : fX7_joined sh σ (nI k) x y = some (jn k x y, σ) := by
  rcases op_all h1 h2 with h | h | h | h | h | h | h | h | h | h | h | h
  all_goals subst h
  all_goals unfold fX7_joined jn fX7_joined_J89 fX7_joined_J103
  all_goals simp only [nz3, nz4, nz5, nz6, nz7, nz8, nz9, nz10, nz11, nz12, nz13, nz14]
  all_goals simp
  all_goals (by_cases hy : lg_cmp y 0 = 0)
  all_goals simp [hy]
  all_goals exact lg_n0 hy
theorem bothR {sh : List kd} {σ : St} {x y : Int64} {k : Nat} (h1 : 3 ≤ k) (h2 : k ≤ 14) : fX12_both sh σ (nI (om k)) x y = some (jn k x y, σ) := by
  rcases op_all h1 h2 with h | h | h | h | h | h | h | h | h | h | h | h
  all_goals subst h
  all_goals unfold fX12_both jn fX12_both_J97 fX12_both_J111 om fX12_truth
  all_goals simp only [bd_some]
  all_goals simp [nz2, nz3, nz4, nz5, nz6, nz7, nz8, nz10, nz11, nz13, nz14, nz15]
  all_goals try (by_cases hy : lg_cmp y 0 = 0)
  all_goals try simp [hy]
  all_goals try exact lg_n0 hy
  all_goals split
  all_goals rfl
/-- one step -/
def evs (w : Nat → Int64) (q : Nat × Int32) (s : List Int64) : Option (List Int64) :=
  if q.1 = 0 then some (q.2.toInt64 :: s)
  else if q.1 = 1 then if i_ok q.2 12 then some (w q.2.toNatClampNeg :: s) else none
  else if q.1 = 2 then match s with
    | x :: s => some ((1 - x) :: s)
    | [] => none
  else if q.1 ≤ 14 then match s with
    | y :: x :: s => some (jn q.1 x y :: s)
    | _ => none
  else none
def ev (w : Nat → Int64) : Cd → List Int64 → Option (List Int64)
  | [], s => some s
  | q :: c, s => match evs w q s with
    | some s' => ev w c s'
    | none => none
theorem ev_app {w : Nat → Int64} : ∀ (c d : Cd) (s s1 : List Int64), ev w c s = some s1 → ev w (c ++ d) s = ev w d s1
  | [], d, s, s1, h => by cases h; rfl
  | q :: c, d, s, s1, h => by
    show (match evs w q s with
      | some s' => ev w (c ++ d) s'
      | none => none) = _
    have h0 : (match evs w q s with
      | some s' => ev w c s'
      | none => none) = some s1 := h
    cases he : evs w q s with
    | none => rw [he] at h0; cases h0
    | some s' =>
      rw [he] at h0
      exact ev_app c d s' s1 h0
/-- how many steps lay something on the stack -/
def pus : Cd → Nat
  | [] => 0
  | q :: c => (if q.1 ≤ 1 then 1 else 0) + pus c
theorem pus_app : ∀ (c d : Cd), pus (c ++ d) = pus c + pus d
  | [], d => by show pus d = 0 + pus d; omega
  | q :: c, d => by
    show (if q.1 ≤ 1 then 1 else 0) + pus (c ++ d) = (if q.1 ≤ 1 then 1 else 0) + pus c + pus d
    rw [pus_app c d]
    omega
/-- the stack s, its top first, in a row -/
def stk (f : Nat → Int64) : List Int64 → Prop
  | [] => True
  | x :: s => f s.length = x ∧ stk f s
def updL (f : Nat → Int64) (k : Nat) (x : Int64) : Nat → Int64 := fun j => if j = k then x else f j
theorem updL_at {f : Nat → Int64} {k : Nat} {x : Int64} : updL f k x k = x := if_pos rfl
theorem updL_ne {f : Nat → Int64} {k j : Nat} {x : Int64} (h : j ≠ k) : updL f k x j = f j := if_neg h
theorem stk_hi {f : Nat → Int64} {k : Nat} {x : Int64} : ∀ (s : List Int64), s.length ≤ k → stk f s → stk (updL f k x) s
  | [], _, _ => trivial
  | y :: s, h, hs => ⟨by rw [updL_ne (by simp at h; omega)]; exact hs.1, stk_hi s (by simp at h; omega) hs.2⟩
theorem s_L_Lup {σ : St} {i k : Nat} {x : Int64} : (s_L σ i k x).2.2.1 i = updL (σ.2.2.1 i) k x := by
  funext j
  show (if i = i ∧ j = k then x else σ.2.2.1 i j) = if j = k then x else σ.2.2.1 i j
  by_cases h : j = k
  · rw [if_pos ⟨rfl, h⟩, if_pos h]
  · rw [if_neg (fun e => h e.2), if_neg h]
theorem s_L_Lne {σ : St} {i k i' : Nat} {x : Int64} (h : i' ≠ i) : (s_L σ i k x).2.2.1 i' = σ.2.2.1 i' := by
  funext j
  show (if i' = i ∧ j = k then x else σ.2.2.1 i' j) = _
  rw [if_neg (fun e => h e.1)]
theorem s_L_F {σ : St} {i k : Nat} {x : Int64} : (s_L σ i k x).1 = σ.1 := rfl
theorem s_L_A {σ : St} {i k : Nat} {x : Int64} : (s_L σ i k x).2.1 = σ.2.1 := rfl
theorem s_L_Q {σ : St} {i k : Nat} {x : Int64} : (s_L σ i k x).2.2.2 = σ.2.2.2 := rfl
/-- nothing but the stack in the long row i differs -/
def onlyL (i : Nat) (σ τ : St) : Prop := τ.1 = σ.1 ∧ τ.2.1 = σ.2.1 ∧ τ.2.2.2 = σ.2.2.2 ∧ ∀ j, j ≠ i → τ.2.2.1 j = σ.2.2.1 j
theorem onlyL_refl {i : Nat} {σ : St} : onlyL i σ σ := ⟨rfl, rfl, rfl, fun _ _ => rfl⟩
theorem onlyL_set {i k : Nat} {x : Int64} {σ τ : St} (h : onlyL i (s_L σ i k x) τ) : onlyL i σ τ := ⟨h.1, h.2.1, h.2.2.1, fun j hj => (h.2.2.2 j hj).trans (s_L_Lne hj)⟩
/-- code c stands in the rows a1, a2 from i on -/
def cdA (m : Nat → Nat) (f g : Nat → Int32) : Nat → Cd → Prop
  | _, [] => True
  | i, q :: c => (f i = nI (m q.1) ∧ g i = q.2) ∧ cdA m f g (i + 1) c
theorem i_al_at {β : Type} {sh : List kd} {ty : FieldType} {x n : Nat} {k : Nat → Option β} (h : sh[x]? = some (.inl (ty, n))) : i_al sh ty x k = k n := by
  unfold i_al
  rw [h]
  exact if_pos rfl
theorem evs_inv {w : Nat → Int64} {q : Nat × Int32} {s s' : List Int64} (h : evs w q s = some s') :
    (q.1 = 0 ∧ s' = q.2.toInt64 :: s) ∨ (q.1 = 1 ∧ i_ok q.2 12 ∧ s' = w q.2.toNatClampNeg :: s) ∨ (q.1 = 2 ∧ ∃ x r, s = x :: r ∧ s' = (1 - x) :: r) ∨ (3 ≤ q.1 ∧ q.1 ≤ 14 ∧ ∃ y x r, s = y :: x :: r ∧ s' = jn q.1 x y :: r) := by
  unfold evs at h
  split at h
  · next h0 => exact Or.inl ⟨h0, (Option.some.inj h).symm⟩
  · split at h
    · next h1 =>
      have h2 := i_ifn h
      exact Or.inr (Or.inl ⟨h1, h2.1, (Option.some.inj h2.2).symm⟩)
    · split at h
      · next h2 =>
        cases s with
        | nil => cases h
        | cons x r => exact Or.inr (Or.inr (Or.inl ⟨h2, x, r, rfl, (Option.some.inj h).symm⟩))
      · split at h
        · next h0 h1 h2 h3 =>
          cases s with
          | nil => cases h
          | cons y r =>
            cases r with
            | nil => cases h
            | cons x r => exact Or.inr (Or.inr (Or.inr ⟨by omega, h3, y, x, r, rfl, (Option.some.inj h).symm⟩))
        · cases h
theorem nI_m1 (n : Nat) : nI (n + 1) + (-1) = nI n := by
  have h := nI_pred n
  rw [← h]
  exact (Int32.sub_eq_add_neg _ _).symm
theorem nI_ne {a b : Nat} (h : a ≠ b) (ha : a < 2 ^ 31) (hb : b < 2 ^ 31) : ¬ nI a = nI b := fun e => h ((nI_eq ha hb).mp e)
theorem nI_nlel {n : Nat} (h0 : 1 < n) (h : n < 2 ^ 31) : ¬ nI n ≤ 1 := by
  rw [← nz1]
  exact nI_ge h0 h
theorem ofN (n : Nat) : Int32.ofNat n = nI n := rfl
theorem outC_loop {sh : List kd} (hsh : cSh sh) {a n1 : Nat} (h1 : sh[a + 1]? = some (.inl (.int, n1))) (h2 : sh[a + 2]? = some (.inl (.int, n1))) (hn : n1 ≤ 400) {p1 : Int32} {K : Int32 → Int32 → Value → Value → St → Option (Int64 × St)} {w : Nat → Int64} {e : Nat} (he : e ≤ n1) :
    ∀ (c : Cd) (n i : Nat) (s s' : List Int64) (x3 x4 : Value) (σ : St), i + c.length = e → c.length < n → ev w c s = some s' → s.length + pus c ≤ 64 → stk (σ.2.2.1 18) s → (∀ j, j < 12 → σ.2.2.1 17 j = w j) → cdA id (σ.2.1 (a + 1)) (σ.2.1 (a + 2)) i c →
    ∃ v3 v4 τ, fX7_outcome_L6 sh a p1 (nI e) 17 18 K n (nI s.length) (nI i) x3 x4 σ = K (nI s'.length) (nI e) v3 v4 τ ∧ stk (τ.2.2.1 18) s' ∧ onlyL 18 σ τ := by
  intro c
  induction c with
  | nil =>
    intro n i s s' x3 x4 σ hi hm hev hb hs hw hc
    obtain ⟨n, rfl⟩ : ∃ n', n = n' + 1 := ⟨n - 1, by simp at hm; omega⟩
    cases hev
    have hie : i = e := by simpa using hi
    subst hie
    refine ⟨x3, x4, σ, ?_, hs, onlyL_refl⟩
    rw [fX7_outcome_L6, if_pos (nI_le (Nat.le_refl _) (by omega))]
  | cons q c ih =>
    intro n i s s' x3 x4 σ hi hm hev hb hs hw hc
    obtain ⟨n, rfl⟩ : ∃ n', n = n' + 1 := ⟨n - 1, by simp at hm; omega⟩
    simp only [List.length_cons] at hi hm
    obtain ⟨⟨hf, hg⟩, hc⟩ := hc
    have hev0 : (match evs w q s with
      | some s' => ev w c s'
      | none => none) = some s' := hev
    cases hq : evs w q s with
    | none => rw [hq] at hev0; cases hev0
    | some t =>
    rw [hq] at hev0
    have hev1 : ev w c t = some s' := hev0
    have hcl : (nI i).toNatClampNeg = i := nI_clamp (by omega)
    have hok : i_ok (nI i) n1 := ok_nI (by omega) (by omega)
    have hbp : s.length + ((if q.1 ≤ 1 then 1 else 0) + pus c) ≤ 64 := hb
    have e64 : sh[18]? = some (.inl (.long, 64)) := sC_18 hsh
    have e12 : sh[17]? = some (.inl (.long, 12)) := sC_17 hsh
    rw [fX7_outcome_L6, if_neg (nI_ge (by omega) (by omega)), i_al_at h1, ofN, if_neg (nI_ge (by omega) (by omega)), i_al_at h1, if_pos hok, i_al_at h2, if_pos hok, hcl, hf, hg]
    rcases evs_inv hq with ⟨ho, ht⟩ | ⟨ho, hk, ht⟩ | ⟨ho, x, r, hsr, ht⟩ | ⟨ho, ho2, y, x, r, hsr, ht⟩
    · rw [ho, if_neg (by decide), i_al_at e64, ofN, if_neg (nI_ge (by rw [ho] at hbp; simp at hbp; omega) (by omega)), i_al_at e64]
      have hlt : s.length < 64 := by rw [ho] at hbp; simp at hbp; omega
      rw [if_pos (ok_nI hlt (by omega))]
      have hcs : (nI s.length).toNatClampNeg = s.length := nI_clamp (by omega)
      unfold fX7_outcome_J166
      rw [nI_1, nI_1, hcs]
      subst ht
      obtain ⟨v3, v4, τ, e1, e2, e3⟩ := ih n (i + 1) (q.2.toInt64 :: s) s' (.int (σ.2.1 (a + 1) (nI i).toNatClampNeg)) (.int (σ.2.1 (a + 2) (nI i).toNatClampNeg)) (s_L σ 18 s.length q.2.toInt64) (by omega) (by omega) hev1 (by rw [ho] at hbp; simp at hbp ⊢; omega) ⟨by rw [s_L_Lup, updL_at], by rw [s_L_Lup]; exact stk_hi s (Nat.le_refl _) hs⟩ (by rw [s_L_Lne (by decide)]; exact hw) hc
      exact ⟨v3, v4, τ, e1, e2, onlyL_set e3⟩
    · have hlt : s.length < 64 := by rw [ho] at hbp; simp at hbp; omega
      have hk12 : ¬ nI 12 ≤ q.2 := by
        obtain ⟨j, hj, hj2⟩ := nI_of hk.1
        rw [hj2] at hk ⊢
        have := hk.2
        rw [nI_clamp hj] at this
        exact nI_ge this (by omega)
      rw [ho, if_pos (by decide), if_neg (by decide), i_al_at e64, ofN, if_neg (nI_ge hlt (by omega)), i_al_at e12, ofN, if_neg hk12, i_al_at e12, if_pos hk, i_al_at e64, if_pos (ok_nI hlt (by omega)), hw _ hk.2]
      have hcs : (nI s.length).toNatClampNeg = s.length := nI_clamp (by omega)
      unfold fX7_outcome_J166
      rw [nI_1, nI_1, hcs]
      subst ht
      obtain ⟨v3, v4, τ, e1, e2, e3⟩ := ih n (i + 1) (w q.2.toNatClampNeg :: s) s' (.int (σ.2.1 (a + 1) (nI i).toNatClampNeg)) (.int (σ.2.1 (a + 2) (nI i).toNatClampNeg)) (s_L σ 18 s.length (w q.2.toNatClampNeg)) (by omega) (by omega) hev1 (by rw [ho] at hbp; simp at hbp ⊢; omega) ⟨by rw [s_L_Lup, updL_at], by rw [s_L_Lup]; exact stk_hi s (Nat.le_refl _) hs⟩ (by rw [s_L_Lne (by decide)]; exact hw) hc
      exact ⟨v3, v4, τ, e1, e2, onlyL_set e3⟩
    · subst hsr
      simp only [List.length_cons] at hbp ⊢
      have hlt : r.length < 64 := by omega
      rw [ho, if_pos (by decide), if_pos (by decide), if_neg (by decide), if_neg (nI_nle (by omega) (by omega)), i_al_at e64, nI_pred, if_pos (ok_nI hlt (by omega)), i_al_at e64, if_pos (ok_nI hlt (by omega)), nI_clamp (by omega), hs.1]
      unfold fX7_outcome_J166
      rw [nI_1]
      subst ht
      obtain ⟨v3, v4, τ, e1, e2, e3⟩ := ih n (i + 1) ((1 - x) :: r) s' (.int (σ.2.1 (a + 1) (nI i).toNatClampNeg)) (.int (σ.2.1 (a + 2) (nI i).toNatClampNeg)) (s_L σ 18 r.length (1 - x)) (by omega) (by omega) hev1 (by rw [ho] at hbp; simp at hbp ⊢; omega) ⟨by rw [s_L_Lup, updL_at], by rw [s_L_Lup]; exact stk_hi r (Nat.le_refl _) hs.2⟩ (by rw [s_L_Lne (by decide)]; exact hw) hc
      exact ⟨v3, v4, τ, e1, e2, onlyL_set e3⟩
    · subst hsr
      simp only [List.length_cons] at hbp ⊢
      have hlt : r.length + 1 < 64 := by omega
      rw [if_pos (show ¬ nI (id q.1) = 0 from nI_ne0 (show 0 < q.1 by omega) (show q.1 < 2 ^ 31 by omega)), if_pos (by rw [← nz1]; exact nI_ne (show q.1 ≠ 1 by omega) (show q.1 < 2 ^ 31 by omega) (by omega)), if_pos (by rw [← nz2]; exact nI_ne (show q.1 ≠ 2 by omega) (show q.1 < 2 ^ 31 by omega) (by omega)), if_neg (nI_nlel (by omega) (by omega)), i_al_at e64, nI_m1, nI_pred, if_pos (ok_nI (by omega) (by omega)), i_al_at e64, if_pos (ok_nI hlt (by omega))]
      have hcr : (nI r.length).toNatClampNeg = r.length := nI_clamp (by omega)
      have hcr1 : (nI (r.length + 1)).toNatClampNeg = r.length + 1 := nI_clamp (by omega)
      have hy : σ.2.2.1 18 (r.length + 1) = y := hs.1
      have hx : σ.2.2.1 18 r.length = x := hs.2.1
      simp only [hcr, hcr1, hy, hx]
      rw [show id q.1 = q.1 from rfl, joinedC ho ho2, bd_some, i_al_at e64, if_pos (ok_nI (by omega) (by omega))]
      unfold fX7_outcome_J166
      rw [nI_1]
      subst ht
      obtain ⟨v3, v4, τ, e1, e2, e3⟩ := ih n (i + 1) (jn q.1 x y :: r) s' (.int (σ.2.1 (a + 1) (nI i).toNatClampNeg)) (.int (σ.2.1 (a + 2) (nI i).toNatClampNeg)) (s_L σ 18 r.length (jn q.1 x y)) (by omega) (by omega) hev1 (by simp only [List.length_cons]; omega) ⟨by rw [s_L_Lup, updL_at], by rw [s_L_Lup]; exact stk_hi r (Nat.le_refl _) hs.2.2⟩ (by rw [s_L_Lne (by decide)]; exact hw) hc
      exact ⟨v3, v4, τ, e1, e2, onlyL_set e3⟩
theorem outC {sh : List kd} (hsh : cSh sh) {a n1 : Nat} (h1 : sh[a + 1]? = some (.inl (.int, n1))) (h2 : sh[a + 2]? = some (.inl (.int, n1))) (hn : n1 ≤ 400) {w : Nat → Int64} {e i : Nat} (he : e ≤ n1) {c : Cd} {x : Int64} {σ : St} (hi : i + c.length = e) (hev : ev w c [] = some [x]) (hb : pus c ≤ 64) (hw : ∀ j, j < 12 → σ.2.2.1 17 j = w j) (hc : cdA id (σ.2.1 (a + 1)) (σ.2.1 (a + 2)) i c) :
    ∃ τ, fX7_outcome sh σ a (nI i) (nI e) 17 18 = some (x, τ) ∧ onlyL 18 σ τ := by
  obtain ⟨v3, v4, τ, e1, e2, e3⟩ := outC_loop hsh h1 h2 hn (p1 := nI i) (K := fun (x56 : Int32) (x57 : Int32) (x58 : Value) (x59 : Value) (s60 : St) => fX7_outcome_X172 sh a (nI i) (nI e) 17 18 x56 x57 x58 x59 s60) he c i_F i [] [x] (.retAddr 0) (.retAddr 0) σ hi (i_F_gt (by omega)) hev (by simp; omega) trivial hw hc
  refine ⟨τ, ?_, e3⟩
  unfold fX7_outcome
  rw [show nI ([] : List Int64).length = 0 from by decide] at e1
  rw [e1]
  unfold fX7_outcome_X172 fX7_outcome_J188
  have e64 : sh[18]? = some (.inl (.long, 64)) := sC_18 hsh
  rw [show nI [x].length = 1 from (by rw [List.length_cons]; decide), if_neg (by decide), i_al_at e64, if_pos (by decide), show ((1 : Int32) - 1).toNatClampNeg = 0 from by decide]
  rw [show τ.2.2.1 18 0 = x from e2.1]
theorem om_ne {k : Nat} (h1 : 3 ≤ k) (h2 : k ≤ 14) : ¬ nI (om k) = 0 ∧ ¬ nI (om k) = 1 ∧ ¬ nI (om k) = 9 := by
  rcases op_all h1 h2 with h | h | h | h | h | h | h | h | h | h | h | h
  all_goals subst h
  all_goals decide
theorem i300 : ∀ r : Nat, r < 6 → 300 * nI r = nI (300 * r) := by decide
theorem ansR_loop {sh : List kd} {r : Nat} (hr : r < 6) {p2 : Int32} {K : Int32 → Int32 → Value → Value → St → Option (Int64 × St)} {w : Nat → Int64} {e : Nat} (he : e ≤ 300) :
    ∀ (c : Cd) (n i : Nat) (s s' : List Int64) (x3 x4 : Value) (σ : St), i + c.length = e → c.length < n → ev w c s = some s' → s.length + pus c ≤ 64 → stk (σ.2.2.1 28) s → (∀ j, j < 12 → σ.2.2.1 27 j = w j) → cdA om (σ.2.1 20) (σ.2.1 21) (300 * r + i) c →
    ∃ v3 v4 τ, fX12_answer_L6 sh (nI r) p2 (nI e) K n (nI s.length) (nI i) x3 x4 σ = K (nI s'.length) (nI e) v3 v4 τ ∧ stk (τ.2.2.1 28) s' ∧ onlyL 28 σ τ := by
  intro c
  induction c with
  | nil =>
    intro n i s s' x3 x4 σ hi hm hev hb hs hw hc
    obtain ⟨n, rfl⟩ : ∃ n', n = n' + 1 := ⟨n - 1, by simp at hm; omega⟩
    cases hev
    have hie : i = e := by simpa using hi
    subst hie
    refine ⟨x3, x4, σ, ?_, hs, onlyL_refl⟩
    rw [fX12_answer_L6, if_pos (nI_le (Nat.le_refl _) (by omega))]
  | cons q c ih =>
    intro n i s s' x3 x4 σ hi hm hev hb hs hw hc
    obtain ⟨n, rfl⟩ : ∃ n', n = n' + 1 := ⟨n - 1, by simp at hm; omega⟩
    simp only [List.length_cons] at hi hm
    obtain ⟨⟨hf, hg⟩, hc⟩ := hc
    have hev0 : (match evs w q s with
      | some s' => ev w c s'
      | none => none) = some s' := hev
    cases hq : evs w q s with
    | none => rw [hq] at hev0; cases hev0
    | some t =>
    rw [hq] at hev0
    have hev1 : ev w c t = some s' := hev0
    have hcl : (nI (300 * r + i)).toNatClampNeg = 300 * r + i := nI_clamp (by omega)
    have hok : i_ok (nI (300 * r + i)) 1800 := ok_nI (by omega) (by omega)
    have hbp : s.length + ((if q.1 ≤ 1 then 1 else 0) + pus c) ≤ 64 := hb
    rw [fX12_answer_L6, if_neg (nI_ge (by omega) (by omega)), i300 r hr, nI_add, if_pos hok, if_pos hok, hcl, hf, hg]
    unfold fX12_answer_J77 fX12_answer_J77_232 fX12_answer_J147
    rw [i300 r hr, nI_add]
    rcases evs_inv hq with ⟨ho, ht⟩ | ⟨ho, hk, ht⟩ | ⟨ho, x, r', hsr, ht⟩ | ⟨ho, ho2, y, x, r', hsr, ht⟩
    · have hlt : s.length < 64 := by rw [ho] at hbp; simp at hbp; omega
      have hcs : (nI s.length).toNatClampNeg = s.length := nI_clamp (by omega)
      rw [ho, if_pos (by decide), if_neg (by decide), if_pos (ok_nI (by omega) (by omega)), nI_1, nI_1, hcs]
      subst ht
      obtain ⟨v3, v4, τ, e1, e2, e3⟩ := ih n (i + 1) (q.2.toInt64 :: s) s' (.int (σ.2.1 20 (nI (300 * r + i)).toNatClampNeg)) (.int (σ.2.1 21 (nI (300 * r + i)).toNatClampNeg)) (s_L σ 28 s.length q.2.toInt64) (by omega) (by omega) hev1 (by rw [ho] at hbp; simp at hbp ⊢; omega) ⟨by rw [s_L_Lup, updL_at], by rw [s_L_Lup]; exact stk_hi s (Nat.le_refl _) hs⟩ (by rw [s_L_Lne (by decide)]; exact hw) hc
      exact ⟨v3, v4, τ, e1, e2, onlyL_set e3⟩
    · have hlt : s.length < 64 := by rw [ho] at hbp; simp at hbp; omega
      have hcs : (nI s.length).toNatClampNeg = s.length := nI_clamp (by omega)
      rw [ho, if_neg (by decide), if_neg (by decide), if_pos (by decide), if_pos hk, if_pos (ok_nI (by omega) (by omega)), nI_1, nI_1, hcs, hw _ hk.2]
      subst ht
      obtain ⟨v3, v4, τ, e1, e2, e3⟩ := ih n (i + 1) (w q.2.toNatClampNeg :: s) s' (.int (σ.2.1 20 (nI (300 * r + i)).toNatClampNeg)) (.int (σ.2.1 21 (nI (300 * r + i)).toNatClampNeg)) (s_L σ 28 s.length (w q.2.toNatClampNeg)) (by omega) (by omega) hev1 (by rw [ho] at hbp; simp at hbp ⊢; omega) ⟨by rw [s_L_Lup, updL_at], by rw [s_L_Lup]; exact stk_hi s (Nat.le_refl _) hs⟩ (by rw [s_L_Lne (by decide)]; exact hw) hc
      exact ⟨v3, v4, τ, e1, e2, onlyL_set e3⟩
    · subst hsr
      simp only [List.length_cons] at hbp ⊢
      have hcr : (nI r'.length).toNatClampNeg = r'.length := nI_clamp (by omega)
      have hx : σ.2.2.1 28 r'.length = x := hs.1
      rw [ho, if_neg (by decide), if_pos (by decide), if_neg (by decide), nI_pred, if_pos (ok_nI (by omega) (by omega)), if_pos (ok_nI (by omega) (by omega)), nI_1, hcr, hx]
      subst ht
      obtain ⟨v3, v4, τ, e1, e2, e3⟩ := ih n (i + 1) ((1 - x) :: r') s' (.int (σ.2.1 20 (nI (300 * r + i)).toNatClampNeg)) (.int (σ.2.1 21 (nI (300 * r + i)).toNatClampNeg)) (s_L σ 28 r'.length (1 - x)) (by omega) (by omega) hev1 (by rw [ho] at hbp; simp at hbp ⊢; omega) ⟨by rw [s_L_Lup, updL_at], by rw [s_L_Lup]; exact stk_hi r' (Nat.le_refl _) hs.2⟩ (by rw [s_L_Lne (by decide)]; exact hw) hc
      exact ⟨v3, v4, τ, e1, e2, onlyL_set e3⟩
    · subst hsr
      simp only [List.length_cons] at hbp ⊢
      obtain ⟨o0, o1, o9⟩ := om_ne ho ho2
      have hcr : (nI r'.length).toNatClampNeg = r'.length := nI_clamp (by omega)
      have hcr1 : (nI (r'.length + 1)).toNatClampNeg = r'.length + 1 := nI_clamp (by omega)
      have hy : σ.2.2.1 28 (r'.length + 1) = y := hs.1
      have hx : σ.2.2.1 28 r'.length = x := hs.2.1
      rw [if_neg o0, if_pos o1, if_pos o9, nI_m1, nI_pred, if_pos (ok_nI (by omega) (by omega)), if_pos (ok_nI (by omega) (by omega))]
      simp only [hcr, hcr1, hy, hx]
      rw [bothR ho ho2, bd_some, if_pos (ok_nI (by omega) (by omega)), nI_1]
      subst ht
      obtain ⟨v3, v4, τ, e1, e2, e3⟩ := ih n (i + 1) (jn q.1 x y :: r') s' (.int (σ.2.1 20 (nI (300 * r + i)).toNatClampNeg)) (.int (σ.2.1 21 (nI (300 * r + i)).toNatClampNeg)) (s_L σ 28 r'.length (jn q.1 x y)) (by omega) (by omega) hev1 (by simp only [List.length_cons]; omega) ⟨by rw [s_L_Lup, updL_at], by rw [s_L_Lup]; exact stk_hi r' (Nat.le_refl _) hs.2.2⟩ (by rw [s_L_Lne (by decide)]; exact hw) hc
      exact ⟨v3, v4, τ, e1, e2, onlyL_set e3⟩
theorem ansR {sh : List kd} {r : Nat} (hr : r < 6) {w : Nat → Int64} {e i : Nat} (he : e ≤ 300) {c : Cd} {x : Int64} {σ : St} (hi : i + c.length = e) (hev : ev w c [] = some [x]) (hb : pus c ≤ 64) (hw : ∀ j, j < 12 → σ.2.2.1 27 j = w j) (hc : cdA om (σ.2.1 20) (σ.2.1 21) (300 * r + i) c) :
    ∃ τ, fX12_answer sh σ (nI r) (nI i) (nI e) = some (x, τ) ∧ onlyL 28 σ τ := by
  obtain ⟨v3, v4, τ, e1, e2, e3⟩ := ansR_loop (sh := sh) hr (p2 := nI i) (K := fun (x56 : Int32) (x57 : Int32) (x58 : Value) (x59 : Value) (s60 : St) => fX12_answer_X153 sh (nI r) (nI i) (nI e) x56 x57 x58 x59 s60) he c i_F i [] [x] (.retAddr 0) (.retAddr 0) σ hi (i_F_gt (by omega)) hev (by simp; omega) trivial hw hc
  refine ⟨τ, ?_, e3⟩
  unfold fX12_answer
  rw [show nI ([] : List Int64).length = 0 from by decide] at e1
  rw [e1]
  unfold fX12_answer_X153
  rw [if_pos (by decide), c_0]
  rw [show τ.2.2.1 28 0 = x from e2.1]
