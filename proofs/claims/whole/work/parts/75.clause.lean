/-! ===== a CLAUSE of a RULE ===== -/
def flat : Cl → Cd
  | [] => []
  | q :: cl => q.1 ++ q.2 ++ flat cl
theorem flat_app : ∀ (a b : Cl), flat (a ++ b) = flat a ++ flat b
  | [], b => rfl
  | q :: a, b => by
    show q.1 ++ q.2 ++ flat (a ++ b) = q.1 ++ q.2 ++ flat a ++ flat b
    rw [flat_app a b]
    simp
theorem flat_tl : ∀ (a : Cl), (flat a).length = tl a
  | [] => rfl
  | q :: a => by
    show (q.1 ++ q.2 ++ flat a).length = q.1.length + q.2.length + tl a
    rw [List.length_append, List.length_append, flat_tl a]
def enC (se te : Nat → Int32) : Nat → Nat → Cl → Prop
  | _, _, [] => True
  | k, i, q :: cl => se k = nI (i + q.1.length) ∧ te k = nI (i + q.1.length + q.2.length) ∧ enC se te (k + 1) (i + q.1.length + q.2.length) cl
def enR (sa ta ea : Nat → Int32) (r : Nat) : Nat → Nat → Cl → Prop
  | _, _, [] => True
  | k, i, q :: cl => sa (12 * r + k) = nI i ∧ ta (12 * r + k) = nI (i + q.1.length) ∧ ea (12 * r + k) = nI (i + q.1.length + q.2.length) ∧ enR sa ta ea r (k + 1) (i + q.1.length + q.2.length) cl
theorem RuC_of {f g se te : Nat → Int32} : ∀ (cl : Cl) (k i : Nat), cdA id f g i (flat cl) → enC se te k i cl → RuC f g se te k i cl
  | [], _, _, _, _ => trivial
  | q :: cl, k, i, h, e => by
    have h' : cdA id f g i (q.1 ++ q.2 ++ flat cl) := h
    have h1 := (cdA_app _ _ _).mp h'
    have h2 := (cdA_app _ _ _).mp h1.1
    rw [List.length_append] at h1
    exact ⟨e.1, e.2.1, h2.1, h2.2, RuC_of cl _ _ (by rw [Nat.add_assoc]; exact h1.2) e.2.2⟩
theorem RuR_of {f g sa ta ea : Nat → Int32} {r : Nat} : ∀ (cl : Cl) (k i : Nat), cdA om f g (300 * r + i) (flat cl) → enR sa ta ea r k i cl → RuR f g sa ta ea r k i cl
  | [], _, _, _, _ => trivial
  | q :: cl, k, i, h, e => by
    have h' : cdA om f g (300 * r + i) (q.1 ++ q.2 ++ flat cl) := h
    have h1 := (cdA_app _ _ _).mp h'
    have h2 := (cdA_app _ _ _).mp h1.1
    rw [List.length_append] at h1
    exact ⟨e.1, e.2.1, e.2.2.1, h2.1, by rw [← Nat.add_assoc]; exact h2.2, RuR_of cl _ _ (by rw [show 300 * r + (i + q.1.length + q.2.length) = 300 * r + i + (q.1.length + q.2.length) by omega]; exact h1.2) e.2.2.2⟩
theorem enC_ext {se te se' te' : Nat → Int32} : ∀ (cl : Cl) (k i : Nat), (∀ j, k ≤ j → j < k + cl.length → se' j = se j ∧ te' j = te j) → enC se te k i cl → enC se' te' k i cl
  | [], _, _, _, _ => trivial
  | q :: cl, k, i, h, e => by
    have el : (q :: cl).length = cl.length + 1 := List.length_cons
    have h0 := h k (by omega) (by omega)
    exact ⟨h0.1.trans e.1, h0.2.trans e.2.1, enC_ext cl _ _ (fun j h1 h2 => h j (by omega) (by omega)) e.2.2⟩
theorem enR_ext {sa ta ea sa' ta' ea' : Nat → Int32} {r : Nat} : ∀ (cl : Cl) (k i : Nat), (∀ j, k ≤ j → j < k + cl.length → sa' (12 * r + j) = sa (12 * r + j) ∧ ta' (12 * r + j) = ta (12 * r + j) ∧ ea' (12 * r + j) = ea (12 * r + j)) → enR sa ta ea r k i cl → enR sa' ta' ea' r k i cl
  | [], _, _, _, _ => trivial
  | q :: cl, k, i, h, e => by
    have el : (q :: cl).length = cl.length + 1 := List.length_cons
    have h0 := h k (by omega) (by omega)
    exact ⟨h0.1.trans e.1, h0.2.1.trans e.2.1, h0.2.2.trans e.2.2.1, enR_ext cl _ _ (fun j h1 h2 => h j (by omega) (by omega)) e.2.2.2⟩
theorem enC_snoc {se te : Nat → Int32} {q : Cd × Cd} : ∀ (cl : Cl) (k i : Nat), enC se te k i cl → se (k + cl.length) = nI (i + tl cl + q.1.length) → te (k + cl.length) = nI (i + tl cl + q.1.length + q.2.length) → enC se te k i (cl ++ [q])
  | [], k, i, _, h1, h2 => ⟨h1, h2, trivial⟩
  | u :: cl, k, i, e, h1, h2 => by
    have el : (u :: cl).length = cl.length + 1 := List.length_cons
    have et : tl (u :: cl) = u.1.length + u.2.length + tl cl := rfl
    rw [el, et] at h1 h2
    refine ⟨e.1, e.2.1, enC_snoc cl _ _ e.2.2 ?_ ?_⟩
    · rw [show k + 1 + cl.length = k + (cl.length + 1) by omega, h1]
      congr 1
      omega
    · rw [show k + 1 + cl.length = k + (cl.length + 1) by omega, h2]
      congr 1
      omega
theorem enR_snoc {sa ta ea : Nat → Int32} {r : Nat} {q : Cd × Cd} : ∀ (cl : Cl) (k i : Nat), enR sa ta ea r k i cl → sa (12 * r + (k + cl.length)) = nI (i + tl cl) → ta (12 * r + (k + cl.length)) = nI (i + tl cl + q.1.length) → ea (12 * r + (k + cl.length)) = nI (i + tl cl + q.1.length + q.2.length) → enR sa ta ea r k i (cl ++ [q])
  | [], k, i, _, h1, h2, h3 => ⟨h1, h2, h3, trivial⟩
  | u :: cl, k, i, e, h1, h2, h3 => by
    have el : (u :: cl).length = cl.length + 1 := List.length_cons
    have et : tl (u :: cl) = u.1.length + u.2.length + tl cl := rfl
    rw [el, et] at h1 h2 h3
    refine ⟨e.1, e.2.1, e.2.2.1, enR_snoc cl _ _ e.2.2.2 ?_ ?_ ?_⟩
    · rw [show k + 1 + cl.length = k + (cl.length + 1) by omega, h1]
      congr 1
      omega
    · rw [show k + 1 + cl.length = k + (cl.length + 1) by omega, h2]
      congr 1
      omega
    · rw [show k + 1 + cl.length = k + (cl.length + 1) by omega, h3]
      congr 1
      omega
def fmC' (σ τ : St) : Prop := (∀ i k, ¬ (i = 1 ∧ (k = 2 ∨ k = 3)) → ¬ (i = 10 ∧ (k = 5 ∨ k = 6 ∨ k = 7)) → τ.1 i k = σ.1 i k) ∧ (∀ i, ¬ (11 ≤ i ∧ i ≤ 14) → τ.2.1 i = σ.2.1 i) ∧ τ.2.2 = σ.2.2
def fmR' (sl : Nat) (σ τ : St) : Prop := (∀ i k, ¬ (i = 0 ∧ (k = 20 ∨ k = 21 ∨ k = 24 ∨ k = 25 ∨ k = 26 ∨ k = 27)) → τ.1 i k = σ.1 i k) ∧ (∀ i, ¬ (i = 20 ∨ i = 21 ∨ (23 ≤ i ∧ i ≤ 26)) → τ.2.1 i = σ.2.1 i) ∧ (∀ j, ¬ (300 * sl ≤ j ∧ j < 300 * sl + 300) → τ.2.1 20 j = σ.2.1 20 j ∧ τ.2.1 21 j = σ.2.1 21 j) ∧ (∀ i j, (23 ≤ i ∧ i ≤ 25) → ¬ (12 * sl ≤ j ∧ j < 12 * sl + 12) → τ.2.1 i j = σ.2.1 i j) ∧ τ.2.2 = σ.2.2
theorem fmC'_trans {σ τ υ : St} (h : fmC' σ τ) (g : fmC' τ υ) : fmC' σ υ := ⟨fun i k h1 h2 => (g.1 i k h1 h2).trans (h.1 i k h1 h2), fun i h1 => (g.2.1 i h1).trans (h.2.1 i h1), g.2.2.trans h.2.2⟩
theorem fmR'_trans {sl : Nat} {σ τ υ : St} (h : fmR' sl σ τ) (g : fmR' sl τ υ) : fmR' sl σ υ := ⟨fun i k h1 => (g.1 i k h1).trans (h.1 i k h1), fun i h1 => (g.2.1 i h1).trans (h.2.1 i h1), fun j hj => ⟨(g.2.2.1 j hj).1.trans (h.2.2.1 j hj).1, (g.2.2.1 j hj).2.trans (h.2.2.1 j hj).2⟩, fun i j h1 h2 => (g.2.2.2.1 i j h1 h2).trans (h.2.2.2.1 i j h1 h2), g.2.2.2.2.trans h.2.2.2.2⟩
theorem fmC'_C {σ τ : St} (h : fmC σ τ) : fmC' σ τ := ⟨fun i k h1 h2 => h.1 i k h1 (by omega), fun i h1 => h.2.1 i (by omega) (by omega), h.2.2⟩
theorem fmR'_T {sl : Nat} {σ τ : St} (h : fmT sl σ τ) : fmR' sl σ τ := ⟨h.1, fun i h1 => h.2.1 i (by omega) (by omega) (by omega), h.2.2.1, fun i j h1 _ => by rw [h.2.1 i (by omega) (by omega) (by omega)], h.2.2.2⟩
theorem fmC'_refl {σ : St} : fmC' σ σ := fmC'_C fmC_refl
theorem fmR'_refl {sl : Nat} {σ : St} : fmR' sl σ σ := fmR'_T fmT_refl
theorem fmC'_A {σ : St} {i k : Nat} {x : Int32} (h : i = 13 ∨ i = 14) : fmC' σ (s_A σ i k x) := ⟨fun _ _ _ _ => rfl, fun j hj => s_A_ne (by omega), rfl⟩
theorem fmC'_6 {σ : St} {x : Int32} : fmC' σ (s_F σ 10 6 x) := ⟨fun i j _ h2 => by rw [s_F_rd, if_neg (by omega)], fun _ _ => rfl, rfl⟩
theorem fmR'_A {sl : Nat} {σ : St} {i k : Nat} {x : Int32} (h : 23 ≤ i ∧ i ≤ 25) (hk : 12 * sl ≤ k ∧ k < 12 * sl + 12) : fmR' sl σ (s_A σ i k x) := by
  refine ⟨fun _ _ _ => rfl, fun j hj => s_A_ne (by omega), fun j _ => by rw [s_A_ne (by omega), s_A_ne (by omega)]; exact ⟨rfl, rfl⟩, fun j m h1 h2 => ?_, rfl⟩
  by_cases hij : j = i
  · subst hij
    rw [s_A_up, upd_pt, if_neg (by omega)]
  · rw [s_A_ne hij]
def CI (σC σR : St) (tp : List Nat) (sl p : Nat) (cnt nt : Nat) (cl : Cl) : Prop := AC σC tp p (flat cl) cnt ∧ AR σR tp sl p (flat cl) cnt ∧ cl.length ≤ 12 ∧ σC.1 10 6 = nI cl.length ∧ σR.1 0 25 = nI 0 ∧ enC (σC.2.1 13) (σC.2.1 14) 0 0 cl ∧ enR (σR.2.1 23) (σR.2.1 24) (σR.2.1 25) sl 0 0 cl ∧ wfCl cl ∧ BD (flat cl) cnt 0 nt ∧ 3 * nt ≤ p
theorem AC_13 {σ : St} {tp : List Nat} {p cnt i k : Nat} {out : Cd} {x : Int32} (hi : i = 13 ∨ i = 14) (h : AC σ tp p out cnt) : AC (s_A σ i k x) tp p out cnt := by
  obtain ⟨h1, h2, h3, h4, h5, h6, h7⟩ := h
  exact ⟨⟨h1.1, h1.2.1, by rw [s_A_ne (by omega)]; exact h1.2.2⟩, h2, h3, h4, h5, h6, by rw [s_A_ne (by omega), s_A_ne (by omega)]; exact h7⟩
theorem AC_6 {σ : St} {tp : List Nat} {p cnt : Nat} {out : Cd} {x : Int32} (h : AC σ tp p out cnt) : AC (s_F σ 10 6 x) tp p out cnt := by
  obtain ⟨h1, h2, h3, h4, h5, h6, h7⟩ := h
  exact ⟨⟨h1.1, by rw [s_F_rd, if_neg (by omega)]; exact h1.2.1, h1.2.2⟩, by rw [s_F_rd, if_neg (by omega)]; exact h2, h3, by rw [s_F_rd, if_neg (by omega)]; exact h4, by rw [s_F_rd, if_neg (by omega)]; exact h5, by rw [s_F_rd, if_neg (by omega)]; exact h6, h7⟩
theorem FC_13 {σ : St} {tp : List Nat} {i k : Nat} {x f : Int32} (hi : i = 13 ∨ i = 14) (h : FC σ tp f) : FC (s_A σ i k x) tp f := by
  obtain ⟨a1, a2, p, a3, a4⟩ := h
  exact ⟨⟨a1.1, a1.2.1, by rw [s_A_ne (by omega)]; exact a1.2.2⟩, a2, p, a3, a4⟩
theorem FC_6 {σ : St} {tp : List Nat} {x f : Int32} (h : FC σ tp f) : FC (s_F σ 10 6 x) tp f := by
  obtain ⟨a1, a2, p, a3, a4⟩ := h
  exact ⟨⟨a1.1, by rw [s_F_rd, if_neg (by omega)]; exact a1.2.1, a1.2.2⟩, by rw [s_F_rd, if_neg (by omega)]; exact a2, p, a3, by rw [s_F_rd, if_neg (by omega)]; exact a4⟩
theorem AR_23 {σ : St} {tp : List Nat} {sl p cnt i k : Nat} {out : Cd} {x : Int32} (hi : 23 ≤ i ∧ i ≤ 25) (h : AR σ tp sl p out cnt) : AR (s_A σ i k x) tp sl p out cnt := by
  obtain ⟨h1, h2, h3, h4, h5, h6, h7, h8, h9⟩ := h
  exact ⟨⟨h1.1, h1.2.1, by rw [s_A_ne (by omega)]; exact h1.2.2⟩, h2, h3, h4, h5, h6, h7, h8, by rw [s_A_ne (by omega), s_A_ne (by omega)]; exact h9⟩
theorem FW_23 {σ : St} {tp : List Nat} {i k : Nat} {x f : Int32} (hi : 23 ≤ i ∧ i ≤ 25) (h : FW σ tp f) : FW (s_A σ i k x) tp f := by
  obtain ⟨a1, a2, p, a3, a4⟩ := h
  exact ⟨⟨a1.1, a1.2.1, by rw [s_A_ne (by omega)]; exact a1.2.2⟩, a2, p, a3, a4⟩
/-- the class' two closings -/
theorem closeS {sh : List kd} {σ : St} {k : Nat} (h : σ.1 10 6 = nI k) (hk : k ≤ 12) : fX8_closeSum sh σ = some ((), if k = 12 then σ else s_A σ 13 k (σ.1 10 5)) := by
  unfold fX8_closeSum fX8_closeSum_J22
  rw [h, show (12 : Int32) = nI 12 from by decide]
  by_cases h12 : k = 12
  · subst h12
    rw [if_pos (nI_le (Nat.le_refl _) (by omega)), if_pos rfl]
  · rw [if_neg (nI_ge (by omega) (by omega)), if_neg h12, if_pos (ok_nI (by omega) (by omega)), nI_clamp (by omega)]
theorem closeCl {sh : List kd} {σ : St} {k : Nat} (h : σ.1 10 6 = nI k) (hk : k ≤ 12) : fX8_closeClause sh σ = some ((), if k = 12 then σ else s_F (s_A σ 14 k (σ.1 10 5)) 10 6 (nI (k + 1))) := by
  unfold fX8_closeClause fX8_closeClause_J32
  rw [h, show (12 : Int32) = nI 12 from by decide]
  by_cases h12 : k = 12
  · subst h12
    rw [if_pos (nI_le (Nat.le_refl _) (by omega)), if_pos rfl]
  · rw [if_neg (nI_ge (by omega) (by omega)), if_neg h12, if_pos (ok_nI (by omega) (by omega)), nI_clamp (by omega), s_A_F, h, nI_1]
