/-! ===== a RULE's CLAUSES: what it comes to ===== -/
abbrev Cl : Type := List (Cd × Cd)
def isSum (c : Cd) : Prop := ∀ (w : Nat → Int64) (s : List Int64), ∃ x, ev w c s = some (x :: s)
def isTst (c : Cd) : Prop := ∀ (w : Nat → Int64) (s : List Int64), ∃ x, (x = 0 ∨ x = 1) ∧ ev w c s = some (x :: s)
def val (w : Nat → Int64) (c : Cd) : Int64 := match ev w c [] with
  | some (x :: _) => x
  | _ => 0
def spW (w : Nat → Int64) : Cl → Int64
  | [] => 0
  | q :: cl => if q.2.length = 0 then val w q.1 else if val w q.2 = 0 then spW w cl else val w q.1
def wfCl (cl : Cl) : Prop := ∀ q ∈ cl, isSum q.1 ∧ (q.2.length = 0 ∨ isTst q.2) ∧ pus q.1 ≤ 64 ∧ pus q.2 ≤ 64
theorem val_sum {w : Nat → Int64} {c : Cd} (h : isSum c) : ev w c [] = some [val w c] := by
  obtain ⟨x, hx⟩ := h w []
  unfold val
  rw [hx]
theorem val_tst {w : Nat → Int64} {c : Cd} (h : isTst c) : ev w c [] = some [val w c] ∧ (val w c = 0 ∨ val w c = 1) := by
  obtain ⟨x, h01, hx⟩ := h w []
  unfold val
  rw [hx]
  exact ⟨rfl, h01⟩
/-- the CLAUSES cl stand in a RULE of the class, from clause k and step i on -/
def RuC (f g se te : Nat → Int32) : Nat → Nat → Cl → Prop
  | _, _, [] => True
  | k, i, q :: cl => se k = nI (i + q.1.length) ∧ te k = nI (i + q.1.length + q.2.length) ∧ cdA id f g i q.1 ∧ cdA id f g (i + q.1.length) q.2 ∧ RuC f g se te (k + 1) (i + q.1.length + q.2.length) cl
/-- the CLAUSES cl stand in slot r of the reference -/
def RuR (f g sa ta ea : Nat → Int32) (r : Nat) : Nat → Nat → Cl → Prop
  | _, _, [] => True
  | k, i, q :: cl => sa (12 * r + k) = nI i ∧ ta (12 * r + k) = nI (i + q.1.length) ∧ ea (12 * r + k) = nI (i + q.1.length + q.2.length) ∧ cdA om f g (300 * r + i) q.1 ∧ cdA om f g (300 * r + (i + q.1.length)) q.2 ∧ RuR f g sa ta ea r (k + 1) (i + q.1.length + q.2.length) cl
def tl : Cl → Nat
  | [] => 0
  | q :: cl => q.1.length + q.2.length + tl cl
theorem onlyL_trans {i : Nat} {σ τ υ : St} (h : onlyL i σ τ) (g : onlyL i τ υ) : onlyL i σ υ := ⟨g.1.trans h.1, g.2.1.trans h.2.1, g.2.2.1.trans h.2.2.1, fun j hj => (g.2.2.2 j hj).trans (h.2.2.2 j hj)⟩
theorem lg_10 : ¬ lg_cmp 1 0 = 0 := by decide +kernel
theorem lg_01 : ¬ lg_cmp 0 1 = 0 := by decide +kernel
theorem lg_11 : lg_cmp 1 1 = 0 := by decide +kernel
theorem worthC_loop {sh : List kd} (hsh : cSh sh) {a n1 m : Nat} (h1 : sh[a + 1]? = some (.inl (.int, n1))) (h2 : sh[a + 2]? = some (.inl (.int, n1))) (h3 : sh[a + 3]? = some (.inl (.int, m))) (h4 : sh[a + 4]? = some (.inl (.int, m))) (hn : n1 ≤ 400) (hm : m ≤ 12) {w : Nat → Int64} :
    ∀ (cl : Cl) (n k i : Nat) (x3 : Value) (σ : St), k + cl.length = m → cl.length < n → i + tl cl ≤ n1 → wfCl cl → (∀ j, j < 12 → σ.2.2.1 17 j = w j) → RuC (σ.2.1 (a + 1)) (σ.2.1 (a + 2)) (σ.2.1 (a + 3)) (σ.2.1 (a + 4)) k i cl →
    ∃ τ, fX7_worth_L5 sh a 17 18 (fun (x55 : Int32) (x56 : Int32) (x57 : Int32) (s58 : St) => fX7_worth_X79 sh a 17 18 x55 x56 x57 s58) n (nI i) (nI k) x3 σ = some (spW w cl, τ) ∧ onlyL 18 σ τ := by
  intro cl
  induction cl with
  | nil =>
    intro n k i x3 σ hk hn0 _ _ hw hc
    obtain ⟨n, rfl⟩ : ∃ n', n = n' + 1 := ⟨n - 1, by simp at hn0; omega⟩
    have hkm : k = m := by simpa using hk
    subst hkm
    refine ⟨σ, ?_, onlyL_refl⟩
    rw [fX7_worth_L5, i_al_at h3, ofN, if_pos (nI_le (Nat.le_refl _) (by omega))]
    rfl
  | cons q cl ih =>
    intro n k i x3 σ hk hn0 hi hwf hw hc
    obtain ⟨n, rfl⟩ : ∃ n', n = n' + 1 := ⟨n - 1, by simp at hn0; omega⟩
    simp only [List.length_cons] at hk hn0
    have hi2 : i + (q.1.length + q.2.length + tl cl) ≤ n1 := hi
    obtain ⟨c1, c2, c3, c4, c5⟩ := hc
    obtain ⟨w1, w2, w3, w4⟩ := hwf q (List.mem_cons_self ..)
    have hok : i_ok (nI k) m := ok_nI (by omega) (by omega)
    have hcl : (nI k).toNatClampNeg = k := nI_clamp (by omega)
    have hsum : ∀ (x57 : Int32) (s58 : St), onlyL 18 σ s58 → ∃ τ, fX7_worth_X79 sh a 17 18 (nI i) (nI k) x57 s58 = some (val w q.1, τ) ∧ onlyL 18 σ τ := by
      intro x57 s58 ho
      obtain ⟨τ, t1, t2⟩ := outC hsh h1 h2 hn (w := w) (e := i + q.1.length) (i := i) (by omega) (c := q.1) (x := val w q.1) (σ := s58) rfl (val_sum w1) w3 (fun j hj => by rw [ho.2.2.2 17 (by decide)]; exact hw j hj) (by rw [ho.2.1]; exact c3)
      refine ⟨τ, ?_, onlyL_trans ho t2⟩
      unfold fX7_worth_X79
      rw [i_al_at h3, if_pos hok, hcl, ho.2.1, c1, t1, bd_some]
    rw [fX7_worth_L5, i_al_at h3, ofN, if_neg (nI_ge (by omega) (by omega)), i_al_at h4, ofN, if_neg (nI_ge (by omega) (by omega)), i_al_at h4, if_pos hok, i_al_at h3, if_pos hok]
    simp only [hcl, c1, c2]
    unfold spW
    by_cases h0 : q.2.length = 0
    · have hle : nI (i + q.1.length + q.2.length) ≤ nI (i + q.1.length) := nI_le (by omega) (by omega)
      rw [if_pos hle, if_pos (by decide), if_pos h0]
      exact hsum _ σ onlyL_refl
    · have hle : ¬ nI (i + q.1.length + q.2.length) ≤ nI (i + q.1.length) := nI_ge (by omega) (by omega)
      rw [if_neg hle, if_neg (by decide), i_al_at h3, if_pos hok, i_al_at h4, if_pos hok, if_neg h0]
      obtain ⟨v1, v2⟩ := val_tst (w := w) (w2.resolve_left h0)
      obtain ⟨τ, t1, t2⟩ := outC hsh h1 h2 hn (w := w) (e := i + q.1.length + q.2.length) (i := i + q.1.length) (by omega) (c := q.2) (x := val w q.2) (σ := σ) rfl v1 w4 hw c4
      rw [t1, bd_some]
      by_cases hv : val w q.2 = 0
      · rw [hv, if_pos lg_00, if_pos rfl, i_al_at h4, if_pos hok, t2.2.1, c2, nI_1]
        obtain ⟨τ2, u1, u2⟩ := ih n (k + 1) (i + q.1.length + q.2.length) (.int (if nI (i + q.1.length + q.2.length) ≤ nI (i + q.1.length) then 0 else 1 : Int32)) τ (by omega) (by omega) (by omega) (fun p hp => hwf p (List.mem_cons_of_mem _ hp)) (fun j hj => by rw [t2.2.2.2 17 (by decide)]; exact hw j hj) (by rw [t2.2.1]; exact c5)
        rw [if_neg hle] at u1
        exact ⟨τ2, u1, onlyL_trans t2 u2⟩
      · rw [if_neg hv]
        rw [v2.resolve_left hv, if_neg lg_10]
        exact hsum _ τ t2
theorem worthC {sh : List kd} (hsh : cSh sh) {a n1 m : Nat} (h1 : sh[a + 1]? = some (.inl (.int, n1))) (h2 : sh[a + 2]? = some (.inl (.int, n1))) (h3 : sh[a + 3]? = some (.inl (.int, m))) (h4 : sh[a + 4]? = some (.inl (.int, m))) (hn : n1 ≤ 400) (hm : m ≤ 12) {w : Nat → Int64} {cl : Cl} {σ : St} (hk : cl.length = m) (hi : tl cl ≤ n1) (hwf : wfCl cl) (hw : ∀ j, j < 12 → σ.2.2.1 17 j = w j) (hc : RuC (σ.2.1 (a + 1)) (σ.2.1 (a + 2)) (σ.2.1 (a + 3)) (σ.2.1 (a + 4)) 0 0 cl) :
    ∃ τ, fX7_worth sh σ a 17 18 = some (spW w cl, τ) ∧ onlyL 18 σ τ := by
  obtain ⟨τ, t1, t2⟩ := worthC_loop hsh h1 h2 h3 h4 hn hm (w := w) cl i_F 0 0 (.retAddr 0) σ (by omega) (i_F_gt (by omega)) (by omega) hwf hw hc
  refine ⟨τ, ?_, t2⟩
  rw [nI_0] at t1
  unfold fX7_worth
  exact t1
theorem i12 : ∀ r : Nat, r < 6 → 12 * nI r = nI (12 * r) := by decide
theorem wantR_loop {sh : List kd} {r m : Nat} (hr : r < 6) (hm : m ≤ 12) {w : Nat → Int64} {σ0 : St} (hf : σ0.2.1 1 10 = nI r) :
    ∀ (cl : Cl) (n k i : Nat) (σ : St), k + cl.length = m → cl.length < n → i + tl cl ≤ 300 → wfCl cl → (∀ j, j < 12 → σ.2.2.1 27 j = w j) → σ.2.1 22 r = nI m → RuR (σ.2.1 20) (σ.2.1 21) (σ.2.1 23) (σ.2.1 24) (σ.2.1 25) r k i cl →
    ∃ τ, fX12_wanted_L13 sh σ0 (fun (x54 : Int32) (s55 : St) => fX12_wanted_X65 sh σ0 x54 s55) n (nI (12 * r + k)) σ = some (spW w cl, τ) ∧ onlyL 28 σ τ := by
  intro cl
  induction cl with
  | nil =>
    intro n k i σ hk hn0 _ _ hw hcm hc
    obtain ⟨n, rfl⟩ : ∃ n', n = n' + 1 := ⟨n - 1, by simp at hn0; omega⟩
    have hkm : k = m := by simpa using hk
    subst hkm
    refine ⟨σ, ?_, onlyL_refl⟩
    have hcr : (nI r).toNatClampNeg = r := nI_clamp (by omega)
    rw [fX12_wanted_L13, c_10, hf, if_pos (ok_nI hr (by omega)), hcr, hcm, i12 r hr, nI_add, if_pos (nI_le (Nat.le_refl _) (by omega))]
    rfl
  | cons q cl ih =>
    intro n k i σ hk hn0 hi hwf hw hcm hc
    obtain ⟨n, rfl⟩ : ∃ n', n = n' + 1 := ⟨n - 1, by simp at hn0; omega⟩
    simp only [List.length_cons] at hk hn0
    have hi2 : i + (q.1.length + q.2.length + tl cl) ≤ 300 := hi
    obtain ⟨c1, c2, c3, c4, c5, c6⟩ := hc
    obtain ⟨w1, w2, w3, w4⟩ := hwf q (List.mem_cons_self ..)
    have hok : i_ok (nI (12 * r + k)) 72 := ok_nI (by omega) (by omega)
    have hcl : (nI (12 * r + k)).toNatClampNeg = 12 * r + k := nI_clamp (by omega)
    have hcr : (nI r).toNatClampNeg = r := nI_clamp (by omega)
    have hsum : ∀ (s58 : St), onlyL 28 σ s58 → ∃ τ, fX12_wanted_X65 sh σ0 (nI (12 * r + k)) s58 = some (val w q.1, τ) ∧ onlyL 28 σ τ := by
      intro s58 ho
      obtain ⟨τ, t1, t2⟩ := ansR (sh := sh) hr (w := w) (e := i + q.1.length) (i := i) (by omega) (c := q.1) (x := val w q.1) (σ := s58) rfl (val_sum w1) w3 (fun j hj => by rw [ho.2.2.2 27 (by decide)]; exact hw j hj) (by rw [ho.2.1]; exact c4)
      refine ⟨τ, ?_, onlyL_trans ho t2⟩
      unfold fX12_wanted_X65
      rw [if_pos hok, if_pos hok, c_10, hf, hcl, ho.2.1, c1, c2, t1, bd_some]
    rw [fX12_wanted_L13, c_10, hf, if_pos (ok_nI hr (by omega)), hcr, hcm, i12 r hr, nI_add, if_neg (nI_ge (by omega) (by omega)), if_pos hok, if_pos hok]
    simp only [hcl, c2, c3]
    unfold spW
    by_cases h0 : q.2.length = 0
    · rw [if_pos (by rw [h0]; rfl), if_pos h0]
      exact hsum σ onlyL_refl
    · rw [if_neg (nI_ne (by omega) (by omega) (by omega)), if_pos hok, if_pos hok, if_neg h0]
      obtain ⟨v1, v2⟩ := val_tst (w := w) (w2.resolve_left h0)
      obtain ⟨τ, t1, t2⟩ := ansR (sh := sh) hr (w := w) (e := i + q.1.length + q.2.length) (i := i + q.1.length) (by omega) (c := q.2) (x := val w q.2) (σ := σ) rfl v1 w4 hw c5
      rw [t1, bd_some]
      by_cases hv : val w q.2 = 0
      · rw [hv, if_pos lg_01, if_pos rfl, nI_1]
        obtain ⟨τ2, u1, u2⟩ := ih n (k + 1) (i + q.1.length + q.2.length) τ (by omega) (by omega) (by omega) (fun p hp => hwf p (List.mem_cons_of_mem _ hp)) (fun j hj => by rw [t2.2.2.2 27 (by decide)]; exact hw j hj) (by rw [t2.2.1]; exact hcm) (by rw [t2.2.1]; exact c6)
        exact ⟨τ2, u1, onlyL_trans t2 u2⟩
      · rw [if_neg hv, v2.resolve_left hv, if_neg (not_not_intro lg_11)]
        exact hsum τ t2
theorem wantR {sh : List kd} {r m : Nat} (hr : r < 6) (hm : m ≤ 12) {w : Nat → Int64} {σ : St} (hf : σ.2.1 1 10 = nI r) {cl : Cl} (hk : cl.length = m) (hi : tl cl ≤ 300) (hwf : wfCl cl) (hw : ∀ j, j < 12 → σ.2.2.1 27 j = w j) (hcm : σ.2.1 22 r = nI m) (hc : RuR (σ.2.1 20) (σ.2.1 21) (σ.2.1 23) (σ.2.1 24) (σ.2.1 25) r 0 0 cl) :
    ∃ τ, fX12_wanted sh σ = some (spW w cl, τ) ∧ onlyL 28 σ τ := by
  obtain ⟨τ, t1, t2⟩ := wantR_loop (sh := sh) hr hm (w := w) hf cl i_F 0 0 σ (by omega) (i_F_gt (by omega)) (by omega) hwf hw hcm hc
  refine ⟨τ, ?_, t2⟩
  unfold fX12_wanted
  rw [if_pos o_10, c_10, hf, i12 r hr]
  exact t1
