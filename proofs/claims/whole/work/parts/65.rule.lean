/-! ===== a RULE is read: what both write ===== -/
theorem cdA_app {m : Nat → Nat} {f g : Nat → Int32} : ∀ (c d : Cd) (i : Nat), cdA m f g i (c ++ d) ↔ cdA m f g i c ∧ cdA m f g (i + c.length) d
  | [], d, i => by
    constructor
    · intro h; exact ⟨trivial, h⟩
    · intro h; exact h.2
  | q :: c, d, i => by
    have ih := cdA_app (m := m) (f := f) (g := g) c d (i + 1)
    have e : i + (q :: c).length = i + 1 + c.length := by rw [List.length_cons]; omega
    rw [e]
    constructor
    · intro h
      exact ⟨⟨h.1, (ih.mp h.2).1⟩, (ih.mp h.2).2⟩
    · intro h
      exact ⟨h.1.1, ih.mpr ⟨h.1.2, h.2⟩⟩
theorem cdA_ext {m : Nat → Nat} {f g f' g' : Nat → Int32} : ∀ (c : Cd) (i : Nat), (∀ j, i ≤ j → j < i + c.length → f' j = f j ∧ g' j = g j) → cdA m f g i c → cdA m f' g' i c
  | [], _, _, _ => trivial
  | q :: c, i, e, h => by
    have el : (q :: c).length = c.length + 1 := List.length_cons
    have e0 := e i (by omega) (by omega)
    exact ⟨⟨by rw [e0.1]; exact h.1.1, by rw [e0.2]; exact h.1.2⟩, cdA_ext c (i + 1) (fun j h1 h2 => e j (by omega) (by omega)) h.2⟩
def AC (σ : St) (tp : List Nat) (p : Nat) (out : Cd) (cnt : Nat) : Prop := tpC σ tp ∧ σ.1 1 3 = 0 ∧ p ≤ tp.length ∧ σ.1 1 2 = nI p ∧ σ.1 10 5 = nI out.length ∧ σ.1 10 7 = nI cnt ∧ cdA id (σ.2.1 11) (σ.2.1 12) 0 out
def AR (σ : St) (tp : List Nat) (sl p : Nat) (out : Cd) (cnt : Nat) : Prop := tpR σ tp ∧ σ.1 0 21 = 0 ∧ p ≤ tp.length ∧ σ.1 0 20 = nI p ∧ σ.1 0 24 = nI out.length ∧ σ.1 0 26 = nI cnt ∧ σ.1 0 22 = nI sl ∧ σ.1 0 28 = 12 ∧ cdA om (σ.2.1 20) (σ.2.1 21) (300 * sl) out
def fmC (σ τ : St) : Prop := (∀ i k, ¬ (i = 1 ∧ (k = 2 ∨ k = 3)) → ¬ (i = 10 ∧ (k = 5 ∨ k = 7)) → τ.1 i k = σ.1 i k) ∧ (∀ i, i ≠ 11 → i ≠ 12 → τ.2.1 i = σ.2.1 i) ∧ τ.2.2 = σ.2.2
/-- the reference: nothing but the reading and the slot differs; x = 1 where signs are open -/
def fmR (sl : Nat) (σ τ : St) : Prop := (∀ i k, ¬ (i = 0 ∧ (k = 20 ∨ k = 21 ∨ k = 24 ∨ k = 26)) → τ.1 i k = σ.1 i k) ∧ (∀ i, i ≠ 20 → i ≠ 21 → τ.2.1 i = σ.2.1 i) ∧ (∀ j, ¬ (300 * sl ≤ j ∧ j < 300 * sl + 300) → τ.2.1 20 j = σ.2.1 20 j ∧ τ.2.1 21 j = σ.2.1 21 j) ∧ τ.2.2 = σ.2.2
theorem fmC_refl {σ : St} : fmC σ σ := ⟨fun _ _ _ _ => rfl, fun _ _ _ => rfl, rfl⟩
theorem fmR_refl {sl : Nat} {σ : St} : fmR sl σ σ := ⟨fun _ _ _ => rfl, fun _ _ _ => rfl, fun _ _ => ⟨rfl, rfl⟩, rfl⟩
theorem fmC_trans {σ τ υ : St} (h : fmC σ τ) (g : fmC τ υ) : fmC σ υ := ⟨fun i k h1 h2 => (g.1 i k h1 h2).trans (h.1 i k h1 h2), fun i h1 h2 => (g.2.1 i h1 h2).trans (h.2.1 i h1 h2), g.2.2.trans h.2.2⟩
theorem fmR_trans {sl : Nat} {σ τ υ : St} (h : fmR sl σ τ) (g : fmR sl τ υ) : fmR sl σ υ := ⟨fun i k h1 => (g.1 i k h1).trans (h.1 i k h1), fun i h1 h2 => (g.2.1 i h1 h2).trans (h.2.1 i h1 h2), fun j hj => ⟨(g.2.2.1 j hj).1.trans (h.2.2.1 j hj).1, (g.2.2.1 j hj).2.trans (h.2.2.1 j hj).2⟩, g.2.2.2.trans h.2.2.2⟩
theorem fmC_nf {σ τ : St} (h : nfC σ τ) : fmC σ τ := ⟨fun i k h1 _ => h.1 i k h1, fun i _ _ => by rw [h.2], by rw [h.2]⟩
theorem fmR_nf {sl : Nat} {σ τ : St} (h : nfR σ τ) : fmR sl σ τ := ⟨fun i k h1 => h.1 i k (by omega), fun i _ _ => by rw [h.2], fun j _ => by rw [h.2]; exact ⟨rfl, rfl⟩, by rw [h.2]⟩
theorem fmC_10 {σ : St} {k : Nat} {x : Int32} (hk : k = 5 ∨ k = 7) : fmC σ (s_F σ 10 k x) := ⟨fun i j _ h2 => by rw [s_F_rd, if_neg (by omega)], fun _ _ _ => rfl, rfl⟩
theorem fmR_0 {sl : Nat} {σ : St} {k : Nat} {x : Int32} (hk : k = 20 ∨ k = 21 ∨ k = 24 ∨ k = 26) : fmR sl σ (s_F σ 0 k x) := ⟨fun i j h => by rw [s_F_rd, if_neg (by omega)], fun _ _ _ => rfl, fun _ _ => ⟨rfl, rfl⟩, rfl⟩
theorem AC_p {σ : St} {tp : List Nat} {p p' cnt : Nat} {out : Cd} (h : AC σ tp p out cnt) (hp : p' ≤ tp.length) : AC (s_F σ 1 2 (nI p')) tp p' out cnt := by
  obtain ⟨h1, h2, h3, h4, h5, h6, h7⟩ := h
  exact ⟨tpC_nf nfC_2 h1, by rw [s_F_rd, if_neg (by omega)]; exact h2, hp, s_F_at, by rw [s_F_rd, if_neg (by omega)]; exact h5, by rw [s_F_rd, if_neg (by omega)]; exact h6, h7⟩
theorem AR_p {σ : St} {tp : List Nat} {sl p p' cnt : Nat} {out : Cd} (h : AR σ tp sl p out cnt) (hp : p' ≤ tp.length) : AR (s_F σ 0 20 (nI p')) tp sl p' out cnt := by
  obtain ⟨h1, h2, h3, h4, h5, h6, h7, h8, h9⟩ := h
  exact ⟨tpR_nf nfR_20 h1, by rw [s_F_rd, if_neg (by omega)]; exact h2, hp, s_F_at, by rw [s_F_rd, if_neg (by omega)]; exact h5, by rw [s_F_rd, if_neg (by omega)]; exact h6, by rw [s_F_rd, if_neg (by omega)]; exact h7, by rw [s_F_rd, if_neg (by omega)]; exact h8, h9⟩
theorem AC_c {σ : St} {tp : List Nat} {p cnt c' : Nat} {out : Cd} (h : AC σ tp p out cnt) : AC (s_F σ 10 7 (nI c')) tp p out c' := by
  obtain ⟨h1, h2, h3, h4, h5, h6, h7⟩ := h
  exact ⟨⟨h1.1, by rw [s_F_rd, if_neg (by omega)]; exact h1.2.1, h1.2.2⟩, by rw [s_F_rd, if_neg (by omega)]; exact h2, h3, by rw [s_F_rd, if_neg (by omega)]; exact h4, by rw [s_F_rd, if_neg (by omega)]; exact h5, s_F_at, h7⟩
theorem AR_c {σ : St} {tp : List Nat} {sl p cnt c' : Nat} {out : Cd} (h : AR σ tp sl p out cnt) : AR (s_F σ 0 26 (nI c')) tp sl p out c' := by
  obtain ⟨h1, h2, h3, h4, h5, h6, h7, h8, h9⟩ := h
  exact ⟨tpR_F (by decide) h1, by rw [s_F_rd, if_neg (by omega)]; exact h2, h3, by rw [s_F_rd, if_neg (by omega)]; exact h4, by rw [s_F_rd, if_neg (by omega)]; exact h5, s_F_at, by rw [s_F_rd, if_neg (by omega)]; exact h7, by rw [s_F_rd, if_neg (by omega)]; exact h8, h9⟩
theorem writeF {sh : List kd} {σ : St} {k v : Int32} (h : ¬ σ.1 1 3 = 0) : fX8_write sh σ k v = some ((), σ) := by
  unfold fX8_write fX8_write_J50
  rw [if_pos h]
theorem entryF {sh : List kd} {σ : St} {k v : Int32} (h : ¬ σ.1 0 21 = 0) : fX12_entry sh σ k v = some ((), σ) := by
  unfold fX12_entry fX12_entry_J55
  rw [if_pos h]
theorem writeC {sh : List kd} {σ : St} {tp : List Nat} {p cnt k : Nat} {out : Cd} {v : Int32} (h : AC σ tp p out cnt) (hl : out.length < 300) : ∃ τ, fX8_write sh σ (nI k) v = some ((), τ) ∧ AC τ tp p (out ++ [(k, v)]) cnt ∧ fmC σ τ := by
  obtain ⟨h1, h2, h3, h4, h5, h6, h7⟩ := h
  have hok : i_ok (nI out.length) 400 := ok_nI (by omega) (by omega)
  have hcl : (nI out.length).toNatClampNeg = out.length := nI_clamp (by omega)
  refine ⟨s_F (s_A (s_A σ 11 out.length (nI k)) 12 out.length v) 10 5 (nI (out.length + 1)), ?_, ⟨⟨h1.1, ?_, ?_⟩, ?_, h3, ?_, ?_, ?_, ?_⟩, ?_⟩
  · unfold fX8_write fX8_write_J50
    rw [h2, if_neg (not_not_intro rfl), h5, if_neg (by rw [show (400 : Int32) = nI 400 from by decide]; exact nI_ge (by omega) (by omega)), if_pos hok]
    simp only [s_A_F, h5, if_pos hok, hcl, jp, nI_1]
  · rw [s_F_rd, if_neg (by omega)]; exact h1.2.1
  · rw [s_F_A, s_A_ne (by decide), s_A_ne (by decide)]; exact h1.2.2
  · rw [s_F_rd, if_neg (by omega)]; exact h2
  · rw [s_F_rd, if_neg (by omega)]; exact h4
  · rw [s_F_at, List.length_append]; rfl
  · rw [s_F_rd, if_neg (by omega)]; exact h6
  · rw [s_F_A, s_A_ne (by decide), s_A_up, s_A_up, s_A_ne (by decide)]
    refine (cdA_app _ _ _).mpr ⟨cdA_ext _ _ (fun j _ h2 => ⟨?_, ?_⟩) h7, ⟨?_, ?_⟩, trivial⟩
    · rw [upd_pt, if_neg (by omega)]
    · rw [upd_pt, if_neg (by omega)]
    · rw [upd_pt, if_pos (by omega)]; rfl
    · rw [upd_pt, if_pos (by omega)]
  · refine ⟨fun i j e1 e2 => ?_, fun i e1 e2 => ?_, rfl⟩
    · rw [s_F_rd, if_neg (by omega)]; rfl
    · rw [s_F_A, s_A_ne e2, s_A_ne e1]
theorem entryR {sh : List kd} {σ : St} {tp : List Nat} {sl p cnt k : Nat} {out : Cd} {v x : Int32} (h : AR σ tp sl p out cnt) (hl : out.length < 300) (hsl : sl < 6) (hx : x = nI (om k)) : ∃ τ, fX12_entry sh σ x v = some ((), τ) ∧ AR τ tp sl p (out ++ [(k, v)]) cnt ∧ fmR sl σ τ := by
  subst hx
  obtain ⟨h1, h2, h3, h4, h5, h6, h7, h8, h9⟩ := h
  have hok : i_ok (nI (300 * sl + out.length)) 1800 := ok_nI (by omega) (by omega)
  have hcl : (nI (300 * sl + out.length)).toNatClampNeg = 300 * sl + out.length := nI_clamp (by omega)
  refine ⟨s_F (s_A (s_A σ 20 (300 * sl + out.length) (nI (om k))) 21 (300 * sl + out.length) v) 0 24 (nI (out.length + 1)), ?_, ⟨⟨h1.1, ?_, ?_⟩, ?_, h3, ?_, ?_, ?_, ?_, ?_, ?_⟩, ?_⟩
  · unfold fX12_entry fX12_entry_J55
    rw [h2, if_neg (not_not_intro rfl)]
    simp only [s_A_F, h5, h7, i300 sl hsl, nI_add, if_pos hok, hcl, jp, nI_1]
  · rw [s_F_rd, if_neg (by omega)]; exact h1.2.1
  · rw [s_F_A, s_A_ne (by decide), s_A_ne (by decide)]; exact h1.2.2
  · rw [s_F_rd, if_neg (by omega)]; exact h2
  · rw [s_F_rd, if_neg (by omega)]; exact h4
  · rw [s_F_at, List.length_append]; rfl
  · rw [s_F_rd, if_neg (by omega)]; exact h6
  · rw [s_F_rd, if_neg (by omega)]; exact h7
  · rw [s_F_rd, if_neg (by omega)]; exact h8
  · rw [s_F_A, s_A_ne (by decide), s_A_up, s_A_up, s_A_ne (by decide)]
    refine (cdA_app _ _ _).mpr ⟨cdA_ext _ _ (fun j _ h2 => ⟨?_, ?_⟩) h9, ⟨?_, ?_⟩, trivial⟩
    · rw [upd_pt, if_neg (by omega)]
    · rw [upd_pt, if_neg (by omega)]
    · rw [upd_pt, if_pos (by omega)]
    · rw [upd_pt, if_pos (by omega)]
  · refine ⟨fun i j e1 => ?_, fun i e1 e2 => ?_, fun j hj => ⟨?_, ?_⟩, rfl⟩
    · rw [s_F_rd, if_neg (by omega)]; rfl
    · rw [s_F_A, s_A_ne e2, s_A_ne e1]
    · rw [s_F_A, s_A_ne (by decide), s_A_up, upd_pt, if_neg (by omega)]
    · rw [s_F_A, s_A_up, upd_pt, if_neg (by omega), s_A_ne (by decide)]
def cd3 (cnt : Nat) : Option Nat := if cnt < 60 then none else some 3
theorem countC {sh : List kd} {σ : St} {s cnt : Nat} {x : Int32} (hc : σ.1 10 7 = nI cnt) (hx : x = nI s) (hcn : cnt < 1000) : fX8_countPart sh σ x = some ((), s_F (s_F σ 1 3 (flt (σ.1 1 3) s (cd3 cnt))) 10 7 (nI (cnt + 1))) := by
  unfold fX8_countPart fX8_countPart_J18 cd3
  rw [hc, show (60 : Int32) = nI 60 from by decide]
  by_cases h : cnt < 60
  · rw [if_pos (nI_lt h (by omega)), if_pos h, nI_1]
    show _ = some ((), s_F (s_F σ 1 3 (σ.1 1 3)) 10 7 (nI (cnt + 1)))
    rw [s_F_self rfl]
  · rw [if_neg (nI_nlt (by omega) (by omega)), if_neg h, refuseC hx (show (3 : Int32) = nI 3 from by decide), bd_some, s_F_rd, if_neg (by omega), hc, nI_1]
theorem countR {sh : List kd} {σ : St} {s cnt : Nat} {x : Int32} (hc : σ.1 0 26 = nI cnt) (hx : x = nI s) (hcn : cnt ≤ 60) : fX12_isCounted sh σ x = some ((), s_F (s_F σ 0 21 (flt (σ.1 0 21) s (cd3 cnt))) 0 26 (nI (cnt + 1))) := by
  unfold fX12_isCounted fX12_isCounted_J15 cd3
  rw [hc, show (60 : Int32) = nI 60 from by decide]
  by_cases h : cnt < 60
  · rw [if_pos (nI_ne (by omega) (by omega) (by omega)), if_pos h, nI_1]
    show _ = some ((), s_F (s_F σ 0 21 (σ.1 0 21)) 0 26 (nI (cnt + 1)))
    rw [s_F_self rfl]
  · have : cnt = 60 := by omega
    subst this
    rw [if_neg (not_not_intro rfl), if_neg h, failsR hx (show (3 : Int32) = nI 3 from by decide), bd_some, s_F_rd, if_neg (by omega), hc, nI_1]
theorem cd3_le {cnt : Nat} : ∀ d, cd3 cnt = some d → d ≤ 4 := by
  intro d h
  unfold cd3 at h
  split at h
  · cases h
  · cases h; omega
theorem f0 : fOK 0 := ⟨0, by omega, nz0.symm⟩
