/-! ===== stripped ===== -/
def bt (x : Int32) (k : Nat) : Prop := x.toBitVec.getLsbD k = true
theorem bt_0 {x : Int32} {k : Nat} (hk : k < 32) : ((x >>> (nI k &&& 31)) &&& 1) = 0 ↔ ¬ bt x k := by
  rw [bit_0 hk]
  unfold bt
  cases x.toBitVec.getLsbD k <;> simp
theorem bt_or {x y : Int32} {k : Nat} : bt (x ||| y) k ↔ bt x k ∨ bt y k := by
  unfold bt
  rw [Int32.toBitVec_or, BitVec.getLsbD_or, Bool.or_eq_true]
theorem bt_lt {x : Int32} {k : Nat} (h : bt x k) : k < 32 := by
  by_cases hk : k < 32
  · exact hk
  · unfold bt at h
    rw [BitVec.getLsbD_of_ge _ _ (by omega)] at h
    cases h
theorem and_0 {x y : Int32} : x &&& y = 0 ↔ ∀ k, ¬ (bt x k ∧ bt y k) := by
  constructor
  · intro h k hk
    have e : (x &&& y).toBitVec.getLsbD k = true := by
      rw [Int32.toBitVec_and, BitVec.getLsbD_and, hk.1, hk.2]
      rfl
    rw [h] at e
    simp at e
  · intro h
    apply Int32.toBitVec_inj.mp
    apply BitVec.eq_of_getLsbD_eq
    intro i hi
    rw [Int32.toBitVec_and, BitVec.getLsbD_and]
    have := h i
    unfold bt at this
    cases h1 : x.toBitVec.getLsbD i
    · simp
    · cases h2 : y.toBitVec.getLsbD i
      · simp
      · exact absurd ⟨h1, h2⟩ this
theorem bt_zero {k : Nat} : ¬ bt 0 k := by
  unfold bt
  simp
/-- the set leaves a quarrel -/
def badC (R : Rl) (lf : Lf) (set : Int32) : Prop := ∃ t, t < R.1.2.2.1 ∧ ∃ a, a < R.1.2.2.2 ∧ ¬ bt set a ∧ bt (lf.2.2.1 a) t ∧ ∃ u b, b < R.1.2.2.2 ∧ ¬ bt set b ∧ bt (lf.2.2.1 b) u ∧ bt (R.2.2.1 t) u
def badR (R : Rl) (lf : Lf) (set : Int32) : Prop := ∃ a, a < R.1.2.2.2 ∧ ∃ b, a ≤ b ∧ b < R.1.2.2.2 ∧ ¬ bt set a ∧ ¬ bt set b ∧ ∃ t, t < R.1.2.2.1 ∧ bt (lf.2.2.1 a) t ∧ ∃ u, bt (R.2.2.1 t) u ∧ bt (lf.2.2.1 b) u
theorem bad_iff {R : Rl} {lf : Lf} {set : Int32} (hK : wfK R) : badC R lf set ↔ badR R lf set := by
  constructor
  · rintro ⟨t, h1, a, h2, h3, h4, u, b, h5, h6, h7, h8⟩
    by_cases hab : a ≤ b
    · exact ⟨a, h2, b, hab, h5, h3, h6, t, h1, h4, u, h8, h7⟩
    · obtain ⟨k1, k2⟩ := hK.2 t h1 u h8
      exact ⟨b, h5, a, by omega, h2, h6, h3, u, k1, h7, t, k2, h4⟩
  · rintro ⟨a, h1, b, h2, h3, h4, h5, t, h6, h7, u, h8, h9⟩
    exact ⟨t, h6, a, h1, h4, h7, u, b, h3, h5, h9, h8⟩
noncomputable def pcV (R : Rl) (lf : Lf) (set : Int32) : Int32 := @ite _ (badR R lf set) (Classical.propDecidable _) 0 1
theorem pcV_t {R : Rl} {lf : Lf} {set : Int32} (h : badR R lf set) : pcV R lf set = 0 := @if_pos _ (Classical.propDecidable _) h _ _ _
theorem pcV_f {R : Rl} {lf : Lf} {set : Int32} (h : ¬ badR R lf set) : pcV R lf set = 1 := @if_neg _ (Classical.propDecidable _) h _ _ _
theorem peaceC {sh : List kd} {σ : St} {R : Rl} {lf : Lf} {set : Int32} (hR : wfR R) (hK : wfK R) (hr : isRC σ 20 R) (hl : LfC σ 26 = lf) : fX2_isPeaceWithout sh σ 19 set = some (pcV R lf set, σ) := by
  have hP := hR.2.2.1
  have hT := hR.2.1
  have hti := (LfC_of hl).2.2.2.2.2.1
  have hP4 : σ.1 (19 + 1) 4 = nI R.1.2.2.2 := hr.2.2.2.2.1
  have hT3 : σ.1 (19 + 1) 3 = nI R.1.2.2.1 := hr.2.2.2.1
  unfold fX2_isPeaceWithout
  have hF : 6 < i_F := i_F_gt (by omega)
  have h1 : ∃ U, fX2_isPeaceWithout_L4 sh 19 set σ (fun (x53 : Int32) (x54 : Int32) => fX2_isPeaceWithout_X41 sh 19 set σ x53 x54) i_F 0 0 = fX2_isPeaceWithout_X41 sh 19 set σ U (nI R.1.2.2.2) ∧ ∀ u, bt U u ↔ ∃ p, p < R.1.2.2.2 ∧ ¬ bt set p ∧ bt (lf.2.2.1 p) u := by
    generalize i_F = F at hF ⊢
    rw [← nz0]
    refine lpI (L := fun N k (x : Int32) => fX2_isPeaceWithout_L4 sh 19 set σ (fun (x53 : Int32) (x54 : Int32) => fX2_isPeaceWithout_X41 sh 19 set σ x53 x54) N x (nI k)) (E := fun r => ∃ U, r = fX2_isPeaceWithout_X41 sh 19 set σ U (nI R.1.2.2.2) ∧ ∀ u, bt U u ↔ ∃ p, p < R.1.2.2.2 ∧ ¬ bt set p ∧ bt (lf.2.2.1 p) u) (fun k x => ∀ u, bt x u ↔ ∃ p, p < k ∧ ¬ bt set p ∧ bt (lf.2.2.1 p) u) R.1.2.2.2 (fun N k x hk hI => Or.inl ?_) (fun N x hI => ?_) R.1.2.2.2 F 0 (nI 0) (by omega) (by omega) (fun u => ⟨fun h => absurd (by rw [nI_0] at h; exact h) bt_zero, fun ⟨p, h, _⟩ => by omega⟩)
    · rw [fX2_isPeaceWithout_L4, hP4, if_neg (nI_ge hk (by omega))]
      unfold fX2_isPeaceWithout_J35
      rw [nI_1]
      by_cases hb : ((set >>> (nI k &&& 31)) &&& 1) = 0
      · rw [if_neg (not_not_intro hb), if_pos (ok_nI (by omega) (by omega)), nI_clamp (by omega), show σ.2.1 (19 + 7 + 2) k = lf.2.2.1 k from hti k (by omega)]
        have hb' := (bt_0 (by omega)).mp hb
        refine ⟨_, rfl, fun u => ?_⟩
        rw [bt_or, hI u]
        constructor
        · rintro (⟨p, p1, p2⟩ | h)
          · exact ⟨p, by omega, p2⟩
          · exact ⟨k, by omega, hb', h⟩
        · rintro ⟨p, p1, p2, p3⟩
          by_cases hpk : p = k
          · subst hpk; exact Or.inr p3
          · exact Or.inl ⟨p, by omega, p2, p3⟩
      · rw [if_pos hb]
        have hb' : bt set k := Classical.byContradiction fun e => hb ((bt_0 (by omega)).mpr e)
        refine ⟨x, rfl, fun u => ?_⟩
        rw [hI u]
        constructor
        · rintro ⟨p, p1, p2⟩
          exact ⟨p, by omega, p2⟩
        · rintro ⟨p, p1, p2, p3⟩
          by_cases hpk : p = k
          · subst hpk; exact absurd hb' p2
          · exact ⟨p, by omega, p2, p3⟩
    · rw [fX2_isPeaceWithout_L4, hP4, if_pos (nI_le (Nat.le_refl _) (by omega))]
      exact ⟨x, rfl, hI⟩
  obtain ⟨U, u1, u2⟩ := h1
  rw [u1]
  unfold fX2_isPeaceWithout_X41
  generalize i_F = F at hF ⊢
  rw [← nz0]
  refine lpI (L := fun N k (_ : Unit) => fX2_isPeaceWithout_L43 sh 19 set σ U N (nI k)) (E := fun r => r = some (pcV R lf set, σ)) (fun k _ => ∀ t, t < k → ¬ (bt U t ∧ ∃ u, bt U u ∧ bt (R.2.2.1 t) u)) R.1.2.2.1 (fun N k _ hk hI => ?_) (fun N _ hI => ?_) R.1.2.2.1 F 0 () (by omega) (by omega) (fun t ht => by omega)
  · have hq : σ.2.1 (19 + 1 + 2) k = R.2.2.1 k := hr.2.2.2.2.2.2.1 k hk
    have next : ¬ (bt U k ∧ ∃ u, bt U u ∧ bt (R.2.2.1 k) u) → ∀ t, t < k + 1 → ¬ (bt U t ∧ ∃ u, bt U u ∧ bt (R.2.2.1 t) u) := by
      intro h t ht
      by_cases htk : t = k
      · subst htk; exact h
      · exact hI t (by omega)
    rw [fX2_isPeaceWithout_L43, hT3, if_neg (nI_ge hk (by omega)), nI_1]
    by_cases hb : ((U >>> (nI k &&& 31)) &&& 1) = 0
    · rw [if_pos hb]
      have hb' := (bt_0 (by omega)).mp hb
      exact Or.inl ⟨(), rfl, next (fun e => hb' e.1)⟩
    · rw [if_neg hb, if_pos (ok_nI (by omega) (by omega)), nI_clamp (by omega), hq]
      have hb' : bt U k := Classical.byContradiction fun e => hb ((bt_0 (by omega)).mpr e)
      by_cases ha : U &&& R.2.2.1 k = 0
      · rw [if_pos ha]
        refine Or.inl ⟨(), rfl, next (fun e => ?_)⟩
        obtain ⟨_, u, e1, e2⟩ := e
        exact and_0.mp ha u ⟨e1, e2⟩
      · rw [if_neg ha]
        right
        have hbad : badC R lf set := by
          have : ∃ u, bt U u ∧ bt (R.2.2.1 k) u := Classical.byContradiction fun e => ha (and_0.mpr (fun u hu => e ⟨u, hu⟩))
          obtain ⟨u, e1, e2⟩ := this
          obtain ⟨a, a1, a2, a3⟩ := (u2 k).mp hb'
          obtain ⟨b, b1, b2, b3⟩ := (u2 u).mp e1
          exact ⟨k, hk, a, a1, a2, a3, u, b, b1, b2, b3, e2⟩
        rw [pcV_t ((bad_iff hK).mp hbad)]
  · rw [fX2_isPeaceWithout_L43, hT3, if_pos (nI_le (Nat.le_refl _) (by omega)), pcV_f]
    intro hb
    obtain ⟨t, h1, a, h2, h3, h4, u, b, h5, h6, h7, h8⟩ := (bad_iff hK).mpr hb
    exact hI t h1 ⟨(u2 t).mpr ⟨a, h2, h3, h4⟩, u, (u2 u).mpr ⟨b, h5, h6, h7⟩, h8⟩
def qrl (R : Rl) (lf : Lf) (a b : Nat) : Prop := ∃ t, t < R.1.2.2.1 ∧ bt (lf.2.2.1 a) t ∧ ∃ u, bt (R.2.2.1 t) u ∧ bt (lf.2.2.1 b) u
theorem quarR {sh : List kd} {σ : St} {R : Rl} {lf : Lf} {a b : Nat} (hR : wfR R) (hr : isRR σ R) (hl : LfR σ = lf) (ha : a < 6) (hb : b < 6) : (qrl R lf a b ∧ fX12_quarrel sh σ (nI a) (nI b) = some (1, σ)) ∨ (¬ qrl R lf a b ∧ fX12_quarrel sh σ (nI a) (nI b) = some (0, σ)) := by
  have hT := hR.2.1
  have hti := (LfR_of hl).2.2.2.2.2.1
  have hT2 := hr.2.2.1
  unfold fX12_quarrel
  have hF : 6 < i_F := i_F_gt (by omega)
  generalize i_F = F at hF ⊢
  rw [← nz0]
  refine lpI (L := fun N k (_ : Unit) => fX12_quarrel_L2 sh (nI a) (nI b) N (nI k) σ) (E := fun r => (qrl R lf a b ∧ r = some (1, σ)) ∨ (¬ qrl R lf a b ∧ r = some (nI 0, σ))) (fun k _ => ∀ t, t < k → ¬ (bt (lf.2.2.1 a) t ∧ ∃ u, bt (R.2.2.1 t) u ∧ bt (lf.2.2.1 b) u)) R.1.2.2.1 (fun N k _ hk hI => ?_) (fun N _ hI => ?_) R.1.2.2.1 F 0 () (by omega) (by omega) (fun t ht => by omega)
  · have hq : σ.2.1 3 k = R.2.2.1 k := hr.2.2.2.2.2.1 k hk
    have next : ¬ (bt (lf.2.2.1 a) k ∧ ∃ u, bt (R.2.2.1 k) u ∧ bt (lf.2.2.1 b) u) → ∀ t, t < k + 1 → ¬ (bt (lf.2.2.1 a) t ∧ ∃ u, bt (R.2.2.1 t) u ∧ bt (lf.2.2.1 b) u) := by
      intro h t ht
      by_cases htk : t = k
      · subst htk; exact h
      · exact hI t (by omega)
    rw [fX12_quarrel_L2, if_pos o_2, c_2, hT2, if_neg (nI_ge hk (by omega)), if_pos (ok_nI ha (by omega)), nI_clamp (show a < 2 ^ 31 by omega), hti a ha, hasR, bd_some, nI_1]
    by_cases hbt : ((lf.2.2.1 a >>> (nI k &&& 31)) &&& 1) = 0
    · rw [if_pos hbt, if_pos rfl]
      have hb' := (bt_0 (by omega)).mp hbt
      exact Or.inl ⟨(), rfl, next (fun e => hb' e.1)⟩
    · rw [if_neg hbt, if_neg n10, if_pos (ok_nI (by omega) (by omega)), if_pos (ok_nI hb (by omega)), nI_clamp (by omega), nI_clamp (by omega), hq, hti b hb]
      have hb' : bt (lf.2.2.1 a) k := Classical.byContradiction fun e => hbt ((bt_0 (by omega)).mpr e)
      by_cases ha0 : R.2.2.1 k &&& lf.2.2.1 b = 0
      · rw [if_pos ha0]
        refine Or.inl ⟨(), rfl, next (fun e => ?_)⟩
        obtain ⟨_, u, e1, e2⟩ := e
        exact and_0.mp ha0 u ⟨e1, e2⟩
      · rw [if_neg ha0]
        refine Or.inr (Or.inl ⟨⟨k, hk, hb', ?_⟩, rfl⟩)
        exact Classical.byContradiction fun e => ha0 (and_0.mpr (fun u hu => e ⟨u, hu⟩))
  · right
    refine ⟨fun e => ?_, ?_⟩
    · obtain ⟨t, e1, e2⟩ := e
      exact hI t e1 e2
    · rw [fX12_quarrel_L2, if_pos o_2, c_2, hT2, if_pos (nI_le (Nat.le_refl _) (by omega)), nI_0]
theorem peaceR {sh : List kd} {σ : St} {R : Rl} {lf : Lf} {set : Int32} (hR : wfR R) (hr : isRR σ R) (hl : LfR σ = lf) : fX12_isPeace sh σ set = some (pcV R lf set, σ) := by
  have hP := hR.2.2.1
  have hP3 := hr.2.2.2.1
  unfold fX12_isPeace
  have hF : 6 < i_F := i_F_gt (by omega)
  have hin : ∀ (a : Nat) (K : Int32 → St → Option (Int32 × St)), a < R.1.2.2.2 → (badR R lf set ∧ fX12_isPeace_L14 sh set (nI a) K i_F (nI a) σ = some (0, σ)) ∨ ((∀ b, a ≤ b → b < R.1.2.2.2 → ¬ bt set a → ¬ bt set b → ¬ qrl R lf a b) ∧ fX12_isPeace_L14 sh set (nI a) K i_F (nI a) σ = K (nI R.1.2.2.2) σ) := by
    intro a K ha
    generalize i_F = F at hF ⊢
    refine lpI (L := fun N k (_ : Unit) => fX12_isPeace_L14 sh set (nI a) K N (nI k) σ) (E := fun r => (badR R lf set ∧ r = some (0, σ)) ∨ ((∀ b, a ≤ b → b < R.1.2.2.2 → ¬ bt set a → ¬ bt set b → ¬ qrl R lf a b) ∧ r = K (nI R.1.2.2.2) σ)) (fun k _ => a ≤ k ∧ ∀ b, a ≤ b → b < k → ¬ bt set a → ¬ bt set b → ¬ qrl R lf a b) R.1.2.2.2 (fun N k _ hk hI => ?_) (fun N _ hI => ?_) (R.1.2.2.2 - a) F a () (by omega) (by omega) ⟨Nat.le_refl _, fun b h1 h2 => by omega⟩
    · obtain ⟨hak, hI⟩ := hI
      have next : (¬ bt set a → ¬ bt set k → ¬ qrl R lf a k) → a ≤ k + 1 ∧ ∀ b, a ≤ b → b < k + 1 → ¬ bt set a → ¬ bt set b → ¬ qrl R lf a b := by
        intro h
        refine ⟨by omega, fun b h1 h2 => ?_⟩
        by_cases hbk : b = k
        · subst hbk; exact h
        · exact hI b h1 (by omega)
      rw [fX12_isPeace_L14, if_pos o_3, c_3, hP3, if_neg (nI_ge hk (by omega)), hasR, bd_some, hasR, bd_some, nI_1]
      by_cases hba : ((set >>> (nI a &&& 31)) &&& 1) = 0
      · have hba' := (bt_0 (by omega)).mp hba
        rw [if_pos hba, if_neg nn00]
        by_cases hbk : ((set >>> (nI k &&& 31)) &&& 1) = 0
        · have hbk' := (bt_0 (by omega)).mp hbk
          rw [if_pos hbk, if_neg nn00]
          rcases quarR (sh := sh) hR hr hl (show a < 6 by omega) (show k < 6 by omega) with ⟨q1, q2⟩ | ⟨q1, q2⟩
          · rw [q2, bd_some, if_neg n10]
            exact Or.inr (Or.inl ⟨⟨a, ha, k, hak, hk, hba', hbk', q1⟩, rfl⟩)
          · rw [q2, bd_some, if_pos rfl]
            exact Or.inl ⟨(), rfl, next (fun _ _ => q1)⟩
        · have hbk' : bt set k := Classical.byContradiction fun e => hbk ((bt_0 (by omega)).mpr e)
          rw [if_neg hbk, if_pos n10]
          exact Or.inl ⟨(), rfl, next (fun _ h => absurd hbk' h)⟩
      · have hba' : bt set a := Classical.byContradiction fun e => hba ((bt_0 (by omega)).mpr e)
        rw [if_neg hba, if_pos n10]
        exact Or.inl ⟨(), rfl, next (fun h => absurd hba' h)⟩
    · right
      refine ⟨hI.2, ?_⟩
      rw [fX12_isPeace_L14, if_pos o_3, c_3, hP3, if_pos (nI_le (Nat.le_refl _) (by omega))]
  have hF2 : 6 < i_F := hF
  generalize hFe : i_F = F at hF2 ⊢
  rw [← nz0]
  refine lpI (L := fun N k (v : Value) => fX12_isPeace_L2 sh set N (nI k) v σ) (E := fun r => r = some (pcV R lf set, σ)) (fun k _ => ∀ a, a < k → ∀ b, a ≤ b → b < R.1.2.2.2 → ¬ bt set a → ¬ bt set b → ¬ qrl R lf a b) R.1.2.2.2 (fun N k v hk hI => ?_) (fun N v hI => ?_) R.1.2.2.2 F 0 (.retAddr 0) (by omega) (by omega) (fun a ha => by omega)
  · rw [fX12_isPeace_L2, if_pos o_3, c_3, hP3, if_neg (nI_ge hk (by omega))]
    rcases hin k (fun (x59 : Int32) (s60 : St) => fX12_isPeace_X57 sh set (nI k) (fX12_isPeace_L2 sh set N) x59 s60) hk with ⟨q1, q2⟩ | ⟨q1, q2⟩
    · rw [q2, pcV_t q1]
      exact Or.inr rfl
    · rw [q2]
      unfold fX12_isPeace_X57
      rw [nI_1]
      refine Or.inl ⟨_, rfl, fun a ha => ?_⟩
      by_cases hak : a = k
      · subst hak; exact q1
      · exact hI a (by omega)
  · rw [fX12_isPeace_L2, if_pos o_3, c_3, hP3, if_pos (nI_le (Nat.le_refl _) (by omega)), pcV_f]
    rintro ⟨a, h1, b, h2, h3, h4, h5, h6⟩
    exact hI a h1 b h2 h3 h4 h5 h6
/-! which set -/
theorem it_sp_le {V : Nat → Int32} {A : Nat} : ∀ (m : Nat), spBits (nI (it (gSp V) m 0 A)) ≤ spBits (nI A) := by
  intro m
  induction m with
  | zero => exact Int32.le_refl _
  | succ m ih =>
    rw [it_succ]
    generalize it (gSp V) m 0 A = b at ih
    unfold gSp
    split
    · exact ih
    · next hc =>
      split
      · exact ih
      · have h1 := Int32.le_iff_toInt_le.mp ih
        have h2 : ¬ (spBits (nI b)).toInt ≤ (spBits (nI m)).toInt := fun e => hc (Int32.le_iff_toInt_le.mpr e)
        exact Int32.le_iff_toInt_le.mpr (by omega)
theorem strC {sh : List kd} {σ : St} {R : Rl} {lf : Lf} (hR : wfR R) (hK : wfK R) (hr : isRC σ 20 R) (hl : LfC σ 26 = lf) :
    ∃ b, b = it (gSp (fun k => pcV R lf (nI k))) (2 ^ R.1.2.2.2 - 1) 0 (2 ^ R.1.2.2.2 - 1) ∧ b < 256 ∧ fX2_fewestToStrip sh σ 19 = some (nI b, σ) := by
  unfold fX2_fewestToStrip
  have hP4 : σ.1 (19 + 1) 4 = nI R.1.2.2.2 := hr.2.2.2.2.1
  obtain ⟨e1, e2, e3, e4⟩ := shl8 R.1.2.2.2 (by have := hR.2.2.1; omega)
  rw [hP4, e2]
  have hF : 256 < i_F := i_F_gt (by omega)
  generalize i_F = F at hF ⊢
  rw [← nz0]
  have hM : 2 ^ R.1.2.2.2 - 1 < 256 := by omega
  generalize 2 ^ R.1.2.2.2 - 1 = M at e2 hM ⊢
  refine lpI (L := fun N k (a : Nat) => fX2_fewestToStrip_L16 sh 19 σ N (nI a) (nI k) σ) (E := fun r => ∃ b, b = it (gSp (fun k => pcV R lf (nI k))) M 0 M ∧ b < 256 ∧ r = some (nI b, σ)) (fun k a => a < 256 ∧ a = it (gSp (fun k => pcV R lf (nI k))) k 0 M) M (fun N k b hk hI => Or.inl ?_) (fun N b hI => ?_) M F 0 M (by omega) (by omega) ⟨by omega, rfl⟩
  · obtain ⟨i1, i2⟩ := hI
    have e : it (gSp (fun k => pcV R lf (nI k))) (k + 1) 0 M = gSp (fun k => pcV R lf (nI k)) k b := by rw [it_succ, ← i2]
    rw [fX2_fewestToStrip_L16, hP4, e2, if_neg (nI_ge hk (by omega)), bcC, bd_some, bcC, bd_some, bc_bits k (by omega), bc_bits b i1]
    unfold fX2_fewestToStrip_J42
    rw [nI_1]
    by_cases hc : spBits (nI b) ≤ spBits (nI k)
    · rw [if_pos hc]
      refine ⟨b, rfl, i1, ?_⟩
      rw [e]
      unfold gSp
      rw [if_pos hc]
    · rw [if_neg hc, peaceC hR hK hr hl, bd_some]
      by_cases hv : pcV R lf (nI k) = 0
      · rw [if_pos hv]
        refine ⟨b, rfl, i1, ?_⟩
        rw [e]
        unfold gSp
        rw [if_neg hc, if_pos hv]
      · rw [if_neg hv]
        refine ⟨k, rfl, by omega, ?_⟩
        rw [e]
        unfold gSp
        rw [if_neg hc, if_neg hv]
  · obtain ⟨i1, i2⟩ := hI
    refine ⟨b, i2, i1, ?_⟩
    rw [fX2_fewestToStrip_L16, hP4, e2, if_pos (nI_le (Nat.le_refl _) (by omega))]
theorem strR {sh : List kd} {σ : St} {R : Rl} {lf : Lf} {w : Int32} (hR : wfR R) (hr : isRR σ R) (hl : LfR σ = lf) :
    fX12_stripped_L32 sh w (fun (x63 : Int32) (x64 : Int32) (s65 : St) => fX12_stripped_X71 sh w x63 x64 s65) i_F (nI (2 ^ R.1.2.2.2 - 1)) 0 σ = fX12_stripped_X71 sh w (nI (it (gSp (fun k => pcV R lf (nI k))) (2 ^ R.1.2.2.2 - 1) 0 (2 ^ R.1.2.2.2 - 1))) (nI (2 ^ R.1.2.2.2)) σ := by
  have hP3 := hr.2.2.2.1
  obtain ⟨e1, e2, e3, e4⟩ := shl8 R.1.2.2.2 (by have := hR.2.2.1; omega)
  have hF : 256 < i_F := i_F_gt (by omega)
  generalize i_F = F at hF ⊢
  rw [← nz0]
  generalize 2 ^ R.1.2.2.2 = M at e1 e2 e3 e4 ⊢
  have hlast : it (gSp (fun k => pcV R lf (nI k))) (M - 1) 0 (M - 1) = it (gSp (fun k => pcV R lf (nI k))) M 0 (M - 1) := by
    obtain ⟨m, rfl⟩ : ∃ m, M = m + 1 := ⟨M - 1, by omega⟩
    rw [Nat.add_sub_cancel, it_succ]
    have := it_sp_le (V := fun k => pcV R lf (nI k)) (A := m) m
    generalize it (gSp (fun k => pcV R lf (nI k))) m 0 m = b at this
    unfold gSp
    rw [if_pos this]
  rw [hlast]
  refine lpI (L := fun N k (a : Nat) => fX12_stripped_L32 sh w (fun (x63 : Int32) (x64 : Int32) (s65 : St) => fX12_stripped_X71 sh w x63 x64 s65) N (nI a) (nI k) σ) (E := fun r => r = fX12_stripped_X71 sh w (nI (it (gSp (fun k => pcV R lf (nI k))) M 0 (M - 1))) (nI M) σ) (fun k a => a = it (gSp (fun k => pcV R lf (nI k))) k 0 (M - 1)) M (fun N k b hk hI => Or.inl ?_) (fun N b hI => ?_) M F 0 (M - 1) (by omega) (by omega) rfl
  · have e : it (gSp (fun k => pcV R lf (nI k))) (k + 1) 0 (M - 1) = gSp (fun k => pcV R lf (nI k)) k b := by rw [it_succ, ← hI]
    rw [fX12_stripped_L32, if_pos o_3, c_3, hP3, e1, if_neg (nI_ge hk (by omega)), bitsR, bd_some, bitsR, bd_some]
    unfold fX12_stripped_J65
    rw [nI_1]
    by_cases hc : spBits (nI b) ≤ spBits (nI k)
    · rw [if_pos hc]
      refine ⟨b, rfl, ?_⟩
      rw [e]
      unfold gSp
      rw [if_pos hc]
    · rw [if_neg hc, peaceR hR hr hl, bd_some]
      by_cases hv : pcV R lf (nI k) = 0
      · rw [if_pos hv]
        refine ⟨b, rfl, ?_⟩
        rw [e]
        unfold gSp
        rw [if_neg hc, if_pos hv]
      · rw [if_neg hv]
        refine ⟨k, rfl, ?_⟩
        rw [e]
        unfold gSp
        rw [if_neg hc, if_neg hv]
  · rw [fX12_stripped_L32, if_pos o_3, c_3, hP3, e1, if_pos (nI_le (Nat.le_refl _) (by omega)), hI]
theorem q_stripped {sh shR : List kd} {σC σR : St} {R : Rl} {ru : Option Cl} {lf : Lf} (h : QX sh shR σC σR R ru lf) (hK : wfK R) (w : Int32) : alikeQ (fX11_stripped sh σC w) (fX12_stripped shR σR w) σC σR := by
  have hC := h.2.2.2.1
  have hRR := h.2.2.2.2.1
  obtain ⟨lt1, lt2, lt3⟩ := wfR_lt h.2.2.1
  unfold fX11_stripped fX12_stripped
  by_cases hD : R.1.1 = 0
  · rw [if_pos (told_f hC hD), isCt_f (by rw [hRR.1, hD]), bd_some, if_pos rfl]
    exact alike_now
  have hD' : 0 < R.1.1 := by omega
  rw [if_neg (told_t hC hD'), isCt_t lt1 hRR.1 hD', bd_some, if_neg n10]
  by_cases hw : btw w 0 1
  · obtain ⟨e1, e2, e3, e4⟩ := shl8 R.1.2.2.2 (by have := h.2.2.1.2.2.1; omega)
    obtain ⟨b, a0, a1, a2⟩ := strC (sh := sh) h.2.2.1 hK hC h.2.2.2.2.2.1
    rw [within_t (a := 0) (b := 1) (by decide) (by decide) (by decide) (by decide) hw, bd_some, if_pos n10, in_t (a := 0) (b := 1) (by decide) (by decide) (by decide) (by decide) hw, bd_some, if_pos n10, if_pos o_3, c_3, hRR.2.2.2.1, e2, strR h.2.2.1 hRR h.2.2.2.2.2.2.1, a2, bd_some, ← a0]
    unfold fX11_stripped_J44 fX12_stripped_X71 fX12_stripped_J83
    rw [bcC, bd_some, bitsR, bd_some, bc_bits b a1]
    by_cases w0 : w = 0
    · rw [if_neg (not_not_intro w0), if_neg (not_not_intro w0)]
      exact alike_now
    · rw [if_pos w0, if_pos w0]
      exact alike_now
  · rw [within_f (a := 0) (b := 1) (by decide) (by decide) (by decide) (by decide) hw, bd_some, if_neg nn00, in_f (a := 0) (b := 1) (by decide) (by decide) (by decide) (by decide) hw, bd_some, if_neg nn00]
    exact alike_now
