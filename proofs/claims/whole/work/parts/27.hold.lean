/-! ===== a COURT as told: (day, owed, things, people), rank, quarrels, in hand, thanks, serves ===== -/
abbrev Rl : Type := (Nat × Int32 × Nat × Nat) × (Nat → Int32) × (Nat → Int32) × (Nat → Int32) × (Nat → Int32) × (Nat → Int32)
def isRC (σ : St) (r : Nat) (R : Rl) : Prop :=
  σ.1 r 0 = (if R.1.1 = 0 then 0 else 1) ∧ σ.1 r 1 = nI R.1.1 ∧ σ.1 r 2 = R.1.2.1 ∧ σ.1 r 3 = nI R.1.2.2.1 ∧ σ.1 r 4 = nI R.1.2.2.2 ∧
  (∀ j, j < R.1.2.2.1 → σ.2.1 (r + 1) j = R.2.1 j) ∧ (∀ j, j < R.1.2.2.1 → σ.2.1 (r + 2) j = R.2.2.1 j) ∧ (∀ j, j < 12 → σ.2.1 (r + 3) j = R.2.2.2.1 j) ∧ (∀ j, j < 6 → σ.2.1 (r + 4) j = R.2.2.2.2.1 j) ∧ (∀ j, j < R.1.2.2.2 → σ.2.1 (r + 5) j = R.2.2.2.2.2 j)
def isRR (σ : St) (R : Rl) : Prop :=
  σ.2.1 1 0 = nI R.1.1 ∧ σ.2.1 1 1 = R.1.2.1 ∧ σ.2.1 1 2 = nI R.1.2.2.1 ∧ σ.2.1 1 3 = nI R.1.2.2.2 ∧
  (∀ j, j < R.1.2.2.1 → σ.2.1 2 j = R.2.1 j) ∧ (∀ j, j < R.1.2.2.1 → σ.2.1 3 j = R.2.2.1 j) ∧ (∀ j, j < 12 → σ.2.1 5 j = R.2.2.2.1 j) ∧ (∀ j, j < 6 → σ.2.1 12 j = R.2.2.2.2.1 j) ∧ (∀ j, j < R.1.2.2.2 → σ.2.1 7 j = R.2.2.2.2.2 j)
/-- nothing, or one of T THINGS -/
def isH (T : Nat) (x : Int32) : Prop := x = -1 ∨ ∃ t, t < T ∧ x = nI t
def wfR (R : Rl) : Prop := R.1.1 ≤ 12 ∧ R.1.2.2.1 ≤ 6 ∧ R.1.2.2.2 ≤ 6 ∧ (R.1.1 = 0 → R.1.2.2.1 = 0 ∧ R.1.2.2.2 = 0) ∧ (0 < R.1.1 → ∀ j, j < 12 → isH R.1.2.2.1 (R.2.2.2.1 j))
/-- a COURT that is being read: its clocks already so -/
def wfRs (R : Rl) : Prop := R.1.1 ≤ 12 ∧ R.1.2.2.1 ≤ 6 ∧ R.1.2.2.2 ≤ 6 ∧ (R.1.1 = 0 → R.1.2.2.1 = 0 ∧ R.1.2.2.2 = 0) ∧ ∀ j, j < 12 → isH R.1.2.2.1 (R.2.2.2.1 j)
theorem wfRs_R {R : Rl} (h : wfRs R) : wfR R := ⟨h.1, h.2.1, h.2.2.1, h.2.2.2.1, fun _ => h.2.2.2.2⟩
/-- hour n; last, tray and gloves are such; no TITLES beyond the PEOPLE -/
def wfL (R : Rl) (b : Nat) (lf : Lf) : Prop := (∃ n, n ≤ b ∧ lf.1.1 = nI n) ∧ isH R.1.2.2.1 lf.1.2.1 ∧ isH R.1.2.2.1 lf.1.2.2.1 ∧ (∃ g, g ≤ 9 ∧ lf.1.2.2.2 = nI g) ∧ ∀ j, R.1.2.2.2 ≤ j → lf.2.2.1 j = 0
def spCk (R : Rl) (lf : Lf) : Int32 := lf.1.1 - lf.1.1 / nI R.1.1 * nI R.1.1
theorem nI_mul (a b : Nat) : nI a * nI b = nI (a * b) := (Int32.ofNat_mul a b).symm
theorem nI_sub {a b : Nat} (h : b ≤ a) : nI a - nI b = nI (a - b) := by
  have h2 := nI_add (a - b) b
  rw [Nat.sub_add_cancel h] at h2
  rw [← h2]
  exact Int32.add_sub_cancel _ _
theorem nI_div {a b : Nat} (ha : a < 2 ^ 31) (hb : b < 2 ^ 31) : nI a / nI b = nI (a / b) := by
  apply Int32.toInt_inj.mp
  have h3 : a / b ≤ a := Nat.div_le_self a b
  rw [Int32.toInt_div, nI_toInt ha, nI_toInt hb, nI_toInt (by omega)]
  rw [← Int.ofNat_tdiv]
  generalize a / b = c at h3
  apply Int.bmod_eq_of_le
  · omega
  · omega
theorem nI_mod {a b : Nat} (ha : a < 2 ^ 31) (hb : b < 2 ^ 31) : nI a - nI a / nI b * nI b = nI (a % b) := by
  rw [nI_div ha hb, nI_mul, nI_sub (Nat.div_mul_le_self a b)]
  congr 1
  have := Nat.div_add_mod a b
  have h2 : b * (a / b) = a / b * b := Nat.mul_comm _ _
  omega
theorem ck_ok {R : Rl} {b : Nat} {lf : Lf} (hR : wfR R) (hD : 0 < R.1.1) (hb : b < 2 ^ 31) (hl : wfL R b lf) : i_ok (spCk R lf) 12 := by
  obtain ⟨n, h1, h2⟩ := hl.1
  unfold spCk
  rw [h2, nI_mod (by omega) (by have := hR.1; omega)]
  have h3 := Nat.mod_lt n hD
  exact ok_nI (by have := hR.1; omega) (by omega)
/-- what the words say of thing t -/
def spWords (R : Rl) (lf : Lf) (t : Nat) (j : Nat) : Int64 :=
  if j = 0 then (nI t).toInt64 else if j = 1 then (R.2.1 t).toInt64 else if j = 2 then (spCk R lf).toInt64
  else if j = 3 then (if ¬ R.2.2.2.1 (spCk R lf).toNatClampNeg = nI t then 0 else 1)
  else if j = 4 then (if ¬ lf.1.2.1 = nI t then 0 else 1) else if j = 5 then (lf.2.2.2.2 t).toInt64
  else if j = 6 then (it (gBear lf.2.2.1 (nI t)) R.1.2.2.2 0 0).toInt64
  else if j = 7 then (it (gDue R.1.2.1 lf.2.1) R.1.2.2.2 0 (0, 0)).1.toInt64
  else if j = 8 then (spBits (spKn lf.2.2.1 R.1.2.2.2)).toInt64
  else if j = 9 then (it (gDue R.1.2.1 lf.2.1) R.1.2.2.2 0 (0, 0)).2.toInt64
  else if j = 10 then (nI R.1.2.2.2).toInt64 else lf.1.1.toInt64
def gBest (R : Rl) (cl : Cl) (lf : Lf) (t : Nat) (a : Int32 × Int64) : Int32 × Int64 :=
  if lg_cmp (spW (spWords R lf t) cl) a.2 ≤ 0 then a else (nI t, spW (spWords R lf t) cl)
def spHand (R : Rl) (ru : Option Cl) (lf : Lf) : Int32 :=
  if lf.1.2.2.2 ≤ 0 then if lf.1.2.2.1 = -1 then match ru with
      | none => R.2.2.2.1 (spCk R lf).toNatClampNeg
      | some cl => (it (gBest R cl lf) R.1.2.2.1 0 (-1, 0)).1
    else lf.1.2.2.1
  else -1
theorem spHand_ok {R : Rl} {ru : Option Cl} {lf : Lf} {b : Nat} (hR : wfR R) (hD : 0 < R.1.1) (hb : b < 2 ^ 31) (hl : wfL R b lf) : isH R.1.2.2.1 (spHand R ru lf) := by
  unfold spHand
  split
  · split
    · split
      · exact hR.2.2.2.2 hD _ (ck_ok hR hD hb hl).2
      · next cl =>
        refine it_inv (I := fun _ (a : Int32 × Int64) => isH R.1.2.2.1 a.1) R.1.2.2.1 0 (-1, 0) (fun j b _ hj hb => ?_) (Or.inl rfl)
        unfold gBest
        split
        · exact hb
        · exact Or.inr ⟨j, by omega, rfl⟩
    · exact hl.2.2.1
  · exact Or.inl rfl
theorem isH_ok {T : Nat} {x : Int32} (hT : T ≤ 6) (h : isH T x) : x = -1 ∨ i_ok x 6 := by
  rcases h with h | ⟨t, h1, h2⟩
  · exact Or.inl h
  · right
    rw [h2]
    exact ok_nI (by omega) (by omega)
/-! the class tells -/
theorem LfC_of {σ : St} {a : Nat} {lf : Lf} (h : LfC σ a = lf) : σ.1 a 0 = lf.1.1 ∧ σ.1 a 1 = lf.1.2.1 ∧ σ.1 a 2 = lf.1.2.2.1 ∧ σ.1 a 3 = lf.1.2.2.2 ∧ (∀ j, j < 6 → σ.2.1 (a + 1) j = lf.2.1 j) ∧ (∀ j, j < 6 → σ.2.1 (a + 2) j = lf.2.2.1 j) ∧ (∀ j, j < 6 → σ.2.1 (a + 3) j = lf.2.2.2.1 j) ∧ (∀ j, j < 6 → σ.2.1 (a + 4) j = lf.2.2.2.2 j) := by
  subst h
  refine ⟨rfl, rfl, rfl, rfl, fun j hj => (tr_at hj).symm, fun j hj => (tr_at hj).symm, fun j hj => (tr_at hj).symm, fun j hj => (tr_at hj).symm⟩
theorem LfR_of {σ : St} {lf : Lf} (h : LfR σ = lf) : σ.2.1 1 4 = lf.1.1 ∧ σ.2.1 1 5 = lf.1.2.1 ∧ σ.2.1 1 6 = lf.1.2.2.1 ∧ σ.2.1 1 7 = lf.1.2.2.2 ∧ (∀ j, j < 6 → σ.2.1 6 j = lf.2.1 j) ∧ (∀ j, j < 6 → σ.2.1 8 j = lf.2.2.1 j) ∧ (∀ j, j < 6 → σ.2.1 9 j = lf.2.2.2.1 j) ∧ (∀ j, j < 6 → σ.2.1 4 j = lf.2.2.2.2 j) := by
  subst h
  refine ⟨rfl, rfl, rfl, rfl, fun j hj => (tr_at hj).symm, fun j hj => (tr_at hj).symm, fun j hj => (tr_at hj).symm, fun j hj => (tr_at hj).symm⟩
theorem ckC {sh : List kd} {σ : St} {r : Nat} {R : Rl} {x : Int32} (hR : wfR R) (hD : 0 < R.1.1) (h : isRC σ r R) : fX6_clockAt sh σ r x = some (x - x / nI R.1.1 * nI R.1.1, σ) := by
  unfold fX6_clockAt fX6_clockAt_J17
  have h12 := hR.1
  rw [h.2.1, if_neg (nI_nle hD (by omega)), if_neg (nI_ne0 hD (by omega))]
/-- the words that tell of the HOUR -/
def hourW (f : Nat → Int64) (R : Rl) (lf : Lf) : Prop := ∀ j, j = 2 ∨ (7 ≤ j ∧ j < 12) → f j = spWords R lf 0 j
theorem spWords_hour {R : Rl} {lf : Lf} {t j : Nat} (h : j = 2 ∨ (7 ≤ j ∧ j < 12)) : spWords R lf t j = spWords R lf 0 j := by
  have hj2 : j = 2 ∨ j = 7 ∨ j = 8 ∨ j = 9 ∨ j = 10 ∨ j = 11 := by omega
  rcases hj2 with h | h | h | h | h | h
  all_goals subst h
  all_goals simp [spWords]
theorem sameL_refl {σ : St} : sameL σ σ := ⟨rfl, rfl, rfl⟩
theorem sameL_trans {σ τ υ : St} (h : sameL σ τ) (g : sameL τ υ) : sameL σ υ := ⟨g.1.trans h.1, g.2.1.trans h.2.1, g.2.2.trans h.2.2⟩
theorem sameL_only {σ τ : St} {i : Nat} (h : onlyL i σ τ) : sameL σ τ := ⟨h.1, h.2.1, h.2.2.1⟩
theorem isRC_L {σ τ : St} {r : Nat} {R : Rl} (s : sameL σ τ) (h : isRC σ r R) : isRC τ r R := by
  unfold isRC
  rw [s.1, s.2.1]
  exact h
theorem LfC_L {σ τ : St} {a : Nat} (s : sameL σ τ) : LfC τ a = LfC σ a := by
  unfold LfC
  rw [s.1, s.2.1]
theorem isRR_L {σ τ : St} {R : Rl} (s : sameL σ τ) (h : isRR σ R) : isRR τ R := by
  unfold isRR
  rw [s.2.1]
  exact h
theorem LfR_L {σ τ : St} (s : sameL σ τ) : LfR τ = LfR σ := by
  unfold LfR
  rw [s.2.1]
theorem s_L_rd {σ : St} {i k i' k' : Nat} {x : Int64} : (s_L σ i k x).2.2.1 i' k' = if i' = i ∧ k' = k then x else σ.2.2.1 i' k' := rfl
theorem c_11 : (11 : Int32).toNatClampNeg = 11 := by decide
theorem p_0 : i_ok 0 12 := by decide
theorem p_1 : i_ok 1 12 := by decide
theorem p_2 : i_ok 2 12 := by decide
theorem p_3 : i_ok 3 12 := by decide
theorem p_4 : i_ok 4 12 := by decide
theorem p_5 : i_ok 5 12 := by decide
theorem p_6 : i_ok 6 12 := by decide
theorem p_7 : i_ok 7 12 := by decide
theorem p_8 : i_ok 8 12 := by decide
theorem p_9 : i_ok 9 12 := by decide
theorem p_10 : i_ok 10 12 := by decide
theorem p_11 : i_ok 11 12 := by decide
theorem tellHC {sh : List kd} {σ : St} {a r : Nat} {R : Rl} {lf : Lf} {b : Nat} (hR : wfR R) (hD : 0 < R.1.1) (hr : isRC σ r R) (hl : LfC σ a = lf) (hwl : wfL R b lf) :
    ∃ τ, fX0_tellHour sh σ a r = some ((), τ) ∧ sameL σ τ ∧ hourW (τ.2.2.1 17) R lf := by
  have hP := hR.2.2.1
  obtain ⟨l1, l2, l3, l4, l5, l6, l7, l8⟩ := LfC_of hl
  have hL : fX0_tellHour sh σ a r = fX0_tellHour_X54 sh a r σ (it (gDue R.1.2.1 lf.2.1) R.1.2.2.2 0 (0, 0)).1 (it (gDue R.1.2.1 lf.2.1) R.1.2.2.2 0 (0, 0)).2 (nI R.1.2.2.2) := by
    unfold fX0_tellHour
    rw [← nz0]
    have hF : R.1.2.2.2 < i_F := i_F_gt (by omega)
    generalize i_F = F at hF ⊢
    refine it_loop (L := fun n k x => fX0_tellHour_L8 sh a r σ (fun (x54 : Int32) (x55 : Int32) (x56 : Int32) => fX0_tellHour_X54 sh a r σ x54 x55 x56) n x.1 x.2 (nI k)) (E := fun x => fX0_tellHour_X54 sh a r σ x.1 x.2 (nI R.1.2.2.2)) (g := gDue R.1.2.1 lf.2.1) (N := R.1.2.2.2) (fun n k x hk => ?_) (fun n x => ?_) R.1.2.2.2 F 0 (nI 0, nI 0) (by omega) hF
    · have hcl : (nI k).toNatClampNeg = k := nI_clamp (by omega)
      have hok : i_ok (nI k) 6 := ok_nI (by omega) (by omega)
      rw [fX0_tellHour_L8, hr.2.2.2.2.1, if_neg (nI_ge hk (by omega)), if_pos hok, hcl, l5 k (by omega), hr.2.2.1]
      unfold fX0_tellHour_J34 gDue
      have hlk := l5 k (by omega)
      simp only [if_pos hok, hcl, hlk, nI_1]
      split
      · rfl
      · rfl
    · rw [fX0_tellHour_L8, hr.2.2.2.2.1, if_pos (nI_le (Nat.le_refl _) (by omega))]
  rw [hL]
  unfold fX0_tellHour_X54
  rw [ckC hR hD hr, bd_some, if_pos p_2, if_pos p_7, c_2, c_7]
  rw [knC (ti := lf.2.2.1) (by intro j hj; exact l6 j hj), bd_some, bcC, bd_some, if_pos p_8, if_pos p_9, if_pos p_10]
  simp only [i_jp, if_pos p_11, c_8, c_9, c_10, c_11, s_L_F]
  refine ⟨_, rfl, ⟨rfl, rfl, rfl⟩, ?_⟩
  rw [kn_cut hP hwl.2.2.2.2]
  obtain ⟨m, hm1, hm2⟩ := spKn_lt (ti := lf.2.2.1) hP
  intro j hj
  have hj2 : j = 2 ∨ j = 7 ∨ j = 8 ∨ j = 9 ∨ j = 10 ∨ j = 11 := by omega
  rw [hm2, bc_bits m (by omega), l1, hr.2.2.2.2.1]
  rcases hj2 with h | h | h | h | h | h
  · subst h; simp only [s_L_rd, spWords, spCk]; simp
  · subst h; simp only [s_L_rd, spWords]; simp
  · subst h; simp only [s_L_rd, spWords, hm2]; simp
  · subst h; simp only [s_L_rd, spWords]; simp
  · subst h; simp only [s_L_rd, spWords]; simp
  · subst h; simp only [s_L_rd, spWords]; simp
theorem tellTC {sh : List kd} {σ : St} {a r t : Nat} {R : Rl} {lf : Lf} {b : Nat} (hR : wfR R) (hD : 0 < R.1.1) (hb : b < 2 ^ 31) (hr : isRC σ r R) (hl : LfC σ a = lf) (hwl : wfL R b lf) (ht : t < R.1.2.2.1) (hw : hourW (σ.2.2.1 17) R lf) :
    ∃ τ, fX0_tellThing sh σ a r (nI t) = some ((), τ) ∧ sameL σ τ ∧ ∀ j, j < 12 → τ.2.2.1 17 j = spWords R lf t j := by
  have hT := hR.2.1
  obtain ⟨l1, l2, l3, l4, l5, l6, l7, l8⟩ := LfC_of hl
  have hok : i_ok (nI t) 6 := ok_nI (by omega) (by omega)
  have hcl : (nI t).toNatClampNeg = t := nI_clamp (by omega)
  have hck := ck_ok hR hD hb hwl
  unfold fX0_tellThing
  rw [if_pos p_0, if_pos hok, if_pos p_1]
  simp only [i_jp]
  rw [s_L_F, s_L_F, ckC hR hD (isRC_L (τ := s_L (s_L σ 17 (0 : Int32).toNatClampNeg (nI t).toInt64) 17 (1 : Int32).toNatClampNeg ((s_L σ 17 (0 : Int32).toNatClampNeg (nI t).toInt64).2.1 (r + 1) (nI t).toNatClampNeg).toInt64) ⟨rfl, rfl, rfl⟩ hr), bd_some, l1]
  have hck2 : lf.1.1 - lf.1.1 / nI R.1.1 * nI R.1.1 = spCk R lf := rfl
  rw [hck2, if_pos hck, if_pos p_3, if_pos p_4]
  simp only [i_jp, if_pos hok, if_pos p_5, s_L_F, s_L_A, c_0, c_1, c_3, c_4, c_5, hcl]
  rw [bearC (ti := lf.2.2.1) (by intro j hj; exact l6 j hj), bd_some, if_pos p_6, c_6]
  refine ⟨_, rfl, ⟨rfl, rfl, rfl⟩, ?_⟩
  rw [bear_cut hR.2.2.1 hwl.2.2.2.2, hr.2.2.2.2.2.1 t ht, hr.2.2.2.2.2.2.2.1 _ hck.2, l2, l8 t (by omega)]
  intro j hj
  have hj2 : j = 0 ∨ j = 1 ∨ j = 3 ∨ j = 4 ∨ j = 5 ∨ j = 6 ∨ (j = 2 ∨ (7 ≤ j ∧ j < 12)) := by omega
  rcases hj2 with h | h | h | h | h | h | h
  · subst h; simp only [s_L_rd, spWords]; simp
  · subst h; simp only [s_L_rd, spWords]; simp
  · subst h; simp only [s_L_rd, spWords]; simp
  · subst h; simp only [s_L_rd, spWords]; simp
  · subst h; simp only [s_L_rd, spWords]; simp
  · subst h; simp only [s_L_rd, spWords]; simp
  · rw [spWords_hour h, ← hw j h]
    simp only [s_L_rd]
    simp [show ¬ j = 0 by omega, show ¬ j = 1 by omega, show ¬ j = 3 by omega, show ¬ j = 4 by omega, show ¬ j = 5 by omega, show ¬ j = 6 by omega]
/-- the RULE in force, as the class has it -/
def ruC (sh : List kd) (σ : St) (force : Int32) (ru : Option Cl) : Prop := match ru with
  | none => force = -1
  | some cl => ∃ k q n1, k < 6 ∧ force = nI k ∧ σ.2.2.2 15 k = some q ∧ uSh sh q ∧ sh[q + 1]? = some (.inl (.int, n1)) ∧ sh[q + 2]? = some (.inl (.int, n1)) ∧ sh[q + 3]? = some (.inl (.int, cl.length)) ∧ sh[q + 4]? = some (.inl (.int, cl.length)) ∧ n1 ≤ 400 ∧ cl.length ≤ 12 ∧ tl cl ≤ n1 ∧ wfCl cl ∧ RuC (σ.2.1 (q + 1)) (σ.2.1 (q + 2)) (σ.2.1 (q + 3)) (σ.2.1 (q + 4)) 0 0 cl
theorem handC_loop {sh : List kd} (hsh : cSh sh) {σ0 : St} {a r q n1 : Nat} {p3 : Int32} {R : Rl} {lf : Lf} {b : Nat} {cl : Cl} (hR : wfR R) (hD : 0 < R.1.1) (hb : b < 2 ^ 31) (hr : isRC σ0 r R) (hl : LfC σ0 a = lf) (hwl : wfL R b lf) (h1 : sh[q + 1]? = some (.inl (.int, n1))) (h2 : sh[q + 2]? = some (.inl (.int, n1))) (h3 : sh[q + 3]? = some (.inl (.int, cl.length))) (h4 : sh[q + 4]? = some (.inl (.int, cl.length))) (hn : n1 ≤ 400) (hm : cl.length ≤ 12) (htl : tl cl ≤ n1) (hwf : wfCl cl) (hru : RuC (σ0.2.1 (q + 1)) (σ0.2.1 (q + 2)) (σ0.2.1 (q + 3)) (σ0.2.1 (q + 4)) 0 0 cl) :
    ∀ (m n k : Nat) (x : Int32 × Int64) (v : Value) (σ : St), k + m = R.1.2.2.1 → m < n → sameL σ0 σ → hourW (σ.2.2.1 17) R lf →
      ∃ τ, fX0_hand_L81 sh a r p3 q n x.1 x.2 (nI k) v σ = some ((it (gBest R cl lf) m k x).1, τ) ∧ sameL σ0 τ := by
  have hT := hR.2.1
  intro m
  induction m with
  | zero =>
    intro n k x v σ hk hnn s hw
    obtain ⟨n, rfl⟩ : ∃ n', n = n' + 1 := ⟨n - 1, by omega⟩
    refine ⟨σ, ?_, s⟩
    rw [fX0_hand_L81, s.1, hr.2.2.2.1, if_pos (nI_le (by omega) (by omega))]
    rfl
  | succ m ih =>
    intro n k x v σ hk hnn s hw
    obtain ⟨n, rfl⟩ : ∃ n', n = n' + 1 := ⟨n - 1, by omega⟩
    obtain ⟨τ, t1, t2, t3⟩ := tellTC (sh := sh) hR hD hb (isRC_L s hr) ((LfC_L s).trans hl) hwl (t := k) (by omega) hw
    have s2 := sameL_trans s t2
    obtain ⟨υ, u1, u2⟩ := worthC hsh h1 h2 h3 h4 hn hm (w := spWords R lf k) (cl := cl) (σ := τ) rfl htl hwf t3 (by rw [s2.2.1]; exact hru)
    rw [fX0_hand_L81, s.1, hr.2.2.2.1, if_neg (nI_ge (by omega) (by omega)), t1, bd_some, u1, bd_some]
    have s3 := sameL_trans s2 (sameL_only u2)
    have hw3 : hourW (υ.2.2.1 17) R lf := by
      intro j hj
      rw [u2.2.2.2 17 (by decide), t3 j (by omega)]
      exact spWords_hour hj
    unfold fX0_hand_J129
    rw [nI_1]
    show ∃ τ, _ = some ((it (gBest R cl lf) m (k + 1) (gBest R cl lf k x)).1, τ) ∧ _
    unfold gBest
    by_cases hg : lg_cmp (spW (spWords R lf k) cl) x.2 ≤ 0
    · rw [if_pos hg, if_pos hg]
      exact ih n (k + 1) x _ υ (by omega) (by omega) s3 hw3
    · rw [if_neg hg, if_neg hg]
      exact ih n (k + 1) (nI k, spW (spWords R lf k) cl) _ υ (by omega) (by omega) s3 hw3
theorem handC {sh : List kd} (hsh : cSh sh) {σ : St} {a r : Nat} {force : Int32} {R : Rl} {ru : Option Cl} {lf : Lf} {b : Nat} (hR : wfR R) (hD : 0 < R.1.1) (hb : b < 2 ^ 31) (hr : isRC σ r R) (hl : LfC σ a = lf) (hwl : wfL R b lf) (hu : ruC sh σ force ru) :
    ∃ τ, fX0_hand sh σ a r force = some (spHand R ru lf, τ) ∧ sameL σ τ := by
  obtain ⟨l1, l2, l3, l4, l5, l6, l7, l8⟩ := LfC_of hl
  unfold fX0_hand spHand
  rw [l4, l3]
  by_cases g1 : lf.1.2.2.2 ≤ 0
  · rw [if_pos g1, if_pos g1]
    by_cases g2 : lf.1.2.2.1 = -1
    · rw [if_pos g2, if_pos g2]
      cases ru with
      | none =>
        have hf : force = -1 := hu
        subst hf
        rw [if_pos (by decide)]
        unfold fX0_hand_J45
        have hck := ck_ok hR hD hb hwl
        rw [show ∀ (k : Nat → Option (Int32 × St)) z, i_oe none k z = z from fun _ _ => rfl, ckC hR hD hr, bd_some, l1]
        have hck2 : lf.1.1 - lf.1.1 / nI R.1.1 * nI R.1.1 = spCk R lf := rfl
        rw [hck2, if_pos hck, hr.2.2.2.2.2.2.2.1 _ hck.2]
        exact ⟨σ, rfl, sameL_refl⟩
      | some cl =>
        obtain ⟨k, q, n1, u1, u2, u3, u4, u5, u6, u7, u8, u9, u10, u11, u12, u13⟩ := hu
        subst u2
        have hcl : (nI k).toNatClampNeg = k := nI_clamp (by omega)
        rw [if_neg (nI_pos (by omega)), if_neg (by rw [← nz6]; exact nI_ge u1 (by omega)), if_pos (ok_nI u1 (by omega)), hcl, u3]
        unfold fX0_hand_J45
        rw [show ∀ (k : Nat → Option (Int32 × St)) z, i_oe (some q) k z = k q from fun _ _ => rfl, i_ck_pos u4]
        obtain ⟨τ, t1, t2, t3⟩ := tellHC (sh := sh) hR hD hr hl hwl
        rw [t1, bd_some]
        have hF : R.1.2.2.1 < i_F := i_F_gt (by have := hR.2.1; omega)
        generalize i_F = F at hF ⊢
        rw [← nz0]
        exact handC_loop hsh hR hD hb hr hl hwl u5 u6 u7 u8 u9 u10 u11 u12 u13 R.1.2.2.1 F 0 (-1, 0) _ τ (by omega) hF t2 t3
    · rw [if_neg g2, if_neg g2]
      exact ⟨σ, rfl, sameL_refl⟩
  · rw [if_neg g1, if_neg g1]
    exact ⟨σ, rfl, sameL_refl⟩
