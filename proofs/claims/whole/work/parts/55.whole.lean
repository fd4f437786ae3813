/-! ===== a Whole is copied ===== -/
theorem cok12 : i_cok 0 0 12 12 12 := by decide
theorem cok10 : i_cok 0 0 10 10 10 := by decide
theorem c_12 : (12 : Int32).toNatClampNeg = 12 := by decide
theorem cpy_0 {f g : Nat → Int32} {n j : Nat} (h : j < n) : va_cpy f g 0 0 n j = f j := by rw [cpy_in (by omega) (by omega), Nat.zero_add, Nat.sub_zero]
theorem realmCopyC {sh : List kd} {σ : St} {a b : Nat} {R : Rl} (hR : wfR R) (hab : a + 5 < b ∨ b + 5 < a) (h : isRC σ b R) : ∃ τ, fX6_copyFrom sh σ a b = some ((), τ) ∧ isRC τ a R ∧ (∀ i, i ≠ a → τ.1 i = σ.1 i) ∧ (∀ i, i < a + 1 ∨ a + 5 < i → τ.2.1 i = σ.2.1 i) ∧ τ.2.2.2 = σ.2.2.2 := by
  have hne : ¬ b = a := by omega
  unfold fX6_copyFrom
  rw [if_pos (by rw [h.1]; split <;> decide), jp, if_pos cok6, jp, if_pos cok6, if_pos cok12, jp, if_pos cok6, if_pos cok6, jp]
  simp only [c_0, c_6, c_12]
  generalize hτ : s_C _ (b + 5) (a + 5) 0 0 6 = τ
  have hF : ∀ i k, τ.1 i k = if i = a ∧ k = 4 then σ.1 b 4 else if i = a ∧ k = 3 then σ.1 b 3 else if i = a ∧ k = 2 then σ.1 b 2 else if i = a ∧ k = 1 then σ.1 b 1 else if i = a ∧ k = 0 then σ.1 b 0 else σ.1 i k := by
    intro i k
    subst hτ
    simp only [s_C_F, s_F_rd]
    simp [hne]
  have hA : ∀ i, τ.2.1 i = if i = a + 5 then va_cpy (σ.2.1 (b + 5)) (σ.2.1 (a + 5)) 0 0 6 else if i = a + 4 then va_cpy (σ.2.1 (b + 4)) (σ.2.1 (a + 4)) 0 0 6 else if i = a + 3 then va_cpy (σ.2.1 (b + 3)) (σ.2.1 (a + 3)) 0 0 12 else if i = a + 2 then va_cpy (σ.2.1 (b + 2)) (σ.2.1 (a + 2)) 0 0 6 else if i = a + 1 then va_cpy (σ.2.1 (b + 1)) (σ.2.1 (a + 1)) 0 0 6 else σ.2.1 i := by
    intro i
    subst hτ
    simp only [s_C_rd, s_F_A]
    simp [show ¬ b + 5 = a + 4 by omega, show ¬ b + 5 = a + 3 by omega, show ¬ b + 5 = a + 2 by omega, show ¬ b + 5 = a + 1 by omega, show ¬ b + 4 = a + 3 by omega, show ¬ b + 4 = a + 2 by omega, show ¬ b + 4 = a + 1 by omega, show ¬ b + 3 = a + 2 by omega, show ¬ b + 3 = a + 1 by omega, show ¬ b + 2 = a + 1 by omega]
  have hQ : τ.2.2.2 = σ.2.2.2 := by subst hτ; rfl
  have r1 : τ.2.1 (a + 1) = va_cpy (σ.2.1 (b + 1)) (σ.2.1 (a + 1)) 0 0 6 := by rw [hA]; simp
  have r2 : τ.2.1 (a + 2) = va_cpy (σ.2.1 (b + 2)) (σ.2.1 (a + 2)) 0 0 6 := by rw [hA]; simp
  have r3 : τ.2.1 (a + 3) = va_cpy (σ.2.1 (b + 3)) (σ.2.1 (a + 3)) 0 0 12 := by rw [hA]; simp
  have r4 : τ.2.1 (a + 4) = va_cpy (σ.2.1 (b + 4)) (σ.2.1 (a + 4)) 0 0 6 := by rw [hA]; simp
  have r5 : τ.2.1 (a + 5) = va_cpy (σ.2.1 (b + 5)) (σ.2.1 (a + 5)) 0 0 6 := by rw [hA]; simp
  obtain ⟨h0, h1, h2, h3, h4, h5, h6, h7, h8, h9⟩ := h
  have hT := hR.2.1
  have hP := hR.2.2.1
  refine ⟨τ, rfl, ⟨?_, ?_, ?_, ?_, ?_, fun j hj => ?_, fun j hj => ?_, fun j hj => ?_, fun j hj => ?_, fun j hj => ?_⟩, ?_, ?_, hQ⟩
  · rw [hF]; simp only [true_and]; exact h0
  · rw [hF]; simp only [true_and]; exact h1
  · rw [hF]; simp only [true_and]; exact h2
  · rw [hF]; simp only [true_and]; exact h3
  · rw [hF]; simp only [true_and]; exact h4
  · rw [r1, cpy_0 (by omega)]; exact h5 j hj
  · rw [r2, cpy_0 (by omega)]; exact h6 j hj
  · rw [r3, cpy_0 (by omega)]; exact h7 j hj
  · rw [r4, cpy_0 (by omega)]; exact h8 j hj
  · rw [r5, cpy_0 (by omega)]; exact h9 j hj
  · intro i hi
    funext k
    rw [hF]
    simp [hi]
  · intro i hi
    rw [hA]
    simp [show ¬ i = a + 1 by omega, show ¬ i = a + 2 by omega, show ¬ i = a + 3 by omega, show ¬ i = a + 4 by omega, show ¬ i = a + 5 by omega]
theorem wholeCopyC {sh : List kd} {σ : St} {a b : Nat} {W : Wd} (hR : wfR W.1) (hab : a + 115 ≤ b ∨ b + 115 ≤ a) (hla : lvSh sh a) (hlb : lvSh sh b) (hra : rfC σ a) (hrb : rfC σ b) (h : hdC σ b W) :
    ∃ τ, fX10_copyFrom sh σ a b = some ((), τ) ∧ hdC τ a W ∧ (∀ i, ¬ (a ≤ i ∧ i < a + 115) → τ.1 i = σ.1 i ∧ τ.2.1 i = σ.2.1 i) ∧ τ.2.2.2 = σ.2.2.2 := by
  obtain ⟨R, lf, pst, nt, f, x⟩ := W
  obtain ⟨h1, h2, h3, h4, h5, h6⟩ := h
  dsimp only at h1 h2 h3 h4 h5 h6 hR
  obtain ⟨fi, f1, f2, f3, f4, f5⟩ := h3
  obtain ⟨s1, a1, a2, a3, a4, a5⟩ := realmCopyC (sh := sh) (σ := σ) (a := a + 1) (b := b + 1) hR (by omega) h1
  obtain ⟨s2, b1, b2, b3⟩ := lifeCopyC (sh := sh) (σ := s1) (a := a + 7) (b := b + 7) (by omega)
  have eo1 : ∀ i, ¬ (a ≤ i ∧ i < a + 115) → s2.1 i = σ.1 i ∧ s2.2.1 i = σ.2.1 i := fun i hi => ⟨by rw [b3.1 i (by omega), a3 i (by omega)], by rw [b3.2.1 i (by omega) (by omega) (by omega) (by omega), a4 i (by omega)]⟩
  unfold fX10_copyFrom
  rw [a1, bd_some, b1, bd_some]
  -- the two numbers
  have g1 : ∀ i k, (s_F (s_F s2 a 3 (s2.1 b 3)) a 4 ((s_F s2 a 3 (s2.1 b 3)).1 b 4)).1 i k = if i = a ∧ k = 4 then nI pst.length else if i = a ∧ k = 3 then nI fi else s2.1 i k := by
    intro i k
    rw [s_F_rd, s_F_rd, s_F_rd, if_neg (show ¬ (b = a ∧ 4 = 3) by omega), (eo1 b (by omega)).1, f2, f3]
  have g2 : (s_F (s_F s2 a 3 (s2.1 b 3)) a 4 ((s_F s2 a 3 (s2.1 b 3)).1 b 4)).2 = s2.2 := rfl
  generalize s_F (s_F s2 a 3 (s2.1 b 3)) a 4 ((s_F s2 a 3 (s2.1 b 3)).1 b 4) = s3 at g1 g2
  have e3 : s3.1 a 3 = nI fi := by rw [g1, if_neg (by omega), if_pos ⟨rfl, rfl⟩]
  have e4 : s3.1 a 4 = nI pst.length := by rw [g1, if_pos ⟨rfl, rfl⟩]
  have eoa : ∀ i, i ≠ a → s3.1 i = s2.1 i := fun i hi => by funext k; rw [g1, if_neg (fun e => hi e.1), if_neg (fun e => hi e.1)]
  have eQ3 : s3.2.2.2 = σ.2.2.2 := by rw [g2, b3.2.2, a5]
  have out3 : ∀ i, ¬ (a ≤ i ∧ i < a + 115) → s3.1 i = σ.1 i ∧ s3.2.1 i = σ.2.1 i := fun i hi => ⟨by rw [eoa i (by omega)]; exact (eo1 i hi).1, by rw [g2]; exact (eo1 i hi).2⟩
  have hlo3 : ∀ i, a + 1 ≤ i → i < a + 12 → s3.1 i = s2.1 i ∧ s3.2.1 i = s2.2.1 i := fun i h1 h2 => ⟨eoa i (by omega), by rw [g2]⟩
  -- the lives
  have hloop : ∃ v τ, fX10_copyFrom_L40 sh a b (fun (x60 : Int32) (x61 : Value) (s62 : St) => fX10_copyFrom_X79 sh a b x60 x61 s62) i_F 0 (.retAddr 0) s3 = fX10_copyFrom_X79 sh a b (nI pst.length) v τ ∧ (∀ i, ¬ (a + 15 ≤ i ∧ i < a + 115) → τ.1 i = s3.1 i ∧ τ.2.1 i = s3.2.1 i) ∧ τ.2.2.2 = s3.2.2.2 ∧ ∀ i l, pst[i]? = some l → LfC τ (a + 15 + 5 * ((fi + i) % 20)) = l := by
    have hF : 20 < i_F := i_F_gt (by omega)
    generalize i_F = F at hF ⊢
    rw [← nz0]
    refine lpI (L := fun N k (q : Value × St) => fX10_copyFrom_L40 sh a b (fun (x60 : Int32) (x61 : Value) (s62 : St) => fX10_copyFrom_X79 sh a b x60 x61 s62) N (nI k) q.1 q.2) (E := fun r => ∃ v τ, r = fX10_copyFrom_X79 sh a b (nI pst.length) v τ ∧ (∀ i, ¬ (a + 15 ≤ i ∧ i < a + 115) → τ.1 i = s3.1 i ∧ τ.2.1 i = s3.2.1 i) ∧ τ.2.2.2 = s3.2.2.2 ∧ ∀ i l, pst[i]? = some l → LfC τ (a + 15 + 5 * ((fi + i) % 20)) = l) (fun k q => (∀ i, ¬ (a + 15 ≤ i ∧ i < a + 115) → q.2.1 i = s3.1 i ∧ q.2.2.1 i = s3.2.1 i) ∧ q.2.2.2.2 = s3.2.2.2 ∧ ∀ i l, i < k → pst[i]? = some l → LfC q.2 (a + 15 + 5 * ((fi + i) % 20)) = l) pst.length (fun N k q hk hI => Or.inl ?_) (fun N q hI => ?_) pst.length F 0 (.retAddr 0, s3) (by omega) (by omega) ⟨fun _ _ => ⟨rfl, rfl⟩, rfl, fun i l hi => by omega⟩
    · obtain ⟨v, s⟩ := q
      obtain ⟨i1, i2, i3⟩ := hI
      dsimp only at i1 i2 i3 ⊢
      have hm : (fi + k) % 20 < 20 := Nat.mod_lt _ (by omega)
      have ea : s.1 a = s3.1 a := (i1 a (by omega)).1
      have hok : i_ok (nI ((fi + k) % 20)) 20 := ok_nI hm (by omega)
      obtain ⟨τ, t1, t2, t3⟩ := lifeCopyC (sh := sh) (σ := s) (a := a + 15 + 5 * ((fi + k) % 20)) (b := b + 15 + 5 * ((fi + k) % 20)) (by omega)
      obtain ⟨l, hl⟩ : ∃ l, pst[k]? = some l := ⟨_, List.getElem?_eq_getElem hk⟩
      refine ⟨(.int (nI ((fi + k) % 20)), τ), ?_, fun i hi => ?_, ?_, fun i l' hi hl' => ?_⟩
      · rw [fX10_copyFrom_L40, ea, e4, if_neg (nI_ge hk (by omega)), e3, nI_add, m20 (by omega), if_pos hok, if_pos hok, nI_clamp (by omega), i2, eQ3, hra _ hm]
        show i_ck (lSh sh (a + 15 + 5 * ((fi + k) % 20))) _ = _
        rw [i_ck_pos (hla _ hm), hrb _ hm]
        show i_ck (lSh sh (b + 15 + 5 * ((fi + k) % 20))) _ = _
        rw [i_ck_pos (hlb _ hm), t1, bd_some, nI_1]
      · exact ⟨by rw [t3.1 i (by omega)]; exact (i1 i hi).1, by rw [t3.2.1 i (by omega) (by omega) (by omega) (by omega)]; exact (i1 i hi).2⟩
      · rw [t3.2.2]; exact i2
      · by_cases hik : i = k
        · subst hik
          rw [hl] at hl'
          cases hl'
          rw [t2]
          have e := f5 i l hl
          rw [← e]
          exact LfC_ext (by rw [(i1 _ (by omega)).1]; exact (out3 _ (by omega)).1) (fun j h1 h2 => by rw [(i1 j (by omega)).2]; exact (out3 j (by omega)).2)
        · have hne : (fi + i) % 20 ≠ (fi + k) % 20 := by omega
          have hm2 : (fi + i) % 20 < 20 := Nat.mod_lt _ (by omega)
          rw [LfC_ext (t3.1 _ (by omega)) (fun j h1 h2 => t3.2.1 j (by omega) (by omega) (by omega) (by omega))]
          exact i3 i l' (by omega) hl'
    · obtain ⟨v, s⟩ := q
      obtain ⟨i1, i2, i3⟩ := hI
      dsimp only at i1 i2 i3 ⊢
      refine ⟨v, s, ?_, i1, i2, fun i l hl => i3 i l (List.getElem?_eq_some_iff.mp hl).1 hl⟩
      rw [fX10_copyFrom_L40, (i1 a (by omega)).1, e4, if_pos (nI_le (Nat.le_refl _) (by omega))]
  obtain ⟨v, s4, l1, l2, l3, l4⟩ := hloop
  rw [l1]
  unfold fX10_copyFrom_X79
  rw [if_pos cok10, if_pos cok10, jp]
  simp only [c_0, c_10]
  rw [jp]
  have out4 : ∀ i, ¬ (a ≤ i ∧ i < a + 115) → s4.1 i = σ.1 i ∧ s4.2.1 i = σ.2.1 i := fun i hi => ⟨by rw [(l2 i (by omega)).1]; exact (out3 i hi).1, by rw [(l2 i (by omega)).2]; exact (out3 i hi).2⟩
  have p1 : (s_C (s_C s4 (b + 13) (a + 13) 0 0 10) (b + 14) (a + 14) 0 0 10).1 = s4.1 := rfl
  have p2 : ∀ i, i ≠ a + 13 → i ≠ a + 14 → (s_C (s_C s4 (b + 13) (a + 13) 0 0 10) (b + 14) (a + 14) 0 0 10).2.1 i = s4.2.1 i := fun i h1 h2 => by rw [s_C_ne h2, s_C_ne h1]
  have p3 : ∀ j, j < 10 → (s_C (s_C s4 (b + 13) (a + 13) 0 0 10) (b + 14) (a + 14) 0 0 10).2.1 (a + 13) j = σ.2.1 (b + 13) j := fun j hj => by rw [s_C_ne (by omega), s_C_at, cpy_0 hj, (out4 (b + 13) (by omega)).2]
  have p4 : ∀ j, j < 10 → (s_C (s_C s4 (b + 13) (a + 13) 0 0 10) (b + 14) (a + 14) 0 0 10).2.1 (a + 14) j = σ.2.1 (b + 14) j := fun j hj => by rw [s_C_at, cpy_0 hj, s_C_ne (by omega), (out4 (b + 14) (by omega)).2]
  have p5 : (s_C (s_C s4 (b + 13) (a + 13) 0 0 10) (b + 14) (a + 14) 0 0 10).2.2.2 = s4.2.2.2 := rfl
  generalize s_C (s_C s4 (b + 13) (a + 13) 0 0 10) (b + 14) (a + 14) 0 0 10 = s5 at p1 p2 p3 p4 p5
  have eb : s5.1 b = σ.1 b := by rw [p1]; exact (out4 b (by omega)).1
  have hne : ¬ b = a := by omega
  generalize hτ : s_F (s_F (s_F s5 a 7 (s5.1 b 7)) a 8 ((s_F s5 a 7 (s5.1 b 7)).1 b 8)) a 9 ((s_F (s_F s5 a 7 (s5.1 b 7)) a 8 ((s_F s5 a 7 (s5.1 b 7)).1 b 8)).1 b 9) = τ
  have q1 : ∀ i k, τ.1 i k = if i = a ∧ k = 9 then σ.1 b 9 else if i = a ∧ k = 8 then σ.1 b 8 else if i = a ∧ k = 7 then σ.1 b 7 else s5.1 i k := by
    intro i k
    subst hτ
    simp only [s_F_rd]
    simp [hne, eb]
  have q2 : τ.2 = s5.2 := by subst hτ; rfl
  have qo : ∀ i, i ≠ a → τ.1 i = s4.1 i := fun i hi => by funext k; rw [q1, if_neg (fun e => hi e.1), if_neg (fun e => hi e.1), if_neg (fun e => hi e.1), p1]
  have qA : ∀ i, i ≠ a + 13 → i ≠ a + 14 → τ.2.1 i = s4.2.1 i := fun i h1 h2 => by rw [q2]; exact p2 i h1 h2
  refine ⟨τ, rfl, ⟨?_, ?_, ⟨fi, f1, ?_, ?_, f4, fun i l hl => ?_⟩, ⟨h4.1, ?_, fun k q hq => ?_⟩, ?_, ?_⟩, fun i hi => ⟨?_, ?_⟩, ?_⟩
  · refine isRC_fr ?_ (fun i h1 h2 => ?_) a2
    · rw [qo _ (by omega), (l2 _ (by omega)).1, (hlo3 _ (by omega) (by omega)).1, b3.1 _ (by omega)]
    · rw [qA _ (by omega) (by omega), (l2 _ (by omega)).2, (hlo3 _ (by omega) (by omega)).2, b3.2.1 _ (by omega) (by omega) (by omega) (by omega)]
  · refine (LfC_ext ?_ (fun i h1 h2 => ?_)).trans (b2.trans ?_)
    · rw [qo _ (by omega), (l2 _ (by omega)).1, (hlo3 _ (by omega) (by omega)).1]
    · rw [qA _ (by omega) (by omega), (l2 _ (by omega)).2, (hlo3 _ (by omega) (by omega)).2]
    · exact (LfC_ext (a3 _ (by omega)) (fun i h1 h2 => a4 i (by omega))).trans h2
  · rw [q1, if_neg (by omega), if_neg (by omega), if_neg (by omega), p1, (l2 a (by omega)).1, e3]
  · rw [q1, if_neg (by omega), if_neg (by omega), if_neg (by omega), p1, (l2 a (by omega)).1, e4]
  · have := Nat.mod_lt (fi + i) (show 20 > 0 by omega)
    exact (LfC_ext (qo _ (by omega)) (fun j h1 h2 => qA j (by omega) (by omega))).trans (l4 i l hl)
  · rw [q1, if_neg (by omega), if_neg (by omega), if_pos ⟨rfl, rfl⟩]; exact h4.2.1
  · have hk0 : k < nt.length := (List.getElem?_eq_some_iff.mp hq).1
    have hk : k < 10 := by have := h4.1; omega
    rw [q2, p3 k hk, p4 k hk]
    exact h4.2.2 k q hq
  · rw [q1, if_neg (by omega), if_pos ⟨rfl, rfl⟩]; exact h5
  · rw [q1, if_pos ⟨rfl, rfl⟩]; exact h6
  · rw [qo i (by omega)]; exact (out4 i hi).1
  · rw [qA i (by omega) (by omega)]; exact (out4 i hi).2
  · rw [q2, p5, l3, eQ3]
