/-! ===== what can be UNDONE: the reference ===== -/
def mvFr (σ τ : St) : Prop := (∀ i q, ¬ (i = 0 ∧ (q = 42 ∨ q = 43)) → τ.1 i q = σ.1 i q) ∧ τ.2.2 = σ.2.2
theorem movesF {sh : List kd} {σ : St} {v : Int32} {at' : Nat} (h43 : σ.1 0 43 = 0) (h42 : σ.1 0 42 = nI at') (hb : at' < 560) : fX12_moves sh σ v = some (v, s_F (s_A σ 29 at' v) 0 42 (nI (at' + 1))) := by
  unfold fX12_moves fX12_moves_J20
  rw [if_pos h43, h42, if_pos (ok_nI hb (by omega)), nI_clamp (by omega), show (s_A σ 29 at' v).1 0 42 = nI at' from h42, nI_1]
theorem movesB {sh : List kd} {σ : St} {v : Int32} {at' : Nat} (h43 : σ.1 0 43 = 1) (h42 : σ.1 0 42 = nI at') (hb : at' < 560) : fX12_moves sh σ v = some (σ.2.1 29 at', s_F σ 0 42 (nI (at' + 1))) := by
  unfold fX12_moves fX12_moves_J20
  rw [if_neg (by rw [h43]; decide), h42]
  have hok : i_ok (nI at') 560 := ok_nI hb (by omega)
  simp only [if_pos hok, nI_clamp (show at' < 2 ^ 31 by omega)]
  rw [s_A_self rfl, h42, nI_1]
theorem movF {sh : List kd} {σ : St} {p n at' : Nat} (h : sh[p]? = some (.inl (.int, n))) (hp : p ≠ 29) (h43 : σ.1 0 43 = 0) (h42 : σ.1 0 42 = nI at') (hb : at' + n ≤ 560) :
    ∃ τ, fX12_movesRow sh σ p = some ((), τ) ∧ τ.1 0 42 = nI (at' + n) ∧ τ.1 0 43 = 0 ∧ mvFr σ τ ∧ (∀ i, i ≠ 29 → τ.2.1 i = σ.2.1 i) ∧ (∀ j, j < n → τ.2.1 29 (at' + j) = σ.2.1 p j) ∧ (∀ j, j < at' ∨ at' + n ≤ j → τ.2.1 29 j = σ.2.1 29 j) := by
  unfold fX12_movesRow
  have hF : n < i_F := i_F_gt (by omega)
  generalize i_F = F at hF ⊢
  rw [← nz0]
  refine lpI (L := fun m k s => fX12_movesRow_L2 sh p m (nI k) s) (E := fun r => ∃ τ, r = some ((), τ) ∧ τ.1 0 42 = nI (at' + n) ∧ τ.1 0 43 = nI 0 ∧ mvFr σ τ ∧ (∀ i, i ≠ 29 → τ.2.1 i = σ.2.1 i) ∧ (∀ j, j < n → τ.2.1 29 (at' + j) = σ.2.1 p j) ∧ (∀ j, j < at' ∨ at' + n ≤ j → τ.2.1 29 j = σ.2.1 29 j)) (fun k s => s.1 0 42 = nI (at' + k) ∧ s.1 0 43 = nI 0 ∧ mvFr σ s ∧ (∀ i, i ≠ 29 → s.2.1 i = σ.2.1 i) ∧ (∀ j, j < k → s.2.1 29 (at' + j) = σ.2.1 p j) ∧ (∀ j, j < at' ∨ at' + k ≤ j → s.2.1 29 j = σ.2.1 29 j)) n (fun m k s hk hI => Or.inl ?_) (fun m s hI => ?_) n F 0 σ (by omega) hF ⟨h42, h43, ⟨fun _ _ _ => rfl, rfl⟩, fun _ _ => rfl, fun j hj => by omega, fun _ _ => rfl⟩
  · obtain ⟨i1, i2, i3, i4, i5, i6⟩ := hI
    refine ⟨s_F (s_A s 29 (at' + k) (σ.2.1 p k)) 0 42 (nI (at' + k + 1)), ?_, ?_, ?_, ⟨fun i q hq => ?_, i3.2⟩, fun i hi => ?_, fun j hj => ?_, fun j hj => ?_⟩
    · rw [fX12_movesRow_L2, i_al_at h, ofN, if_neg (nI_ge hk (by omega)), i_al_at h, if_pos (ok_nI hk (by omega)), movesF (i2.trans nI_0) i1 (by omega), bd_some, i_al_at h, if_pos (ok_nI hk (by omega)), nI_clamp (show k < 2 ^ 31 by omega), i4 p hp, nI_1, s_A_self]
      rw [s_F_A, s_A_ne hp, i4 p hp]
    · rw [s_F_rd, if_pos ⟨rfl, rfl⟩]
      rfl
    · rw [s_F_rd, if_neg (by omega), s_A_F, i2]
    · rw [s_F_rd, if_neg (by omega), s_A_F, i3.1 i q hq]
    · rw [s_F_A, s_A_ne hi, i4 i hi]
    · rw [s_F_A, s_A_rd]
      by_cases hjk : j = k
      · rw [if_pos ⟨rfl, by omega⟩, hjk]
      · rw [if_neg (fun e => hjk (by omega))]
        exact i5 j (by omega)
    · rw [s_F_A, s_A_rd, if_neg (fun e => by omega)]
      exact i6 j (by omega)
  · obtain ⟨i1, i2, i3, i4, i5, i6⟩ := hI
    refine ⟨s, ?_, i1, i2, i3, i4, i5, i6⟩
    rw [fX12_movesRow_L2, i_al_at h, ofN, if_pos (nI_le (Nat.le_refl _) (by omega))]
theorem movB {sh : List kd} {σ : St} {p n at' : Nat} (h : sh[p]? = some (.inl (.int, n))) (hp : p ≠ 29) (h43 : σ.1 0 43 = 1) (h42 : σ.1 0 42 = nI at') (hb : at' + n ≤ 560) :
    ∃ τ, fX12_movesRow sh σ p = some ((), τ) ∧ τ.1 0 42 = nI (at' + n) ∧ τ.1 0 43 = 1 ∧ mvFr σ τ ∧ (∀ i, i ≠ p → τ.2.1 i = σ.2.1 i) ∧ (∀ j, j < n → τ.2.1 p j = σ.2.1 29 (at' + j)) := by
  unfold fX12_movesRow
  have hF : n < i_F := i_F_gt (by omega)
  generalize i_F = F at hF ⊢
  rw [← nz0]
  refine lpI (L := fun m k s => fX12_movesRow_L2 sh p m (nI k) s) (E := fun r => ∃ τ, r = some ((), τ) ∧ τ.1 0 42 = nI (at' + n) ∧ τ.1 0 43 = 1 ∧ mvFr σ τ ∧ (∀ i, i ≠ p → τ.2.1 i = σ.2.1 i) ∧ (∀ j, j < n → τ.2.1 p j = σ.2.1 29 (at' + j))) (fun k s => s.1 0 42 = nI (at' + k) ∧ s.1 0 43 = 1 ∧ mvFr σ s ∧ (∀ i, i ≠ p → s.2.1 i = σ.2.1 i) ∧ (∀ j, j < k → s.2.1 p j = σ.2.1 29 (at' + j))) n (fun m k s hk hI => Or.inl ?_) (fun m s hI => ?_) n F 0 σ (by omega) hF ⟨h42, h43, ⟨fun _ _ _ => rfl, rfl⟩, fun _ _ => rfl, fun j hj => by omega⟩
  · obtain ⟨i1, i2, i3, i4, i5⟩ := hI
    refine ⟨s_A (s_F s 0 42 (nI (at' + k + 1))) p k (σ.2.1 29 (at' + k)), ?_, ?_, ?_, ⟨fun i q hq => ?_, i3.2⟩, fun i hi => ?_, fun j hj => ?_⟩
    · rw [fX12_movesRow_L2, i_al_at h, ofN, if_neg (nI_ge hk (by omega)), i_al_at h, if_pos (ok_nI hk (by omega)), movesB i2 i1 (by omega), bd_some, i_al_at h, if_pos (ok_nI hk (by omega)), nI_clamp (show k < 2 ^ 31 by omega), nI_1, i4 29 (Ne.symm hp)]
    · rw [s_A_F, s_F_rd, if_pos ⟨rfl, rfl⟩]
      rfl
    · rw [s_A_F, s_F_rd, if_neg (by omega), i2]
    · rw [s_A_F, s_F_rd, if_neg (by omega), i3.1 i q hq]
    · rw [s_A_ne hi, s_F_A, i4 i hi]
    · rw [s_A_rd]
      by_cases hjk : j = k
      · rw [if_pos ⟨rfl, hjk⟩, hjk]
      · rw [if_neg (fun e => hjk e.2), s_F_A]
        exact i5 j (by omega)
  · obtain ⟨i1, i2, i3, i4, i5⟩ := hI
    refine ⟨s, ?_, i1, i2, i3, i4, i5⟩
    rw [fX12_movesRow_L2, i_al_at h, ofN, if_pos (nI_le (Nat.le_refl _) (by omega))]
/-- a life l lies in the row f from b on -/
def lfAt (f : Nat → Int32) (b : Nat) (l : Lf) : Prop := f b = l.1.1 ∧ f (b + 1) = l.1.2.1 ∧ f (b + 2) = l.1.2.2.1 ∧ f (b + 3) = l.1.2.2.2 ∧ (∀ j, j < 6 → f (b + 4 + j) = l.2.2.2.2 j) ∧ (∀ j, j < 6 → f (b + 10 + j) = l.2.1 j) ∧ (∀ j, j < 6 → f (b + 16 + j) = l.2.2.1 j) ∧ (∀ j, j < 6 → f (b + 22 + j) = l.2.2.2.1 j)
theorem lfAt_ext {f g : Nat → Int32} {b : Nat} {l : Lf} (h : lfAt f b l) (e : ∀ j, b ≤ j → j < b + 28 → g j = f j) : lfAt g b l := by
  obtain ⟨h1, h2, h3, h4, h5, h6, h7, h8⟩ := h
  refine ⟨by rw [e b (by omega) (by omega), h1], by rw [e _ (by omega) (by omega), h2], by rw [e _ (by omega) (by omega), h3], by rw [e _ (by omega) (by omega), h4], fun j hj => ?_, fun j hj => ?_, fun j hj => ?_, fun j hj => ?_⟩
  · rw [e _ (by omega) (by omega), h5 j hj]
  · rw [e _ (by omega) (by omega), h6 j hj]
  · rw [e _ (by omega) (by omega), h7 j hj]
  · rw [e _ (by omega) (by omega), h8 j hj]
def cn (l : Lf) : Prop := tr 6 l.2.1 = l.2.1 ∧ tr 6 l.2.2.1 = l.2.2.1 ∧ tr 6 l.2.2.2.1 = l.2.2.2.1 ∧ tr 6 l.2.2.2.2 = l.2.2.2.2
theorem tr_tr {n : Nat} {f : Nat → Int32} : tr n (tr n f) = tr n f := tr_ext (fun j hj => tr_at hj)
theorem cn_C {σ : St} {a : Nat} {l : Lf} (h : LfC σ a = l) : cn l := by
  rw [← h]
  exact ⟨tr_tr, tr_tr, tr_tr, tr_tr⟩
theorem LfR_mk {σ : St} {l : Lf} (hc : cn l) (h1 : σ.2.1 1 4 = l.1.1) (h2 : σ.2.1 1 5 = l.1.2.1) (h3 : σ.2.1 1 6 = l.1.2.2.1) (h4 : σ.2.1 1 7 = l.1.2.2.2) (h5 : ∀ j, j < 6 → σ.2.1 4 j = l.2.2.2.2 j) (h6 : ∀ j, j < 6 → σ.2.1 6 j = l.2.1 j) (h7 : ∀ j, j < 6 → σ.2.1 8 j = l.2.2.1 j) (h8 : ∀ j, j < 6 → σ.2.1 9 j = l.2.2.2.1 j) : LfR σ = l := by
  unfold LfR
  rw [h1, h2, h3, h4, tr_ext h5, tr_ext h6, tr_ext h7, tr_ext h8, hc.1, hc.2.1, hc.2.2.1, hc.2.2.2]
theorem mvFr_trans {σ τ υ : St} (h : mvFr σ τ) (g : mvFr τ υ) : mvFr σ υ := ⟨fun i q hq => (g.1 i q hq).trans (h.1 i q hq), g.2.trans h.2⟩
theorem n8 : (8 : Int32) = nI 8 := by decide
theorem movAllF {sh : List kd} (hsh : rmSh sh) {σ : St} {k : Nat} (hk : k < 20) : ∃ τ, fX12_movesAll sh σ (nI k) 0 = some ((), τ) ∧ lfAt (τ.2.1 29) (28 * k) (LfR σ) ∧ (∀ j, j < 28 * k ∨ 28 * k + 28 ≤ j → τ.2.1 29 j = σ.2.1 29 j) ∧ (∀ i, i ≠ 29 → τ.2.1 i = σ.2.1 i) ∧ mvFr σ τ := by
  unfold fX12_movesAll
  rw [if_pos okf0, show (28 : Int32) = nI 28 from by decide, nI_mul]
  have b1 : (s_F (s_F σ 0 42 (nI (28 * k))) 0 43 0).1 0 42 = nI (28 * k) := by rw [s_F_rd, if_neg (by omega), s_F_rd, if_pos ⟨rfl, rfl⟩]
  have b2 : (s_F (s_F σ 0 42 (nI (28 * k))) 0 43 0).1 0 43 = 0 := by rw [s_F_rd, if_pos ⟨rfl, rfl⟩]
  have b3 : mvFr σ (s_F (s_F σ 0 42 (nI (28 * k))) 0 43 0) := ⟨fun i q hq => by rw [s_F_rd, if_neg (by omega), s_F_rd, if_neg (by omega)], rfl⟩
  have b4 : (s_F (s_F σ 0 42 (nI (28 * k))) 0 43 0).2.1 = σ.2.1 := rfl
  generalize s_F (s_F σ 0 42 (nI (28 * k))) 0 43 0 = s0 at b1 b2 b3 b4
  have hsc : ∃ s, fX12_movesAll_L15 sh (nI k) 0 (fun (x54 : Int32) (s55 : St) => fX12_movesAll_X43 sh (nI k) 0 x54 s55) i_F 4 s0 = fX12_movesAll_X43 sh (nI k) 0 (nI 8) s ∧ s.1 0 42 = nI (28 * k + 4) ∧ s.1 0 43 = 0 ∧ mvFr σ s ∧ (∀ i, i ≠ 29 → s.2.1 i = σ.2.1 i) ∧ (∀ j, j < 4 → s.2.1 29 (28 * k + j) = σ.2.1 1 (4 + j)) ∧ (∀ j, j < 28 * k ∨ 28 * k + 4 ≤ j → s.2.1 29 j = σ.2.1 29 j) := by
    have hF : 8 < i_F := i_F_gt (by omega)
    generalize i_F = F at hF ⊢
    rw [show (4 : Int32) = nI 4 from by decide]
    refine lpI (L := fun m q s => fX12_movesAll_L15 sh (nI k) 0 (fun (x54 : Int32) (s55 : St) => fX12_movesAll_X43 sh (nI k) 0 x54 s55) m (nI q) s) (E := fun r => ∃ s, r = fX12_movesAll_X43 sh (nI k) 0 (nI 8) s ∧ s.1 0 42 = nI (28 * k + 4) ∧ s.1 0 43 = 0 ∧ mvFr σ s ∧ (∀ i, i ≠ 29 → s.2.1 i = σ.2.1 i) ∧ (∀ j, j < 4 → s.2.1 29 (28 * k + j) = σ.2.1 1 (4 + j)) ∧ (∀ j, j < 28 * k ∨ 28 * k + 4 ≤ j → s.2.1 29 j = σ.2.1 29 j)) (fun q s => 4 ≤ q ∧ s.1 0 42 = nI (28 * k + (q - 4)) ∧ s.1 0 43 = 0 ∧ mvFr σ s ∧ (∀ i, i ≠ 29 → s.2.1 i = σ.2.1 i) ∧ (∀ j, j < q - 4 → s.2.1 29 (28 * k + j) = σ.2.1 1 (4 + j)) ∧ (∀ j, j < 28 * k ∨ 28 * k + (q - 4) ≤ j → s.2.1 29 j = σ.2.1 29 j)) 8 (fun m q s hq hI => Or.inl ?_) (fun m s hI => ?_) 4 F 4 s0 rfl (by omega) ⟨Nat.le_refl _, b1, b2, b3, fun i _ => by rw [b4], fun j hj => by omega, fun j _ => by rw [b4]⟩
    · obtain ⟨i0, i1, i2, i3, i4, i5, i6⟩ := hI
      refine ⟨s_F (s_A s 29 (28 * k + (q - 4)) (σ.2.1 1 q)) 0 42 (nI (28 * k + (q - 4) + 1)), ?_, by omega, ?_, ?_, ⟨fun i q hq => ?_, i3.2⟩, fun i hi => ?_, fun j hj => ?_, fun j hj => ?_⟩
      · have hok : i_ok (nI q) 11 := ok_nI (by omega) (by omega)
        rw [fX12_movesAll_L15, n8, if_neg (nI_ge hq (by omega))]
        simp only [if_pos hok, nI_clamp (show q < 2 ^ 31 by omega)]
        rw [i4 1 (by decide), movesF i2 i1 (by omega), bd_some, nI_1, s_A_self]
        rw [s_F_A, s_A_ne (by decide), i4 1 (by decide)]
      · rw [s_F_rd, if_pos ⟨rfl, rfl⟩, show 28 * k + (q - 4) + 1 = 28 * k + (q + 1 - 4) by omega]
      · rw [s_F_rd, if_neg (by omega), s_A_F, i2]
      · rw [s_F_rd, if_neg (by omega), s_A_F, i3.1 i q hq]
      · rw [s_F_A, s_A_ne hi, i4 i hi]
      · rw [s_F_A, s_A_rd]
        by_cases hjk : j = q - 4
        · rw [if_pos ⟨rfl, by omega⟩, hjk, show 4 + (q - 4) = q by omega]
        · rw [if_neg (fun e => hjk (by omega))]
          exact i5 j (by omega)
      · rw [s_F_A, s_A_rd, if_neg (fun e => by omega)]
        exact i6 j (by omega)
    · obtain ⟨i0, i1, i2, i3, i4, i5, i6⟩ := hI
      refine ⟨s, ?_, i1, i2, i3, i4, i5, i6⟩
      rw [fX12_movesAll_L15, n8, if_pos (nI_le (Nat.le_refl _) (by omega))]
  obtain ⟨s, e0, e1, e2, e3, e4, e5, e6⟩ := hsc
  rw [e0]
  unfold fX12_movesAll_X43
  obtain ⟨t1, p1, p2, p3, p4, p5, p6, p7⟩ := movF (sR_4 hsh) (by decide) e2 e1 (by omega)
  obtain ⟨t2, q1, q2, q3, q4, q5, q6, q7⟩ := movF (sR_6 hsh) (by decide) p3 p2 (by omega)
  obtain ⟨t3, r1, r2, r3, r4, r5, r6, r7⟩ := movF (sR_8 hsh) (by decide) q3 q2 (by omega)
  obtain ⟨t4, u1, u2, u3, u4, u5, u6, u7⟩ := movF (sR_9 hsh) (by decide) r3 r2 (by omega)
  rw [p1, bd_some, q1, bd_some, r1, bd_some, u1, bd_some]
  refine ⟨t4, rfl, ⟨?_, ?_, ?_, ?_, fun j hj => ?_, fun j hj => ?_, fun j hj => ?_, fun j hj => ?_⟩, fun j hj => ?_, fun i hi => ?_, mvFr_trans e3 (mvFr_trans p4 (mvFr_trans q4 (mvFr_trans r4 u4)))⟩
  · rw [u7 _ (by omega), r7 _ (by omega), q7 _ (by omega), p7 _ (by omega)]
    exact e5 0 (by omega)
  · rw [u7 _ (by omega), r7 _ (by omega), q7 _ (by omega), p7 _ (by omega)]
    exact e5 1 (by omega)
  · rw [u7 _ (by omega), r7 _ (by omega), q7 _ (by omega), p7 _ (by omega)]
    exact e5 2 (by omega)
  · rw [u7 _ (by omega), r7 _ (by omega), q7 _ (by omega), p7 _ (by omega)]
    exact e5 3 (by omega)
  · rw [u7 _ (by omega), r7 _ (by omega), q7 _ (by omega), p6 j hj, e4 4 (by decide)]
    exact (tr_at hj).symm
  · rw [u7 _ (by omega), r7 _ (by omega), q6 j hj, p5 6 (by decide), e4 6 (by decide)]
    exact (tr_at hj).symm
  · rw [u7 _ (by omega), r6 j hj, q5 8 (by decide), p5 8 (by decide), e4 8 (by decide)]
    exact (tr_at hj).symm
  · rw [u6 j hj, r5 9 (by decide), q5 9 (by decide), p5 9 (by decide), e4 9 (by decide)]
    exact (tr_at hj).symm
  · rw [u7 _ (by omega), r7 _ (by omega), q7 _ (by omega), p7 _ (by omega), e6 _ (by omega)]
  · rw [u5 i hi, r5 i hi, q5 i hi, p5 i hi, e4 i hi]
theorem movAllB {sh : List kd} (hsh : rmSh sh) {σ : St} {k : Nat} {l : Lf} (hk : k < 20) (hl : lfAt (σ.2.1 29) (28 * k) l) (hc : cn l) : ∃ τ, fX12_movesAll sh σ (nI k) 1 = some ((), τ) ∧ LfR τ = l ∧ (∀ i, i ≠ 1 → i ≠ 4 → i ≠ 6 → i ≠ 8 → i ≠ 9 → τ.2.1 i = σ.2.1 i) ∧ (∀ j, j ≠ 4 → j ≠ 5 → j ≠ 6 → j ≠ 7 → τ.2.1 1 j = σ.2.1 1 j) ∧ mvFr σ τ := by
  unfold fX12_movesAll
  rw [if_pos okf1, show (28 : Int32) = nI 28 from by decide, nI_mul]
  have b1 : (s_F (s_F σ 0 42 (nI (28 * k))) 0 43 1).1 0 42 = nI (28 * k) := by rw [s_F_rd, if_neg (by omega), s_F_rd, if_pos ⟨rfl, rfl⟩]
  have b2 : (s_F (s_F σ 0 42 (nI (28 * k))) 0 43 1).1 0 43 = 1 := by rw [s_F_rd, if_pos ⟨rfl, rfl⟩]
  have b3 : mvFr σ (s_F (s_F σ 0 42 (nI (28 * k))) 0 43 1) := ⟨fun i q hq => by rw [s_F_rd, if_neg (by omega), s_F_rd, if_neg (by omega)], rfl⟩
  have b4 : (s_F (s_F σ 0 42 (nI (28 * k))) 0 43 1).2.1 = σ.2.1 := rfl
  generalize s_F (s_F σ 0 42 (nI (28 * k))) 0 43 1 = s0 at b1 b2 b3 b4
  have hsc : ∃ s, fX12_movesAll_L15 sh (nI k) 1 (fun (x54 : Int32) (s55 : St) => fX12_movesAll_X43 sh (nI k) 1 x54 s55) i_F 4 s0 = fX12_movesAll_X43 sh (nI k) 1 (nI 8) s ∧ s.1 0 42 = nI (28 * k + 4) ∧ s.1 0 43 = 1 ∧ mvFr σ s ∧ (∀ i, i ≠ 1 → s.2.1 i = σ.2.1 i) ∧ (∀ j, j < 4 → s.2.1 1 (4 + j) = σ.2.1 29 (28 * k + j)) ∧ (∀ j, j < 4 ∨ 8 ≤ j → s.2.1 1 j = σ.2.1 1 j) := by
    have hF : 8 < i_F := i_F_gt (by omega)
    generalize i_F = F at hF ⊢
    rw [show (4 : Int32) = nI 4 from by decide]
    refine lpI (L := fun m q s => fX12_movesAll_L15 sh (nI k) 1 (fun (x54 : Int32) (s55 : St) => fX12_movesAll_X43 sh (nI k) 1 x54 s55) m (nI q) s) (E := fun r => ∃ s, r = fX12_movesAll_X43 sh (nI k) 1 (nI 8) s ∧ s.1 0 42 = nI (28 * k + 4) ∧ s.1 0 43 = 1 ∧ mvFr σ s ∧ (∀ i, i ≠ 1 → s.2.1 i = σ.2.1 i) ∧ (∀ j, j < 4 → s.2.1 1 (4 + j) = σ.2.1 29 (28 * k + j)) ∧ (∀ j, j < 4 ∨ 8 ≤ j → s.2.1 1 j = σ.2.1 1 j)) (fun q s => 4 ≤ q ∧ s.1 0 42 = nI (28 * k + (q - 4)) ∧ s.1 0 43 = 1 ∧ mvFr σ s ∧ (∀ i, i ≠ 1 → s.2.1 i = σ.2.1 i) ∧ (∀ j, j < q - 4 → s.2.1 1 (4 + j) = σ.2.1 29 (28 * k + j)) ∧ (∀ j, j < 4 ∨ q ≤ j → s.2.1 1 j = σ.2.1 1 j)) 8 (fun m q s hq hI => Or.inl ?_) (fun m s hI => ?_) 4 F 4 s0 rfl (by omega) ⟨Nat.le_refl _, b1, b2, b3, fun i _ => by rw [b4], fun j hj => by omega, fun j _ => by rw [b4]⟩
    · obtain ⟨i0, i1, i2, i3, i4, i5, i6⟩ := hI
      refine ⟨s_A (s_F s 0 42 (nI (28 * k + (q - 4) + 1))) 1 q (σ.2.1 29 (28 * k + (q - 4))), ?_, by omega, ?_, ?_, ⟨fun i q hq => ?_, i3.2⟩, fun i hi => ?_, fun j hj => ?_, fun j hj => ?_⟩
      · have hok : i_ok (nI q) 11 := ok_nI (by omega) (by omega)
        rw [fX12_movesAll_L15, n8, if_neg (nI_ge hq (by omega))]
        simp only [if_pos hok, nI_clamp (show q < 2 ^ 31 by omega)]
        rw [movesB i2 i1 (by omega), bd_some, nI_1, i4 29 (by decide)]
      · rw [s_A_F, s_F_rd, if_pos ⟨rfl, rfl⟩, show 28 * k + (q - 4) + 1 = 28 * k + (q + 1 - 4) by omega]
      · rw [s_A_F, s_F_rd, if_neg (by omega), i2]
      · rw [s_A_F, s_F_rd, if_neg (by omega), i3.1 i q hq]
      · rw [s_A_ne hi, s_F_A, i4 i hi]
      · rw [s_A_rd]
        by_cases hjk : j = q - 4
        · rw [if_pos ⟨rfl, by omega⟩, hjk]
        · rw [if_neg (fun e => hjk (by omega)), s_F_A]
          exact i5 j (by omega)
      · rw [s_A_rd, if_neg (fun e => by omega), s_F_A]
        exact i6 j (by omega)
    · obtain ⟨i0, i1, i2, i3, i4, i5, i6⟩ := hI
      refine ⟨s, ?_, i1, i2, i3, i4, i5, i6⟩
      rw [fX12_movesAll_L15, n8, if_pos (nI_le (Nat.le_refl _) (by omega))]
  obtain ⟨s, e0, e1, e2, e3, e4, e5, e6⟩ := hsc
  rw [e0]
  unfold fX12_movesAll_X43
  obtain ⟨t1, p1, p2, p3, p4, p5, p6⟩ := movB (sR_4 hsh) (by decide) e2 e1 (by omega)
  obtain ⟨t2, q1, q2, q3, q4, q5, q6⟩ := movB (sR_6 hsh) (by decide) p3 p2 (by omega)
  obtain ⟨t3, r1, r2, r3, r4, r5, r6⟩ := movB (sR_8 hsh) (by decide) q3 q2 (by omega)
  obtain ⟨t4, u1, u2, u3, u4, u5, u6⟩ := movB (sR_9 hsh) (by decide) r3 r2 (by omega)
  rw [p1, bd_some, q1, bd_some, r1, bd_some, u1, bd_some]
  obtain ⟨h1, h2, h3, h4, h5, h6, h7, h8⟩ := hl
  have k1 : t4.2.1 1 = s.2.1 1 := by rw [u5 1 (by decide), r5 1 (by decide), q5 1 (by decide), p5 1 (by decide)]
  refine ⟨t4, rfl, LfR_mk hc ?_ ?_ ?_ ?_ (fun j hj => ?_) (fun j hj => ?_) (fun j hj => ?_) (fun j hj => ?_), fun i g1 g4 g6 g8 g9 => ?_, fun j g4 g5 g6 g7 => ?_, mvFr_trans e3 (mvFr_trans p4 (mvFr_trans q4 (mvFr_trans r4 u4)))⟩
  · rw [k1, e5 0 (by omega)]
    exact h1
  · rw [k1, e5 1 (by omega)]
    exact h2
  · rw [k1, e5 2 (by omega)]
    exact h3
  · rw [k1, e5 3 (by omega)]
    exact h4
  · rw [u5 4 (by decide), r5 4 (by decide), q5 4 (by decide), p6 j hj, e4 29 (by decide)]
    exact h5 j hj
  · rw [u5 6 (by decide), r5 6 (by decide), q6 j hj, p5 29 (by decide), e4 29 (by decide)]
    exact h6 j hj
  · rw [u5 8 (by decide), r6 j hj, q5 29 (by decide), p5 29 (by decide), e4 29 (by decide)]
    exact h7 j hj
  · rw [u6 j hj, r5 29 (by decide), q5 29 (by decide), p5 29 (by decide), e4 29 (by decide)]
    exact h8 j hj
  · rw [u5 i g9, r5 i g8, q5 i g6, p5 i g4, e4 i g1]
  · rw [k1, e6 j (by omega)]
def pstR (σ : St) (pst : List Lf) : Prop := σ.1 0 41 = nI pst.length ∧ ∀ i l, pst[i]? = some l → lfAt (σ.2.1 29) (28 * i) l
/-- what an ACT that is kept leaves alone -/
def frK (σ τ : St) : Prop := (∀ i q, ¬ (i = 0 ∧ (q = 41 ∨ q = 42 ∨ q = 43)) → τ.1 i q = σ.1 i q) ∧ (∀ i, i ≠ 29 → τ.2.1 i = σ.2.1 i) ∧ τ.2.2 = σ.2.2
theorem keepAct {sh : List kd} (hsh : rmSh sh) {σ : St} {pst : List Lf} {lf : Lf} (hp : pstR σ pst) (hlen : pst.length ≤ 20) (hl : LfR σ = lf) : ∃ τ, fX12_keepsAct sh σ = some ((), τ) ∧ pstR τ (pushP pst lf) ∧ frK σ τ := by
  obtain ⟨f1, f2⟩ := hp
  unfold fX12_keepsAct
  rw [f1, show (20 : Int32) = nI 20 from by decide]
  by_cases h20 : pst.length < 20
  · rw [if_pos (nI_ne (by omega) (by omega) (by omega))]
    obtain ⟨τ, t1, t2, t3, t4, t5⟩ := movAllF hsh (σ := σ) (k := pst.length) h20
    rw [t1, bd_some, t5.1 0 41 (by omega), f1, nI_1]
    refine ⟨s_F τ 0 41 (nI (pst.length + 1)), rfl, ⟨?_, fun i l hi => ?_⟩, ⟨fun i q hq => ?_, t4, t5.2⟩⟩
    · rw [s_F_rd, if_pos ⟨rfl, rfl⟩, push_len hlen, if_pos h20]
    · unfold pushP at hi
      rw [if_pos h20] at hi
      rw [s_F_A]
      by_cases hin : i < pst.length
      · rw [List.getElem?_append_left hin] at hi
        exact lfAt_ext (f2 i l hi) (fun j h1 h2 => t3 j (by omega))
      · rw [List.getElem?_append_right (by omega)] at hi
        have h0 : i = pst.length := by
          by_cases h1 : i - pst.length = 0
          · omega
          · obtain ⟨z, hz⟩ : ∃ z, i - pst.length = z + 1 := ⟨_, (Nat.succ_pred h1).symm⟩
            rw [hz] at hi
            cases hi
        subst h0
        rw [Nat.sub_self] at hi
        cases hi
        rw [← hl]
        exact t2
    · rw [s_F_rd, if_neg (by omega), t5.1 i q (by omega)]
  · have hl20 : pst.length = 20 := by omega
    rw [if_neg (not_not_intro (by rw [hl20]))]
    have hsft : ∃ s, fX12_keepsAct_L12 sh (fun (x107 : Int32) (s108 : St) => fX12_keepsAct_X40 sh x107 s108) i_F 28 σ = fX12_keepsAct_X40 sh (nI 560) s ∧ s.1 = σ.1 ∧ s.2.2 = σ.2.2 ∧ (∀ i, i ≠ 29 → s.2.1 i = σ.2.1 i) ∧ ∀ j, s.2.1 29 j = if j + 28 < 560 then σ.2.1 29 (j + 28) else σ.2.1 29 j := by
      have hF : 560 < i_F := i_F_gt (by omega)
      generalize i_F = F at hF ⊢
      rw [show (28 : Int32) = nI 28 from by decide]
      refine lpI (L := fun m k s => fX12_keepsAct_L12 sh (fun (x107 : Int32) (s108 : St) => fX12_keepsAct_X40 sh x107 s108) m (nI k) s) (E := fun r => ∃ s, r = fX12_keepsAct_X40 sh (nI 560) s ∧ s.1 = σ.1 ∧ s.2.2 = σ.2.2 ∧ (∀ i, i ≠ 29 → s.2.1 i = σ.2.1 i) ∧ ∀ j, s.2.1 29 j = if j + 28 < 560 then σ.2.1 29 (j + 28) else σ.2.1 29 j) (fun k s => 28 ≤ k ∧ s.1 = σ.1 ∧ s.2.2 = σ.2.2 ∧ (∀ i, i ≠ 29 → s.2.1 i = σ.2.1 i) ∧ ∀ j, s.2.1 29 j = if j + 28 < k then σ.2.1 29 (j + 28) else σ.2.1 29 j) 560 (fun m k s hk hI => Or.inl ?_) (fun m s hI => ?_) 532 F 28 σ rfl (by omega) ⟨Nat.le_refl _, rfl, rfl, fun _ _ => rfl, fun j => by rw [if_neg (by omega)]⟩
      · obtain ⟨i0, i1, i2, i3, i4⟩ := hI
        refine ⟨s_A s 29 (k - 28) (σ.2.1 29 k), ?_, by omega, i1, i2, fun i hi => by rw [s_A_ne hi, i3 i hi], fun j => ?_⟩
        · rw [fX12_keepsAct_L12, show (560 : Int32) = nI 560 from by decide, if_neg (nI_ge hk (by omega)), if_pos (ok_nI hk (by omega)), show (28 : Int32) = nI 28 from by decide, nI_sub i0, if_pos (ok_nI (by omega) (by omega)), nI_clamp (by omega), nI_clamp (by omega), nI_1, i4 k, if_neg (by omega)]
        · rw [s_A_rd]
          by_cases hj : j = k - 28
          · rw [if_pos ⟨rfl, hj⟩, if_pos (by omega), show j + 28 = k by omega]
          · rw [if_neg (fun e => hj e.2), i4 j]
            by_cases hj2 : j + 28 < k
            · rw [if_pos hj2, if_pos (by omega)]
            · rw [if_neg hj2, if_neg (by omega)]
      · obtain ⟨i0, i1, i2, i3, i4⟩ := hI
        refine ⟨s, ?_, i1, i2, i3, i4⟩
        rw [fX12_keepsAct_L12, show (560 : Int32) = nI 560 from by decide, if_pos (nI_le (Nat.le_refl _) (by omega))]
    obtain ⟨s, e0, e1, e2, e3, e4⟩ := hsft
    rw [e0]
    unfold fX12_keepsAct_X40
    have g1 : (s_F s 0 41 (s.1 0 41 - 1)).1 0 41 = nI 19 := by rw [s_F_rd, if_pos ⟨rfl, rfl⟩, e1, f1, hl20]; decide
    have g2 : ∀ i q, ¬ (i = 0 ∧ q = 41) → (s_F s 0 41 (s.1 0 41 - 1)).1 i q = σ.1 i q := fun i q hq => by rw [s_F_rd, if_neg hq, e1]
    have g3 : (s_F s 0 41 (s.1 0 41 - 1)).2 = s.2 := rfl
    generalize s_F s 0 41 (s.1 0 41 - 1) = s' at g1 g2 g3
    rw [g1]
    obtain ⟨τ, t1, t2, t3, t4, t5⟩ := movAllF hsh (σ := s') (k := 19) (by omega)
    have hL : LfR s' = lf := by
      rw [← hl]
      unfold LfR
      rw [g3, e3 1 (by decide), e3 6 (by decide), e3 8 (by decide), e3 9 (by decide), e3 4 (by decide)]
    rw [t1, bd_some, t5.1 0 41 (by omega), g1, nI_1]
    refine ⟨s_F τ 0 41 (nI (19 + 1)), rfl, ⟨?_, fun i l hi => ?_⟩, ⟨fun i q hq => ?_, fun i hi => ?_, ?_⟩⟩
    · rw [s_F_rd, if_pos ⟨rfl, rfl⟩, push_len hlen, if_neg h20]
    · unfold pushP at hi
      rw [if_neg h20] at hi
      rw [s_F_A]
      have hdl : (pst.drop 1).length = 19 := by rw [List.length_drop, hl20]
      by_cases hin : i < 19
      · rw [List.getElem?_append_left (by omega), List.getElem?_drop] at hi
        have h0 := f2 (1 + i) l hi
        obtain ⟨h1, h2, h3, h4, h5, h6, h7, h8⟩ := h0
        have ev : ∀ j, j < 28 * i + 28 → τ.2.1 29 j = σ.2.1 29 (j + 28) := fun j hj => by rw [t3 j (by omega), g3, e4, if_pos (by omega)]
        refine ⟨?_, ?_, ?_, ?_, fun j hj => ?_, fun j hj => ?_, fun j hj => ?_, fun j hj => ?_⟩
        · rw [ev _ (by omega), ← h1, show 28 * i + 28 = 28 * (1 + i) by omega]
        · rw [ev _ (by omega), ← h2, show 28 * i + 1 + 28 = 28 * (1 + i) + 1 by omega]
        · rw [ev _ (by omega), ← h3, show 28 * i + 2 + 28 = 28 * (1 + i) + 2 by omega]
        · rw [ev _ (by omega), ← h4, show 28 * i + 3 + 28 = 28 * (1 + i) + 3 by omega]
        · rw [ev _ (by omega), ← h5 j hj, show 28 * i + 4 + j + 28 = 28 * (1 + i) + 4 + j by omega]
        · rw [ev _ (by omega), ← h6 j hj, show 28 * i + 10 + j + 28 = 28 * (1 + i) + 10 + j by omega]
        · rw [ev _ (by omega), ← h7 j hj, show 28 * i + 16 + j + 28 = 28 * (1 + i) + 16 + j by omega]
        · rw [ev _ (by omega), ← h8 j hj, show 28 * i + 22 + j + 28 = 28 * (1 + i) + 22 + j by omega]
      · rw [List.getElem?_append_right (by omega), hdl] at hi
        have h0 : i = 19 := by
          by_cases h1 : i - 19 = 0
          · omega
          · obtain ⟨z, hz⟩ : ∃ z, i - 19 = z + 1 := ⟨_, (Nat.succ_pred h1).symm⟩
            rw [hz] at hi
            cases hi
        subst h0
        cases hi
        rw [← hL]
        exact t2
    · rw [s_F_rd, if_neg (by omega), t5.1 i q (by omega), g2 i q (by omega)]
    · rw [s_F_A, t4 i hi, g3, e3 i hi]
    · show τ.2.2 = _
      rw [t5.2, g3, e2]
