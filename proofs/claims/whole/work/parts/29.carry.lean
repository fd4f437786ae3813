/-! ===== rows copied ===== -/
theorem s_C_rd {σ : St} {i j sp dp n i' : Nat} : (s_C σ i j sp dp n).2.1 i' = if i' = j then va_cpy (σ.2.1 i) (σ.2.1 j) sp dp n else σ.2.1 i' := by
  funext q
  show (if i' = j then va_cpy (σ.2.1 i) (σ.2.1 j) sp dp n q else σ.2.1 i' q) = _
  split <;> rfl
theorem s_C_at {σ : St} {i j sp dp n : Nat} : (s_C σ i j sp dp n).2.1 j = va_cpy (σ.2.1 i) (σ.2.1 j) sp dp n := by rw [s_C_rd, if_pos rfl]
theorem s_C_ne {σ : St} {i j sp dp n i' : Nat} (h : i' ≠ j) : (s_C σ i j sp dp n).2.1 i' = σ.2.1 i' := by rw [s_C_rd, if_neg h]
theorem s_C_F {σ : St} {i j sp dp n : Nat} : (s_C σ i j sp dp n).1 = σ.1 := Eq.trans rfl rfl
theorem s_C_LQ {σ : St} {i j sp dp n : Nat} : (s_C σ i j sp dp n).2.2 = σ.2.2 := Eq.trans rfl rfl
theorem cpy_in {α : Type} {f g : Nat → α} {sp dp n k : Nat} (h1 : dp ≤ k) (h2 : k < dp + n) : va_cpy f g sp dp n k = f (sp + (k - dp)) := if_pos ⟨h1, h2⟩
theorem cpy_out {α : Type} {f g : Nat → α} {sp dp n k : Nat} (h : k < dp ∨ dp + n ≤ k) : va_cpy f g sp dp n k = g k := if_neg (by omega)
theorem s_C_0 {σ : St} {i j sp dp : Nat} : s_C σ i j sp dp 0 = σ := by
  refine Prod.ext rfl (Prod.ext (funext fun i' => ?_) rfl)
  show (s_C σ i j sp dp 0).2.1 i' = σ.2.1 i'
  rw [s_C_rd]
  split
  · next h =>
    subst h
    funext q
    exact cpy_out (by omega)
  · rfl
theorem s_C_step {σ : St} {i j sp dp k : Nat} : s_A (s_C σ i j sp dp k) j (dp + k) (σ.2.1 i (sp + k)) = s_C σ i j sp dp (k + 1) := by
  refine Prod.ext rfl (Prod.ext (funext fun i' => funext fun q => ?_) rfl)
  show (s_A (s_C σ i j sp dp k) j (dp + k) (σ.2.1 i (sp + k))).2.1 i' q = (s_C σ i j sp dp (k + 1)).2.1 i' q
  rw [s_A_rd, s_C_rd, s_C_rd]
  by_cases h : i' = j
  · subst h
    rw [if_pos rfl, if_pos rfl]
    by_cases hq : q = dp + k
    · rw [if_pos ⟨rfl, hq⟩, hq, cpy_in (by omega) (by omega), show dp + k - dp = k by omega]
    · rw [if_neg (fun e => hq e.2)]
      by_cases hi : dp ≤ q ∧ q < dp + k
      · rw [cpy_in hi.1 hi.2, cpy_in hi.1 (by omega)]
      · rw [cpy_out (by omega), cpy_out (by omega)]
  · rw [if_neg (fun e => h e.1), if_neg h, if_neg h]
theorem s_F_self {σ : St} {i k : Nat} {x : Int32} (h : σ.1 i k = x) : s_F σ i k x = σ := by
  refine Prod.ext (funext fun i' => funext fun k' => ?_) rfl
  show (if i' = i ∧ k' = k then x else σ.1 i' k') = σ.1 i' k'
  split
  · next e => rw [e.1, e.2, h]
  · rfl
theorem s_A_self {σ : St} {i k : Nat} {x : Int32} (h : σ.2.1 i k = x) : s_A σ i k x = σ := by
  refine Prod.ext rfl (Prod.ext (funext fun i' => funext fun k' => ?_) rfl)
  show (if i' = i ∧ k' = k then x else σ.2.1 i' k') = σ.2.1 i' k'
  split
  · next e => rw [e.1, e.2, h]
  · rfl
theorem s_F_F {σ : St} {i k : Nat} {x y : Int32} : s_F (s_F σ i k x) i k y = s_F σ i k y := by
  refine Prod.ext (funext fun i' => funext fun k' => ?_) rfl
  show (if i' = i ∧ k' = k then y else if i' = i ∧ k' = k then x else σ.1 i' k') = (if i' = i ∧ k' = k then y else σ.1 i' k')
  split <;> rfl
theorem s_A_s_F {σ : St} {i k i' k' : Nat} {x y : Int32} : s_A (s_F σ i k x) i' k' y = s_F (s_A σ i' k' y) i k x := Eq.trans rfl rfl
theorem carryF {sh : List kd} {σ : St} {p n at' : Nat} (h : sh[p]? = some (.inl (.int, n))) (hp : p ≠ 36) (h52 : σ.1 0 52 = 0) (h51 : σ.1 0 51 = nI at') (hb : at' + n ≤ 3500) :
    fX12_carryRow sh σ p = some ((), s_F (s_C σ p 36 0 at' n) 0 51 (nI (at' + n))) := by
  unfold fX12_carryRow
  have hF : n < i_F := i_F_gt (by omega)
  generalize i_F = F at hF ⊢
  have key : ∀ (m N k : Nat), k + m = n → m < N → fX12_carryRow_L2 sh p N (nI k) (s_F (s_C σ p 36 0 at' k) 0 51 (nI (at' + k))) = some ((), s_F (s_C σ p 36 0 at' n) 0 51 (nI (at' + n))) := by
    intro m
    induction m with
    | zero =>
      intro N k hk hN
      obtain ⟨N, rfl⟩ : ∃ n', N = n' + 1 := ⟨N - 1, by omega⟩
      have hkn : k = n := by omega
      subst hkn
      rw [fX12_carryRow_L2, i_al_at h, ofN, if_pos (nI_le (Nat.le_refl _) (by omega))]
    | succ m ih =>
      intro N k hk hN
      obtain ⟨N, rfl⟩ : ∃ n', N = n' + 1 := ⟨N - 1, by omega⟩
      have e52 : (s_F (s_C σ p 36 0 at' k) 0 51 (nI (at' + k))).1 0 52 = 0 := by rw [s_F_rd, if_neg (by omega), s_C_F]; exact h52
      have e51 : (s_F (s_C σ p 36 0 at' k) 0 51 (nI (at' + k))).1 0 51 = nI (at' + k) := by rw [s_F_rd, if_pos ⟨rfl, rfl⟩]
      have ep : (s_F (s_C σ p 36 0 at' k) 0 51 (nI (at' + k))).2.1 p = σ.2.1 p := by rw [s_F_A, s_C_ne hp]
      have hcl : (nI k).toNatClampNeg = k := nI_clamp (by omega)
      have hca : (nI (at' + k)).toNatClampNeg = at' + k := nI_clamp (by omega)
      rw [fX12_carryRow_L2, i_al_at h, ofN, if_neg (nI_ge (by omega) (by omega)), e52, if_pos rfl, i_al_at h, if_pos (ok_nI (by omega) (by omega)), e51, if_pos (ok_nI (by omega) (by omega)), ep, hcl, hca]
      unfold fX12_carryRow_J42
      rw [s_A_s_F, s_F_rd, if_pos ⟨rfl, rfl⟩, s_F_F, nI_1, nI_1]
      have hs := s_C_step (σ := σ) (i := p) (j := 36) (sp := 0) (dp := at') (k := k)
      rw [Nat.zero_add] at hs
      rw [hs]
      exact ih N (k + 1) (by omega) (by omega)
  have h0 := key n F 0 (by omega) hF
  rw [s_C_0, Nat.add_zero, s_F_self h51, nI_0] at h0
  exact h0
theorem carryB {sh : List kd} {σ : St} {p n at' : Nat} (h : sh[p]? = some (.inl (.int, n))) (hp : p ≠ 36) (h52 : σ.1 0 52 = 1) (h51 : σ.1 0 51 = nI at') (hb : at' + n ≤ 3500) :
    fX12_carryRow sh σ p = some ((), s_F (s_C σ 36 p at' 0 n) 0 51 (nI (at' + n))) := by
  unfold fX12_carryRow
  have hF : n < i_F := i_F_gt (by omega)
  generalize i_F = F at hF ⊢
  have key : ∀ (m N k : Nat), k + m = n → m < N → fX12_carryRow_L2 sh p N (nI k) (s_F (s_C σ 36 p at' 0 k) 0 51 (nI (at' + k))) = some ((), s_F (s_C σ 36 p at' 0 n) 0 51 (nI (at' + n))) := by
    intro m
    induction m with
    | zero =>
      intro N k hk hN
      obtain ⟨N, rfl⟩ : ∃ n', N = n' + 1 := ⟨N - 1, by omega⟩
      have hkn : k = n := by omega
      subst hkn
      rw [fX12_carryRow_L2, i_al_at h, ofN, if_pos (nI_le (Nat.le_refl _) (by omega))]
    | succ m ih =>
      intro N k hk hN
      obtain ⟨N, rfl⟩ : ∃ n', N = n' + 1 := ⟨N - 1, by omega⟩
      have e52 : (s_F (s_C σ 36 p at' 0 k) 0 51 (nI (at' + k))).1 0 52 = 1 := by rw [s_F_rd, if_neg (by omega), s_C_F]; exact h52
      have e51 : (s_F (s_C σ 36 p at' 0 k) 0 51 (nI (at' + k))).1 0 51 = nI (at' + k) := by rw [s_F_rd, if_pos ⟨rfl, rfl⟩]
      have ep : (s_F (s_C σ 36 p at' 0 k) 0 51 (nI (at' + k))).2.1 36 = σ.2.1 36 := by rw [s_F_A, s_C_ne (Ne.symm hp)]
      have hcl : (nI k).toNatClampNeg = k := nI_clamp (by omega)
      have hca : (nI (at' + k)).toNatClampNeg = at' + k := nI_clamp (by omega)
      rw [fX12_carryRow_L2, i_al_at h, ofN, if_neg (nI_ge (by omega) (by omega)), e52, if_neg (by decide), e51, if_pos (ok_nI (by omega) (by omega)), i_al_at h, if_pos (ok_nI (by omega) (by omega)), ep, hcl, hca]
      unfold fX12_carryRow_J42
      rw [s_A_s_F, s_F_rd, if_pos ⟨rfl, rfl⟩, s_F_F, nI_1, nI_1]
      have hs := s_C_step (σ := σ) (i := 36) (j := p) (sp := at') (dp := 0) (k := k)
      rw [Nat.zero_add] at hs
      rw [hs]
      exact ih N (k + 1) (by omega) (by omega)
  have h0 := key n F 0 (by omega) hF
  rw [s_C_0, Nat.add_zero, s_F_self h51, nI_0] at h0
  exact h0
/-! ===== the reference keeps all, and lays it back ===== -/
/-- what slot 4 keeps of σ0 -/
def KeptOf (σ0 σ : St) : Prop := (∀ j, j < 11 → σ.2.1 36 (2800 + j) = σ0.2.1 1 j) ∧ (∀ j, j < 6 → σ.2.1 36 (2811 + j) = σ0.2.1 4 j) ∧ (∀ j, j < 6 → σ.2.1 36 (2817 + j) = σ0.2.1 6 j) ∧ (∀ j, j < 6 → σ.2.1 36 (2823 + j) = σ0.2.1 8 j) ∧ (∀ j, j < 6 → σ.2.1 36 (2829 + j) = σ0.2.1 9 j)
/-- nothing that lasts differs but, it may be, what slot 4 keeps: scalars, life -/
def agS (σ τ : St) : Prop := (∀ i k, ¬ (i = 0 ∧ (k = 51 ∨ k = 52)) → τ.1 i k = σ.1 i k) ∧ (∀ i, i ≠ 1 → i ≠ 4 → i ≠ 6 → i ≠ 8 → i ≠ 9 → i ≠ 31 → i ≠ 32 → i ≠ 33 → i ≠ 34 → i ≠ 35 → i ≠ 36 → τ.2.1 i = σ.2.1 i) ∧ (∀ j, j < 2800 → τ.2.1 36 j = σ.2.1 36 j) ∧ (∀ j, j < 4 ∨ j = 8 → τ.2.1 1 j = σ.2.1 1 j) ∧ τ.2.2.2 = σ.2.2.2
theorem agS_refl {σ : St} : agS σ σ := ⟨fun _ _ _ => rfl, fun _ _ _ _ _ _ _ _ _ _ _ _ => rfl, fun _ _ => rfl, fun _ _ => rfl, rfl⟩
theorem agS_trans {σ τ υ : St} (h : agS σ τ) (g : agS τ υ) : agS σ υ := ⟨fun i k hk => (g.1 i k hk).trans (h.1 i k hk), fun i a b c d e f1 f2 f3 f4 f5 f6 => (g.2.1 i a b c d e f1 f2 f3 f4 f5 f6).trans (h.2.1 i a b c d e f1 f2 f3 f4 f5 f6), fun j hj => (g.2.2.1 j hj).trans (h.2.2.1 j hj), fun j hj => (g.2.2.2.1 j hj).trans (h.2.2.2.1 j hj), g.2.2.2.2.trans h.2.2.2.2⟩
/-- all that lasts is the same -/
def agR (σ τ : St) : Prop := agS σ τ ∧ (∀ j, j < 11 → τ.2.1 1 j = σ.2.1 1 j) ∧ (∀ j, j < 6 → τ.2.1 4 j = σ.2.1 4 j) ∧ (∀ j, j < 6 → τ.2.1 6 j = σ.2.1 6 j) ∧ (∀ j, j < 6 → τ.2.1 8 j = σ.2.1 8 j) ∧ (∀ j, j < 6 → τ.2.1 9 j = σ.2.1 9 j)
theorem i2800 : 700 * (4 : Int32) = nI 2800 := by decide
theorem okf0 : i_okf .boolean (.int 0) = true := by decide
theorem okf1 : i_okf .boolean (.int 1) = true := by decide
theorem keepR2 {sh : List kd} (hsh : rmSh sh) {σ : St} : ∃ τ, fX12_keepsAll sh σ = some ((), τ) ∧ KeptOf σ τ ∧ agR σ τ ∧ ∀ i, i ≠ 36 → τ.2.1 i = σ.2.1 i := by
  unfold fX12_keepsAll fX12_carriesAll
  rw [if_pos okf0, i2800]
  have f1 : (s_F (s_F σ 0 51 (nI 2800)) 0 52 0).1 0 52 = 0 := by rw [s_F_rd, if_pos ⟨rfl, rfl⟩]
  have f2 : (s_F (s_F σ 0 51 (nI 2800)) 0 52 0).1 0 51 = nI 2800 := by rw [s_F_rd, if_neg (by omega), s_F_rd, if_pos ⟨rfl, rfl⟩]
  have a1 := carryF (sR_1 hsh) (by decide) f1 f2 (by decide)
  generalize hs1 : s_F (s_C (s_F (s_F σ 0 51 (nI 2800)) 0 52 0) 1 36 0 2800 11) 0 51 (nI (2800 + 11)) = s1 at a1
  have b1 : s1.1 0 52 = 0 := by subst hs1; rw [s_F_rd, if_neg (by omega), s_C_F]; exact f1
  have b2 : s1.1 0 51 = nI 2811 := by subst hs1; rw [s_F_rd, if_pos ⟨rfl, rfl⟩]
  have a2 := carryF (sR_4 hsh) (by decide) b1 b2 (by decide)
  generalize hs2 : s_F (s_C s1 4 36 0 2811 6) 0 51 (nI (2811 + 6)) = s2 at a2
  have b1 : s2.1 0 52 = 0 := by subst hs2; rw [s_F_rd, if_neg (by omega), s_C_F]; exact b1
  have b2 : s2.1 0 51 = nI 2817 := by subst hs2; rw [s_F_rd, if_pos ⟨rfl, rfl⟩]
  have a3 := carryF (sR_6 hsh) (by decide) b1 b2 (by decide)
  generalize hs3 : s_F (s_C s2 6 36 0 2817 6) 0 51 (nI (2817 + 6)) = s3 at a3
  have b1 : s3.1 0 52 = 0 := by subst hs3; rw [s_F_rd, if_neg (by omega), s_C_F]; exact b1
  have b2 : s3.1 0 51 = nI 2823 := by subst hs3; rw [s_F_rd, if_pos ⟨rfl, rfl⟩]
  have a4 := carryF (sR_8 hsh) (by decide) b1 b2 (by decide)
  generalize hs4 : s_F (s_C s3 8 36 0 2823 6) 0 51 (nI (2823 + 6)) = s4 at a4
  have b1 : s4.1 0 52 = 0 := by subst hs4; rw [s_F_rd, if_neg (by omega), s_C_F]; exact b1
  have b2 : s4.1 0 51 = nI 2829 := by subst hs4; rw [s_F_rd, if_pos ⟨rfl, rfl⟩]
  have a5 := carryF (sR_9 hsh) (by decide) b1 b2 (by decide)
  rw [a1, bd_some, a2, bd_some, a3, bd_some, a4, bd_some, a5, bd_some, if_neg (by decide), bd_some]
  refine ⟨_, rfl, ?_, ?_⟩
  · refine ⟨fun j hj => ?_, fun j hj => ?_, fun j hj => ?_, fun j hj => ?_, fun j hj => ?_⟩
    · rw [s_F_A, s_C_at, cpy_out (by omega)]
      subst hs4; rw [s_F_A, s_C_at, cpy_out (by omega)]
      subst hs3; rw [s_F_A, s_C_at, cpy_out (by omega)]
      subst hs2; rw [s_F_A, s_C_at, cpy_out (by omega)]
      subst hs1; rw [s_F_A, s_C_at, cpy_in (by omega) (by omega), s_F_A, s_F_A, show 0 + (2800 + j - 2800) = j by omega]
    · rw [s_F_A, s_C_at, cpy_out (by omega)]
      subst hs4; rw [s_F_A, s_C_at, cpy_out (by omega)]
      subst hs3; rw [s_F_A, s_C_at, cpy_out (by omega)]
      subst hs2; rw [s_F_A, s_C_at, cpy_in (by omega) (by omega)]
      subst hs1; rw [s_F_A, s_C_ne (by decide), s_F_A, s_F_A, show 0 + (2811 + j - 2811) = j by omega]
    · rw [s_F_A, s_C_at, cpy_out (by omega)]
      subst hs4; rw [s_F_A, s_C_at, cpy_out (by omega)]
      subst hs3; rw [s_F_A, s_C_at, cpy_in (by omega) (by omega)]
      subst hs2; rw [s_F_A, s_C_ne (by decide)]
      subst hs1; rw [s_F_A, s_C_ne (by decide), s_F_A, s_F_A, show 0 + (2817 + j - 2817) = j by omega]
    · rw [s_F_A, s_C_at, cpy_out (by omega)]
      subst hs4; rw [s_F_A, s_C_at, cpy_in (by omega) (by omega)]
      subst hs3; rw [s_F_A, s_C_ne (by decide)]
      subst hs2; rw [s_F_A, s_C_ne (by decide)]
      subst hs1; rw [s_F_A, s_C_ne (by decide), s_F_A, s_F_A, show 0 + (2823 + j - 2823) = j by omega]
    · rw [s_F_A, s_C_at, cpy_in (by omega) (by omega)]
      subst hs4; rw [s_F_A, s_C_ne (by decide)]
      subst hs3; rw [s_F_A, s_C_ne (by decide)]
      subst hs2; rw [s_F_A, s_C_ne (by decide)]
      subst hs1; rw [s_F_A, s_C_ne (by decide), s_F_A, s_F_A, show 0 + (2829 + j - 2829) = j by omega]
  · have hA : ∀ i, i ≠ 36 → (s_F (s_C s4 9 36 0 2829 6) 0 51 (nI (2829 + 6))).2.1 i = σ.2.1 i := by
      intro i hi
      rw [s_F_A, s_C_ne hi]
      subst hs4; rw [s_F_A, s_C_ne hi]
      subst hs3; rw [s_F_A, s_C_ne hi]
      subst hs2; rw [s_F_A, s_C_ne hi]
      subst hs1; rw [s_F_A, s_C_ne hi, s_F_A, s_F_A]
    have hlo : ∀ j, j < 2800 → (s_F (s_C s4 9 36 0 2829 6) 0 51 (nI (2829 + 6))).2.1 36 j = σ.2.1 36 j := by
      intro j hj
      rw [s_F_A, s_C_at, cpy_out (by omega)]
      subst hs4; rw [s_F_A, s_C_at, cpy_out (by omega)]
      subst hs3; rw [s_F_A, s_C_at, cpy_out (by omega)]
      subst hs2; rw [s_F_A, s_C_at, cpy_out (by omega)]
      subst hs1; rw [s_F_A, s_C_at, cpy_out (by omega), s_F_A, s_F_A]
    have hF : ∀ i k, ¬ (i = 0 ∧ (k = 51 ∨ k = 52)) → (s_F (s_C s4 9 36 0 2829 6) 0 51 (nI (2829 + 6))).1 i k = σ.1 i k := by
      intro i k hk
      rw [s_F_rd, if_neg (by omega), s_C_F]
      subst hs4; rw [s_F_rd, if_neg (by omega), s_C_F]
      subst hs3; rw [s_F_rd, if_neg (by omega), s_C_F]
      subst hs2; rw [s_F_rd, if_neg (by omega), s_C_F]
      subst hs1; rw [s_F_rd, if_neg (by omega), s_C_F, s_F_rd, if_neg (by omega), s_F_rd, if_neg (by omega)]
    have hQ : (s_F (s_C s4 9 36 0 2829 6) 0 51 (nI (2829 + 6))).2.2.2 = σ.2.2.2 := by
      subst hs4 hs3 hs2 hs1
      rfl
    exact ⟨⟨⟨hF, fun i _ _ _ _ _ _ _ _ _ _ h => hA i h, hlo, fun j _ => by rw [hA 1 (by decide)], hQ⟩, fun j _ => by rw [hA 1 (by decide)], fun j _ => by rw [hA 4 (by decide)], fun j _ => by rw [hA 6 (by decide)], fun j _ => by rw [hA 8 (by decide)], fun j _ => by rw [hA 9 (by decide)]⟩, hA⟩
theorem keepR {sh : List kd} (hsh : rmSh sh) {σ : St} : ∃ τ, fX12_keepsAll sh σ = some ((), τ) ∧ KeptOf σ τ ∧ agR σ τ := by
  obtain ⟨τ, h1, h2, h3, _⟩ := keepR2 hsh (σ := σ)
  exact ⟨τ, h1, h2, h3⟩
/-- laid back: what slot 4 kept of σ0 -/
theorem layR {sh : List kd} (hsh : rmSh sh) {σ0 σ : St} (hK : KeptOf σ0 σ) (hg : agS σ0 σ) : ∃ τ, fX12_laysBack sh σ = some ((), τ) ∧ KeptOf σ0 τ ∧ agR σ0 τ ∧ ∀ i, i ≠ 1 → i ≠ 4 → i ≠ 6 → i ≠ 8 → i ≠ 9 → τ.2.1 i = σ.2.1 i := by
  unfold fX12_laysBack fX12_carriesAll
  rw [if_pos okf1, i2800]
  have f1 : (s_F (s_F σ 0 51 (nI 2800)) 0 52 1).1 0 52 = 1 := by rw [s_F_rd, if_pos ⟨rfl, rfl⟩]
  have f2 : (s_F (s_F σ 0 51 (nI 2800)) 0 52 1).1 0 51 = nI 2800 := by rw [s_F_rd, if_neg (by omega), s_F_rd, if_pos ⟨rfl, rfl⟩]
  have a1 := carryB (sR_1 hsh) (by decide) f1 f2 (by decide)
  generalize hs1 : s_F (s_C (s_F (s_F σ 0 51 (nI 2800)) 0 52 1) 36 1 2800 0 11) 0 51 (nI (2800 + 11)) = s1 at a1
  have b1 : s1.1 0 52 = 1 := by subst hs1; rw [s_F_rd, if_neg (by omega), s_C_F]; exact f1
  have b2 : s1.1 0 51 = nI 2811 := by subst hs1; rw [s_F_rd, if_pos ⟨rfl, rfl⟩]
  have a2 := carryB (sR_4 hsh) (by decide) b1 b2 (by decide)
  generalize hs2 : s_F (s_C s1 36 4 2811 0 6) 0 51 (nI (2811 + 6)) = s2 at a2
  have b1 : s2.1 0 52 = 1 := by subst hs2; rw [s_F_rd, if_neg (by omega), s_C_F]; exact b1
  have b2 : s2.1 0 51 = nI 2817 := by subst hs2; rw [s_F_rd, if_pos ⟨rfl, rfl⟩]
  have a3 := carryB (sR_6 hsh) (by decide) b1 b2 (by decide)
  generalize hs3 : s_F (s_C s2 36 6 2817 0 6) 0 51 (nI (2817 + 6)) = s3 at a3
  have b1 : s3.1 0 52 = 1 := by subst hs3; rw [s_F_rd, if_neg (by omega), s_C_F]; exact b1
  have b2 : s3.1 0 51 = nI 2823 := by subst hs3; rw [s_F_rd, if_pos ⟨rfl, rfl⟩]
  have a4 := carryB (sR_8 hsh) (by decide) b1 b2 (by decide)
  generalize hs4 : s_F (s_C s3 36 8 2823 0 6) 0 51 (nI (2823 + 6)) = s4 at a4
  have b1 : s4.1 0 52 = 1 := by subst hs4; rw [s_F_rd, if_neg (by omega), s_C_F]; exact b1
  have b2 : s4.1 0 51 = nI 2829 := by subst hs4; rw [s_F_rd, if_pos ⟨rfl, rfl⟩]
  have a5 := carryB (sR_9 hsh) (by decide) b1 b2 (by decide)
  rw [a1, bd_some, a2, bd_some, a3, bd_some, a4, bd_some, a5, bd_some, if_neg (by decide), bd_some]
  have hA : ∀ i, i ≠ 1 → i ≠ 4 → i ≠ 6 → i ≠ 8 → i ≠ 9 → (s_F (s_C s4 36 9 2829 0 6) 0 51 (nI (2829 + 6))).2.1 i = σ.2.1 i := by
    intro i h1 h4 h6 h8 h9
    rw [s_F_A, s_C_ne h9]
    subst hs4; rw [s_F_A, s_C_ne h8]
    subst hs3; rw [s_F_A, s_C_ne h6]
    subst hs2; rw [s_F_A, s_C_ne h4]
    subst hs1; rw [s_F_A, s_C_ne h1, s_F_A, s_F_A]
  have h36 : (s_F (s_C s4 36 9 2829 0 6) 0 51 (nI (2829 + 6))).2.1 36 = σ.2.1 36 := hA 36 (by decide) (by decide) (by decide) (by decide) (by decide)
  have e1 : ∀ j, j < 11 → (s_F (s_C s4 36 9 2829 0 6) 0 51 (nI (2829 + 6))).2.1 1 j = σ0.2.1 1 j := by
    intro j hj
    rw [s_F_A, s_C_ne (by decide)]
    subst hs4; rw [s_F_A, s_C_ne (by decide)]
    subst hs3; rw [s_F_A, s_C_ne (by decide)]
    subst hs2; rw [s_F_A, s_C_ne (by decide)]
    subst hs1; rw [s_F_A, s_C_at, cpy_in (by omega) (by omega), s_F_A, s_F_A, Nat.sub_zero, hK.1 j hj]
  have e4 : ∀ j, j < 6 → (s_F (s_C s4 36 9 2829 0 6) 0 51 (nI (2829 + 6))).2.1 4 j = σ0.2.1 4 j := by
    intro j hj
    rw [s_F_A, s_C_ne (by decide)]
    subst hs4; rw [s_F_A, s_C_ne (by decide)]
    subst hs3; rw [s_F_A, s_C_ne (by decide)]
    subst hs2; rw [s_F_A, s_C_at, cpy_in (by omega) (by omega)]
    subst hs1; rw [s_F_A, s_C_ne (by decide), s_F_A, s_F_A, Nat.sub_zero, hK.2.1 j hj]
  have e6 : ∀ j, j < 6 → (s_F (s_C s4 36 9 2829 0 6) 0 51 (nI (2829 + 6))).2.1 6 j = σ0.2.1 6 j := by
    intro j hj
    rw [s_F_A, s_C_ne (by decide)]
    subst hs4; rw [s_F_A, s_C_ne (by decide)]
    subst hs3; rw [s_F_A, s_C_at, cpy_in (by omega) (by omega)]
    subst hs2; rw [s_F_A, s_C_ne (by decide)]
    subst hs1; rw [s_F_A, s_C_ne (by decide), s_F_A, s_F_A, Nat.sub_zero, hK.2.2.1 j hj]
  have e8 : ∀ j, j < 6 → (s_F (s_C s4 36 9 2829 0 6) 0 51 (nI (2829 + 6))).2.1 8 j = σ0.2.1 8 j := by
    intro j hj
    rw [s_F_A, s_C_ne (by decide)]
    subst hs4; rw [s_F_A, s_C_at, cpy_in (by omega) (by omega)]
    subst hs3; rw [s_F_A, s_C_ne (by decide)]
    subst hs2; rw [s_F_A, s_C_ne (by decide)]
    subst hs1; rw [s_F_A, s_C_ne (by decide), s_F_A, s_F_A, Nat.sub_zero, hK.2.2.2.1 j hj]
  have e9 : ∀ j, j < 6 → (s_F (s_C s4 36 9 2829 0 6) 0 51 (nI (2829 + 6))).2.1 9 j = σ0.2.1 9 j := by
    intro j hj
    rw [s_F_A, s_C_at, cpy_in (by omega) (by omega)]
    subst hs4; rw [s_F_A, s_C_ne (by decide)]
    subst hs3; rw [s_F_A, s_C_ne (by decide)]
    subst hs2; rw [s_F_A, s_C_ne (by decide)]
    subst hs1; rw [s_F_A, s_C_ne (by decide), s_F_A, s_F_A, Nat.sub_zero, hK.2.2.2.2 j hj]
  have hF : ∀ i k, ¬ (i = 0 ∧ (k = 51 ∨ k = 52)) → (s_F (s_C s4 36 9 2829 0 6) 0 51 (nI (2829 + 6))).1 i k = σ0.1 i k := by
    intro i k hk
    rw [s_F_rd, if_neg (by omega), s_C_F]
    subst hs4; rw [s_F_rd, if_neg (by omega), s_C_F]
    subst hs3; rw [s_F_rd, if_neg (by omega), s_C_F]
    subst hs2; rw [s_F_rd, if_neg (by omega), s_C_F]
    subst hs1; rw [s_F_rd, if_neg (by omega), s_C_F, s_F_rd, if_neg (by omega), s_F_rd, if_neg (by omega)]
    exact hg.1 i k hk
  have hQ : (s_F (s_C s4 36 9 2829 0 6) 0 51 (nI (2829 + 6))).2.2.2 = σ0.2.2.2 := by
    refine Eq.trans ?_ hg.2.2.2.2
    subst hs4 hs3 hs2 hs1
    rfl
  refine ⟨_, rfl, ?_, ⟨⟨hF, fun i h1 h4 h6 h8 h9 a b c d e f => (hA i h1 h4 h6 h8 h9).trans (hg.2.1 i h1 h4 h6 h8 h9 a b c d e f), fun j hj => by rw [h36]; exact hg.2.2.1 j hj, fun j hj => e1 j (by omega), hQ⟩, e1, e4, e6, e8, e9⟩, hA⟩
  unfold KeptOf
  rw [h36]
  exact hK
