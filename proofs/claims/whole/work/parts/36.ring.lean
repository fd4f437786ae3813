/-! ===== loops with an invariant ===== -/
theorem lpI {α β : Type} {L : Nat → Nat → α → β} {E : β → Prop} (I : Nat → α → Prop) (B : Nat)
    (hs : ∀ n k a, k < B → I k a → (∃ a', L (n + 1) k a = L n (k + 1) a' ∧ I (k + 1) a') ∨ E (L (n + 1) k a))
    (he : ∀ n a, I B a → E (L (n + 1) B a)) : ∀ (m n k : Nat) (a : α), k + m = B → m < n → I k a → E (L n k a) := by
  intro m
  induction m with
  | zero =>
    intro n k a hk hn hI
    obtain ⟨n, rfl⟩ : ∃ n', n = n' + 1 := ⟨n - 1, by omega⟩
    have hkB : k = B := by omega
    subst hkB
    exact he n a hI
  | succ m ih =>
    intro n k a hk hn hI
    obtain ⟨n, rfl⟩ : ∃ n', n = n' + 1 := ⟨n - 1, by omega⟩
    rcases hs n k a (by omega) hI with ⟨a', e, h'⟩ | h
    · rw [e]
      exact ih n (k + 1) a' (by omega) (by omega) h'
    · exact h
/-! ===== ring ===== -/
def crs (R : Rl) (ru : Option Cl) (lf : Lf) (k : Nat) : Int32 := (spGo R ru (k + 1) lf).1.2.1
theorem n66 : (66 : Int32) = nI 66 := by decide
theorem n60 : (60 : Int32) = nI 60 := by decide
theorem crsC {sh : List kd} {σ : St} {R : Rl} {ru : Option Cl} {lf0 lf : Lf} {p1 : Int32} {K : Int32 → St → Option (Int32 × St)} (h : CX sh σ R ru lf0) (hl : LfC σ 135 = lf) (hwl : wfL R 999 lf) :
    ∃ τ, fX5_ringOfHours_L6 sh p1 K i_F 0 σ = K (nI 66) τ ∧ (∀ j, j < 66 → τ.2.1 140 j = crs R ru lf j) ∧ agr scC σ τ := by
  have hF : 66 < i_F := i_F_gt (by omega)
  generalize i_F = F at hF ⊢
  rw [← nz0]
  refine lpI (L := fun n k s => fX5_ringOfHours_L6 sh p1 K n (nI k) s) (E := fun r => ∃ τ, r = K (nI 66) τ ∧ (∀ j, j < 66 → τ.2.1 140 j = crs R ru lf j) ∧ agr scC σ τ) (fun k s => agr scC σ s ∧ LfC s 135 = spGo R ru k lf ∧ ∀ j, j < k → s.2.1 140 j = crs R ru lf j) 66 (fun n k s hk hI => Or.inl ?_) (fun n s hI => ?_) 66 F 0 σ rfl hF ⟨agr_refl, hl, fun j hj => by omega⟩
  · obtain ⟨i1, i2, i3⟩ := hI
    have hs := CX_agr h i1
    have hw := wfL_go (ru := ru) h.2.1 h.2.2.1 k lf 999 (by omega) hwl
    obtain ⟨τ, t1, t2, t3⟩ := trialC2 hs (b := 999 + k) (by omega) i2 hw
    have hcl : (nI k).toNatClampNeg = k := nI_clamp (by omega)
    rw [← spGo_succ] at t2
    have hA : agr (fun i => i = 140) τ (s_A τ 140 k (τ.1 135 1)) := agr_A rfl
    refine ⟨s_A τ 140 k (τ.1 135 1), ?_, ?_, ?_, ?_⟩
    · rw [fX5_ringOfHours_L6, n66, if_neg (nI_ge (by omega) (by omega)), t1, bd_some, if_pos (ok_nI (by omega) (by omega)), hcl, nI_1]
    · exact agr_trans i1 (agr_trans (agr_tr t3) (agr_A (by unfold scC; omega)))
    · rw [LfC_agr hA (by omega), t2]
    · intro j hj
      rw [s_A_rd]
      by_cases hjk : j = k
      · rw [if_pos ⟨rfl, hjk⟩, (LfC_of t2).2.1, hjk]
        rfl
      · rw [if_neg (fun e => hjk e.2), (t3.1 140 (by unfold trS; omega)).2]
        exact i3 j (by omega)
  · obtain ⟨i1, i2, i3⟩ := hI
    refine ⟨s, ?_, i3, i1⟩
    rw [fX5_ringOfHours_L6, n66, if_pos (nI_le (Nat.le_refl _) (by omega))]
theorem LfR_A {σ : St} {i j : Nat} {x : Int32} (h : 31 ≤ i) : LfR (s_A σ i j x) = LfR σ := by
  unfold LfR
  rw [s_A_ne (by omega), s_A_ne (by omega), s_A_ne (by omega), s_A_ne (by omega), s_A_ne (by omega)]
theorem Kept_A {σ0 σ : St} {i j : Nat} {x : Int32} (h : i ≠ 36) (g : KeptOf σ0 σ) : KeptOf σ0 (s_A σ i j x) := by
  unfold KeptOf
  rw [s_A_ne (by omega)]
  exact g
theorem crsR {sh : List kd} (hsh : rmSh sh) {σ0 σ : St} {R : Rl} {ru : Option Cl} {lf : Lf} (h : RX σ R ru) (hl : LfR σ = lf) (hwl : wfL R 999 lf) (hK : KeptOf σ0 σ) (hg : agS σ0 σ) :
    ∃ τ, fX12_laysCourse sh σ = some ((), τ) ∧ KeptOf σ0 τ ∧ agR σ0 τ ∧ (∀ j, j < 66 → τ.2.1 34 j = crs R ru lf j) ∧ τ.2.1 35 = σ.2.1 35 := by
  unfold fX12_laysCourse
  have hF : 66 < i_F := i_F_gt (by omega)
  generalize i_F = F at hF ⊢
  rw [← nz0]
  refine lpI (L := fun n k s => fX12_laysCourse_L2 sh (fun (x53 : Int32) (s54 : St) => fX12_laysCourse_X31 sh x53 s54) n (nI k) s) (E := fun r => ∃ τ, r = some ((), τ) ∧ KeptOf σ0 τ ∧ agR σ0 τ ∧ (∀ j, j < 66 → τ.2.1 34 j = crs R ru lf j) ∧ τ.2.1 35 = σ.2.1 35) (fun k s => agS σ0 s ∧ RX s R ru ∧ LfR s = spGo R ru k lf ∧ KeptOf σ0 s ∧ (∀ j, j < k → s.2.1 34 j = crs R ru lf j) ∧ s.2.1 35 = σ.2.1 35) 66 (fun n k s hk hI => Or.inl ?_) (fun n s hI => ?_) 66 F 0 σ rfl hF ⟨hg, h, hl, hK, fun j hj => by omega, rfl⟩
  · obtain ⟨i1, i2, i3, i4, i5, i6⟩ := hI
    have hw := wfL_go (ru := ru) h.1 h.2.1 k lf 999 (by omega) hwl
    obtain ⟨τ, t1, t2, t3⟩ := stepR (sh := sh) i2 (b := 999 + k) (by omega) i3 hw
    have hcl : (nI k).toNatClampNeg = k := nI_clamp (by omega)
    rw [← spGo_succ] at t2
    have hA : agS τ (s_A τ 34 k (τ.2.1 1 5)) := agS_A (by omega)
    refine ⟨s_A τ 34 k (τ.2.1 1 5), ?_, ?_, ?_, ?_, ?_, ?_, ?_⟩
    · rw [fX12_laysCourse_L2, n66, if_neg (nI_ge (by omega) (by omega)), t1, bd_some, if_pos o_5, if_pos (ok_nI (by omega) (by omega)), c_5, hcl, nI_1]
    · exact agS_trans i1 (agS_trans t3.1 hA)
    · exact RX_agS (RX_life i2 t3) hA (by rw [s_A_ne (by decide)])
    · rw [LfR_A (by omega), t2]
    · exact Kept_A (by omega) (Kept_life i4 t3)
    · intro j hj
      rw [s_A_rd]
      by_cases hjk : j = k
      · rw [if_pos ⟨rfl, hjk⟩, (LfR_of t2).2.1, hjk]
        rfl
      · rw [if_neg (fun e => hjk e.2), t3.2.2.2.2.2.1]
        exact i5 j (by omega)
    · rw [s_A_ne (by decide), t3.2.2.2.2.2.2.1, i6]
  · obtain ⟨i1, i2, i3, i4, i5, i6⟩ := hI
    obtain ⟨τ, t1, t2, t3, t4⟩ := layR hsh i4 i1
    refine ⟨τ, ?_, t2, t3, ?_, ?_⟩
    · rw [fX12_laysCourse_L2, n66, if_pos (nI_le (Nat.le_refl _) (by omega))]
      unfold fX12_laysCourse_X31
      rw [t1, bd_some]
    · rw [t4 34 (by decide) (by decide) (by decide) (by decide) (by decide)]
      exact i5
    · rw [t4 35 (by decide) (by decide) (by decide) (by decide) (by decide)]
      exact i6
def alk (f : Nat → Int32) (a b : Nat) : Nat → Nat → Int32
  | 0, _ => 1
  | m + 1, k => if f (a + k) = f (b + k) then alk f a b m (k + 1) else 0
theorem alkC {sh : List kd} {σ : St} {f : Nat → Int32} {a b : Nat} (ha : a ≤ 60) (hb : b ≤ 60) (hf : ∀ j, j < 66 → σ.2.1 140 j = f j) : fX5_isAlike sh σ (nI a) (nI b) = some (alk f a b 6 0, σ) := by
  unfold fX5_isAlike
  have hF : 6 < i_F := i_F_gt (by omega)
  generalize i_F = F at hF ⊢
  rw [← nz0]
  have key : ∀ (m n k : Nat), k + m = 6 → m < n → fX5_isAlike_L2 sh (nI a) (nI b) σ n (nI k) = some (alk f a b m k, σ) := by
    intro m
    induction m with
    | zero =>
      intro n k hk hn
      obtain ⟨n, rfl⟩ : ∃ n', n = n' + 1 := ⟨n - 1, by omega⟩
      rw [fX5_isAlike_L2, ← nz6, if_pos (nI_le (by omega) (by omega))]
      rfl
    | succ m ih =>
      intro n k hk hn
      obtain ⟨n, rfl⟩ : ∃ n', n = n' + 1 := ⟨n - 1, by omega⟩
      rw [fX5_isAlike_L2, ← nz6, if_neg (nI_ge (by omega) (by omega)), n66, nI_add, nI_add, if_neg (nI_ge (by omega) (by omega)), if_pos (ok_nI (by omega) (by omega)), if_pos (ok_nI (by omega) (by omega)), nI_clamp (by omega), nI_clamp (by omega), hf _ (by omega), hf _ (by omega), nI_1]
      unfold alk
      by_cases hc : f (a + k) = f (b + k)
      · rw [if_pos hc, if_pos hc]
        exact ih n (k + 1) (by omega) (by omega)
      · rw [if_neg hc, if_neg hc]
  exact key 6 F 0 rfl hF
theorem alkR {sh : List kd} {σ : St} {f : Nat → Int32} {a b : Nat} (ha : a ≤ 60) (hb : b ≤ 60) (hf : ∀ j, j < 66 → σ.2.1 34 j = f j) : fX12_areAlike sh σ (nI a) (nI b) = some (alk f a b 6 0, σ) := by
  unfold fX12_areAlike
  have hF : 6 < i_F := i_F_gt (by omega)
  generalize i_F = F at hF ⊢
  rw [← nz0]
  have key : ∀ (m n k : Nat), k + m = 6 → m < n → fX12_areAlike_L2 sh (nI a) (nI b) σ n (nI k) = some (alk f a b m k, σ) := by
    intro m
    induction m with
    | zero =>
      intro n k hk hn
      obtain ⟨n, rfl⟩ : ∃ n', n = n' + 1 := ⟨n - 1, by omega⟩
      rw [fX12_areAlike_L2, ← nz6, if_pos (nI_le (by omega) (by omega))]
      rfl
    | succ m ih =>
      intro n k hk hn
      obtain ⟨n, rfl⟩ : ∃ n', n = n' + 1 := ⟨n - 1, by omega⟩
      rw [fX12_areAlike_L2, ← nz6, if_neg (nI_ge (by omega) (by omega)), nI_add, nI_add, if_pos (ok_nI (by omega) (by omega)), if_pos (ok_nI (by omega) (by omega)), nI_clamp (by omega), nI_clamp (by omega), hf _ (by omega), hf _ (by omega), nI_1]
      unfold alk
      by_cases hc : f (a + k) = f (b + k)
      · rw [if_pos hc, if_pos hc]
        exact ih n (k + 1) (by omega) (by omega)
      · rw [if_neg hc, if_neg hc]
  exact key 6 F 0 rfl hF
def rgI (f : Nat → Int32) (a : Nat) : Nat → Nat → Option Nat
  | 0, _ => none
  | m + 1, b => if alk f a b 6 0 = 0 then rgI f a m (b + 1) else some b
def rgO (f : Nat → Int32) : Nat → Nat → Option (Nat × Nat)
  | 0, _ => none
  | m + 1, a => match rgI f a (m + 1) (a + 1) with
    | some b => some (a, b)
    | none => rgO f m (a + 1)
theorem rgIC {sh : List kd} {σ : St} {f : Nat → Int32} {p1 : Int32} {a : Nat} {k87 : Int32 → Int32 → St → Option (Int32 × St)} {k116 : Int32 → St → Option (Int32 × St)} (ha : a < 60) (hf : ∀ j, j < 66 → σ.2.1 140 j = f j) :
    ∀ (m n b : Nat), b + m = 61 → m < n → fX5_ringOfHours_L72 sh p1 (nI a) k87 k116 n (nI b) σ = match rgI f a m b with
      | some b => k87 (nI a) (nI b) σ
      | none => k116 (nI 61) σ := by
  intro m
  induction m with
  | zero =>
    intro n b hb hn
    obtain ⟨n, rfl⟩ : ∃ n', n = n' + 1 := ⟨n - 1, by omega⟩
    have hb61 : b = 61 := by omega
    subst hb61
    rw [fX5_ringOfHours_L72, if_pos (by decide)]
    rfl
  | succ m ih =>
    intro n b hb hn
    obtain ⟨n, rfl⟩ : ∃ n', n = n' + 1 := ⟨n - 1, by omega⟩
    rw [fX5_ringOfHours_L72, n60, if_neg (nI_nlt (by omega) (by omega)), alkC (by omega) (by omega) hf, bd_some, nI_1]
    unfold rgI
    by_cases hc : alk f a b 6 0 = 0
    · rw [if_pos hc, if_pos hc]
      exact ih n (b + 1) (by omega) (by omega)
    · rw [if_neg hc, if_neg hc]
theorem rgOC {sh : List kd} {σ : St} {f : Nat → Int32} {p1 : Int32} {k87 : Int32 → Int32 → St → Option (Int32 × St)} (hf : ∀ j, j < 66 → σ.2.1 140 j = f j) :
    ∀ (m n a : Nat) (v : Value), a + m = 60 → m < n → fX5_ringOfHours_L62 sh p1 k87 n (nI a) v σ = match rgO f m a with
      | some q => k87 (nI q.1) (nI q.2) σ
      | none => some (-2, σ) := by
  intro m
  induction m with
  | zero =>
    intro n a v ha hn
    obtain ⟨n, rfl⟩ : ∃ n', n = n' + 1 := ⟨n - 1, by omega⟩
    have ha60 : a = 60 := by omega
    subst ha60
    rw [fX5_ringOfHours_L62, if_pos (by decide)]
    rfl
  | succ m ih =>
    intro n a v ha hn
    obtain ⟨n, rfl⟩ : ∃ n', n = n' + 1 := ⟨n - 1, by omega⟩
    have hF : 61 < i_F := i_F_gt (by omega)
    rw [fX5_ringOfHours_L62, n60, if_neg (nI_ge (by omega) (by omega)), nI_1]
    generalize i_F = F at hF ⊢
    rw [rgIC (by omega) hf (m + 1) F (a + 1) (by omega) (by omega)]
    unfold rgO
    cases hr : rgI f a (m + 1) (a + 1) with
    | some b => rfl
    | none =>
      dsimp only
      unfold fX5_ringOfHours_X116
      rw [nI_1]
      exact ih n (a + 1) _ (by omega) (by omega)
theorem rgIR {sh : List kd} {σ : St} {f : Nat → Int32} {p1 : Int32} {a : Nat} {k87 : Int32 → Int32 → St → Option (Int32 × St)} {k116 : Int32 → St → Option (Int32 × St)} (ha : a < 60) (hf : ∀ j, j < 66 → σ.2.1 34 j = f j) :
    ∀ (m n b : Nat), b + m = 61 → m < n → fX12_ring_L39 sh p1 (nI a) k87 k116 n (nI b) σ = match rgI f a m b with
      | some b => k87 (nI a) (nI b) σ
      | none => k116 (nI 61) σ := by
  intro m
  induction m with
  | zero =>
    intro n b hb hn
    obtain ⟨n, rfl⟩ : ∃ n', n = n' + 1 := ⟨n - 1, by omega⟩
    have hb61 : b = 61 := by omega
    subst hb61
    rw [fX12_ring_L39, if_pos (by decide)]
    rfl
  | succ m ih =>
    intro n b hb hn
    obtain ⟨n, rfl⟩ : ∃ n', n = n' + 1 := ⟨n - 1, by omega⟩
    rw [fX12_ring_L39, n60, if_neg (nI_nlt (by omega) (by omega)), alkR (by omega) (by omega) hf, bd_some, nI_1]
    unfold rgI
    by_cases hc : alk f a b 6 0 = 0
    · rw [if_pos hc, if_pos hc]
      exact ih n (b + 1) (by omega) (by omega)
    · rw [if_neg hc, if_neg hc]
theorem rgOR {sh : List kd} {σ : St} {f : Nat → Int32} {p1 : Int32} {k87 : Int32 → Int32 → St → Option (Int32 × St)} (hf : ∀ j, j < 66 → σ.2.1 34 j = f j) :
    ∀ (m n a : Nat) (v : Value), a + m = 60 → m < n → fX12_ring_L29 sh p1 k87 n (nI a) v σ = match rgO f m a with
      | some q => k87 (nI q.1) (nI q.2) σ
      | none => some (-2, σ) := by
  intro m
  induction m with
  | zero =>
    intro n a v ha hn
    obtain ⟨n, rfl⟩ : ∃ n', n = n' + 1 := ⟨n - 1, by omega⟩
    have ha60 : a = 60 := by omega
    subst ha60
    rw [fX12_ring_L29, if_pos (by decide)]
    rfl
  | succ m ih =>
    intro n a v ha hn
    obtain ⟨n, rfl⟩ : ∃ n', n = n' + 1 := ⟨n - 1, by omega⟩
    have hF : 61 < i_F := i_F_gt (by omega)
    rw [fX12_ring_L29, n60, if_neg (nI_ge (by omega) (by omega)), nI_1]
    generalize i_F = F at hF ⊢
    rw [rgIR (by omega) hf (m + 1) F (a + 1) (by omega) (by omega)]
    unfold rgO
    cases hr : rgI f a (m + 1) (a + 1) with
    | some b => rfl
    | none =>
      dsimp only
      unfold fX12_ring_X79
      rw [nI_1]
      exact ih n (a + 1) _ (by omega) (by omega)
def ansRing (w h : Int32) (o : Option (Nat × Nat)) : Int32 := match o with
  | none => -2
  | some q => if ¬ w = 0 then nI q.2 - nI q.1 else h + nI q.1
theorem ringC {sh : List kd} {σ : St} {R : Rl} {ru : Option Cl} {lf : Lf} {w : Int32} (h : CX sh σ R ru lf) (hwl : wfL R 999 lf) :
    ∃ τ, fX5_ringOfHours sh σ ((if ¬ w = 0 then 0 else 1) : Int32) = some (ansRing w lf.1.1 (rgO (crs R ru lf) 60 0), τ) ∧ agr scC σ τ := by
  obtain ⟨s2, a1, a2, a3⟩ := beginC (sh := sh) (σ := σ)
  rw [h.2.2.2.2.1] at a2
  unfold fX5_ringOfHours
  rw [a1, bd_some]
  obtain ⟨τ, t1, t2, t3⟩ := crsC (p1 := ((if ¬ w = 0 then 0 else 1) : Int32)) (K := fun (x56 : Int32) (s57 : St) => fX5_ringOfHours_X60 sh ((if ¬ w = 0 then 0 else 1) : Int32) x56 s57) (CX_agr h a3) a2 hwl
  rw [t1]
  refine ⟨τ, ?_, agr_trans a3 t3⟩
  unfold fX5_ringOfHours_X60
  have hF : 60 < i_F := i_F_gt (by omega)
  generalize i_F = F at hF ⊢
  have hr := rgOC (sh := sh) (p1 := ((if ¬ w = 0 then 0 else 1) : Int32)) (k87 := fun (x117 : Int32) (x118 : Int32) (s119 : St) => fX5_ringOfHours_X87 sh ((if ¬ w = 0 then 0 else 1) : Int32) x117 x118 s119) t2 60 F 0 (.retAddr 0) rfl hF
  rw [nz0] at hr
  rw [hr]
  have hh : τ.1 26 0 = lf.1.1 := by
    rw [((agr_trans a3 t3).1 26 (by unfold scC; omega)).1]
    exact (LfC_of h.2.2.2.2.1).1
  unfold ansRing
  cases rgO (crs R ru lf) 60 0 with
  | none => rfl
  | some q =>
    dsimp only
    unfold fX5_ringOfHours_X87
    rw [hh]
    by_cases w0 : w = 0
    · simp [w0]
    · simp [w0]
theorem ringR {sh : List kd} (hsh : rmSh sh) {σ : St} {R : Rl} {ru : Option Cl} {lf : Lf} {w : Int32} (h : RX σ R ru) (hl : LfR σ = lf) (hwl : wfL R 999 lf) :
    ∃ τ, i_bd (fX12_keepsAll sh σ) (fun r9 s10 => i_bd (fX12_laysCourse sh s10) (fun r12 s13 => fX12_ring_L29 sh w (fun (x68 : Int32) (x69 : Int32) (s70 : St) => fX12_ring_X54 sh w x68 x69 s70) i_F 0 (.retAddr 0) s13)) = some (ansRing w lf.1.1 (rgO (crs R ru lf) 60 0), τ) ∧ agR σ τ := by
  obtain ⟨s1, a1, a2, a3⟩ := keepR hsh (σ := σ)
  obtain ⟨τ, t1, t2, t3, t4, t5⟩ := crsR hsh (RX_agR h a3) ((LfR_agR a3).trans hl) hwl a2 a3.1
  rw [a1, bd_some, t1, bd_some]
  refine ⟨τ, ?_, t3⟩
  have hF : 60 < i_F := i_F_gt (by omega)
  generalize i_F = F at hF ⊢
  have hr := rgOR (sh := sh) (p1 := w) (k87 := fun (x117 : Int32) (x118 : Int32) (s119 : St) => fX12_ring_X54 sh w x117 x118 s119) t4 60 F 0 (.retAddr 0) rfl hF
  rw [nz0] at hr
  rw [hr]
  have hh : τ.2.1 1 4 = lf.1.1 := (LfR_of ((LfR_agR t3).trans hl)).1
  unfold ansRing
  cases rgO (crs R ru lf) 60 0 with
  | none => rfl
  | some q =>
    dsimp only
    unfold fX12_ring_X54 fX12_ring_J72
    rw [if_pos o_4, c_4, hh]
    by_cases w0 : w = 0
    · simp [w0]
    · simp [w0]
theorem q_ring {sh shR : List kd} {σC σR : St} {R : Rl} {ru : Option Cl} {lf : Lf} (h : QX sh shR σC σR R ru lf) (w : Int32) : alikeQ (fX11_ring sh σC w) (fX12_ring shR σR w) σC σR := by
  have hC := h.2.2.2.1
  have hRR := h.2.2.2.2.1
  obtain ⟨lt1, lt2, lt3⟩ := wfR_lt h.2.2.1
  unfold fX11_ring fX12_ring
  by_cases hD : R.1.1 = 0
  · rw [if_pos (told_f hC hD), isCt_f (by rw [hRR.1, hD]), bd_some, if_pos rfl]
    exact alike_now
  have hD' : 0 < R.1.1 := by omega
  rw [if_neg (told_t hC hD'), isCt_t lt1 hRR.1 hD', bd_some, if_neg n10]
  by_cases hw : btw w 0 1
  · rw [within_t (a := 0) (b := 1) (by decide) (by decide) (by decide) (by decide) hw, bd_some, if_pos n10, in_t (a := 0) (b := 1) (by decide) (by decide) (by decide) (by decide) hw, bd_some, if_pos n10]
    obtain ⟨τC, a1, a2⟩ := ringC (w := w) (QX_C h hD') h.2.2.2.2.2.2.2.1
    obtain ⟨τR, b1, b2⟩ := ringR h.2.1 (w := w) (QX_R h hD') h.2.2.2.2.2.2.1 h.2.2.2.2.2.2.2.1
    exact ⟨_, τC, τR, by rw [a1, bd_some], b1, a2, b2⟩
  · rw [within_f (a := 0) (b := 1) (by decide) (by decide) (by decide) (by decide) hw, bd_some, if_neg nn00, in_f (a := 0) (b := 1) (by decide) (by decide) (by decide) (by decide) hw, bd_some, if_neg nn00]
    exact alike_now
