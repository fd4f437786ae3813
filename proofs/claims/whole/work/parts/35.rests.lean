/-! ===== rests ===== -/
def twoL (R : Rl) (ru : Option Cl) (lf : Lf) (n p q k : Nat) : Lf := spGo R ru n (lfTh (lfTh lf p (spThank (lf.2.1 p) (10 * nI (k / 5)))) q (spThank ((lfTh lf p (spThank (lf.2.1 p) (10 * nI (k / 5)))).2.1 q) (10 * nI (k % 5))))
def gOne (R : Rl) (ru : Option Cl) (lf : Lf) (n p q k : Nat) : Int32 := spRank R ((twoL R ru lf n p q k).2.2.1 p) - nI (k / 5)
def gTwo (R : Rl) (ru : Option Cl) (lf : Lf) (n p q k : Nat) : Int32 := spRank R ((twoL R ru lf n p q k).2.2.1 q) - nI (k % 5)
theorem five : (5 : Int32) = nI 5 := by decide
theorem div5 {k : Nat} (h : k < 2 ^ 31) : nI k / 5 = nI (k / 5) := by rw [five, nI_div h (by omega)]
theorem mod5 {k : Nat} (h : k < 2 ^ 31) : nI k - nI k / 5 * 5 = nI (k % 5) := by rw [five, nI_mod h (by omega)]
theorem twosC {sh : List kd} {σ : St} {R : Rl} {ru : Option Cl} {lf : Lf} {n p q : Nat} (h : CX sh σ R ru lf) (hwl : wfL R 999 lf) (hn : n ≤ 100) (hp : p < 6) (hq : q < 6) :
    ∃ τ, fX5_playAllTwos sh σ (nI p) (nI q) (nI n) = some ((), τ) ∧ agr scC σ τ ∧ (∀ j, j < 25 → τ.2.1 141 j = gOne R ru lf n p q j) ∧ (∀ j, j < 25 → τ.2.1 142 j = gTwo R ru lf n p q j) := by
  have hcp : (nI p).toNatClampNeg = p := nI_clamp (by omega)
  have hop : i_ok (nI p) 6 := ok_nI hp (by omega)
  have hcq : (nI q).toNatClampNeg = q := nI_clamp (by omega)
  have hoq : i_ok (nI q) 6 := ok_nI hq (by omega)
  have n25 : (25 : Int32) = nI 25 := by decide
  unfold fX5_playAllTwos
  have hF : 25 < i_F := i_F_gt (by omega)
  generalize i_F = F at hF ⊢
  have key : ∀ (m N k : Nat) (x : Int32) (v1 v2 : Value) (s : St), x = nI k → agr scC σ s → (∀ j, j < k → s.2.1 141 j = gOne R ru lf n p q j) → (∀ j, j < k → s.2.1 142 j = gTwo R ru lf n p q j) → k + m = 25 → m < N → ∃ τ, fX5_playAllTwos_L3 sh (nI p) (nI q) (nI n) N x v1 v2 s = some ((), τ) ∧ agr scC σ τ ∧ (∀ j, j < 25 → τ.2.1 141 j = gOne R ru lf n p q j) ∧ (∀ j, j < 25 → τ.2.1 142 j = gTwo R ru lf n p q j) := by
    intro m
    induction m with
    | zero =>
      intro N k x v1 v2 s hx hg h1 h2 hk hN
      obtain ⟨N, rfl⟩ : ∃ n', N = n' + 1 := ⟨N - 1, by omega⟩
      have hks : k = 25 := by omega
      subst hx hks
      refine ⟨s, ?_, hg, h1, h2⟩
      rw [fX5_playAllTwos_L3, n25, if_pos (nI_le (Nat.le_refl _) (by omega))]
    | succ m ih =>
      intro N k x v1 v2 s hx hg h1 h2 hk hN
      obtain ⟨N, rfl⟩ : ∃ n', N = n' + 1 := ⟨N - 1, by omega⟩
      subst hx
      have hs := CX_agr h hg
      obtain ⟨s2, a1, a2, a3⟩ := beginC2 (sh := sh) (σ := s)
      rw [hs.2.2.2.2.1] at a2
      obtain ⟨s3, c1, c2, c3⟩ := thankC (sh := sh) (v := 10 * nI (k / 5)) hp a2
      obtain ⟨s4, d1, d2, d3⟩ := thankC (sh := sh) (v := 10 * nI (k % 5)) hq c2
      have hg4' : agr trS s s4 := agr_trans (agr_trans a3 (agr_frC (by unfold trS; omega) c3)) (agr_frC (by unfold trS; omega) d3)
      have hg4 := agr_tr hg4'
      obtain ⟨s5, b1, b2, b3⟩ := goOnC2 (CX_agr hs hg4) (n := n) (b := 999) (by omega) (by omega) d2 (wfL_th (wfL_th hwl))
      have hg5' := agr_trans hg4' b3
      have hg5 := agr_tr hg5'
      have h5 := CX_agr hs hg5
      have hcl : (nI k).toNatClampNeg = k := nI_clamp (by omega)
      have hok : i_ok (nI k) 25 := ok_nI (by omega) (by omega)
      have ep : s5.2.1 137 p = (twoL R ru lf n p q k).2.2.1 p := (LfC_of b2).2.2.2.2.2.1 p hp
      have eq : s5.2.1 137 q = (twoL R ru lf n p q k).2.2.1 q := (LfC_of b2).2.2.2.2.2.1 q hq
      have hg6 : agr scC s5 (s_A s5 141 k (gOne R ru lf n p q k)) := agr_A (by unfold scC; omega)
      have h6 := CX_agr h5 hg6
      rw [fX5_playAllTwos_L3, n25, if_neg (nI_ge (by omega) (by omega)), div5 (show k < 2 ^ 31 by omega)]
      rw [show nI k - nI (k / 5) * 5 = nI (k % 5) from by rw [← div5 (show k < 2 ^ 31 by omega)]; exact mod5 (by omega)]
      rw [a1, bd_some, c1, bd_some, d1, bd_some, b1, bd_some, if_pos hop, hcp, ep, rankC h5.2.1 h5.2.2.2.1, bd_some, if_pos hok, if_pos hoq]
      simp only [hcl]
      rw [show spRank R ((twoL R ru lf n p q k).2.2.1 p) - nI (k / 5) = gOne R ru lf n p q k from rfl, hcq, s_A_ne (show (137 : Nat) ≠ 141 by decide), eq, rankC h6.2.1 h6.2.2.2.1, bd_some, if_pos hok, nI_1]
      rw [show spRank R ((twoL R ru lf n p q k).2.2.1 q) - nI (k % 5) = gTwo R ru lf n p q k from rfl]
      have e1 : ∀ j, j < k → s5.2.1 141 j = gOne R ru lf n p q j := fun j hj => by rw [(hg5'.1 141 (by unfold trS; omega)).2]; exact h1 j hj
      have e2 : ∀ j, j < k → s5.2.1 142 j = gTwo R ru lf n p q j := fun j hj => by rw [(hg5'.1 142 (by unfold trS; omega)).2]; exact h2 j hj
      refine ih N (k + 1) _ _ _ _ rfl (agr_trans (agr_trans (agr_trans hg hg5) hg6) (agr_A (by unfold scC; omega))) (fun j hj => ?_) (fun j hj => ?_) (by omega) (by omega)
      · rw [s_A_ne (show (141 : Nat) ≠ 142 by decide), s_A_rd]
        by_cases hjk : j = k
        · rw [if_pos ⟨rfl, hjk⟩, hjk]
        · rw [if_neg (fun e => hjk e.2)]
          exact e1 j (by omega)
      · rw [s_A_rd]
        by_cases hjk : j = k
        · rw [if_pos ⟨rfl, hjk⟩, hjk]
        · rw [if_neg (fun e => hjk e.2), s_A_ne (show (142 : Nat) ≠ 141 by decide)]
          exact e2 j (by omega)
  obtain ⟨τ, t⟩ := key 25 F 0 0 _ _ σ rfl agr_refl (fun j hj => by omega) (fun j hj => by omega) rfl hF
  exact ⟨τ, t⟩
