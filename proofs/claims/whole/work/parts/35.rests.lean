/-! ===== rests ===== -/
def twoL (R : Rl) (ru : Option Cl) (lf : Lf) (n p q k : Nat) : Lf := spGo R ru n (lfTh (lfTh lf p (spThank (lf.2.1 p) (10 * nI (k / 5)))) q (spThank ((lfTh lf p (spThank (lf.2.1 p) (10 * nI (k / 5)))).2.1 q) (10 * nI (k % 5))))
def gOne (R : Rl) (ru : Option Cl) (lf : Lf) (n p q k : Nat) : Int32 := spRank R ((twoL R ru lf n p q k).2.2.1 p) - nI (k / 5)
def gTwo (R : Rl) (ru : Option Cl) (lf : Lf) (n p q k : Nat) : Int32 := spRank R ((twoL R ru lf n p q k).2.2.1 q) - nI (k % 5)
theorem five : (5 : Int32) = nI 5 := by decide
theorem div5 {k : Nat} (h : k < 2 ^ 31) : nI k / 5 = nI (k / 5) := by rw [five, nI_div h (by omega)]
theorem mod5 {k : Nat} (h : k < 2 ^ 31) : nI k - nI k / 5 * 5 = nI (k % 5) := by rw [five, nI_mod h (by omega)]
theorem twosC {sh : List kd} {σ : St} {R : Rl} {ru : Option Cl} {lf : Lf} {n p q : Nat} (h : CX sh σ R ru lf) (hwl : wfL R 999 lf) (hn : n ≤ 100) (hp : p < 6) (hq : q < 6) :
    ∃ τ, fX5_playAllTwos sh σ (nI p) (nI q) (nI n) = some ((), τ) ∧ agr scC σ τ ∧ (∀ j, j < 25 → τ.2.1 141 j = gOne R ru lf n p q j) ∧ (∀ j, j < 25 → τ.2.1 142 j = gTwo R ru lf n p q j) := by
  have hcp : (nI p).toNatClampNeg = p := nI_clamp (by omega)
  have hop : i_ok (nI p) 6 := ok_nI hp (by omega)
  have hcq : (nI q).toNatClampNeg = q := nI_clamp (by omega)
  have hoq : i_ok (nI q) 6 := ok_nI hq (by omega)
  have n25 : (25 : Int32) = nI 25 := by decide
  unfold fX5_playAllTwos
  have hF : 25 < i_F := i_F_gt (by omega)
  generalize i_F = F at hF ⊢
  have key : ∀ (m N k : Nat) (x : Int32) (v1 v2 : Value) (s : St), x = nI k → agr scC σ s → (∀ j, j < k → s.2.1 141 j = gOne R ru lf n p q j) → (∀ j, j < k → s.2.1 142 j = gTwo R ru lf n p q j) → k + m = 25 → m < N → ∃ τ, fX5_playAllTwos_L3 sh (nI p) (nI q) (nI n) N x v1 v2 s = some ((), τ) ∧ agr scC σ τ ∧ (∀ j, j < 25 → τ.2.1 141 j = gOne R ru lf n p q j) ∧ (∀ j, j < 25 → τ.2.1 142 j = gTwo R ru lf n p q j) := by
    intro m
    induction m with
    | zero =>
      intro N k x v1 v2 s hx hg h1 h2 hk hN
      obtain ⟨N, rfl⟩ : ∃ n', N = n' + 1 := ⟨N - 1, by omega⟩
      have hks : k = 25 := by omega
      subst hx hks
      refine ⟨s, ?_, hg, h1, h2⟩
      rw [fX5_playAllTwos_L3, n25, if_pos (nI_le (Nat.le_refl _) (by omega))]
    | succ m ih =>
      intro N k x v1 v2 s hx hg h1 h2 hk hN
      obtain ⟨N, rfl⟩ : ∃ n', N = n' + 1 := ⟨N - 1, by omega⟩
      subst hx
      have hs := CX_agr h hg
      obtain ⟨s2, a1, a2, a3⟩ := beginC2 (sh := sh) (σ := s)
      rw [hs.2.2.2.2.1] at a2
      obtain ⟨s3, c1, c2, c3⟩ := thankC (sh := sh) (v := 10 * nI (k / 5)) hp a2
      obtain ⟨s4, d1, d2, d3⟩ := thankC (sh := sh) (v := 10 * nI (k % 5)) hq c2
      have hg4' : agr trS s s4 := agr_trans (agr_trans a3 (agr_frC (by unfold trS; omega) c3)) (agr_frC (by unfold trS; omega) d3)
      have hg4 := agr_tr hg4'
      obtain ⟨s5, b1, b2, b3⟩ := goOnC2 (CX_agr hs hg4) (n := n) (b := 999) (by omega) (by omega) d2 (wfL_th (wfL_th hwl))
      have hg5' := agr_trans hg4' b3
      have hg5 := agr_tr hg5'
      have h5 := CX_agr hs hg5
      have hcl : (nI k).toNatClampNeg = k := nI_clamp (by omega)
      have hok : i_ok (nI k) 25 := ok_nI (by omega) (by omega)
      have ep : s5.2.1 137 p = (twoL R ru lf n p q k).2.2.1 p := (LfC_of b2).2.2.2.2.2.1 p hp
      have eq : s5.2.1 137 q = (twoL R ru lf n p q k).2.2.1 q := (LfC_of b2).2.2.2.2.2.1 q hq
      have hg6 : agr scC s5 (s_A s5 141 k (gOne R ru lf n p q k)) := agr_A (by unfold scC; omega)
      have h6 := CX_agr h5 hg6
      rw [fX5_playAllTwos_L3, n25, if_neg (nI_ge (by omega) (by omega)), div5 (show k < 2 ^ 31 by omega)]
      rw [show nI k - nI (k / 5) * 5 = nI (k % 5) from by rw [← div5 (show k < 2 ^ 31 by omega)]; exact mod5 (by omega)]
      rw [a1, bd_some, c1, bd_some, d1, bd_some, b1, bd_some, if_pos hop, hcp, ep, rankC h5.2.1 h5.2.2.2.1, bd_some, if_pos hok, if_pos hoq]
      simp only [hcl]
      rw [show spRank R ((twoL R ru lf n p q k).2.2.1 p) - nI (k / 5) = gOne R ru lf n p q k from rfl, hcq, s_A_ne (show (137 : Nat) ≠ 141 by decide), eq, rankC h6.2.1 h6.2.2.2.1, bd_some, if_pos hok, nI_1]
      rw [show spRank R ((twoL R ru lf n p q k).2.2.1 q) - nI (k % 5) = gTwo R ru lf n p q k from rfl]
      have e1 : ∀ j, j < k → s5.2.1 141 j = gOne R ru lf n p q j := fun j hj => by rw [(hg5'.1 141 (by unfold trS; omega)).2]; exact h1 j hj
      have e2 : ∀ j, j < k → s5.2.1 142 j = gTwo R ru lf n p q j := fun j hj => by rw [(hg5'.1 142 (by unfold trS; omega)).2]; exact h2 j hj
      refine ih N (k + 1) _ _ _ _ rfl (agr_trans (agr_trans (agr_trans hg hg5) hg6) (agr_A (by unfold scC; omega))) (fun j hj => ?_) (fun j hj => ?_) (by omega) (by omega)
      · rw [s_A_ne (show (141 : Nat) ≠ 142 by decide), s_A_rd]
        by_cases hjk : j = k
        · rw [if_pos ⟨rfl, hjk⟩, hjk]
        · rw [if_neg (fun e => hjk e.2)]
          exact e1 j (by omega)
      · rw [s_A_rd]
        by_cases hjk : j = k
        · rw [if_pos ⟨rfl, hjk⟩, hjk]
        · rw [if_neg (fun e => hjk e.2), s_A_ne (show (142 : Nat) ≠ 141 by decide)]
          exact e2 j (by omega)
  obtain ⟨τ, t⟩ := key 25 F 0 0 _ _ σ rfl agr_refl (fun j hj => by omega) (fun j hj => by omega) rfl hF
  exact ⟨τ, t⟩
theorem twosR {sh : List kd} (hsh : rmSh sh) {σ : St} {R : Rl} {ru : Option Cl} {lf : Lf} {n p q : Nat} (h : RX σ R ru) (hl : LfR σ = lf) (hwl : wfL R 999 lf) (hn : n ≤ 100) (hp : p < 6) (hq : q < 6) :
    ∃ τ, fX12_laysDeeds sh σ (nI p) (nI q) (nI n) = some ((), τ) ∧ agR σ τ ∧ (∀ j, j < 25 → τ.2.1 32 j = gOne R ru lf n p q j) ∧ (∀ j, j < 25 → τ.2.1 33 j = gTwo R ru lf n p q j) := by
  have hcp : (nI p).toNatClampNeg = p := nI_clamp (by omega)
  have hop : i_ok (nI p) 6 := ok_nI hp (by omega)
  have hcq : (nI q).toNatClampNeg = q := nI_clamp (by omega)
  have hoq : i_ok (nI q) 6 := ok_nI hq (by omega)
  have n25 : (25 : Int32) = nI 25 := by decide
  obtain ⟨s1, a1, a2, a3⟩ := keepR hsh (σ := σ)
  unfold fX12_laysDeeds
  rw [a1, bd_some]
  have hF : 25 < i_F := i_F_gt (by omega)
  generalize i_F = F at hF ⊢
  have key : ∀ (m N k : Nat) (x : Int32) (s : St), x = nI k → agR σ s → KeptOf σ s → (∀ j, j < k → s.2.1 32 j = gOne R ru lf n p q j) → (∀ j, j < k → s.2.1 33 j = gTwo R ru lf n p q j) → k + m = 25 → m < N → ∃ τ, fX12_laysDeeds_L7 sh (nI p) (nI q) (nI n) N x s = some ((), τ) ∧ agR σ τ ∧ (∀ j, j < 25 → τ.2.1 32 j = gOne R ru lf n p q j) ∧ (∀ j, j < 25 → τ.2.1 33 j = gTwo R ru lf n p q j) := by
    intro m
    induction m with
    | zero =>
      intro N k x s hx hg hK h1 h2 hk hN
      obtain ⟨N, rfl⟩ : ∃ n', N = n' + 1 := ⟨N - 1, by omega⟩
      have hks : k = 25 := by omega
      subst hx hks
      refine ⟨s, ?_, hg, h1, h2⟩
      rw [fX12_laysDeeds_L7, n25, if_pos (nI_le (Nat.le_refl _) (by omega))]
    | succ m ih =>
      intro N k x s hx hg hK h1 h2 hk hN
      obtain ⟨N, rfl⟩ : ∃ n', N = n' + 1 := ⟨N - 1, by omega⟩
      subst hx
      have hs := RX_agR h hg
      have hls := (LfR_agR hg).trans hl
      have hth : ∀ j, j < 6 → s.2.1 6 j = lf.2.1 j := (LfR_of hls).2.2.2.2.1
      generalize hv1 : spThank (lf.2.1 p) (10 * nI (k / 5)) = v1
      have hv1' : (if lf.2.1 p + 10 * nI (k / 5) < 999 then lf.2.1 p + 10 * nI (k / 5) else 999) = v1 := hv1
      have e2 : (s_A s 6 p v1).2.1 6 q = (lfTh lf p v1).2.1 q := by
        rw [s_A_up]
        show upd _ p v1 q = upd _ p v1 q
        rw [upd_pt, upd_pt, hth q hq]
      generalize hv2 : spThank ((lfTh lf p v1).2.1 q) (10 * nI (k % 5)) = v2
      have hv2' : (if (lfTh lf p v1).2.1 q + 10 * nI (k % 5) < 999 then (lfTh lf p v1).2.1 q + 10 * nI (k % 5) else 999) = v2 := hv2
      have hlife : lifeR s (s_A (s_A s 6 p v1) 6 q v2) := lifeR_trans lifeR_A6 lifeR_A6
      obtain ⟨s5, b1, b2, b3⟩ := goForR (sh := sh) (RX_life hs hlife) (lf := lfTh (lfTh lf p v1) q v2) (n := n) (b := 999) (by omega) (by omega) (by rw [LfR_th hq, LfR_th hp, hls]) (wfL_th (wfL_th hwl))
      have b2' : LfR s5 = twoL R ru lf n p q k := by
        rw [b2]
        unfold twoL
        rw [hv1, hv2]
      have hl5 := lifeR_trans hlife b3
      have h5 := RX_life hs hl5
      have hcl : (nI k).toNatClampNeg = k := nI_clamp (by omega)
      have hok : i_ok (nI k) 25 := ok_nI (by omega) (by omega)
      have ep : s5.2.1 8 p = (twoL R ru lf n p q k).2.2.1 p := (LfR_of b2').2.2.2.2.2.1 p hp
      have eq : s5.2.1 8 q = (twoL R ru lf n p q k).2.2.1 q := (LfR_of b2').2.2.2.2.2.1 q hq
      have hg6 : agS s5 (s_A s5 32 k (gOne R ru lf n p q k)) := agS_A (by omega)
      have h6 : RX (s_A s5 32 k (gOne R ru lf n p q k)) R ru := RX_agS h5 hg6 (by rw [s_A_ne (by decide)])
      have hg7 : agS (s_A s5 32 k (gOne R ru lf n p q k)) (s_A (s_A s5 32 k (gOne R ru lf n p q k)) 33 k (gTwo R ru lf n p q k)) := agS_A (by omega)
      obtain ⟨τ, t1, t2, t3, t4⟩ := layR hsh (σ0 := σ) (σ := s_A (s_A s5 32 k (gOne R ru lf n p q k)) 33 k (gTwo R ru lf n p q k)) (by
        unfold KeptOf
        rw [s_A_ne (by decide), s_A_ne (by decide)]
        exact Kept_life hK hl5) (agS_trans (agS_trans (agS_trans hg.1 hl5.1) hg6) hg7)
      rw [fX12_laysDeeds_L7, n25, if_neg (nI_ge (by omega) (by omega)), div5 (show k < 2 ^ 31 by omega)]
      rw [show nI k - nI (k / 5) * 5 = nI (k % 5) from by rw [← div5 (show k < 2 ^ 31 by omega)]; exact mod5 (by omega)]
      simp only [hcp, hcq, if_pos hop, if_pos hoq]
      rw [hth p hp, upToR, bd_some, hv1', e2, upToR, bd_some, hv2', b1, bd_some, rankR h5.1 h5.2.2.1 hp, bd_some, if_pos hok, ep]
      simp only [hcl]
      rw [show spRank R ((twoL R ru lf n p q k).2.2.1 p) - nI (k / 5) = gOne R ru lf n p q k from rfl, rankR h6.1 h6.2.2.1 hq, bd_some, if_pos hok, s_A_ne (show (8 : Nat) ≠ 32 by decide), eq]
      rw [show spRank R ((twoL R ru lf n p q k).2.2.1 q) - nI (k % 5) = gTwo R ru lf n p q k from rfl, t1, bd_some, nI_1]
      refine ih N (k + 1) _ τ rfl t3 t2 (fun j hj => ?_) (fun j hj => ?_) (by omega) (by omega)
      · rw [t4 32 (by decide) (by decide) (by decide) (by decide) (by decide), s_A_ne (show (32 : Nat) ≠ 33 by decide), s_A_rd]
        by_cases hjk : j = k
        · rw [if_pos ⟨rfl, hjk⟩, hjk]
        · rw [if_neg (fun e => hjk e.2), hl5.2.2.2.1]
          exact h1 j (by omega)
      · rw [t4 33 (by decide) (by decide) (by decide) (by decide) (by decide), s_A_rd]
        by_cases hjk : j = k
        · rw [if_pos ⟨rfl, hjk⟩, hjk]
        · rw [if_neg (fun e => hjk e.2), s_A_ne (show (33 : Nat) ≠ 32 by decide), hl5.2.2.2.2.1]
          exact h2 j (by omega)
  exact key 25 F 0 0 s1 rfl a3 a2 (fun j hj => by omega) (fun j hj => by omega) rfl hF
/-- 1: none of the two would do better otherwise -/
def rst (f g : Nat → Int32) (c : Nat) : Nat → Nat → Int32
  | 0, _ => 1
  | m + 1, k => if f c < f (k * 5 + c % 5) then 0 else if g (c / 5 * 5 + k) ≤ g c then rst f g c m (k + 1) else 0
theorem rstC {sh : List kd} {σ : St} {f g : Nat → Int32} {c : Nat} (hc : c < 25) (hf : ∀ j, j < 25 → σ.2.1 141 j = f j) (hg : ∀ j, j < 25 → σ.2.1 142 j = g j) : fX5_isAtRest sh σ (nI (c / 5)) (nI (c % 5)) = some (rst f g c 5 0, σ) := by
  unfold fX5_isAtRest
  have hF : 5 < i_F := i_F_gt (by omega)
  generalize i_F = F at hF ⊢
  have hcc : c / 5 * 5 + c % 5 = c := by omega
  have key : ∀ (m N k : Nat) (x : Int32), x = nI k → k + m = 5 → m < N → fX5_isAtRest_L9 sh (nI (c / 5)) (nI (c % 5)) σ N x = some (rst f g c m k, σ) := by
    intro m
    induction m with
    | zero =>
      intro N k x hx hk hN
      obtain ⟨N, rfl⟩ : ∃ n', N = n' + 1 := ⟨N - 1, by omega⟩
      subst hx
      rw [fX5_isAtRest_L9, five, if_pos (nI_le (by omega) (by omega))]
      rfl
    | succ m ih =>
      intro N k x hx hk hN
      obtain ⟨N, rfl⟩ : ∃ n', N = n' + 1 := ⟨N - 1, by omega⟩
      subst hx
      rw [fX5_isAtRest_L9]
      have i1 : nI k * nI 5 + nI (c % 5) = nI (k * 5 + c % 5) := by rw [nI_mul, nI_add]
      have i2 : nI (c / 5) * nI 5 + nI (c % 5) = nI c := by rw [nI_mul, nI_add, hcc]
      have i3 : nI (c / 5) * nI 5 + nI k = nI (c / 5 * 5 + k) := by rw [nI_mul, nI_add]
      have k1 : (nI (k * 5 + c % 5)).toNatClampNeg = k * 5 + c % 5 := nI_clamp (by omega)
      have k2 : (nI c).toNatClampNeg = c := nI_clamp (by omega)
      have k3 : (nI (c / 5 * 5 + k)).toNatClampNeg = c / 5 * 5 + k := nI_clamp (by omega)
      have v1 := hf (k * 5 + c % 5) (by omega)
      have v2 := hf c hc
      have v3 := hg (c / 5 * 5 + k) (by omega)
      have v4 := hg c hc
      rw [five, if_neg (nI_ge (by omega) (by omega)), i1, i2, if_pos (ok_nI (by omega) (by omega)), if_pos (ok_nI hc (by omega)), i3, if_pos (ok_nI (by omega) (by omega)), if_pos (ok_nI hc (by omega))]
      simp only [k1, k2, k3, v1, v2, v3, v4, nI_1]
      rw [ih N (k + 1) _ rfl (by omega) (by omega)]
      rw [show rst f g c (m + 1) k = (if f c < f (k * 5 + c % 5) then 0 else if g (c / 5 * 5 + k) ≤ g c then rst f g c m (k + 1) else 0) from rfl]
      split
      · rfl
      · split
        · rfl
        · rfl
  exact key 5 F 0 0 rfl rfl hF
theorem rstR {sh : List kd} {σ : St} {f g : Nat → Int32} {c : Nat} (hc : c < 25) (hf : ∀ j, j < 25 → σ.2.1 32 j = f j) (hg : ∀ j, j < 25 → σ.2.1 33 j = g j) : fX12_isRest sh σ (nI c) = some (rst f g c 5 0, σ) := by
  unfold fX12_isRest
  have hF : 5 < i_F := i_F_gt (by omega)
  generalize i_F = F at hF ⊢
  have key : ∀ (m N k : Nat) (x : Int32), x = nI k → k + m = 5 → m < N → fX12_isRest_L2 sh (nI c) σ N x = some (rst f g c m k, σ) := by
    intro m
    induction m with
    | zero =>
      intro N k x hx hk hN
      obtain ⟨N, rfl⟩ : ∃ n', N = n' + 1 := ⟨N - 1, by omega⟩
      subst hx
      rw [fX12_isRest_L2, five, if_pos (nI_le (by omega) (by omega))]
      rfl
    | succ m ih =>
      intro N k x hx hk hN
      obtain ⟨N, rfl⟩ : ∃ n', N = n' + 1 := ⟨N - 1, by omega⟩
      subst hx
      rw [fX12_isRest_L2]
      have i1 : nI 5 * nI k + nI (c % 5) = nI (k * 5 + c % 5) := by rw [nI_mul, nI_add, Nat.mul_comm]
      have i3 : nI c - nI (c % 5) + nI k = nI (c / 5 * 5 + k) := by rw [nI_sub (by omega), nI_add, show c - c % 5 + k = c / 5 * 5 + k by omega]
      have k1 : (nI (k * 5 + c % 5)).toNatClampNeg = k * 5 + c % 5 := nI_clamp (by omega)
      have k2 : (nI c).toNatClampNeg = c := nI_clamp (by omega)
      have k3 : (nI (c / 5 * 5 + k)).toNatClampNeg = c / 5 * 5 + k := nI_clamp (by omega)
      have v1 := hf (k * 5 + c % 5) (by omega)
      have v2 := hf c hc
      have v3 := hg (c / 5 * 5 + k) (by omega)
      have v4 := hg c hc
      rw [mod5 (by omega), five, if_neg (nI_ge (by omega) (by omega)), i1, if_pos (ok_nI (by omega) (by omega)), if_pos (ok_nI hc (by omega)), i3, if_pos (ok_nI (by omega) (by omega)), if_pos (ok_nI hc (by omega))]
      simp only [k1, k2, k3, v1, v2, v3, v4, nI_1]
      rw [ih N (k + 1) _ rfl (by omega) (by omega)]
      rw [show rst f g c (m + 1) k = (if f c < f (k * 5 + c % 5) then 0 else if g (c / 5 * 5 + k) ≤ g c then rst f g c m (k + 1) else 0) from rfl]
      split
      · rfl
      · split
        · rfl
        · rfl
  exact key 5 F 0 0 rfl rfl hF
def gRest (f g : Nat → Int32) (c : Nat) (a : Int32 × Int32) : Int32 × Int32 := if rst f g c 5 0 = 0 then a else (a.1 + 1, if ¬ a.2 = -1 then a.2 else nI c)
def ansRest (w : Int32) (a : Int32 × Int32) : Int32 := if ¬ w = 0 then if ¬ a.2 = -1 then if ¬ w = 1 then 10 * (a.2 - a.2 / 5 * 5) else 10 * (a.2 / 5) else -2 else a.1
theorem restsC {sh : List kd} {σ : St} {f g : Nat → Int32} {w : Int32} (hf : ∀ j, j < 25 → σ.2.1 141 j = f j) (hg : ∀ j, j < 25 → σ.2.1 142 j = g j) : fX5_restOfTwos sh σ w = some (ansRest w (it (gRest f g) 25 0 (0, -1)), σ) := by
  have n25 : (25 : Int32) = nI 25 := by decide
  unfold fX5_restOfTwos
  have hF : 25 < i_F := i_F_gt (by omega)
  generalize i_F = F at hF ⊢
  have h0 : ∀ a : Int32 × Int32, fX5_restOfTwos_X50 sh w a.1 a.2 (nI 25) σ = some (ansRest w a, σ) := by
    intro a
    unfold fX5_restOfTwos_X50 fX5_restOfTwos_J80 ansRest
    split
    · split
      · split
        · rfl
        · rfl
      · rfl
    · rfl
  have key := it_loop (L := fun n k a => fX5_restOfTwos_L7 sh w (fun (x55 : Int32) (x56 : Int32) (x57 : Int32) (s58 : St) => fX5_restOfTwos_X50 sh w x55 x56 x57 s58) n a.1 a.2 (nI k) σ) (E := fun a => some (ansRest w a, σ)) (g := gRest f g) (N := 25) (fun n k a hk => by
    rw [fX5_restOfTwos_L7, n25, if_neg (nI_ge hk (by omega)), mod5 (by omega), div5 (by omega), rstC hk hf hg, bd_some]
    unfold fX5_restOfTwos_J44 gRest
    rw [nI_1]
    by_cases hc : rst f g k 5 0 = 0
    · rw [if_pos hc, if_pos hc]
    · rw [if_neg hc, if_neg hc]) (fun n a => by
    rw [fX5_restOfTwos_L7, n25, if_pos (nI_le (Nat.le_refl _) (by omega))]
    exact h0 a) 25 F 0 (0, -1) rfl hF
  rw [nz0] at key
  exact key
theorem restsR {sh : List kd} {σ : St} {f g : Nat → Int32} {p q n w : Int32} (hf : ∀ j, j < 25 → σ.2.1 32 j = f j) (hg : ∀ j, j < 25 → σ.2.1 33 j = g j) : fX12_rests_L64 sh p q n w (fun (x75 : Int32) (x76 : Int32) (x77 : Int32) (s78 : St) => fX12_rests_X103 sh p q n w x75 x76 x77 s78) i_F 0 (-1) 0 σ = some (ansRest w (it (gRest f g) 25 0 (0, -1)), σ) := by
  have n25 : (25 : Int32) = nI 25 := by decide
  have hF : 25 < i_F := i_F_gt (by omega)
  generalize i_F = F at hF ⊢
  have h0 : ∀ a : Int32 × Int32, fX12_rests_X103 sh p q n w a.1 a.2 (nI 25) σ = some (ansRest w a, σ) := by
    intro a
    unfold fX12_rests_X103 fX12_rests_J141 ansRest
    split
    · split
      · split
        · rfl
        · rfl
      · rfl
    · rfl
  have key : ∀ (m N k : Nat) (a : Int32 × Int32) (x : Int32) (c : Nat), x = nI k → c ≤ k → a.1 = nI c → (c = 0 ↔ a.2 = -1) → k + m = 25 → m < N → fX12_rests_L64 sh p q n w (fun (x75 : Int32) (x76 : Int32) (x77 : Int32) (s78 : St) => fX12_rests_X103 sh p q n w x75 x76 x77 s78) N a.1 a.2 x σ = some (ansRest w (it (gRest f g) m k a), σ) := by
    intro m
    induction m with
    | zero =>
      intro N k a x c hx hck ha hc hk hN
      obtain ⟨N, rfl⟩ : ∃ n', N = n' + 1 := ⟨N - 1, by omega⟩
      have hks : k = 25 := by omega
      subst hx hks
      rw [fX12_rests_L64, n25, if_pos (nI_le (Nat.le_refl _) (by omega))]
      exact h0 a
    | succ m ih =>
      intro N k a x c hx hck ha hc hk hN
      obtain ⟨N, rfl⟩ : ∃ n', N = n' + 1 := ⟨N - 1, by omega⟩
      subst hx
      rw [fX12_rests_L64, n25, if_neg (nI_ge (by omega) (by omega)), rstR (by omega) hf hg, bd_some]
      unfold fX12_rests_J97
      rw [nI_1]
      have hit : it (gRest f g) (m + 1) k a = it (gRest f g) m (k + 1) (gRest f g k a) := rfl
      rw [hit]
      unfold gRest
      by_cases hr : rst f g k 5 0 = 0
      · rw [if_pos hr, if_pos hr]
        exact ih N (k + 1) a _ c rfl (by omega) ha hc (by omega) (by omega)
      · rw [if_neg hr, if_neg hr]
        have e : (if ¬ a.1 = 0 then a.2 else nI k) = (if ¬ a.2 = -1 then a.2 else nI k) := by
          by_cases c0 : c = 0
          · rw [if_neg (not_not_intro (by rw [ha, c0]; rfl)), if_neg (not_not_intro (hc.mp c0))]
          · rw [if_pos (by rw [ha]; exact nI_ne0 (by omega) (by omega)), if_pos (fun e => c0 (hc.mpr e))]
        rw [e]
        refine ih N (k + 1) (a.1 + 1, if ¬ a.2 = -1 then a.2 else nI k) _ (c + 1) rfl (by omega) (by rw [ha, nI_1]) ⟨fun e => by omega, fun e => ?_⟩ (by omega) (by omega)
        exfalso
        dsimp only at e
        by_cases h2 : a.2 = -1
        · rw [if_neg (not_not_intro h2)] at e
          have : ¬ nI k < 0 := nI_pos (by omega)
          rw [e] at this
          exact this (by decide)
        · rw [if_pos h2] at e
          exact h2 e
  exact key 25 F 0 (0, -1) 0 0 rfl (by omega) rfl ⟨fun _ => rfl, fun _ => rfl⟩ rfl hF
theorem q_rests {sh shR : List kd} {σC σR : St} {R : Rl} {ru : Option Cl} {lf : Lf} (h : QX sh shR σC σR R ru lf) (p q n w : Int32) : alikeQ (fX11_rests sh σC p q n w) (fX12_rests shR σR p q n w) σC σR := by
  have hC := h.2.2.2.1
  have hRR := h.2.2.2.2.1
  obtain ⟨lt1, lt2, lt3⟩ := wfR_lt h.2.2.1
  unfold fX11_rests fX12_rests
  by_cases hp : isN R.1.2.2.2 p
  · have hD := hD_of h.2.2.1 (Or.inl hp)
    rw [hasP_t (by omega) hC.2.2.2.2.1 hp, bd_some, if_neg n10, isP_t lt3 hRR.2.2.2.1 hp, bd_some, if_neg n10]
    by_cases hq : isN R.1.2.2.2 q
    · rw [hasP_t (by omega) hC.2.2.2.2.1 hq, bd_some, if_neg n10, isP_t lt3 hRR.2.2.2.1 hq, bd_some, if_neg n10]
      by_cases hpq : p = q
      · rw [if_pos hpq, if_pos hpq]
        exact alike_now
      rw [if_neg hpq, if_neg hpq]
      by_cases hn : btw n 1 20
      · rw [within_t (a := 1) (b := 20) (by decide) (by decide) (by decide) (by decide) hn, bd_some, if_neg n10, in_t (a := 1) (b := 20) (by decide) (by decide) (by decide) (by decide) hn, bd_some, if_neg n10]
        by_cases hw : btw w 0 2
        · rw [within_t (a := 0) (b := 2) (by decide) (by decide) (by decide) (by decide) hw, bd_some, if_pos n10, in_t (a := 0) (b := 2) (by decide) (by decide) (by decide) (by decide) hw, bd_some, if_pos n10]
          obtain ⟨k, _, k2, k3⟩ := hn
          obtain ⟨p', p1, p2⟩ := hp
          obtain ⟨q', q1, q2⟩ := hq
          have := h.2.2.1.2.2.1
          subst k3 p2 q2
          obtain ⟨τC, a1, a2, a3, a4⟩ := twosC (n := k) (p := p') (q := q') (QX_C h hD) h.2.2.2.2.2.2.2.1 (by omega) (by omega) (by omega)
          obtain ⟨τR, b1, b2, b3, b4⟩ := twosR h.2.1 (n := k) (p := p') (q := q') (QX_R h hD) h.2.2.2.2.2.2.1 h.2.2.2.2.2.2.2.1 (by omega) (by omega) (by omega)
          exact ⟨_, τC, τR, by rw [a1, bd_some, restsC a3 a4, bd_some], by rw [b1, bd_some, restsR b3 b4], a2, b2⟩
        · rw [within_f (a := 0) (b := 2) (by decide) (by decide) (by decide) (by decide) hw, bd_some, if_neg nn00, in_f (a := 0) (b := 2) (by decide) (by decide) (by decide) (by decide) hw, bd_some, if_neg nn00]
          exact alike_now
      · rw [within_f (a := 1) (b := 20) (by decide) (by decide) (by decide) (by decide) hn, bd_some, if_pos z00, in_f (a := 1) (b := 20) (by decide) (by decide) (by decide) (by decide) hn, bd_some, if_pos z00]
        exact alike_now
    · rw [hasP_f (by omega) hC.2.2.2.2.1 hq, bd_some, if_pos z00, isP_f lt3 hRR.2.2.2.1 hq, bd_some, if_pos z00]
      exact alike_now
  · rw [hasP_f (by omega) hC.2.2.2.2.1 hp, bd_some, if_pos z00, isP_f lt3 hRR.2.2.2.1 hp, bd_some, if_pos z00]
    exact alike_now
