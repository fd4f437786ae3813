/-! ===== RANK of TITLES ===== -/
def gRank (rk : Nat → Int32) (x : Int32) (t : Nat) (a : Int32) : Int32 := if ((x >>> (nI t &&& 31)) &&& 1) = 0 then a else a + rk t
def spRank (R : Rl) (x : Int32) : Int32 := it (gRank R.2.1 x) R.1.2.2.1 0 0
theorem rankC {sh : List kd} {σ : St} {r : Nat} {R : Rl} {x : Int32} (hR : wfR R) (h : isRC σ r R) : fX6_rankOf sh σ r x = some (spRank R x, σ) := by
  have hT := hR.2.1
  unfold fX6_rankOf
  rw [← nz0]
  have hF : R.1.2.2.1 < i_F := i_F_gt (by omega)
  generalize i_F = F at hF ⊢
  refine it_loop (L := fun n k a => fX6_rankOf_L4 sh r x σ n a (nI k)) (E := fun a => some (a, σ)) (g := gRank R.2.1 x) (N := R.1.2.2.1) (fun n k a hk => ?_) (fun n a => ?_) R.1.2.2.1 F 0 (nI 0) (by omega) hF
  · have hcl : (nI k).toNatClampNeg = k := nI_clamp (by omega)
    rw [fX6_rankOf_L4, h.2.2.2.1, if_neg (nI_ge hk (by omega))]
    unfold fX6_rankOf_J29 gRank
    by_cases hc : ((x >>> (nI k &&& 31)) &&& 1) = 0
    · rw [if_pos hc, if_pos hc, nI_1]
    · rw [if_neg hc, if_neg hc, if_pos (ok_nI (by omega) (by omega)), hcl, h.2.2.2.2.2.1 k hk, nI_1]
  · rw [fX6_rankOf_L4, h.2.2.2.1, if_pos (nI_le (Nat.le_refl _) (by omega))]
theorem rankR {sh : List kd} {σ : St} {R : Rl} {p : Nat} (hR : wfR R) (h : isRR σ R) (hp : p < 6) : fX12_rankOf sh σ (nI p) = some (spRank R (σ.2.1 8 p), σ) := by
  have hT := hR.2.1
  have hcp : (nI p).toNatClampNeg = p := nI_clamp (by omega)
  have hop : i_ok (nI p) 6 := ok_nI hp (by omega)
  unfold fX12_rankOf
  rw [← nz0]
  have hF : R.1.2.2.1 < i_F := i_F_gt (by omega)
  generalize i_F = F at hF ⊢
  refine it_loop (L := fun n k a => fX12_rankOf_L4 sh (nI p) n a (nI k) σ) (E := fun a => some (a, σ)) (g := gRank R.2.1 (σ.2.1 8 p)) (N := R.1.2.2.1) (fun n k a hk => ?_) (fun n a => ?_) R.1.2.2.1 F 0 (nI 0) (by omega) hF
  · have hcl : (nI k).toNatClampNeg = k := nI_clamp (by omega)
    rw [fX12_rankOf_L4, if_pos o_2, c_2, h.2.2.1, if_neg (nI_ge hk (by omega)), if_pos hop, hcp, hasR, bd_some]
    unfold fX12_rankOf_J38 gRank
    by_cases hc : ((σ.2.1 8 p >>> (nI k &&& 31)) &&& 1) = 0
    · rw [if_pos hc, if_pos z00, if_pos hc, nI_1, Int32.add_zero]
    · rw [if_neg hc, if_neg n10, if_neg hc, if_pos (ok_nI (by omega) (by omega)), hcl, h.2.2.2.2.1 k hk, nI_1]
  · rw [fX12_rankOf_L4, if_pos o_2, c_2, h.2.2.1, if_pos (nI_le (Nat.le_refl _) (by omega))]
/-! ===== held ===== -/
def gNev (f g : Nat → Int32) (t : Nat) (a : Int32) : Int32 := if ¬ f t = g t then a else a ||| (1 <<< (nI t &&& 31))
def spHeld (R : Rl) (ru : Option Cl) (lf : Lf) (n : Nat) (w : Int32) : Int32 := if ¬ w = 6 then (spGo R ru n lf).2.2.2.2 w.toNatClampNeg - lf.2.2.2.2 w.toNatClampNeg else it (gNev (spGo R ru n lf).2.2.2.2 lf.2.2.2.2) R.1.2.2.1 0 0
theorem heldC1 {sh : List kd} {σ : St} {R : Rl} {ru : Option Cl} {lf : Lf} {n : Nat} {w : Int32} (h : CX sh σ R ru lf) (hwl : wfL R 999 lf) (hn : n ≤ 100) (hw6 : ¬ w = 6) (hw : i_ok w 6) :
    ∃ τ, fX5_timesHeld sh σ w (nI n) = some (spHeld R ru lf n w, τ) ∧ agr scC σ τ := by
  obtain ⟨s2, a1, a2, a3⟩ := beginC (sh := sh) (σ := σ)
  rw [h.2.2.2.2.1] at a2
  obtain ⟨s5, b1, b2, b3⟩ := goOnC (CX_agr h a3) (n := n) (b := 999) (by omega) (by omega) a2 hwl
  have h5 := CX_agr h (agr_trans a3 b3)
  unfold fX5_timesHeld spHeld
  rw [a1, bd_some, b1, bd_some, if_pos hw, if_pos hw, if_pos hw6]
  obtain ⟨_, _, _, _, _, _, _, l8⟩ := LfC_of b2
  obtain ⟨_, _, _, _, _, _, _, m8⟩ := LfC_of h5.2.2.2.2.1
  rw [l8 _ hw.2, m8 _ hw.2]
  exact ⟨s5, rfl, agr_trans a3 b3⟩
theorem heldC2 {sh : List kd} {σ : St} {R : Rl} {ru : Option Cl} {lf : Lf} {n : Nat} (h : CX sh σ R ru lf) (hwl : wfL R 999 lf) (hn : n ≤ 100) :
    ∃ τ, fX5_neverHeld sh σ (nI n) = some (spHeld R ru lf n 6, τ) ∧ agr scC σ τ := by
  have hT := h.2.1.2.1
  obtain ⟨s2, a1, a2, a3⟩ := beginC (sh := sh) (σ := σ)
  rw [h.2.2.2.2.1] at a2
  obtain ⟨s5, b1, b2, b3⟩ := goOnC (CX_agr h a3) (n := n) (b := 999) (by omega) (by omega) a2 hwl
  have h5 := CX_agr h (agr_trans a3 b3)
  unfold fX5_neverHeld spHeld
  rw [a1, bd_some, b1, bd_some, if_neg (not_not_intro rfl)]
  obtain ⟨_, _, _, _, _, _, _, l8⟩ := LfC_of b2
  obtain ⟨_, _, _, _, _, _, _, m8⟩ := LfC_of h5.2.2.2.2.1
  refine ⟨s5, ?_, agr_trans a3 b3⟩
  rw [← nz0]
  have hF : R.1.2.2.1 < i_F := i_F_gt (by omega)
  generalize i_F = F at hF ⊢
  refine it_loop (L := fun N k a => fX5_neverHeld_L13 sh (nI n) s5 N a (nI k)) (E := fun a => some (a, s5)) (g := gNev (spGo R ru n lf).2.2.2.2 lf.2.2.2.2) (N := R.1.2.2.1) (fun n k a hk => ?_) (fun n a => ?_) R.1.2.2.1 F 0 (nI 0) (by omega) hF
  · have hcl : (nI k).toNatClampNeg = k := nI_clamp (by omega)
    have e1 : s5.2.1 139 k = _ := l8 k (by omega)
    have e2 : s5.2.1 30 k = _ := m8 k (by omega)
    rw [fX5_neverHeld_L13, h5.2.2.2.1.2.2.2.1, if_neg (nI_ge hk (by omega)), if_pos (ok_nI (by omega) (by omega)), if_pos (ok_nI (by omega) (by omega))]
    simp only [hcl, e1, e2, nI_1]
    rfl
  · rw [fX5_neverHeld_L13, h5.2.2.2.1.2.2.2.1, if_pos (nI_le (Nat.le_refl _) (by omega))]
theorem agS_A {σ : St} {i j : Nat} {x : Int32} (h : 31 ≤ i ∧ i ≤ 35) : agS σ (s_A σ i j x) := ⟨fun _ _ _ => rfl, fun k _ _ _ _ _ a b c d e _ => s_A_ne (by omega), fun k _ => by rw [s_A_ne (by omega)], fun k _ => by rw [s_A_ne (by omega)], rfl⟩
theorem RX_agS {σ τ : St} {R : Rl} {ru : Option Cl} (h : RX σ R ru) (g : agS σ τ) (hf : τ.2.1 1 10 = σ.2.1 1 10) : RX τ R ru := ⟨h.1, h.2.1, isRR_agS g h.2.2.1, ruR_agS g hf h.2.2.2⟩
theorem sub0 {a b : Int32} : a - b = 0 ↔ a = b := by
  constructor
  · intro e
    have h := Int32.sub_add_cancel a b
    rw [e, Int32.zero_add] at h
    exact h.symm
  · intro e
    rw [e, Int32.sub_self]
theorem subadd {a b c : Int32} : a - b + c = a + c - b := by
  rw [Int32.sub_eq_add_neg, Int32.sub_eq_add_neg, Int32.add_assoc, Int32.add_comm (-b) c, Int32.add_assoc]
theorem heldR {sh : List kd} (hsh : rmSh sh) {σ : St} {R : Rl} {ru : Option Cl} {lf : Lf} {n : Nat} {w : Int32} (h : RX σ R ru) (hl : LfR σ = lf) (hwl : wfL R 999 lf) (hn : n ≤ 100) (hw : w = 6 ∨ i_ok w 6) :
    ∃ τ, fX12_held_L37 sh (nI n) w (fun (x62 : Int32) (s63 : St) => fX12_held_X56 sh (nI n) w x62 s63) i_F 0 σ = some (spHeld R ru lf n w, τ) ∧ agR σ τ := by
  have hT := h.1.2.1
  have hRRσ := h.2.2.1
  have hF6 : 6 < i_F := i_F_gt (by omega)
  have hFn : n < i_F := i_F_gt (by omega)
  have hFT : R.1.2.2.1 < i_F := i_F_gt (by omega)
  generalize hiF : i_F = F at hF6 hFn hFT ⊢
  have n6 : (6 : Int32) = nI 6 := by decide
  -- the counting
  have k3 : ∀ (m N k b : Nat) (σ1 s : St) (l : Lf) (x : Int32), x = nI k → RX s R ru → KeptOf σ1 s → agS σ1 s → agR σ σ1 → k + m = n → m < N → b + m ≤ 2000 → LfR s = l → wfL R b l → (∀ j, j < 6 → s.2.1 31 j = l.2.2.2.2 j - lf.2.2.2.2 j) → spGo R ru m l = spGo R ru n lf → ∃ τ, fX12_held_L62 sh (nI n) w (fun (x122 : Int32) (s123 : St) => fX12_held_X103 sh (nI n) w x122 s123) N x s = some (spHeld R ru lf n w, τ) ∧ agR σ τ := by
    intro m
    induction m with
    | zero =>
      intro N k b σ1 s l x hx h hK hg hgR hk hN hb hl hwl hc hgo
      obtain ⟨N, rfl⟩ : ∃ n', N = n' + 1 := ⟨N - 1, by omega⟩
      obtain ⟨τ, t1, _, t3, t4⟩ := layR hsh hK hg
      have hgo2 : l = spGo R ru n lf := hgo
      subst hx
      rw [fX12_held_L62, if_pos (nI_le (by omega) (by omega))]
      unfold fX12_held_X103
      rw [t1, bd_some, hiF]
      have h31 : ∀ j, j < 6 → τ.2.1 31 j = (spGo R ru n lf).2.2.2.2 j - lf.2.2.2.2 j := fun j hj => by rw [t4 31 (by decide) (by decide) (by decide) (by decide) (by decide), hc j hj, hgo2]
      have hRt : isRR τ R := isRR_agS (agS_trans hgR.1 t3.1) hRRσ
      have hend : ∀ x y, x = it (gNev (spGo R ru n lf).2.2.2.2 lf.2.2.2.2) R.1.2.2.1 0 0 → fX12_held_X150 sh (nI n) w τ x y = some (spHeld R ru lf n w, τ) := by
        intro x y hx
        unfold fX12_held_X150 fX12_held_J166 spHeld
        by_cases w6 : w = 6
        · rw [if_neg (not_not_intro w6), if_neg (not_not_intro w6), hx]
        · have hwo := hw.resolve_left w6
          rw [if_pos w6, if_pos w6, if_pos hwo, h31 _ hwo.2]
      refine ⟨τ, ?_, ⟨agS_trans hgR.1 t3.1, fun j hj => (t3.2.1 j hj).trans (hgR.2.1 j hj), fun j hj => (t3.2.2.1 j hj).trans (hgR.2.2.1 j hj), fun j hj => (t3.2.2.2.1 j hj).trans (hgR.2.2.2.1 j hj), fun j hj => (t3.2.2.2.2.1 j hj).trans (hgR.2.2.2.2.1 j hj), fun j hj => (t3.2.2.2.2.2 j hj).trans (hgR.2.2.2.2.2 j hj)⟩⟩
      have hloop : fX12_held_L112 sh (nI n) w τ (fun (x242 : Int32) (x243 : Int32) => fX12_held_X150 sh (nI n) w τ x242 x243) F (nI 0) (nI 0) = fX12_held_X150 sh (nI n) w τ (it (gNev (spGo R ru n lf).2.2.2.2 lf.2.2.2.2) R.1.2.2.1 0 (nI 0)) (nI R.1.2.2.1) := by
        refine it_loop (L := fun N k a => fX12_held_L112 sh (nI n) w τ (fun (x242 : Int32) (x243 : Int32) => fX12_held_X150 sh (nI n) w τ x242 x243) N a (nI k)) (E := fun a => fX12_held_X150 sh (nI n) w τ a (nI R.1.2.2.1)) (g := gNev (spGo R ru n lf).2.2.2.2 lf.2.2.2.2) (N := R.1.2.2.1) (fun N k a hk => ?_) (fun N a => ?_) R.1.2.2.1 F 0 (nI 0) (by omega) hFT
        · have hcl : (nI k).toNatClampNeg = k := nI_clamp (by omega)
          have e1 := h31 k (by omega)
          rw [fX12_held_L112, if_pos o_2, c_2, hRt.2.2.1, if_neg (nI_ge hk (by omega)), if_pos (ok_nI (by omega) (by omega))]
          simp only [hcl, e1, nI_1]
          unfold gNev
          by_cases he : (spGo R ru n lf).2.2.2.2 k = lf.2.2.2.2 k
          · rw [if_neg (not_not_intro (sub0.mpr he)), if_neg (not_not_intro he)]
          · rw [if_pos (fun e => he (sub0.mp e)), if_pos he, or_0]
        · rw [fX12_held_L112, if_pos o_2, c_2, hRt.2.2.1, if_pos (nI_le (Nat.le_refl _) (by omega))]
      rw [nI_0] at hloop
      rw [hloop]
      exact hend _ _ rfl
    | succ m ih =>
      intro N k b σ1 s l x hx h hK hg hgR hk hN hb hl hwl hc hgo
      obtain ⟨N, rfl⟩ : ∃ n', N = n' + 1 := ⟨N - 1, by omega⟩
      subst hx
      obtain ⟨τ, t1, t2, t3⟩ := stepR (sh := sh) h (b := b) (by omega) hl hwl
      have hwl2 := wfL_hour (ru := ru) h.1 h.2.1 (b := b) (by omega) hwl
      obtain ⟨l1, l2, _⟩ := LfR_of t2
      have hh : isH R.1.2.2.1 (spHour R ru l).2.1.2.1 := hwl2.2.1
      have htm : (spHour R ru l).2.2.2.2.2 = if (spHour R ru l).2.1.2.1 < 0 then l.2.2.2.2 else upd l.2.2.2.2 (spHour R ru l).2.1.2.1.toNatClampNeg (l.2.2.2.2 (spHour R ru l).2.1.2.1.toNatClampNeg + 1) := rfl
      have h31 : ∀ j, j < 6 → τ.2.1 31 j = l.2.2.2.2 j - lf.2.2.2.2 j := fun j hj => by rw [t3.2.2.1]; exact hc j hj
      rw [fX12_held_L62, if_neg (nI_ge (by omega) (by omega)), t1, bd_some, if_pos o_5]
      unfold fX12_held_J97
      simp only [c_5, l2, nI_1]
      rcases hh with hh | ⟨t, ht, hh⟩
      · rw [if_pos hh]
        exact ih N (k + 1) (b + 1) σ1 τ (spHour R ru l).2 _ rfl (RX_life h t3) (Kept_life hK t3) (agS_trans hg t3.1) hgR (by omega) (by omega) (by omega) t2 hwl2 (fun j hj => by rw [h31 j hj, htm, hh, if_pos (by decide)]) hgo
      · have hct : (nI t).toNatClampNeg = t := nI_clamp (by omega)
        have hok : i_ok (nI t) 6 := ok_nI (by omega) (by omega)
        have hn0 : ¬ nI t < 0 := nI_pos (by omega)
        rw [hh, if_neg (fun e => hn0 (by rw [e]; decide)), if_pos o_5, if_pos hok, if_pos hok, jp, hct]
        have hag : agS τ (s_A τ 31 t (τ.2.1 31 t + 1)) := agS_A (by omega)
        refine ih N (k + 1) (b + 1) σ1 (s_A τ 31 t (τ.2.1 31 t + 1)) (spHour R ru l).2 _ rfl (RX_agS (RX_life h t3) hag (by rw [s_A_ne (by decide)])) ?_ (agS_trans (agS_trans hg t3.1) hag) hgR (by omega) (by omega) (by omega) ?_ hwl2 (fun j hj => ?_) hgo
        · unfold KeptOf
          rw [s_A_ne (by decide)]
          exact Kept_life hK t3
        · rw [← t2]
          unfold LfR
          rw [s_A_ne (by decide), s_A_ne (by decide), s_A_ne (by decide), s_A_ne (by decide), s_A_ne (by decide)]
        · rw [s_A_rd, htm, hh, if_neg hn0, hct, upd_pt]
          by_cases hjt : j = t
          · rw [if_pos ⟨rfl, hjt⟩, if_pos hjt, h31 t (by omega), subadd, hjt]
          · rw [if_neg (fun e => hjt e.2), if_neg hjt, h31 j hj]
  -- the counters to 0
  have k1 : ∀ (m N k : Nat) (s : St) (x : Int32), x = nI k → agR σ s → (∀ j, j < k → s.2.1 31 j = 0) → k + m = 6 → m < N → ∃ τ, fX12_held_L37 sh (nI n) w (fun (x62 : Int32) (s63 : St) => fX12_held_X56 sh (nI n) w x62 s63) N x s = some (spHeld R ru lf n w, τ) ∧ agR σ τ := by
    intro m
    induction m with
    | zero =>
      intro N k s x hx hag h0 hk hN
      obtain ⟨N, rfl⟩ : ∃ n', N = n' + 1 := ⟨N - 1, by omega⟩
      subst hx
      rw [fX12_held_L37, n6, if_pos (nI_le (by omega) (by omega))]
      unfold fX12_held_X56
      obtain ⟨s1, a1, a2, a3, a4⟩ := keepR2 hsh (σ := s)
      rw [a1, bd_some, hiF]
      have hs31 : ∀ j, j < 6 → s1.2.1 31 j = lf.2.2.2.2 j - lf.2.2.2.2 j := by
        intro j hj
        rw [Int32.sub_self, a4 31 (by decide)]
        exact h0 j (by omega)
      exact k3 n F 0 999 s s1 lf 0 rfl (RX_agR (RX_agR h hag) a3) a2 a3.1 hag (by omega) hFn (by omega) ((LfR_agR a3).trans ((LfR_agR hag).trans hl)) hwl hs31 rfl
    | succ m ih =>
      intro N k s x hx hag h0 hk hN
      obtain ⟨N, rfl⟩ : ∃ n', N = n' + 1 := ⟨N - 1, by omega⟩
      subst hx
      have hcl : (nI k).toNatClampNeg = k := nI_clamp (by omega)
      rw [fX12_held_L37, n6, if_neg (nI_ge (by omega) (by omega)), if_pos (ok_nI (by omega) (by omega)), nI_1, hcl]
      refine ih N (k + 1) (s_A s 31 k 0) _ rfl ⟨agS_trans hag.1 (agS_A (by omega)), fun j hj => by rw [s_A_ne (by decide)]; exact hag.2.1 j hj, fun j hj => by rw [s_A_ne (by decide)]; exact hag.2.2.1 j hj, fun j hj => by rw [s_A_ne (by decide)]; exact hag.2.2.2.1 j hj, fun j hj => by rw [s_A_ne (by decide)]; exact hag.2.2.2.2.1 j hj, fun j hj => by rw [s_A_ne (by decide)]; exact hag.2.2.2.2.2 j hj⟩ (fun j hj => ?_) (by omega) (by omega)
      rw [s_A_rd]
      by_cases hjk : j = k
      · rw [if_pos ⟨rfl, hjk⟩]
      · rw [if_neg (fun e => hjk e.2)]
        exact h0 j (by omega)
  exact k1 6 F 0 σ 0 rfl agR_refl (fun j hj => by omega) rfl hF6
theorem heldR_307 {sh : List kd} (hsh : rmSh sh) {σ : St} {R : Rl} {ru : Option Cl} {lf : Lf} {n : Nat} {w : Int32} (h : RX σ R ru) (hl : LfR σ = lf) (hwl : wfL R 999 lf) (hn : n ≤ 100) (hw : w = 6 ∨ i_ok w 6) :
    ∃ τ, fX12_held_L37_307 sh (nI n) w (fun (x62 : Int32) (s63 : St) => fX12_held_X56_362 sh (nI n) w x62 s63) i_F 0 σ = some (spHeld R ru lf n w, τ) ∧ agR σ τ := by
  have hT := h.1.2.1
  have hRRσ := h.2.2.1
  have hF6 : 6 < i_F := i_F_gt (by omega)
  have hFn : n < i_F := i_F_gt (by omega)
  have hFT : R.1.2.2.1 < i_F := i_F_gt (by omega)
  generalize hiF : i_F = F at hF6 hFn hFT ⊢
  have n6 : (6 : Int32) = nI 6 := by decide
  -- the counting
  have k3 : ∀ (m N k b : Nat) (σ1 s : St) (l : Lf) (x : Int32), x = nI k → RX s R ru → KeptOf σ1 s → agS σ1 s → agR σ σ1 → k + m = n → m < N → b + m ≤ 2000 → LfR s = l → wfL R b l → (∀ j, j < 6 → s.2.1 31 j = l.2.2.2.2 j - lf.2.2.2.2 j) → spGo R ru m l = spGo R ru n lf → ∃ τ, fX12_held_L62_367 sh (nI n) w (fun (x122 : Int32) (s123 : St) => fX12_held_X103_482 sh (nI n) w x122 s123) N x s = some (spHeld R ru lf n w, τ) ∧ agR σ τ := by
    intro m
    induction m with
    | zero =>
      intro N k b σ1 s l x hx h hK hg hgR hk hN hb hl hwl hc hgo
      obtain ⟨N, rfl⟩ : ∃ n', N = n' + 1 := ⟨N - 1, by omega⟩
      obtain ⟨τ, t1, _, t3, t4⟩ := layR hsh hK hg
      have hgo2 : l = spGo R ru n lf := hgo
      subst hx
      rw [fX12_held_L62_367, if_pos (nI_le (by omega) (by omega))]
      unfold fX12_held_X103_482
      rw [t1, bd_some, hiF]
      have h31 : ∀ j, j < 6 → τ.2.1 31 j = (spGo R ru n lf).2.2.2.2 j - lf.2.2.2.2 j := fun j hj => by rw [t4 31 (by decide) (by decide) (by decide) (by decide) (by decide), hc j hj, hgo2]
      have hRt : isRR τ R := isRR_agS (agS_trans hgR.1 t3.1) hRRσ
      have hend : ∀ x y, x = it (gNev (spGo R ru n lf).2.2.2.2 lf.2.2.2.2) R.1.2.2.1 0 0 → fX12_held_X150_544 sh (nI n) w τ x y = some (spHeld R ru lf n w, τ) := by
        intro x y hx
        unfold fX12_held_X150_544 fX12_held_J166_595 spHeld
        by_cases w6 : w = 6
        · rw [if_neg (not_not_intro w6), if_neg (not_not_intro w6), hx]
        · have hwo := hw.resolve_left w6
          rw [if_pos w6, if_pos w6, if_pos hwo, h31 _ hwo.2]
      refine ⟨τ, ?_, ⟨agS_trans hgR.1 t3.1, fun j hj => (t3.2.1 j hj).trans (hgR.2.1 j hj), fun j hj => (t3.2.2.1 j hj).trans (hgR.2.2.1 j hj), fun j hj => (t3.2.2.2.1 j hj).trans (hgR.2.2.2.1 j hj), fun j hj => (t3.2.2.2.2.1 j hj).trans (hgR.2.2.2.2.1 j hj), fun j hj => (t3.2.2.2.2.2 j hj).trans (hgR.2.2.2.2.2 j hj)⟩⟩
      have hloop : fX12_held_L112_487 sh (nI n) w τ (fun (x242 : Int32) (x243 : Int32) => fX12_held_X150_544 sh (nI n) w τ x242 x243) F (nI 0) (nI 0) = fX12_held_X150_544 sh (nI n) w τ (it (gNev (spGo R ru n lf).2.2.2.2 lf.2.2.2.2) R.1.2.2.1 0 (nI 0)) (nI R.1.2.2.1) := by
        refine it_loop (L := fun N k a => fX12_held_L112_487 sh (nI n) w τ (fun (x242 : Int32) (x243 : Int32) => fX12_held_X150_544 sh (nI n) w τ x242 x243) N a (nI k)) (E := fun a => fX12_held_X150_544 sh (nI n) w τ a (nI R.1.2.2.1)) (g := gNev (spGo R ru n lf).2.2.2.2 lf.2.2.2.2) (N := R.1.2.2.1) (fun N k a hk => ?_) (fun N a => ?_) R.1.2.2.1 F 0 (nI 0) (by omega) hFT
        · have hcl : (nI k).toNatClampNeg = k := nI_clamp (by omega)
          have e1 := h31 k (by omega)
          rw [fX12_held_L112_487, if_pos o_2, c_2, hRt.2.2.1, if_neg (nI_ge hk (by omega)), if_pos (ok_nI (by omega) (by omega))]
          simp only [hcl, e1, nI_1]
          unfold gNev
          by_cases he : (spGo R ru n lf).2.2.2.2 k = lf.2.2.2.2 k
          · rw [if_neg (not_not_intro (sub0.mpr he)), if_neg (not_not_intro he)]
          · rw [if_pos (fun e => he (sub0.mp e)), if_pos he, or_0]
        · rw [fX12_held_L112_487, if_pos o_2, c_2, hRt.2.2.1, if_pos (nI_le (Nat.le_refl _) (by omega))]
      rw [nI_0] at hloop
      rw [hloop]
      exact hend _ _ rfl
    | succ m ih =>
      intro N k b σ1 s l x hx h hK hg hgR hk hN hb hl hwl hc hgo
      obtain ⟨N, rfl⟩ : ∃ n', N = n' + 1 := ⟨N - 1, by omega⟩
      subst hx
      obtain ⟨τ, t1, t2, t3⟩ := stepR (sh := sh) h (b := b) (by omega) hl hwl
      have hwl2 := wfL_hour (ru := ru) h.1 h.2.1 (b := b) (by omega) hwl
      obtain ⟨l1, l2, _⟩ := LfR_of t2
      have hh : isH R.1.2.2.1 (spHour R ru l).2.1.2.1 := hwl2.2.1
      have htm : (spHour R ru l).2.2.2.2.2 = if (spHour R ru l).2.1.2.1 < 0 then l.2.2.2.2 else upd l.2.2.2.2 (spHour R ru l).2.1.2.1.toNatClampNeg (l.2.2.2.2 (spHour R ru l).2.1.2.1.toNatClampNeg + 1) := rfl
      have h31 : ∀ j, j < 6 → τ.2.1 31 j = l.2.2.2.2 j - lf.2.2.2.2 j := fun j hj => by rw [t3.2.2.1]; exact hc j hj
      rw [fX12_held_L62_367, if_neg (nI_ge (by omega) (by omega)), t1, bd_some, if_pos o_5]
      unfold fX12_held_J97_476
      simp only [c_5, l2, nI_1]
      rcases hh with hh | ⟨t, ht, hh⟩
      · rw [if_pos hh]
        exact ih N (k + 1) (b + 1) σ1 τ (spHour R ru l).2 _ rfl (RX_life h t3) (Kept_life hK t3) (agS_trans hg t3.1) hgR (by omega) (by omega) (by omega) t2 hwl2 (fun j hj => by rw [h31 j hj, htm, hh, if_pos (by decide)]) hgo
      · have hct : (nI t).toNatClampNeg = t := nI_clamp (by omega)
        have hok : i_ok (nI t) 6 := ok_nI (by omega) (by omega)
        have hn0 : ¬ nI t < 0 := nI_pos (by omega)
        rw [hh, if_neg (fun e => hn0 (by rw [e]; decide)), if_pos o_5, if_pos hok, if_pos hok, jp, hct]
        have hag : agS τ (s_A τ 31 t (τ.2.1 31 t + 1)) := agS_A (by omega)
        refine ih N (k + 1) (b + 1) σ1 (s_A τ 31 t (τ.2.1 31 t + 1)) (spHour R ru l).2 _ rfl (RX_agS (RX_life h t3) hag (by rw [s_A_ne (by decide)])) ?_ (agS_trans (agS_trans hg t3.1) hag) hgR (by omega) (by omega) (by omega) ?_ hwl2 (fun j hj => ?_) hgo
        · unfold KeptOf
          rw [s_A_ne (by decide)]
          exact Kept_life hK t3
        · rw [← t2]
          unfold LfR
          rw [s_A_ne (by decide), s_A_ne (by decide), s_A_ne (by decide), s_A_ne (by decide), s_A_ne (by decide)]
        · rw [s_A_rd, htm, hh, if_neg hn0, hct, upd_pt]
          by_cases hjt : j = t
          · rw [if_pos ⟨rfl, hjt⟩, if_pos hjt, h31 t (by omega), subadd, hjt]
          · rw [if_neg (fun e => hjt e.2), if_neg hjt, h31 j hj]
  -- the counters to 0
  have k1 : ∀ (m N k : Nat) (s : St) (x : Int32), x = nI k → agR σ s → (∀ j, j < k → s.2.1 31 j = 0) → k + m = 6 → m < N → ∃ τ, fX12_held_L37_307 sh (nI n) w (fun (x62 : Int32) (s63 : St) => fX12_held_X56_362 sh (nI n) w x62 s63) N x s = some (spHeld R ru lf n w, τ) ∧ agR σ τ := by
    intro m
    induction m with
    | zero =>
      intro N k s x hx hag h0 hk hN
      obtain ⟨N, rfl⟩ : ∃ n', N = n' + 1 := ⟨N - 1, by omega⟩
      subst hx
      rw [fX12_held_L37_307, n6, if_pos (nI_le (by omega) (by omega))]
      unfold fX12_held_X56_362
      obtain ⟨s1, a1, a2, a3, a4⟩ := keepR2 hsh (σ := s)
      rw [a1, bd_some, hiF]
      have hs31 : ∀ j, j < 6 → s1.2.1 31 j = lf.2.2.2.2 j - lf.2.2.2.2 j := by
        intro j hj
        rw [Int32.sub_self, a4 31 (by decide)]
        exact h0 j (by omega)
      exact k3 n F 0 999 s s1 lf 0 rfl (RX_agR (RX_agR h hag) a3) a2 a3.1 hag (by omega) hFn (by omega) ((LfR_agR a3).trans ((LfR_agR hag).trans hl)) hwl hs31 rfl
    | succ m ih =>
      intro N k s x hx hag h0 hk hN
      obtain ⟨N, rfl⟩ : ∃ n', N = n' + 1 := ⟨N - 1, by omega⟩
      subst hx
      have hcl : (nI k).toNatClampNeg = k := nI_clamp (by omega)
      rw [fX12_held_L37_307, n6, if_neg (nI_ge (by omega) (by omega)), if_pos (ok_nI (by omega) (by omega)), nI_1, hcl]
      refine ih N (k + 1) (s_A s 31 k 0) _ rfl ⟨agS_trans hag.1 (agS_A (by omega)), fun j hj => by rw [s_A_ne (by decide)]; exact hag.2.1 j hj, fun j hj => by rw [s_A_ne (by decide)]; exact hag.2.2.1 j hj, fun j hj => by rw [s_A_ne (by decide)]; exact hag.2.2.2.1 j hj, fun j hj => by rw [s_A_ne (by decide)]; exact hag.2.2.2.2.1 j hj, fun j hj => by rw [s_A_ne (by decide)]; exact hag.2.2.2.2.2 j hj⟩ (fun j hj => ?_) (by omega) (by omega)
      rw [s_A_rd]
      by_cases hjk : j = k
      · rw [if_pos ⟨rfl, hjk⟩]
      · rw [if_neg (fun e => hjk e.2)]
        exact h0 j (by omega)
  exact k1 6 F 0 σ 0 rfl agR_refl (fun j hj => by omega) rfl hF6
theorem q_held {sh shR : List kd} {σC σR : St} {R : Rl} {ru : Option Cl} {lf : Lf} (h : QX sh shR σC σR R ru lf) (n w : Int32) : alikeQ (fX11_held sh σC n w) (fX12_held shR σR n w) σC σR := by
  have hC := h.2.2.2.1
  have hRR := h.2.2.2.2.1
  obtain ⟨lt1, lt2, lt3⟩ := wfR_lt h.2.2.1
  unfold fX11_held fX12_held fX11_held_J67
  by_cases hD : R.1.1 = 0
  · rw [if_pos (told_f hC hD), isCt_f (by rw [hRR.1, hD]), bd_some, if_pos z00]
    exact alike_now
  have hD' : 0 < R.1.1 := by omega
  rw [if_neg (told_t hC hD'), isCt_t (sh := shR) lt1 hRR.1 hD', bd_some, if_neg n10]
  by_cases hn : btw n 1 100
  · rw [within_t (a := 1) (b := 100) (by decide) (by decide) (by decide) (by decide) hn, bd_some, if_pos n10, in_t (a := 1) (b := 100) (by decide) (by decide) (by decide) (by decide) hn, bd_some, if_neg n10]
    obtain ⟨k, _, k2, k3⟩ := hn
    subst k3
    by_cases w6 : w = 6
    · subst w6
      rw [if_neg (not_not_intro rfl), if_pos rfl]
      obtain ⟨τC, a1, a2⟩ := heldC2 (QX_C h hD') h.2.2.2.2.2.2.2.1 k2
      obtain ⟨τR, b1, b2⟩ := heldR h.2.1 (w := 6) (QX_R h hD') h.2.2.2.2.2.2.1 h.2.2.2.2.2.2.2.1 k2 (Or.inl rfl)
      exact ⟨_, τC, τR, by rw [a1, bd_some], b1, a2, b2⟩
    · rw [if_pos w6, if_neg w6]
      by_cases ht : isN R.1.2.2.1 w
      · rw [hasT_t (by omega) hC.2.2.2.1 ht, bd_some, if_neg n10, isT_t lt2 hRR.2.2.1 ht, bd_some, if_pos n10]
        have hwo := (isN_ok h.2.2.1.2.1 ht).1
        obtain ⟨τC, a1, a2⟩ := heldC1 (QX_C h hD') h.2.2.2.2.2.2.2.1 k2 w6 hwo
        obtain ⟨τR, b1, b2⟩ := heldR_307 h.2.1 (w := w) (QX_R h hD') h.2.2.2.2.2.2.1 h.2.2.2.2.2.2.2.1 k2 (Or.inr hwo)
        exact ⟨_, τC, τR, by rw [a1, bd_some], b1, a2, b2⟩
      · rw [hasT_f (by omega) hC.2.2.2.1 ht, bd_some, if_pos z00, isT_f lt2 hRR.2.2.1 ht, bd_some, if_neg nn00]
        exact alike_now
  · rw [within_f (a := 1) (b := 100) (by decide) (by decide) (by decide) (by decide) hn, bd_some, if_neg nn00, in_f (a := 1) (b := 100) (by decide) (by decide) (by decide) (by decide) hn, bd_some, if_pos z00]
    exact alike_now
