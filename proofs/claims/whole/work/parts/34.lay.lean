/-! ===== life with something changed by hand ===== -/
def lfTray (lf : Lf) (x : Int32) : Lf := ((lf.1.1, lf.1.2.1, x, lf.1.2.2.2), lf.2)
def lfGl (lf : Lf) (x : Int32) : Lf := ((lf.1.1, lf.1.2.1, lf.1.2.2.1, x), lf.2)
def lfTh (lf : Lf) (p : Nat) (x : Int32) : Lf := (lf.1, upd lf.2.1 p x, lf.2.2)
theorem LfC_tray {σ : St} {a : Nat} {x : Int32} : LfC (s_F σ a 2 x) a = lfTray (LfC σ a) x := by
  unfold LfC lfTray
  simp [s_F_rd, s_F_A]
theorem LfC_gl {σ : St} {a : Nat} {x : Int32} : LfC (s_F σ a 3 x) a = lfGl (LfC σ a) x := by
  unfold LfC lfGl
  simp [s_F_rd, s_F_A]
theorem LfC_th {σ : St} {a p : Nat} {x : Int32} (hp : p < 6) : LfC (s_A σ (a + 1) p x) a = lfTh (LfC σ a) p x := by
  unfold LfC lfTh
  rw [s_A_up, s_A_ne (by omega), s_A_ne (by omega), s_A_ne (by omega), tr_upd hp, s_A_F]
theorem LfR_tray {σ : St} {x : Int32} : LfR (s_A σ 1 6 x) = lfTray (LfR σ) x := by
  unfold LfR lfTray
  rw [s_A_ne (show 6 ≠ 1 by decide), s_A_ne (show 8 ≠ 1 by decide), s_A_ne (show 9 ≠ 1 by decide), s_A_ne (show 4 ≠ 1 by decide)]
  simp [s_A_rd]
theorem LfR_gl {σ : St} {x : Int32} : LfR (s_A σ 1 7 x) = lfGl (LfR σ) x := by
  unfold LfR lfGl
  rw [s_A_ne (show 6 ≠ 1 by decide), s_A_ne (show 8 ≠ 1 by decide), s_A_ne (show 9 ≠ 1 by decide), s_A_ne (show 4 ≠ 1 by decide)]
  simp [s_A_rd]
theorem LfR_th {σ : St} {p : Nat} {x : Int32} (hp : p < 6) : LfR (s_A σ 6 p x) = lfTh (LfR σ) p x := by
  unfold LfR lfTh
  rw [s_A_up, s_A_ne (by decide), s_A_ne (by decide), s_A_ne (by decide), s_A_ne (by decide), tr_upd hp]
theorem lifeR_A1 {σ : St} {j : Nat} {x : Int32} (h : 4 ≤ j ∧ j ≤ 7) : lifeR σ (s_A σ 1 j x) := by
  have e : ∀ i, i ≠ 1 → (s_A σ 1 j x).2.1 i = σ.2.1 i := fun i hi => s_A_ne hi
  exact ⟨⟨fun _ _ _ => rfl, fun i h _ _ _ _ _ _ _ _ _ _ => e i h, fun k _ => by rw [e 36 (by decide)], fun k hk => by rw [s_A_rd, if_neg (by omega)], rfl⟩, e 36 (by decide), e 31 (by decide), e 32 (by decide), e 33 (by decide), e 34 (by decide), e 35 (by decide), fun k _ _ _ _ => by rw [s_A_rd, if_neg (by omega)]⟩
theorem lifeR_A6 {σ : St} {j : Nat} {x : Int32} : lifeR σ (s_A σ 6 j x) := by
  have e : ∀ i, i ≠ 6 → (s_A σ 6 j x).2.1 i = σ.2.1 i := fun i hi => s_A_ne hi
  exact ⟨⟨fun _ _ _ => rfl, fun i _ _ h _ _ _ _ _ _ _ _ => e i h, fun k _ => by rw [e 36 (by decide)], fun k _ => by rw [e 1 (by decide)], rfl⟩, e 36 (by decide), e 31 (by decide), e 32 (by decide), e 33 (by decide), e 34 (by decide), e 35 (by decide), fun k _ _ _ _ => by rw [e 1 (by decide)]⟩
theorem thankC {sh : List kd} {σ : St} {a p : Nat} {v : Int32} {lf : Lf} (hp : p < 6) (hl : LfC σ a = lf) : ∃ τ, fX4_thank sh σ a (nI p) v = some ((), τ) ∧ LfC τ a = lfTh lf p (spThank (lf.2.1 p) v) ∧ frC a σ τ := by
  have hcl : (nI p).toNatClampNeg = p := nI_clamp (by omega)
  have hok : i_ok (nI p) 6 := ok_nI hp (by omega)
  obtain ⟨_, _, _, _, l5, _⟩ := LfC_of hl
  unfold fX4_thank
  rw [if_pos hok, if_pos hok, jp, hcl]
  refine ⟨_, rfl, ?_, fun _ _ => rfl, fun i h1 _ _ _ => s_A_ne h1, rfl⟩
  rw [LfC_th hp, hl, l5 p hp]
  rfl
theorem upToR {sh : List kd} {σ : St} {x : Int32} : fX12_upTo sh σ x 999 = some ((if x < 999 then x else 999 : Int32), σ) := by
  unfold fX12_upTo
  rw [spThank_r]
theorem wfL_tray {R : Rl} {b : Nat} {lf : Lf} {x : Int32} (h : wfL R b lf) (hx : isH R.1.2.2.1 x) : wfL R b (lfTray lf x) := ⟨h.1, h.2.1, hx, h.2.2.2.1, h.2.2.2.2⟩
theorem wfL_gl {R : Rl} {b : Nat} {lf : Lf} {g : Nat} (h : wfL R b lf) (hx : g ≤ 9) : wfL R b (lfGl lf (nI g)) := ⟨h.1, h.2.1, h.2.2.1, ⟨g, hx, rfl⟩, h.2.2.2.2⟩
theorem wfL_th {R : Rl} {b : Nat} {lf : Lf} {p : Nat} {x : Int32} (h : wfL R b lf) : wfL R b (lfTh lf p x) := h
/-! ===== lay ===== -/
def li (k : Nat) : Int32 := nI k - 1
theorem li_0 : li 0 = -1 := by decide
theorem li_s (k : Nat) : li (k + 1) = nI k := nI_pred k
theorem li_1 (k : Nat) : li k + 1 = li (k + 1) := by
  rw [li_s]
  exact Int32.sub_add_cancel _ _
theorem li_le {T k : Nat} (hT : T ≤ 6) (hk : k ≤ T) : ¬ nI T ≤ li k := by
  cases k with
  | zero =>
    rw [li_0]
    intro e
    have h1 := nI_pos' (n := T) (by omega)
    have h2 := Int32.le_trans h1 e
    exact absurd h2 (by decide)
  | succ k => rw [li_s]; exact nI_ge (by omega) (by omega)
theorem li_isH {T k : Nat} (hk : k ≤ T) : isH T (li k) := by
  cases k with
  | zero => exact Or.inl li_0
  | succ k => exact Or.inr ⟨k, by omega, li_s k⟩
def layV (R : Rl) (ru : Option Cl) (lf : Lf) (n p k : Nat) : Int32 := spRank R ((spGo R ru n (lfTray lf (li k))).2.2.1 p)
def gLay (R : Rl) (ru : Option Cl) (lf : Lf) (n p : Nat) (k : Nat) (a : Int32 × Int32) : Int32 × Int32 := if layV R ru lf n p k ≤ a.2 then a else (li k, layV R ru lf n p k)
def spLay (R : Rl) (ru : Option Cl) (lf : Lf) (n p : Nat) (w : Int32) : Int32 := if ¬ w = 0 then (it (gLay R ru lf n p) (R.1.2.2.1 + 1) 0 (-1, -1)).2 else (it (gLay R ru lf n p) (R.1.2.2.1 + 1) 0 (-1, -1)).1
theorem layC {sh : List kd} {σ : St} {R : Rl} {ru : Option Cl} {lf : Lf} {n p : Nat} {w : Int32} (h : CX sh σ R ru lf) (hwl : wfL R 999 lf) (hn : n ≤ 100) (hp : p < 6) :
    ∃ τ, fX5_bestTray sh σ (nI p) (nI n) ((if ¬ w = 0 then 0 else 1) : Int32) = some (spLay R ru lf n p w, τ) ∧ agr scC σ τ := by
  have hT := h.2.1.2.1
  have hcp : (nI p).toNatClampNeg = p := nI_clamp (by omega)
  have hop : i_ok (nI p) 6 := ok_nI hp (by omega)
  unfold fX5_bestTray
  have hF : R.1.2.2.1 + 1 < i_F := i_F_gt (by omega)
  generalize i_F = F at hF ⊢
  have key : ∀ (m N k : Nat) (a : Int32 × Int32) (x : Int32) (v : Value) (s : St), x = li k → agr scC σ s → k + m = R.1.2.2.1 + 1 → m < N → ∃ τ, fX5_bestTray_L9 sh (nI p) (nI n) ((if ¬ w = 0 then 0 else 1) : Int32) (fun (x56 : Int32) (x57 : Int32) (x58 : Int32) (x59 : Value) (s60 : St) => fX5_bestTray_X84 sh (nI p) (nI n) ((if ¬ w = 0 then 0 else 1) : Int32) x56 x57 x58 x59 s60) N a.1 a.2 x v s = some ((if ¬ w = 0 then (it (gLay R ru lf n p) m k a).2 else (it (gLay R ru lf n p) m k a).1), τ) ∧ agr scC σ τ := by
    intro m
    induction m with
    | zero =>
      intro N k a x v s hx hg hk hN
      obtain ⟨N, rfl⟩ : ∃ n', N = n' + 1 := ⟨N - 1, by omega⟩
      have hks : k = R.1.2.2.1 + 1 := by omega
      refine ⟨s, ?_, hg⟩
      rw [fX5_bestTray_L9, (CX_agr h hg).2.2.2.1.2.2.2.1, hx, hks, li_s, if_pos (nI_le (Nat.le_refl _) (by omega))]
      unfold fX5_bestTray_X84
      by_cases w0 : w = 0
      · simp [w0]; rfl
      · simp [w0]; rfl
    | succ m ih =>
      intro N k a x v s hx hg hk hN
      obtain ⟨N, rfl⟩ : ∃ n', N = n' + 1 := ⟨N - 1, by omega⟩
      subst hx
      have hs := CX_agr h hg
      obtain ⟨s2, a1, a2, a3⟩ := beginC (sh := sh) (σ := s)
      rw [hs.2.2.2.2.1] at a2
      have hg2 : agr scC s (s_F s2 135 2 (li k)) := agr_trans a3 (agr_F (by unfold scC; omega))
      obtain ⟨s5, b1, b2, b3⟩ := goOnC (CX_agr hs hg2) (n := n) (b := 999) (by omega) (by omega) (LfC_tray.trans (congrArg (fun q => lfTray q (li k)) a2)) (wfL_tray hwl (li_isH (by omega)))
      have hg5 := agr_trans hg2 b3
      have h5 := CX_agr hs hg5
      have e137 : s5.2.1 137 p = (spGo R ru n (lfTray lf (li k))).2.2.1 p := (LfC_of b2).2.2.2.2.2.1 p hp
      rw [fX5_bestTray_L9, hs.2.2.2.1.2.2.2.1, if_neg (li_le hT (by omega)), a1, bd_some, b1, bd_some, if_pos hop, hcp, e137, rankC h5.2.1 h5.2.2.2.1, bd_some]
      unfold fX5_bestTray_J78
      rw [li_1]
      have hv : spRank R ((spGo R ru n (lfTray lf (li k))).2.2.1 p) = layV R ru lf n p k := rfl
      rw [hv]
      have hit : it (gLay R ru lf n p) (m + 1) k a = it (gLay R ru lf n p) m (k + 1) (gLay R ru lf n p k a) := rfl
      rw [hit]
      unfold gLay
      by_cases hc : layV R ru lf n p k ≤ a.2
      · rw [if_pos hc, if_pos hc]
        exact ih N (k + 1) a _ _ s5 rfl (agr_trans hg hg5) (by omega) (by omega)
      · rw [if_neg hc, if_neg hc]
        exact ih N (k + 1) (li k, layV R ru lf n p k) _ _ s5 rfl (agr_trans hg hg5) (by omega) (by omega)
  exact key (R.1.2.2.1 + 1) F 0 (-1, -1) (-1) _ σ li_0.symm agr_refl (by omega) hF
theorem layR2 {sh : List kd} (hsh : rmSh sh) {σ : St} {R : Rl} {ru : Option Cl} {lf : Lf} {n p : Nat} {w : Int32} (h : RX σ R ru) (hl : LfR σ = lf) (hwl : wfL R 999 lf) (hn : n ≤ 100) (hp : p < 6) :
    ∃ τ, i_bd (fX12_keepsAll sh σ) (fun _ s14 => fX12_lay_L46 sh (nI p) (nI n) w (fun (x70 : Int32) (x71 : Int32) (x72 : Int32) (s73 : St) => fX12_lay_X102 sh (nI p) (nI n) w x70 x71 x72 s73) i_F (-1) (-1) (-1) s14) = some (spLay R ru lf n p w, τ) ∧ agR σ τ := by
  have hT := h.1.2.1
  obtain ⟨s1, a1, a2, a3⟩ := keepR hsh (σ := σ)
  rw [a1, bd_some]
  have hF : R.1.2.2.1 + 1 < i_F := i_F_gt (by omega)
  generalize i_F = F at hF ⊢
  have key : ∀ (m N k : Nat) (a : Int32 × Int32) (x : Int32) (s : St), x = li k → agR σ s → KeptOf σ s → k + m = R.1.2.2.1 + 1 → m < N → ∃ τ, fX12_lay_L46 sh (nI p) (nI n) w (fun (x70 : Int32) (x71 : Int32) (x72 : Int32) (s73 : St) => fX12_lay_X102 sh (nI p) (nI n) w x70 x71 x72 s73) N a.1 a.2 x s = some ((if ¬ w = 0 then (it (gLay R ru lf n p) m k a).2 else (it (gLay R ru lf n p) m k a).1), τ) ∧ agR σ τ := by
    intro m
    induction m with
    | zero =>
      intro N k a x s hx hg hK hk hN
      obtain ⟨N, rfl⟩ : ∃ n', N = n' + 1 := ⟨N - 1, by omega⟩
      have hks : k = R.1.2.2.1 + 1 := by omega
      refine ⟨s, ?_, hg⟩
      rw [fX12_lay_L46, if_pos o_2, c_2, (RX_agR h hg).2.2.1.2.2.1, hx, hks, li_s, if_pos (nI_le (Nat.le_refl _) (by omega))]
      rfl
    | succ m ih =>
      intro N k a x s hx hg hK hk hN
      obtain ⟨N, rfl⟩ : ∃ n', N = n' + 1 := ⟨N - 1, by omega⟩
      subst hx
      have hs := RX_agR h hg
      have hlife : lifeR s (s_A s 1 6 (li k)) := lifeR_A1 (by omega)
      obtain ⟨s5, b1, b2, b3⟩ := goForR (sh := sh) (RX_life hs hlife) (n := n) (b := 999) (by omega) (by omega) (LfR_tray.trans (congrArg (fun q => lfTray q (li k)) ((LfR_agR hg).trans hl))) (wfL_tray hwl (li_isH (by omega)))
      have hl5 := lifeR_trans hlife b3
      have h5 := RX_life hs hl5
      have e8 : s5.2.1 8 p = (spGo R ru n (lfTray lf (li k))).2.2.1 p := (LfR_of b2).2.2.2.2.2.1 p hp
      obtain ⟨τ, t1, t2, t3, _⟩ := layR hsh (Kept_life hK hl5) (agS_trans hg.1 hl5.1)
      rw [fX12_lay_L46, if_pos o_2, c_2, hs.2.2.1.2.2.1, if_neg (li_le hT (by omega)), if_pos o_6, c_6, b1, bd_some, rankR h5.1 h5.2.2.1 hp, bd_some, rankR h5.1 h5.2.2.1 hp, bd_some, e8]
      unfold fX12_lay_J92
      rw [t1, bd_some, bd_some, li_1]
      have hv : spRank R ((spGo R ru n (lfTray lf (li k))).2.2.1 p) = layV R ru lf n p k := rfl
      rw [hv]
      have hit : it (gLay R ru lf n p) (m + 1) k a = it (gLay R ru lf n p) m (k + 1) (gLay R ru lf n p k a) := rfl
      rw [hit]
      unfold gLay
      by_cases hc : layV R ru lf n p k ≤ a.2
      · rw [if_pos hc, if_pos hc]
        exact ih N (k + 1) a _ τ rfl t3 t2 (by omega) (by omega)
      · rw [if_neg hc, if_neg hc]
        exact ih N (k + 1) (li k, layV R ru lf n p k) _ τ rfl t3 t2 (by omega) (by omega)
  exact key (R.1.2.2.1 + 1) F 0 (-1, -1) (-1) s1 li_0.symm a3 a2 (by omega) hF
theorem hD_of {R : Rl} {p : Int32} (hR : wfR R) (hp : isN R.1.2.2.2 p ∨ isN R.1.2.2.1 p) : 0 < R.1.1 := Nat.pos_of_ne_zero fun e => by
  have := hR.2.2.2.1 e
  rcases hp with ⟨k, k1, _⟩ | ⟨k, k1, _⟩
  · omega
  · omega
theorem q_lay {sh shR : List kd} {σC σR : St} {R : Rl} {ru : Option Cl} {lf : Lf} (h : QX sh shR σC σR R ru lf) (p n w : Int32) : alikeQ (fX11_lay sh σC p n w) (fX12_lay shR σR p n w) σC σR := by
  have hC := h.2.2.2.1
  have hRR := h.2.2.2.2.1
  obtain ⟨lt1, lt2, lt3⟩ := wfR_lt h.2.2.1
  unfold fX11_lay fX12_lay
  by_cases hp : isN R.1.2.2.2 p
  · have hD := hD_of h.2.2.1 (Or.inl hp)
    rw [hasP_t (by omega) hC.2.2.2.2.1 hp, bd_some, if_neg n10, isP_t lt3 hRR.2.2.2.1 hp, bd_some, if_neg n10]
    by_cases hn : btw n 1 60
    · rw [within_t (a := 1) (b := 60) (by decide) (by decide) (by decide) (by decide) hn, bd_some, if_neg n10, in_t (a := 1) (b := 60) (by decide) (by decide) (by decide) (by decide) hn, bd_some, if_neg n10]
      by_cases hw : btw w 0 1
      · rw [within_t (a := 0) (b := 1) (by decide) (by decide) (by decide) (by decide) hw, bd_some, if_pos n10, in_t (a := 0) (b := 1) (by decide) (by decide) (by decide) (by decide) hw, bd_some, if_pos n10]
        obtain ⟨k, _, k2, k3⟩ := hn
        obtain ⟨q, q1, q2⟩ := hp
        have := h.2.2.1.2.2.1
        subst k3 q2
        obtain ⟨τC, a1, a2⟩ := layC (n := k) (p := q) (w := w) (QX_C h hD) h.2.2.2.2.2.2.2.1 (by omega) (by omega)
        obtain ⟨τR, b1, b2⟩ := layR2 h.2.1 (n := k) (p := q) (w := w) (QX_R h hD) h.2.2.2.2.2.2.1 h.2.2.2.2.2.2.2.1 (by omega) (by omega)
        exact ⟨_, τC, τR, by rw [a1, bd_some], b1, a2, b2⟩
      · rw [within_f (a := 0) (b := 1) (by decide) (by decide) (by decide) (by decide) hw, bd_some, if_neg nn00, in_f (a := 0) (b := 1) (by decide) (by decide) (by decide) (by decide) hw, bd_some, if_neg nn00]
        exact alike_now
    · rw [within_f (a := 1) (b := 60) (by decide) (by decide) (by decide) (by decide) hn, bd_some, if_pos z00, in_f (a := 1) (b := 60) (by decide) (by decide) (by decide) (by decide) hn, bd_some, if_pos z00]
      exact alike_now
  · rw [hasP_f (by omega) hC.2.2.2.2.1 hp, bd_some, if_pos z00, isP_f lt3 hRR.2.2.2.1 hp, bd_some, if_pos z00]
    exact alike_now
