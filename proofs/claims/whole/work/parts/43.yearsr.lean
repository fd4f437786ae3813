/-! ===== years: the reference ===== -/
theorem LfR_9 {σ : St} {x : Int32} : LfR (s_A σ 1 9 x) = LfR σ := by
  unfold LfR
  rw [s_A_rd, s_A_rd, s_A_rd, s_A_rd, s_A_ne (show (6 : Nat) ≠ 1 by decide), s_A_ne (show (8 : Nat) ≠ 1 by decide), s_A_ne (show (9 : Nat) ≠ 1 by decide), s_A_ne (show (4 : Nat) ≠ 1 by decide), if_neg (by omega), if_neg (by omega), if_neg (by omega), if_neg (by omega)]
theorem agS_1 {σ : St} {j : Nat} {x : Int32} (h : 4 ≤ j ∧ j ≠ 8) : agS σ (s_A σ 1 j x) := ⟨fun _ _ _ => rfl, fun k h1 _ _ _ _ _ _ _ _ _ _ => s_A_ne h1, fun k _ => by rw [s_A_ne (by decide)], fun k hk => by rw [s_A_rd, if_neg (by omega)], rfl⟩
theorem RX_9 {σ : St} {R : Rl} {ru : Option Cl} {x : Int32} (h : RX σ R ru) : RX (s_A σ 1 9 x) R ru := RX_agS h (agS_1 (by omega)) (by rw [s_A_rd, if_neg (by omega)])
theorem rksR {sh : List kd} {σ : St} {R : Rl} {lf : Lf} (hR : wfR R) (hr : isRR σ R) (hl : LfR σ = lf) : fX12_allRank sh σ = some (yRank R lf, σ) := by
  unfold fX12_allRank
  have hP := hR.2.2.1
  have hF : 6 < i_F := i_F_gt (by omega)
  generalize i_F = F at hF ⊢
  rw [← nz0]
  refine it_loop (L := fun n k x => fX12_allRank_L4 sh n x (nI k) σ) (E := fun x => some (x, σ)) (g := fun k a => a + spRank R (lf.2.2.1 k)) (N := R.1.2.2.2) (fun n k x hk => ?_) (fun n x => ?_) R.1.2.2.2 F 0 (nI 0) (by omega) (by omega)
  · rw [fX12_allRank_L4, if_pos o_3, c_3, hr.2.2.2.1, if_neg (nI_ge hk (by omega)), rankR hR hr (by omega), bd_some, (LfR_of hl).2.2.2.2.2.1 k (by omega), nI_1]
  · rw [fX12_allRank_L4, if_pos o_3, c_3, hr.2.2.2.1, if_pos (nI_le (Nat.le_refl _) (by omega))]
theorem yearR {sh : List kd} {σ0 σ s18 : St} {R : Rl} {ru : Option Cl} {lf : Lf} {n p x : Nat} {d m x25 x27 x28 w : Int32} {v : Value} {K : Int32 → Int32 → Value → St → Option (Int32 × St)} (h : RX σ R ru) (hl : LfR σ = lf) (hwl : wfL R 999 lf) (hn : n ≤ 60) (hx : x < 2 ^ 31) (h9 : σ.2.1 1 9 = nI x) (hK : KeptOf σ0 σ) (hg : agS σ0 σ) :
    ∃ v' τ, fX12_years_L100 sh m (nI n) (nI p) w s18 x25 x27 x28 K i_F d 0 v σ = K (it (fun _ => yStep R ru p) n 0 (x, d, lf)).2.1 (nI n) v' τ ∧ LfR τ = (it (fun _ => yStep R ru p) n 0 (x, d, lf)).2.2 ∧ τ.2.1 1 9 = nI (it (fun _ => yStep R ru p) n 0 (x, d, lf)).1 ∧ KeptOf σ0 τ ∧ agS σ0 τ ∧ RX τ R ru ∧ (it (fun _ => yStep R ru p) n 0 (x, d, lf)).1 < 2 ^ 31 := by
  have hF : n < i_F := i_F_gt (by omega)
  generalize i_F = F at hF ⊢
  rw [← nz0]
  refine lpI (L := fun N k (a : Int32 × Value × St) => fX12_years_L100 sh m (nI n) (nI p) w s18 x25 x27 x28 K N a.1 (nI k) a.2.1 a.2.2) (E := fun r => ∃ v' τ, r = K (it (fun _ => yStep R ru p) n 0 (x, d, lf)).2.1 (nI n) v' τ ∧ LfR τ = (it (fun _ => yStep R ru p) n 0 (x, d, lf)).2.2 ∧ τ.2.1 1 9 = nI (it (fun _ => yStep R ru p) n 0 (x, d, lf)).1 ∧ KeptOf σ0 τ ∧ agS σ0 τ ∧ RX τ R ru ∧ (it (fun _ => yStep R ru p) n 0 (x, d, lf)).1 < 2 ^ 31) (fun k a => ∃ y : Nat × Int32 × Lf, y = it (fun _ => yStep R ru p) k 0 (x, d, lf) ∧ a.2.2.2.1 1 9 = nI y.1 ∧ y.1 < 2 ^ 31 ∧ a.1 = y.2.1 ∧ LfR a.2.2 = y.2.2 ∧ wfL R (999 + k) y.2.2 ∧ KeptOf σ0 a.2.2 ∧ agS σ0 a.2.2 ∧ RX a.2.2 R ru) n (fun N k a hk hI => Or.inl ?_) (fun N a hI => ?_) n F 0 (d, v, σ) (by omega) hF ⟨(x, d, lf), rfl, h9, hx, rfl, hl, hwl, hK, hg, h⟩
  · obtain ⟨a1, a3, s⟩ := a
    obtain ⟨y, i1, i2, i3, i4, i5, i6, i7, i8, i9⟩ := hI
    dsimp only at i1 i2 i3 i4 i5 i6 i7 i8 i9 ⊢
    subst i4
    have hJ : ∀ (t : St) (x' : Nat) (l : Lf), KeptOf σ0 t → agS σ0 t → RX t R ru → LfR t = l → t.2.1 1 9 = nI x' → wfL R (999 + k) l → (x', l) = yTray R.1.2.2.1 p y.1 y.2.2 →
        ∃ a' : Int32 × Value × St, fX12_years_J142 sh m (nI n) (nI p) w s18 x25 x27 x28 y.2.1 (nI k) a3 (fX12_years_L100 sh m (nI n) (nI p) w s18 x25 x27 x28 K N) t = fX12_years_L100 sh m (nI n) (nI p) w s18 x25 x27 x28 K N a'.1 (nI (k + 1)) a'.2.1 a'.2.2 ∧ ∃ y : Nat × Int32 × Lf, y = it (fun _ => yStep R ru p) (k + 1) 0 (x, d, lf) ∧ a'.2.2.2.1 1 9 = nI y.1 ∧ y.1 < 2 ^ 31 ∧ a'.1 = y.2.1 ∧ LfR a'.2.2 = y.2.2 ∧ wfL R (999 + (k + 1)) y.2.2 ∧ KeptOf σ0 a'.2.2 ∧ agS σ0 a'.2.2 ∧ RX a'.2.2 R ru := by
      intro t x' l j0 j1 j2 j3 j5 j6 j4
      have hx' : x' = (yTray R.1.2.2.1 p y.1 y.2.2).1 := by rw [← j4]
      have hl' : l = (yTray R.1.2.2.1 p y.1 y.2.2).2 := by rw [← j4]
      obtain ⟨τ, t1, t2, t3⟩ := stepR (sh := sh) j2 (b := 999 + k) (by omega) j3 j6
      have e : it (fun _ => yStep R ru p) (k + 1) 0 (x, d, lf) = yStep R ru p y := by rw [it_succ, ← i1]
      have hlast : τ.2.1 1 5 = (spHour R ru l).2.1.2.1 := (LfR_of t2).2.1
      have h9' : τ.2.1 1 9 = nI x' := by rw [t3.2.2.2.2.2.2.2 9 (by decide) (by decide) (by decide) (by decide), j5]
      unfold fX12_years_J142 fX12_years_J169
      rw [t1, bd_some, if_pos o_5, c_5, hlast, bitsR, bd_some, nI_1]
      have hw' := wfL_hour (ru := ru) h.1 h.2.1 (by omega) j6
      by_cases hc : (spHour R ru l).2.1.2.1 = -1
      · rw [if_neg (not_not_intro hc)]
        refine ⟨(y.2.1 + 0, _, τ), rfl, yStep R ru p y, e.symm, ?_, yTray_x, ?_, ?_, ?_, Kept_life j0 t3, agS_trans j1 t3.1, RX_life j2 t3⟩
        · rw [h9', hx']; rfl
        · unfold yStep
          rw [← hl', if_neg (not_not_intro hc)]
        · rw [t2, hl']; rfl
        · rw [hl'] at hw'; exact hw'
      · rw [if_pos hc]
        refine ⟨(y.2.1 + spBits (spHour R ru l).1, _, τ), rfl, yStep R ru p y, e.symm, ?_, yTray_x, ?_, ?_, ?_, Kept_life j0 t3, agS_trans j1 t3.1, RX_life j2 t3⟩
        · rw [h9', hx']; rfl
        · unfold yStep
          rw [← hl', if_pos hc]
        · rw [t2, hl']; rfl
        · rw [hl'] at hw'; exact hw'
    have hx1 := nx_lt y.1
    have hT6 := h.1.2.1
    rw [fX12_years_L100, if_neg (nI_ge hk (by omega)), show (100 : Int32) = nI 100 from by decide, drawsR i3 i2 (by omega) (by omega), bd_some]
    have g1 : agS σ0 (s_A s 1 9 (nI (nx y.1))) := agS_trans i8 (agS_1 (by omega))
    have g2 : KeptOf σ0 (s_A s 1 9 (nI (nx y.1))) := Kept_A (by decide) i7
    have g3 : RX (s_A s 1 9 (nI (nx y.1))) R ru := RX_9 i9
    have g4 : LfR (s_A s 1 9 (nI (nx y.1))) = y.2.2 := by rw [LfR_9, i5]
    have g5 : (s_A s 1 9 (nI (nx y.1))).2.1 1 9 = nI (nx y.1) := s_A_at
    generalize s_A s 1 9 (nI (nx y.1)) = s1 at g1 g2 g3 g4 g5
    by_cases hp : nI p ≤ nI (nx y.1 / 65536 % 100)
    · rw [if_pos hp]
      exact hJ s1 (nx y.1) y.2.2 g2 g1 g3 g4 g5 i6 (by unfold yTray; rw [if_pos hp])
    · rw [if_neg hp]
      simp only [if_pos o_2, c_2, g3.2.2.1.2.2.1]
      by_cases hT0 : nI R.1.2.2.1 ≤ 0
      · rw [if_pos hT0]
        exact hJ s1 (nx y.1) y.2.2 g2 g1 g3 g4 g5 i6 (by unfold yTray; rw [if_neg hp, if_pos hT0])
      · have hTp : 0 < R.1.2.2.1 := Nat.pos_of_ne_zero fun e => hT0 (by rw [e]; decide)
        rw [if_neg hT0, drawsR hx1 g5 hTp (by omega), bd_some, if_pos o_6, c_6]
        have hlife : lifeR (s_A s1 1 9 (nI (nx (nx y.1)))) (s_A (s_A s1 1 9 (nI (nx (nx y.1)))) 1 6 (nI (nx (nx y.1) / 65536 % R.1.2.2.1))) := lifeR_A1 (by omega)
        refine hJ _ (nx (nx y.1)) (lfTray y.2.2 (nI (nx (nx y.1) / 65536 % R.1.2.2.1))) (Kept_life (Kept_A (by decide) g2) hlife) (agS_trans (agS_trans g1 (agS_1 (by omega))) hlife.1) (RX_life (RX_9 g3) hlife) (by rw [LfR_tray, LfR_9, g4]) ?_ (wfL_tray i6 (Or.inr ⟨_, Nat.mod_lt _ hTp, rfl⟩)) (by unfold yTray; rw [if_neg hp, if_neg hT0])
        rw [s_A_rd, if_neg (by omega), s_A_at]
  · obtain ⟨a1, a3, s⟩ := a
    obtain ⟨y, i1, i2, i3, i4, i5, i6, i7, i8, i9⟩ := hI
    dsimp only at i1 i2 i3 i4 i5 i6 i7 i8 i9 ⊢
    subst i4
    refine ⟨a3, s, ?_, by rw [← i1]; exact i5, by rw [← i1]; exact i2, i7, i8, i9, by rw [← i1]; exact i3⟩
    rw [fX12_years_L100, if_pos (nI_le (Nat.le_refl _) (by omega)), ← i1]
theorem yearsR {sh : List kd} (hsh : rmSh sh) {σ : St} {R : Rl} {ru : Option Cl} {lf : Lf} {x m n p : Nat} {w : Int32} (h : RX σ R ru) (hl : LfR σ = lf) (hwl : wfL R 999 lf) (hm : m ≤ 10) (hn : n ≤ 60) (hx : x < 2 ^ 31) (hxx : σ.2.1 1 9 = nI x) :
    ∃ τ, i_bd (fX12_keepsAll sh σ) (fun r22 s23 => fX12_years_L82 sh (nI m) (nI n) (nI p) w σ (fun (x82 : Int32) (x83 : Int32) (x84 : Int32) (x85 : Int32) (x86 : Value) (x87 : Value) (s88 : St) => fX12_years_X206 sh (nI m) (nI n) (nI p) w σ x82 x83 x84 x85 x86 x87 s88) i_F (nI x) 0 0 0 (.retAddr 0) (.retAddr 0) s23) = some (spYears R ru lf x m n p w, τ) ∧ agR σ τ := by
  obtain ⟨s1, a1, a2, a3⟩ := keepR hsh (σ := σ)
  rw [a1, bd_some]
  have hF : 10 < i_F := i_F_gt (by omega)
  generalize hFe : i_F = F at hF ⊢
  rw [← nz0]
  refine lpI (L := fun N k (a : Int32 × Int32 × Int32 × Value × Value × St) => fX12_years_L82 sh (nI m) (nI n) (nI p) w σ (fun (x82 : Int32) (x83 : Int32) (x84 : Int32) (x85 : Int32) (x86 : Value) (x87 : Value) (s88 : St) => fX12_years_X206 sh (nI m) (nI n) (nI p) w σ x82 x83 x84 x85 x86 x87 s88) N a.1 a.2.1 a.2.2.1 (nI k) a.2.2.2.1 a.2.2.2.2.1 a.2.2.2.2.2) (E := fun r => ∃ τ, r = some (spYears R ru lf x m n p w, τ) ∧ agR σ τ) (fun k a => ∃ y : Nat × Int32 × Int32, y = it (fun _ => yOut R ru lf n p) k 0 (x, 0, 0) ∧ a.1 = nI y.1 ∧ y.1 < 2 ^ 31 ∧ a.2.1 = y.2.1 ∧ a.2.2.1 = y.2.2 ∧ agR σ a.2.2.2.2.2 ∧ KeptOf σ a.2.2.2.2.2) m (fun N k a hk hI => Or.inl ?_) (fun N a hI => ?_) m F 0 (nI x, nI 0, nI 0, .retAddr 0, .retAddr 0, s1) (by omega) (by omega) ⟨(x, 0, 0), rfl, rfl, hx, rfl, rfl, a3, a2⟩
  · obtain ⟨b1, b2, b3, v1, v2, s⟩ := a
    obtain ⟨y, i1, i2, i3, i4, i5, i6, i7⟩ := hI
    dsimp only at i1 i2 i3 i4 i5 i6 i7 ⊢
    subst i2 i4 i5
    have hs := RX_agR h i6
    have hls := (LfR_agR i6).trans hl
    obtain ⟨v', τ, t1, t2, t3, t4, t5, t6, t7⟩ := yearR (sh := sh) (σ0 := σ) (σ := s_A s 1 9 (nI y.1)) (s18 := σ) (n := n) (p := p) (x := y.1) (d := y.2.1) (m := nI m) (x25 := nI y.1) (x27 := y.2.2) (x28 := nI k) (w := w) (v := v2) (K := fun (x146 : Int32) (x147 : Int32) (x148 : Value) (s149 : St) => fX12_years_X178 sh (nI m) (nI n) (nI p) w σ (nI y.1) y.2.2 (nI k) (fX12_years_L82 sh (nI m) (nI n) (nI p) w σ (fun (x82 : Int32) (x83 : Int32) (x84 : Int32) (x85 : Int32) (x86 : Value) (x87 : Value) (s88 : St) => fX12_years_X206 sh (nI m) (nI n) (nI p) w σ x82 x83 x84 x85 x86 x87 s88) N) x146 x147 x148 s149) (RX_9 hs) (LfR_9.trans hls) hwl hn i3 s_A_at (Kept_A (by decide) i7) (agS_trans i6.1 (agS_1 (by omega)))
    rw [fX12_years_L82, if_neg (nI_ge hk (by omega)), if_pos o_9, c_9, t1]
    unfold fX12_years_X178
    obtain ⟨υ, u1, u2, u3, u4⟩ := layR hsh t4 t5
    rw [rksR t6.1 t6.2.2.1 t2, bd_some, if_pos o_9, c_9, u1, bd_some, t3, nI_1]
    refine ⟨(_, _, _, _, _, υ), rfl, yOut R ru lf n p y, ?_, rfl, t7, rfl, rfl, u3, u2⟩
    rw [it_succ, ← i1]
  · obtain ⟨b1, b2, b3, v1, v2, s⟩ := a
    obtain ⟨y, i1, i2, i3, i4, i5, i6, i7⟩ := hI
    dsimp only at i1 i2 i3 i4 i5 i6 i7 ⊢
    subst i2 i4 i5
    refine ⟨s, ?_, i6⟩
    rw [fX12_years_L82, if_pos (nI_le (Nat.le_refl _) (by omega))]
    unfold fX12_years_X206 spYears
    rw [if_pos o_9, c_9, s_A_self (i6.2.1 9 (by omega)), ← i1]
theorem q_years {sh shR : List kd} {σC σR : St} {R : Rl} {ru : Option Cl} {lf : Lf} (h : QX sh shR σC σR R ru lf) {x : Nat} (hx : x < 2 ^ 31) (hxC : σC.1 19 9 = nI x) (hxR : σR.2.1 1 9 = nI x) (m n p w : Int32) : alikeQ (fX11_years sh σC m n p w) (fX12_years shR σR m n p w) σC σR := by
  have hC := h.2.2.2.1
  have hRR := h.2.2.2.2.1
  obtain ⟨lt1, lt2, lt3⟩ := wfR_lt h.2.2.1
  unfold fX11_years fX12_years
  by_cases hD : R.1.1 = 0
  · rw [if_pos (told_f hC hD), isCt_f (by rw [hRR.1, hD]), bd_some, if_pos rfl]
    exact alike_now
  have hD' : 0 < R.1.1 := by omega
  rw [if_neg (told_t hC hD'), isCt_t lt1 hRR.1 hD', bd_some, if_neg n10]
  by_cases hm : btw m 1 10
  · rw [within_t (a := 1) (b := 10) (by decide) (by decide) (by decide) (by decide) hm, bd_some, if_neg n10, in_t (a := 1) (b := 10) (by decide) (by decide) (by decide) (by decide) hm, bd_some, if_neg n10]
    by_cases hn : btw n 1 60
    · rw [within_t (a := 1) (b := 60) (by decide) (by decide) (by decide) (by decide) hn, bd_some, if_neg n10, in_t (a := 1) (b := 60) (by decide) (by decide) (by decide) (by decide) hn, bd_some, if_neg n10]
      by_cases hp : btw p 0 100
      · rw [within_t (a := 0) (b := 100) (by decide) (by decide) (by decide) (by decide) hp, bd_some, if_neg n10, in_t (a := 0) (b := 100) (by decide) (by decide) (by decide) (by decide) hp, bd_some, if_neg n10]
        by_cases hw : btw w 0 1
        · rw [within_t (a := 0) (b := 1) (by decide) (by decide) (by decide) (by decide) hw, bd_some, if_pos n10, in_t (a := 0) (b := 1) (by decide) (by decide) (by decide) (by decide) hw, bd_some, if_pos n10, if_pos o_9, c_9, hxR]
          obtain ⟨m', _, m2, m3⟩ := hm
          obtain ⟨n', _, n2, n3⟩ := hn
          obtain ⟨p', _, p2, p3⟩ := hp
          subst m3 n3 p3
          obtain ⟨τC, a1, a2⟩ := yearsC (x := x) (m := m') (n := n') (p := p') (w := w) (QX_C h hD') h.2.2.2.2.2.2.2.1 m2 n2 hx hxC
          obtain ⟨τR, b1, b2⟩ := yearsR h.2.1 (x := x) (m := m') (n := n') (p := p') (w := w) (QX_R h hD') h.2.2.2.2.2.2.1 h.2.2.2.2.2.2.2.1 m2 n2 hx hxR
          exact ⟨_, τC, τR, by rw [a1, bd_some], b1, a2, b2⟩
        · rw [within_f (a := 0) (b := 1) (by decide) (by decide) (by decide) (by decide) hw, bd_some, if_neg nn00, in_f (a := 0) (b := 1) (by decide) (by decide) (by decide) (by decide) hw, bd_some, if_neg nn00]
          exact alike_now
      · rw [within_f (a := 0) (b := 100) (by decide) (by decide) (by decide) (by decide) hp, bd_some, if_pos z00, in_f (a := 0) (b := 100) (by decide) (by decide) (by decide) (by decide) hp, bd_some, if_pos z00]
        exact alike_now
    · rw [within_f (a := 1) (b := 60) (by decide) (by decide) (by decide) (by decide) hn, bd_some, if_pos z00, in_f (a := 1) (b := 60) (by decide) (by decide) (by decide) (by decide) hn, bd_some, if_pos z00]
      exact alike_now
  · rw [within_f (a := 1) (b := 10) (by decide) (by decide) (by decide) (by decide) hm, bd_some, if_pos z00, in_f (a := 1) (b := 10) (by decide) (by decide) (by decide) (by decide) hm, bd_some, if_pos z00]
    exact alike_now
