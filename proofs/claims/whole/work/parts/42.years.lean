/-! ===== years ===== -/
theorem nx_ex (n : Nat) : ∃ m, m = (n * 1103515245 + 12345) % 2147483648 := ⟨_, rfl⟩
noncomputable def nx (n : Nat) : Nat := Classical.choose (nx_ex n)
theorem nx_eq (n : Nat) : nx n = (n * 1103515245 + 12345) % 2147483648 := Classical.choose_spec (nx_ex n)
theorem nx_lt (n : Nat) : nx n < 2 ^ 31 := by
  rw [nx_eq]
  exact Nat.mod_lt _ (by omega)
theorem and31 (m : Nat) : nI m &&& 2147483647 = nI (m % 2147483648) := by
  apply Int32.toBitVec_inj.mp
  rw [Int32.toBitVec_and]
  have e1 : (nI m).toBitVec = BitVec.ofNat 32 m := rfl
  have e2 : (2147483647 : Int32).toBitVec = BitVec.ofNat 32 (2 ^ 31 - 1) := by decide
  have e3 : (nI (m % 2147483648)).toBitVec = BitVec.ofNat 32 (m % 2147483648) := rfl
  rw [e1, e2, e3]
  apply BitVec.eq_of_toNat_eq
  rw [BitVec.toNat_and, BitVec.toNat_ofNat, BitVec.toNat_ofNat, BitVec.toNat_ofNat]
  rw [show (2 ^ 31 - 1) % 2 ^ 32 = 2 ^ 31 - 1 from by decide, Nat.and_two_pow_sub_one_eq_mod]
  omega
theorem nextC {sh : List kd} {σ : St} {n : Nat} : fX5_nextDrawn sh σ (nI n) = some (nI (nx n), σ) := by
  unfold fX5_nextDrawn
  rw [nx_eq, show (1103515245 : Int32) = nI 1103515245 from by decide, show (12345 : Int32) = nI 12345 from by decide, nI_mul, nI_add, and31]
theorem lN_toInt63 {n : Nat} (h : n < 2 ^ 63) : (lN n).toInt = (n : Int) := by
  exact Int64.toInt_ofNat_of_lt h
theorem lN_div {a b : Nat} (ha : a < 2 ^ 63) (hb : b < 2 ^ 63) : lN a / lN b = lN (a / b) := by
  apply Int64.toInt_inj.mp
  have h3 : a / b ≤ a := Nat.div_le_self a b
  rw [Int64.toInt_div, lN_toInt63 ha, lN_toInt63 hb, lN_toInt63 (by omega)]
  rw [← Int.ofNat_tdiv]
  generalize a / b = c at h3
  apply Int.bmod_eq_of_le
  · omega
  · omega
theorem lN_mod {a b : Nat} (ha : a < 2 ^ 63) (hb : b < 2 ^ 63) : lN a - lN a / lN b * lN b = lN (a % b) := by
  rw [lN_div ha hb, lN_mul, lN_sub (Nat.div_mul_le_self a b)]
  congr 1
  have := Nat.div_add_mod a b
  have h2 : b * (a / b) = a / b * b := Nat.mul_comm _ _
  omega
theorem drawsR {sh : List kd} {σ : St} {n q : Nat} (hn : n < 2 ^ 31) (h : σ.2.1 1 9 = nI n) (hq : 0 < q) (hq2 : q < 2 ^ 31) : fX12_draws sh σ (nI q) = some (nI (nx n / 65536 % q), s_A σ 1 9 (nI (nx n))) := by
  unfold fX12_draws
  simp only [if_pos o_9, c_9, jp, h, nI_l hn]
  have e : (lN n * 1103515245 + 12345 - (lN n * 1103515245 + 12345) / 2147483648 * 2147483648).toInt32 = nI (nx n) := by
    rw [show (1103515245 : Int64) = lN 1103515245 from by decide, show (12345 : Int64) = lN 12345 from by decide, show (2147483648 : Int64) = lN 2147483648 from by decide, lN_mul, lN_add, lN_mod (by omega) (by omega), lN_i, nx_eq]
  rw [e, if_neg (nI_ne0 hq hq2), s_A_at]
  have := nx_lt n
  rw [show (65536 : Int32) = nI 65536 from by decide, nI_div this (by omega), nI_mod (by omega) hq2]
theorem turns_bits {owed held : Int32} {sv : Nat → Int32} : ∀ (m k : Nat) (q : Tn), k + m ≤ 6 → (∃ n, n < 64 ∧ q.1 = nI n) → ∃ n, n < 64 ∧ (spTurns owed held sv m k q).1 = nI n
  | 0, _, _, _, h => h
  | m + 1, k, q, hk, h => by
    rw [spTurns]
    refine turns_bits m (k + 1) _ (by omega) ?_
    obtain ⟨n, h1, h2⟩ := h
    obtain ⟨e1, e2⟩ := kn_or n h1 k (by omega)
    unfold spOne
    split
    · exact ⟨n, h1, h2⟩
    · split
      · exact ⟨_, e2, by dsimp only; rw [h2, e1]⟩
      · exact ⟨_, e2, by dsimp only; rw [h2, e1]⟩
theorem hour_bits {R : Rl} {ru : Option Cl} {lf : Lf} (hR : wfR R) : spBC (spHour R ru lf).1 = spBits (spHour R ru lf).1 := by
  obtain ⟨n, h1, h2⟩ := turns_bits (owed := R.1.2.1) (held := spHand R ru lf) (sv := R.2.2.2.2.2) R.1.2.2.2 0 (0, lf.2.1, lf.2.2.1, lf.2.2.2.1) (by have := hR.2.2.1; omega) ⟨0, by omega, nz0.symm⟩
  have e : (spHour R ru lf).1 = nI n := h2
  rw [e]
  exact bc_bits n (by omega)
noncomputable def yTray (T p : Nat) (x : Nat) (lf : Lf) : Nat × Lf := if nI p ≤ nI (nx x / 65536 % 100) then (nx x, lf) else if nI T ≤ 0 then (nx x, lf) else (nx (nx x), lfTray lf (nI (nx (nx x) / 65536 % T)))
noncomputable def yStep (R : Rl) (ru : Option Cl) (p : Nat) (a : Nat × Int32 × Lf) : Nat × Int32 × Lf :=
  ((yTray R.1.2.2.1 p a.1 a.2.2).1, a.2.1 + (if ¬ (spHour R ru (yTray R.1.2.2.1 p a.1 a.2.2).2).2.1.2.1 = -1 then spBits (spHour R ru (yTray R.1.2.2.1 p a.1 a.2.2).2).1 else 0), (spHour R ru (yTray R.1.2.2.1 p a.1 a.2.2).2).2)
def yRank (R : Rl) (lf : Lf) : Int32 := it (fun k a => a + spRank R (lf.2.2.1 k)) R.1.2.2.2 0 0
noncomputable def yOut (R : Rl) (ru : Option Cl) (lf : Lf) (n p : Nat) (a : Nat × Int32 × Int32) : Nat × Int32 × Int32 :=
  ((it (fun _ => yStep R ru p) n 0 (a.1, a.2.1, lf)).1, (it (fun _ => yStep R ru p) n 0 (a.1, a.2.1, lf)).2.1, a.2.2 + yRank R (it (fun _ => yStep R ru p) n 0 (a.1, a.2.1, lf)).2.2)
theorem yTray_x {T p x : Nat} {lf : Lf} : (yTray T p x lf).1 < 2 ^ 31 := by
  unfold yTray
  split
  · exact nx_lt _
  · split <;> exact nx_lt _
theorem yTray_wf {R : Rl} {p x b : Nat} {lf : Lf} (hR : wfR R) (h : wfL R b lf) : wfL R b (yTray R.1.2.2.1 p x lf).2 := by
  unfold yTray
  split
  · exact h
  · split
    · exact h
    · next h1 h2 =>
      have hT : 0 < R.1.2.2.1 := Nat.pos_of_ne_zero fun e => h2 (by rw [e]; decide)
      exact wfL_tray h (Or.inr ⟨_, Nat.mod_lt _ hT, rfl⟩)
theorem it_sum {f : Nat → Int32} : ∀ (m k : Nat) (x : Int32), it (fun k a => a + f k) m k x = x + it (fun k a => a + f k) m k 0
  | 0, _, x => (Int32.add_zero x).symm
  | m + 1, k, x => by
    show it (fun k a => a + f k) m (k + 1) (x + f k) = x + it (fun k a => a + f k) m (k + 1) (0 + f k)
    rw [it_sum m (k + 1) (x + f k), it_sum m (k + 1) (0 + f k), Int32.zero_add, Int32.add_assoc]
theorem yearC {sh : List kd} {σ : St} {R : Rl} {ru : Option Cl} {lf0 lf : Lf} {n p x : Nat} {d m x3 x4 w : Int32} {v : Value} {K : Int32 → Int32 → Int32 → Value → St → Option (Int32 × St)} (h : CX sh σ R ru lf0) (hl : LfC σ 135 = lf) (hwl : wfL R 999 lf) (hn : n ≤ 60) (hx : x < 2 ^ 31) :
    ∃ v' τ, fX5_drawnYears_L31 sh m (nI n) (nI p) w x3 x4 K i_F (nI x) d 0 v σ = K (nI (it (fun _ => yStep R ru p) n 0 (x, d, lf)).1) (it (fun _ => yStep R ru p) n 0 (x, d, lf)).2.1 (nI n) v' τ ∧ LfC τ 135 = (it (fun _ => yStep R ru p) n 0 (x, d, lf)).2.2 ∧ agr scC σ τ ∧ (it (fun _ => yStep R ru p) n 0 (x, d, lf)).1 < 2 ^ 31 := by
  have hF : n < i_F := i_F_gt (by omega)
  generalize i_F = F at hF ⊢
  rw [← nz0]
  refine lpI (L := fun N k (a : Int32 × Int32 × Value × St) => fX5_drawnYears_L31 sh m (nI n) (nI p) w x3 x4 K N a.1 a.2.1 (nI k) a.2.2.1 a.2.2.2) (E := fun r => ∃ v' τ, r = K (nI (it (fun _ => yStep R ru p) n 0 (x, d, lf)).1) (it (fun _ => yStep R ru p) n 0 (x, d, lf)).2.1 (nI n) v' τ ∧ LfC τ 135 = (it (fun _ => yStep R ru p) n 0 (x, d, lf)).2.2 ∧ agr scC σ τ ∧ (it (fun _ => yStep R ru p) n 0 (x, d, lf)).1 < 2 ^ 31) (fun k a => ∃ y : Nat × Int32 × Lf, y = it (fun _ => yStep R ru p) k 0 (x, d, lf) ∧ a.1 = nI y.1 ∧ y.1 < 2 ^ 31 ∧ a.2.1 = y.2.1 ∧ LfC a.2.2.2 135 = y.2.2 ∧ wfL R (999 + k) y.2.2 ∧ agr scC σ a.2.2.2) n (fun N k a hk hI => Or.inl ?_) (fun N a hI => ?_) n F 0 (nI x, d, v, σ) (by omega) hF ⟨(x, d, lf), rfl, rfl, hx, rfl, hl, hwl, agr_refl⟩
  · obtain ⟨a1, a2, a3, s⟩ := a
    obtain ⟨y, i1, i2, i3, i4, i5, i6, i7⟩ := hI
    dsimp only at i1 i2 i3 i4 i5 i6 i7 ⊢
    subst i2 i4
    have hs := CX_agr h i7
    -- the HOUR itself
    have hJ : ∀ (t : St) (x' : Nat) (l : Lf), agr scC σ t → LfC t 135 = l → wfL R (999 + k) l → (x', l) = yTray R.1.2.2.1 p y.1 y.2.2 →
        ∃ a' : Int32 × Int32 × Value × St, fX5_drawnYears_J99 sh m (nI n) (nI p) w x3 x4 y.2.1 (nI k) a3 (fX5_drawnYears_L31 sh m (nI n) (nI p) w x3 x4 K N) (nI x') t = fX5_drawnYears_L31 sh m (nI n) (nI p) w x3 x4 K N a'.1 a'.2.1 (nI (k + 1)) a'.2.2.1 a'.2.2.2 ∧ ∃ y : Nat × Int32 × Lf, y = it (fun _ => yStep R ru p) (k + 1) 0 (x, d, lf) ∧ a'.1 = nI y.1 ∧ y.1 < 2 ^ 31 ∧ a'.2.1 = y.2.1 ∧ LfC a'.2.2.2 135 = y.2.2 ∧ wfL R (999 + (k + 1)) y.2.2 ∧ agr scC σ a'.2.2.2 := by
      intro t x' l j1 j2 j3 j4
      have hx' : x' = (yTray R.1.2.2.1 p y.1 y.2.2).1 := by rw [← j4]
      have hl' : l = (yTray R.1.2.2.1 p y.1 y.2.2).2 := by rw [← j4]
      obtain ⟨τ, t1, t2, t3⟩ := trialC (CX_agr h j1) (b := 999 + k) (by omega) j2 j3
      have e : it (fun _ => yStep R ru p) (k + 1) 0 (x, d, lf) = yStep R ru p y := by rw [it_succ, ← i1]
      have hlast : τ.1 135 1 = (spHour R ru l).2.1.2.1 := (LfC_of t2).2.1
      unfold fX5_drawnYears_J99 fX5_drawnYears_J147
      rw [t1, bd_some, hlast, bcC, bd_some, hour_bits h.2.1, nI_1]
      have hw' := wfL_hour (ru := ru) h.2.1 h.2.2.1 (by omega) j3
      by_cases hc : (spHour R ru l).2.1.2.1 = -1
      · rw [if_pos hc]
        refine ⟨(nI x', y.2.1, _, τ), rfl, yStep R ru p y, e.symm, ?_, yTray_x, ?_, ?_, ?_, agr_trans j1 t3⟩
        · rw [hx']; rfl
        · unfold yStep
          rw [← hl', if_neg (not_not_intro hc), Int32.add_zero]
        · rw [t2, hl']; rfl
        · rw [hl'] at hw'; exact hw'
      · rw [if_neg hc]
        refine ⟨(nI x', y.2.1 + spBits (spHour R ru l).1, _, τ), rfl, yStep R ru p y, e.symm, ?_, yTray_x, ?_, ?_, ?_, agr_trans j1 t3⟩
        · rw [hx']; rfl
        · unfold yStep
          rw [← hl', if_pos hc]
        · rw [t2, hl']; rfl
        · rw [hl'] at hw'; exact hw'
    have hx1 := nx_lt y.1
    have hm1 : nI (nx y.1) / 65536 - nI (nx y.1) / 65536 / 100 * 100 = nI (nx y.1 / 65536 % 100) := by
      rw [show (65536 : Int32) = nI 65536 from by decide, show (100 : Int32) = nI 100 from by decide, nI_div hx1 (by omega), nI_mod (by omega) (by omega)]
    rw [fX5_drawnYears_L31, if_neg (nI_ge hk (by omega)), nextC, bd_some, hm1]
    have hT : s.1 20 3 = nI R.1.2.2.1 := hs.2.2.2.1.2.2.2.1
    by_cases hp : nI p ≤ nI (nx y.1 / 65536 % 100)
    · rw [if_pos hp]
      exact hJ s (nx y.1) y.2.2 i7 i5 i6 (by unfold yTray; rw [if_pos hp])
    · rw [if_neg hp, hT]
      by_cases hT0 : nI R.1.2.2.1 ≤ 0
      · rw [if_pos hT0]
        exact hJ s (nx y.1) y.2.2 i7 i5 i6 (by unfold yTray; rw [if_neg hp, if_pos hT0])
      · have hTp : 0 < R.1.2.2.1 := Nat.pos_of_ne_zero fun e => hT0 (by rw [e]; decide)
        have hT6 := h.2.1.2.1
        have hx2 := nx_lt (nx y.1)
        rw [if_neg hT0, nextC, bd_some, hT, if_neg (nI_ne0 hTp (by omega))]
        rw [show (65536 : Int32) = nI 65536 from by decide, nI_div hx2 (by omega), nI_mod (by omega) (by omega)]
        refine hJ _ (nx (nx y.1)) (lfTray y.2.2 (nI (nx (nx y.1) / 65536 % R.1.2.2.1))) (agr_trans i7 (agr_F (by unfold scC; omega))) (by rw [LfC_tray, i5]) (wfL_tray i6 (Or.inr ⟨_, Nat.mod_lt _ hTp, rfl⟩)) (by unfold yTray; rw [if_neg hp, if_neg hT0])
  · obtain ⟨a1, a2, a3, s⟩ := a
    obtain ⟨y, i1, i2, i3, i4, i5, i6, i7⟩ := hI
    dsimp only at i1 i2 i3 i4 i5 i6 i7 ⊢
    subst i2 i4
    refine ⟨a3, s, ?_, by rw [← i1]; exact i5, i7, by rw [← i1]; exact i3⟩
    rw [fX5_drawnYears_L31, if_pos (nI_le (Nat.le_refl _) (by omega)), ← i1]
theorem rksC {sh : List kd} {σ : St} {R : Rl} {lf : Lf} {p1 p2 p3 p4 x4 x125 x126 x3 : Int32} {x128 : Value} {K : Int32 → Int32 → St → Option (Int32 × St)} (hR : wfR R) (hr : isRC σ 20 R) (hl : LfC σ 135 = lf) : fX5_drawnYears_L156 sh p1 p2 p3 p4 x4 x125 x126 x128 K i_F x3 0 σ = K (x3 + yRank R lf) (nI R.1.2.2.2) σ := by
  have hP := hR.2.2.1
  have hF : 6 < i_F := i_F_gt (by omega)
  generalize i_F = F at hF ⊢
  have e := it_loop (L := fun n k x => fX5_drawnYears_L156 sh p1 p2 p3 p4 x4 x125 x126 x128 K n x (nI k) σ) (E := fun x => K x (nI R.1.2.2.2) σ) (g := fun k a => a + spRank R (lf.2.2.1 k)) (N := R.1.2.2.2) (fun n k x hk => by
    show fX5_drawnYears_L156 sh p1 p2 p3 p4 x4 x125 x126 x128 K (n + 1) x (nI k) σ = _
    rw [fX5_drawnYears_L156, hr.2.2.2.2.1, if_neg (nI_ge hk (by omega)), if_pos (ok_nI (by omega) (by omega)), nI_clamp (by omega), (LfC_of hl).2.2.2.2.2.1 k (by omega), rankC hR hr, bd_some, nI_1]) (fun n x => by
    show fX5_drawnYears_L156 sh p1 p2 p3 p4 x4 x125 x126 x128 K (n + 1) x (nI R.1.2.2.2) σ = _
    rw [fX5_drawnYears_L156, hr.2.2.2.2.1, if_pos (nI_le (Nat.le_refl _) (by omega))]) R.1.2.2.2 F 0 x3 (by omega) (by omega)
  rw [nz0] at e
  rw [e]
  unfold yRank
  rw [it_sum]
noncomputable def spYears (R : Rl) (ru : Option Cl) (lf : Lf) (x m n p : Nat) (w : Int32) : Int32 := if ¬ w = 0 then (it (fun _ => yOut R ru lf n p) m 0 (x, 0, 0)).2.2 else (it (fun _ => yOut R ru lf n p) m 0 (x, 0, 0)).2.1
theorem yearsC {sh : List kd} {σ : St} {R : Rl} {ru : Option Cl} {lf : Lf} {x m n p : Nat} {w : Int32} (h : CX sh σ R ru lf) (hwl : wfL R 999 lf) (hm : m ≤ 10) (hn : n ≤ 60) (hx : x < 2 ^ 31) (hxx : σ.1 19 9 = nI x) :
    ∃ τ, fX5_drawnYears sh σ (nI m) (nI n) (nI p) ((if ¬ w = 0 then 0 else 1) : Int32) = some (spYears R ru lf x m n p w, τ) ∧ agr scC σ τ := by
  unfold fX5_drawnYears
  rw [hxx]
  generalize hw' : ((if ¬ w = 0 then 0 else 1) : Int32) = w'
  have hF : 10 < i_F := i_F_gt (by omega)
  generalize hFe : i_F = F at hF ⊢
  rw [← nz0]
  refine lpI (L := fun N k (a : Int32 × Int32 × Int32 × Value × Value × St) => fX5_drawnYears_L18 sh (nI m) (nI n) (nI p) w' (fun (x58 : Int32) (x59 : Int32) (x60 : Int32) (x61 : Int32) (x62 : Value) (x63 : Value) (s64 : St) => fX5_drawnYears_X208 sh (nI m) (nI n) (nI p) w' x58 x59 x60 x61 x62 x63 s64) N a.1 a.2.1 a.2.2.1 (nI k) a.2.2.2.1 a.2.2.2.2.1 a.2.2.2.2.2) (E := fun r => ∃ τ, r = some (spYears R ru lf x m n p w, τ) ∧ agr scC σ τ) (fun k a => ∃ y : Nat × Int32 × Int32, y = it (fun _ => yOut R ru lf n p) k 0 (x, 0, 0) ∧ a.1 = nI y.1 ∧ y.1 < 2 ^ 31 ∧ a.2.1 = y.2.1 ∧ a.2.2.1 = y.2.2 ∧ agr scC σ a.2.2.2.2.2) m (fun N k a hk hI => Or.inl ?_) (fun N a hI => ?_) m F 0 (nI x, nI 0, nI 0, .retAddr 0, .retAddr 0, σ) (by omega) (by omega) ⟨(x, 0, 0), rfl, rfl, hx, rfl, rfl, agr_refl⟩
  · obtain ⟨a1, a2, a3, v1, v2, s⟩ := a
    obtain ⟨y, i1, i2, i3, i4, i5, i6⟩ := hI
    dsimp only at i1 i2 i3 i4 i5 i6 ⊢
    subst i2 i4 i5
    have hs := CX_agr h i6
    obtain ⟨s2, b1, b2, b3⟩ := beginC (sh := sh) (σ := s)
    rw [hs.2.2.2.2.1] at b2
    have h2 := CX_agr hs b3
    obtain ⟨v', τ, t1, t2, t3, t4⟩ := yearC (n := n) (p := p) (x := y.1) (d := y.2.1) (m := nI m) (x3 := y.2.2) (x4 := nI k) (w := w') (v := v2) (K := fun (x125 : Int32) (x126 : Int32) (x127 : Int32) (x128 : Value) (s129 : St) => fX5_drawnYears_X153 sh (nI m) (nI n) (nI p) w' y.2.2 (nI k) (fX5_drawnYears_L18 sh (nI m) (nI n) (nI p) w' (fun (x58 : Int32) (x59 : Int32) (x60 : Int32) (x61 : Int32) (x62 : Value) (x63 : Value) (s64 : St) => fX5_drawnYears_X208 sh (nI m) (nI n) (nI p) w' x58 x59 x60 x61 x62 x63 s64) N) x125 x126 x127 x128 s129) h2 b2 hwl hn i3
    have h3 := CX_agr h2 t3
    rw [fX5_drawnYears_L18, if_neg (nI_ge hk (by omega)), b1, bd_some, t1]
    unfold fX5_drawnYears_X153
    rw [rksC h3.2.1 h3.2.2.2.1 t2]
    unfold fX5_drawnYears_X202
    rw [nI_1]
    refine ⟨(_, _, _, _, _, τ), rfl, yOut R ru lf n p y, ?_, rfl, t4, rfl, rfl, agr_trans i6 (agr_trans b3 t3)⟩
    rw [it_succ, ← i1]
  · obtain ⟨a1, a2, a3, v1, v2, s⟩ := a
    obtain ⟨y, i1, i2, i3, i4, i5, i6⟩ := hI
    dsimp only at i1 i2 i3 i4 i5 i6 ⊢
    subst i2 i4 i5
    refine ⟨s, ?_, i6⟩
    rw [fX5_drawnYears_L18, if_pos (nI_le (Nat.le_refl _) (by omega))]
    unfold fX5_drawnYears_X208 spYears
    rw [← i1, ← hw']
    by_cases w0 : w = 0
    · simp [w0]
    · simp [w0]
