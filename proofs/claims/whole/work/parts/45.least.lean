/-! ===== least ===== -/
theorem or_bits : ∀ n : Nat, n < 64 → ∀ j : Nat, j < 6 → ∀ p : Nat, p < 6 → (((nI n ||| (1 <<< (nI j &&& 31))) >>> (nI p &&& 31)) &&& 1 = 0 ↔ (¬ j = p ∧ ((nI n >>> (nI p &&& 31)) &&& 1) = 0)) := by
  intro n hn j hj p hp
  rw [bit_or (by omega), bit_one (by omega) (by omega)]
  exact And.comm
theorem one_bits {owed held : Int32} {sv : Nat → Int32} {k : Nat} {q : Tn} (hk : k < 6) (h : ∃ n, n < 64 ∧ q.1 = nI n) : (∃ n, n < 64 ∧ (spOne owed held sv k q).1 = nI n) ∧ ∀ p, p < 6 → ((((spOne owed held sv k q).1 >>> (nI p &&& 31)) &&& 1) = 0 ↔ (((q.1 >>> (nI p &&& 31)) &&& 1) = 0 ∧ (k = p → spThank (q.2.1 k) (sv k) < owed))) := by
  obtain ⟨n, h1, h2⟩ := h
  obtain ⟨e1, e2⟩ := kn_or n h1 k hk
  have hor := fun p hp => or_bits n h1 k hk p hp
  unfold spOne
  split
  · next hc => exact ⟨⟨n, h1, h2⟩, fun p hp => ⟨fun h => ⟨h, fun _ => hc⟩, fun h => h.1⟩⟩
  · next hc =>
    have key : (∃ m, m < 64 ∧ q.1 ||| (1 <<< (nI k &&& 31)) = nI m) ∧ ∀ p, p < 6 → ((((q.1 ||| (1 <<< (nI k &&& 31))) >>> (nI p &&& 31)) &&& 1) = 0 ↔ (((q.1 >>> (nI p &&& 31)) &&& 1) = 0 ∧ (k = p → spThank (q.2.1 k) (sv k) < owed))) := by
      refine ⟨⟨_, e2, by rw [h2, e1]⟩, fun p hp => ?_⟩
      rw [h2, hor p hp]
      exact ⟨fun h => ⟨h.2, fun e => absurd e h.1⟩, fun h => ⟨fun e => hc (h.2 e), h.1⟩⟩
    split
    · exact key
    · exact key
theorem one_th {owed held : Int32} {sv : Nat → Int32} {k j : Nat} {q : Tn} (h : j ≠ k) : (spOne owed held sv k q).2.1 j = q.2.1 j := by
  unfold spOne
  split
  · show upd _ _ _ j = _
    rw [upd_pt, if_neg h]
  · split
    · show upd _ _ _ j = _
      rw [upd_pt, if_neg h]
    · show upd _ _ _ j = _
      rw [upd_pt, if_neg h]
/-- who is dubbed in an HOUR -/
theorem turns_dub {owed held : Int32} {sv : Nat → Int32} {p : Nat} (hp : p < 6) : ∀ (m k : Nat) (q : Tn), k + m ≤ 6 → (∃ n, n < 64 ∧ q.1 = nI n) → ((((spTurns owed held sv m k q).1 >>> (nI p &&& 31)) &&& 1) = 0 ↔ (((q.1 >>> (nI p &&& 31)) &&& 1) = 0 ∧ (k ≤ p → p < k + m → spThank (q.2.1 p) (sv p) < owed)))
  | 0, k, q, _, _ => ⟨fun h => ⟨h, fun h1 h2 => by omega⟩, fun h => h.1⟩
  | m + 1, k, q, hk, hq => by
    obtain ⟨o1, o2⟩ := one_bits (owed := owed) (held := held) (sv := sv) (k := k) (by omega) hq
    rw [spTurns, turns_dub hp m (k + 1) _ (by omega) o1, o2 p hp]
    by_cases hkp : k = p
    · subst hkp
      exact ⟨fun h => ⟨h.1.1, fun _ _ => h.1.2 rfl⟩, fun h => ⟨⟨h.1, fun _ => h.2 (Nat.le_refl _) (by omega)⟩, fun h1 => by omega⟩⟩
    · rw [one_th (Ne.symm hkp)]
      exact ⟨fun h => ⟨h.1.1, fun h1 h2 => h.2 (by omega) (by omega)⟩, fun h => ⟨⟨h.1, fun e => absurd e hkp⟩, fun h1 h2 => h.2 (by omega) (by omega)⟩⟩
/-- who is dubbed at once: it goes on alike, however great the DEED -/
theorem turns_alike {owed held : Int32} {sv : Nat → Int32} {p : Nat} : ∀ (m k : Nat) (q q' : Tn), k ≤ p → p < k + m → q.1 = q'.1 → (∀ j, j ≠ p → q.2.1 j = q'.2.1 j) → q.2.2 = q'.2.2 → ¬ spThank (q.2.1 p) (sv p) < owed → ¬ spThank (q'.2.1 p) (sv p) < owed → spTurns owed held sv m k q = spTurns owed held sv m k q'
  | 0, k, q, q', h1, h2, _, _, _, _, _ => by omega
  | m + 1, k, q, q', h1, h2, e1, e2, e3, d1, d2 => by
    obtain ⟨a, th, ti, bh⟩ := q
    obtain ⟨a', th', ti', bh'⟩ := q'
    dsimp only at e1 e2 e3 d1 d2
    obtain ⟨e3, e4⟩ := Prod.mk.inj e3
    subst e1 e3 e4
    rw [spTurns, spTurns]
    by_cases hkp : k = p
    · subst hkp
      have e : spOne owed held sv k (a, th, ti, bh) = spOne owed held sv k (a, th', ti, bh) := by
        have eu : upd th k 0 = upd th' k 0 := by
          funext j
          rw [upd_pt, upd_pt]
          split
          · rfl
          · next hj => exact e2 j hj
        unfold spOne
        dsimp only
        rw [if_neg d1, if_neg d2, eu]
      rw [e]
    · have hth : th k = th' k := e2 k hkp
      have hsame : (spOne owed held sv k (a, th, ti, bh)).1 = (spOne owed held sv k (a, th', ti, bh)).1 ∧ (spOne owed held sv k (a, th, ti, bh)).2.2 = (spOne owed held sv k (a, th', ti, bh)).2.2 ∧ ∀ j, j ≠ p → (spOne owed held sv k (a, th, ti, bh)).2.1 j = (spOne owed held sv k (a, th', ti, bh)).2.1 j := by
        unfold spOne
        dsimp only
        simp only [hth]
        split
        · refine ⟨rfl, rfl, fun j hj => ?_⟩
          dsimp only
          rw [upd_pt, upd_pt, e2 j hj]
        · split
          · refine ⟨rfl, rfl, fun j hj => ?_⟩
            dsimp only
            rw [upd_pt, upd_pt, e2 j hj]
          · refine ⟨rfl, rfl, fun j hj => ?_⟩
            dsimp only
            rw [upd_pt, upd_pt, e2 j hj]
      refine turns_alike m (k + 1) _ _ (by omega) (by omega) hsame.1 hsame.2.2 hsame.2.1 ?_ ?_
      · rw [one_th (Ne.symm hkp)]; exact d1
      · rw [one_th (Ne.symm hkp)]; exact d2
def dubP (R : Rl) (ru : Option Cl) (l : Lf) (p : Nat) : Prop := ¬ (((spHour R ru l).1 >>> (nI p &&& 31)) &&& 1) = 0
theorem hour_alike {R : Rl} {ru : Option Cl} {lf : Lf} {p : Nat} {x y : Int32} (hR : wfR R) (hp : p < R.1.2.2.2) (h1 : dubP R ru (lfTh lf p x) p) (h2 : dubP R ru (lfTh lf p y) p) (hh : spHand R ru (lfTh lf p x) = spHand R ru (lfTh lf p y)) : (spHour R ru (lfTh lf p x)).2 = (spHour R ru (lfTh lf p y)).2 := by
  have hP := hR.2.2.1
  have z0 : ∃ n, n < 64 ∧ (0 : Int32) = nI n := ⟨0, by omega, nz0.symm⟩
  unfold dubP spHour spPass at h1 h2
  unfold spHour
  rw [hh] at h1 ⊢
  generalize spHand R ru (lfTh lf p y) = held at h1 h2
  dsimp only at h1 h2
  have d1 : ¬ spThank ((lfTh lf p x).2.1 p) (R.2.2.2.2.2 p) < R.1.2.1 := fun e => h1 ((turns_dub (by omega) R.1.2.2.2 0 _ (by omega) z0).mpr ⟨by show ((0 : Int32) >>> _) &&& 1 = 0; rw [bit_0 (by omega)]; simp, fun _ _ => e⟩)
  have d2 : ¬ spThank ((lfTh lf p y).2.1 p) (R.2.2.2.2.2 p) < R.1.2.1 := fun e => h2 ((turns_dub (by omega) R.1.2.2.2 0 _ (by omega) z0).mpr ⟨by show ((0 : Int32) >>> _) &&& 1 = 0; rw [bit_0 (by omega)]; simp, fun _ _ => e⟩)
  have e := turns_alike (owed := R.1.2.1) (held := held) (sv := R.2.2.2.2.2) (p := p) R.1.2.2.2 0 (0, (lfTh lf p x).2.1, (lfTh lf p x).2.2.1, (lfTh lf p x).2.2.2.1) (0, (lfTh lf p y).2.1, (lfTh lf p y).2.2.1, (lfTh lf p y).2.2.2.1) (by omega) (by omega) rfl (fun j hj => by
    show upd _ _ _ j = upd _ _ _ j
    rw [upd_pt, upd_pt, if_neg hj, if_neg hj]) rfl d1 d2
  unfold spPass
  rw [e]
  rfl
/-- TITLES stay -/
theorem turns_ti {owed held : Int32} {sv : Nat → Int32} {p t : Nat} (ht : t < 32) : ∀ (m k : Nat) (q : Tn), ¬ ((q.2.2.1 p >>> (nI t &&& 31)) &&& 1) = 0 → ¬ (((spTurns owed held sv m k q).2.2.1 p >>> (nI t &&& 31)) &&& 1) = 0
  | 0, _, _, h => h
  | m + 1, k, q, h => by
    rw [spTurns]
    refine turns_ti ht m (k + 1) _ ?_
    unfold spOne
    split
    · exact h
    · split
      · exact h
      · show ¬ ((upd _ _ _ p >>> _) &&& 1) = 0
        rw [upd_pt]
        split
        · next e =>
          subst e
          exact fun e => h ((bit_or ht).mp e).1
        · exact h
theorem go_ti {R : Rl} {ru : Option Cl} {p t : Nat} (ht : t < 32) {l : Lf} {i : Nat} (h : ¬ (((spGo R ru i l).2.2.1 p >>> (nI t &&& 31)) &&& 1) = 0) : ∀ d, ¬ (((spGo R ru (i + d) l).2.2.1 p >>> (nI t &&& 31)) &&& 1) = 0
  | 0 => h
  | d + 1 => by
    rw [← Nat.add_assoc, spGo_succ]
    exact turns_ti ht _ _ _ (go_ti ht h d)
def lfD (lf : Lf) (p k : Nat) : Lf := lfTh lf p (spThank (lf.2.1 p) (nI k))
def lstB (R : Rl) (ru : Option Cl) (lf : Lf) (n p t k : Nat) : Int32 := ((spGo R ru n (lfD lf p k)).2.2.1 p >>> (nI t &&& 31)) &&& 1
def lst (B : Nat → Int32) : Nat → Nat → Int32
  | 0, _ => -2
  | m + 1, k => if B k = 0 then lst B m (k + 1) else nI k
theorem lstLa {sh : List kd} {σ : St} {R : Rl} {ru : Option Cl} {lf0 lf : Lf} {n p t : Nat} {x1 x2 r16 : Int32} {s17 : St} {K : Int32 → St → Option (Int32 × St)} (h : CX sh σ R ru lf0) (hp : p < 6) (hn : n ≤ 60) (hn1 : 1 ≤ n) (hwl : wfL R 999 lf) (hl : LfC σ 135 = spGo R ru 1 lf) :
    ∃ i τ, fX5_leastDeed_L99 sh (nI p) (nI t) (nI n) x1 x2 r16 s17 K i_F 1 σ = K (nI i) τ ∧ agr scC σ τ ∧ i ≤ n ∧ LfC τ 135 = spGo R ru i lf ∧ (i = n ∨ ¬ (((spGo R ru i lf).2.2.1 p >>> (nI t &&& 31)) &&& 1) = 0) := by
  have hF : 60 < i_F := i_F_gt (by omega)
  generalize i_F = F at hF ⊢
  rw [← nz1]
  refine lpI (L := fun N k s => fX5_leastDeed_L99 sh (nI p) (nI t) (nI n) x1 x2 r16 s17 K N (nI k) s) (E := fun r => ∃ i τ, r = K (nI i) τ ∧ agr scC σ τ ∧ i ≤ n ∧ LfC τ 135 = spGo R ru i lf ∧ (i = n ∨ ¬ (((spGo R ru i lf).2.2.1 p >>> (nI t &&& 31)) &&& 1) = 0)) (fun k s => agr scC σ s ∧ LfC s 135 = spGo R ru k lf) n (fun N k s hk hI => ?_) (fun N s hI => ?_) (n - 1) F 1 σ (by omega) (by omega) ⟨agr_refl, hl⟩
  · obtain ⟨i1, i2⟩ := hI
    have hok : i_ok (nI p) 6 := ok_nI hp (by omega)
    have hcl : (nI p).toNatClampNeg = p := nI_clamp (by omega)
    rw [fX5_leastDeed_L99, if_neg (nI_ge hk (by omega)), hasTC hok, bd_some, hcl, (LfC_of i2).2.2.2.2.2.1 p hp]
    by_cases hb : (((spGo R ru k lf).2.2.1 p >>> (nI t &&& 31)) &&& 1) = 0
    · left
      rw [if_pos hb, if_neg (by decide)]
      obtain ⟨τ, t1, t2, t3⟩ := trialC (CX_agr h i1) (b := 999 + k) (by omega) i2 (wfL_go (ru := ru) h.2.1 h.2.2.1 k lf 999 (by omega) hwl)
      rw [← spGo_succ] at t2
      exact ⟨τ, by rw [t1, bd_some, nI_1], agr_trans i1 t3, t2⟩
    · right
      rw [if_neg hb, if_pos (by decide)]
      exact ⟨k, s, rfl, i1, by omega, i2, Or.inr hb⟩
  · obtain ⟨i1, i2⟩ := hI
    rw [fX5_leastDeed_L99, if_pos (nI_le (Nat.le_refl _) (by omega))]
    exact ⟨n, s, rfl, i1, Nat.le_refl _, i2, Or.inl rfl⟩
theorem lstLb {sh : List kd} {σ : St} {R : Rl} {ru : Option Cl} {lf0 lf : Lf} {n p t : Nat} {x1 x2 r16 : Int32} {s17 : St} {K : Int32 → St → Option (Int32 × St)} (h : CX sh σ R ru lf0) (hp : p < 6) (hn : n ≤ 60) (hn1 : 1 ≤ n) (hwl : wfL R 999 lf) (hl : LfC σ 135 = spGo R ru 1 lf) :
    ∃ i τ, fX5_leastDeed_L99_90 sh (nI p) (nI t) (nI n) x1 x2 r16 s17 K i_F 1 σ = K (nI i) τ ∧ agr scC σ τ ∧ i ≤ n ∧ LfC τ 135 = spGo R ru i lf ∧ (i = n ∨ ¬ (((spGo R ru i lf).2.2.1 p >>> (nI t &&& 31)) &&& 1) = 0) := by
  have hF : 60 < i_F := i_F_gt (by omega)
  generalize i_F = F at hF ⊢
  rw [← nz1]
  refine lpI (L := fun N k s => fX5_leastDeed_L99_90 sh (nI p) (nI t) (nI n) x1 x2 r16 s17 K N (nI k) s) (E := fun r => ∃ i τ, r = K (nI i) τ ∧ agr scC σ τ ∧ i ≤ n ∧ LfC τ 135 = spGo R ru i lf ∧ (i = n ∨ ¬ (((spGo R ru i lf).2.2.1 p >>> (nI t &&& 31)) &&& 1) = 0)) (fun k s => agr scC σ s ∧ LfC s 135 = spGo R ru k lf) n (fun N k s hk hI => ?_) (fun N s hI => ?_) (n - 1) F 1 σ (by omega) (by omega) ⟨agr_refl, hl⟩
  · obtain ⟨i1, i2⟩ := hI
    have hok : i_ok (nI p) 6 := ok_nI hp (by omega)
    have hcl : (nI p).toNatClampNeg = p := nI_clamp (by omega)
    rw [fX5_leastDeed_L99_90, if_neg (nI_ge hk (by omega)), hasTC hok, bd_some, hcl, (LfC_of i2).2.2.2.2.2.1 p hp]
    by_cases hb : (((spGo R ru k lf).2.2.1 p >>> (nI t &&& 31)) &&& 1) = 0
    · left
      rw [if_pos hb, if_neg (by decide)]
      obtain ⟨τ, t1, t2, t3⟩ := trialC (CX_agr h i1) (b := 999 + k) (by omega) i2 (wfL_go (ru := ru) h.2.1 h.2.2.1 k lf 999 (by omega) hwl)
      rw [← spGo_succ] at t2
      exact ⟨τ, by rw [t1, bd_some, nI_1], agr_trans i1 t3, t2⟩
    · right
      rw [if_neg hb, if_pos (by decide)]
      exact ⟨k, s, rfl, i1, by omega, i2, Or.inr hb⟩
  · obtain ⟨i1, i2⟩ := hI
    rw [fX5_leastDeed_L99_90, if_pos (nI_le (Nat.le_refl _) (by omega))]
    exact ⟨n, s, rfl, i1, Nat.le_refl _, i2, Or.inl rfl⟩
theorem spGo_1 {R : Rl} {ru : Option Cl} {lf : Lf} : spGo R ru 1 lf = (spHour R ru lf).2 := spGo_succ 0 lf
theorem spGo_1n {R : Rl} {ru : Option Cl} {l l' : Lf} (h : spGo R ru 1 l = spGo R ru 1 l') : ∀ n, spGo R ru (1 + n) l = spGo R ru (1 + n) l'
  | 0 => h
  | n + 1 => by rw [← Nat.add_assoc, spGo_succ, spGo_succ, spGo_1n h n]
theorem leastC {sh : List kd} {σ : St} {R : Rl} {ru : Option Cl} {lf : Lf} {n p t : Nat} (h : CX sh σ R ru lf) (hwl : wfL R 999 lf) (hn : n ≤ 60) (hn1 : 1 ≤ n) (hp : p < R.1.2.2.2) (ht : t < 6) :
    ∃ τ, fX5_leastDeed sh σ (nI p) (nI t) (nI n) = some (lst (lstB R ru lf n p t) 201 0, τ) ∧ agr scC σ τ := by
  unfold fX5_leastDeed
  have hP := h.2.1.2.2.1
  have hF : 201 < i_F := i_F_gt (by omega)
  generalize hFe : i_F = F at hF ⊢
  rw [← nz0]
  refine lpI (L := fun N k (a : Int32 × Value × Value × Value × Value × St) => fX5_leastDeed_L7 sh (nI p) (nI t) (nI n) N a.1 (nI k) a.2.1 a.2.2.1 a.2.2.2.1 a.2.2.2.2.1 a.2.2.2.2.2) (E := fun r => ∃ τ, r = some (lst (lstB R ru lf n p t) 201 0, τ) ∧ agr scC σ τ) (fun k a => agr scC σ a.2.2.2.2.2 ∧ lst (lstB R ru lf n p t) (201 - k) k = lst (lstB R ru lf n p t) 201 0 ∧ (a.1 = -2 ∨ ∃ j, j < k ∧ dubP R ru (lfD lf p j) p ∧ spHand R ru (lfD lf p j) = a.1 ∧ lstB R ru lf n p t j = 0)) 201 (fun N k a hk hI => ?_) (fun N a hI => ?_) 201 F 0 (-2, .retAddr 0, .retAddr 0, .retAddr 0, .retAddr 0, σ) rfl (by omega) ⟨agr_refl, rfl, Or.inl rfl⟩
  · obtain ⟨x1, v3, v4, v5, v6, s⟩ := a
    obtain ⟨i1, i2, i3⟩ := hI
    dsimp only at i1 i2 i3 ⊢
    have hs := CX_agr h i1
    obtain ⟨s2, b1, b2, b3⟩ := beginC (sh := sh) (σ := s)
    rw [hs.2.2.2.2.1] at b2
    obtain ⟨s3, d1, d2, d3⟩ := thankC (sh := sh) (σ := s2) (a := 135) (p := p) (v := nI k) (by omega) b2
    have d4 : agr scC s2 s3 := agr_frC (by unfold scC; omega) d3
    have d2' : LfC s3 135 = lfD lf p k := d2
    have hwd : wfL R 999 (lfD lf p k) := wfL_th hwl
    obtain ⟨s4, e1, e2, e3⟩ := trialC (CX_agr (CX_agr hs b3) d4) (b := 999) (by omega) d2' hwd
    have g4 : agr scC σ s4 := agr_trans i1 (agr_trans b3 (agr_trans d4 e3))
    have e2' : LfC s4 135 = spGo R ru 1 (lfD lf p k) := by rw [spGo_1]; exact e2
    have hheld : s4.1 135 1 = spHand R ru (lfD lf p k) := (LfC_of e2).2.1
    have hstep : lst (lstB R ru lf n p t) (201 - k) k = if lstB R ru lf n p t k = 0 then lst (lstB R ru lf n p t) (201 - (k + 1)) (k + 1) else nI k := by
      rw [show 201 - k = (201 - (k + 1)) + 1 by omega]
      rfl
    rw [fX5_leastDeed_L7, show (200 : Int32) = nI 200 from by decide, if_neg (nI_nlt (by omega) (by omega)), b1, bd_some, d1, bd_some, e1, bd_some, hheld]
    have hok : i_ok (nI p) 6 := ok_nI (by omega) (by omega)
    have hcl : (nI p).toNatClampNeg = p := nI_clamp (by omega)
    -- the end of a try
    have fin : ∀ (i : Nat) (τ : St), agr scC σ τ → i ≤ n → LfC τ 135 = spGo R ru i (lfD lf p k) → (i = n ∨ ¬ (((spGo R ru i (lfD lf p k)).2.2.1 p >>> (nI t &&& 31)) &&& 1) = 0) → (if ((τ.2.1 137 p >>> (nI t &&& 31)) &&& 1) = 0 then (0 : Int32) else 1) = if lstB R ru lf n p t k = 0 then 0 else 1 := by
      intro i τ _ j2 j3 j4
      rw [(LfC_of j3).2.2.2.2.2.1 p (by omega)]
      unfold lstB
      by_cases hb : (((spGo R ru i (lfD lf p k)).2.2.1 p >>> (nI t &&& 31)) &&& 1) = 0
      · have hin := j4.resolve_right (not_not_intro hb)
        subst hin
        rw [if_pos hb]
      · have := go_ti (by omega) hb (n - i)
        rw [show i + (n - i) = n by omega] at this
        rw [if_neg hb, if_neg this]
    by_cases hdub : (((spHour R ru (lfD lf p k)).1 >>> (nI p &&& 31)) &&& 1) = 0
    · rw [if_pos hdub, if_pos rfl]
      obtain ⟨i, τ, t1, t2, t3, t4, t5⟩ := lstLa (sh := sh) (σ := s4) (p := p) (t := t) (x1 := x1) (x2 := nI k) (r16 := (spHour R ru (lfD lf p k)).1) (s17 := s4) (K := fun (x72 : Int32) (s73 : St) => fX5_leastDeed_X149 sh (nI p) (nI t) (nI n) x1 (nI k) (spHour R ru (lfD lf p k)).1 s4 (fX5_leastDeed_L7 sh (nI p) (nI t) (nI n) N) x72 s73) (CX_agr h g4) (by omega) hn hn1 hwd e2'
      rw [t1]
      unfold fX5_leastDeed_X149
      rw [hasTC hok, bd_some, hcl, fin i τ (agr_trans g4 t2) t3 t4 t5, if_pos hdub]
      by_cases hB : lstB R ru lf n p t k = 0
      · left
        rw [if_pos hB, if_pos rfl, if_pos rfl, nI_1]
        refine ⟨(_, _, _, _, _, τ), rfl, agr_trans g4 t2, ?_, ?_⟩
        · rw [← i2, hstep, if_pos hB]
        · rcases i3 with i3 | ⟨j, j1, j2⟩
          · exact Or.inl i3
          · exact Or.inr ⟨j, by omega, j2⟩
      · right
        rw [if_neg hB, if_neg (by decide)]
        refine ⟨τ, ?_, agr_trans g4 t2⟩
        rw [← i2, hstep, if_neg hB]
    · rw [if_neg hdub, if_neg (by decide)]
      by_cases hx1 : spHand R ru (lfD lf p k) = x1
      · left
        rw [if_neg (not_not_intro hx1), nI_1]
        have hB : lstB R ru lf n p t k = 0 := by
          rcases i3 with i3 | ⟨j, j1, j2, j3, j4⟩
          · exfalso
            have := spHand_ok (ru := ru) h.2.1 h.2.2.1 (by omega) hwd
            rw [hx1, i3] at this
            rcases this with e | ⟨z, z1, z2⟩
            · exact absurd e (by decide)
            · exact i5ne (by have := h.2.1.2.1; omega) z2.symm
          · have e := hour_alike (ru := ru) h.2.1 hp j2 hdub (j3.trans hx1.symm)
            have e' : spGo R ru 1 (lfD lf p j) = spGo R ru 1 (lfD lf p k) := by rw [spGo_1, spGo_1]; exact e
            have := spGo_1n e' (n - 1)
            rw [show 1 + (n - 1) = n by omega] at this
            unfold lstB at j4 ⊢
            rw [← this]
            exact j4
        refine ⟨(x1, _, _, _, v6, s4), rfl, g4, ?_, ?_⟩
        · rw [← i2, hstep, if_pos hB]
        · rcases i3 with i3 | ⟨j, j1, j2⟩
          · exact Or.inl i3
          · exact Or.inr ⟨j, by omega, j2⟩
      · rw [if_pos hx1]
        obtain ⟨i, τ, t1, t2, t3, t4, t5⟩ := lstLb (sh := sh) (σ := s4) (p := p) (t := t) (x1 := x1) (x2 := nI k) (r16 := (spHour R ru (lfD lf p k)).1) (s17 := s4) (K := fun (x141 : Int32) (s142 : St) => fX5_leastDeed_X149_151 sh (nI p) (nI t) (nI n) x1 (nI k) (spHour R ru (lfD lf p k)).1 s4 (fX5_leastDeed_L7 sh (nI p) (nI t) (nI n) N) x141 s142) (CX_agr h g4) (by omega) hn hn1 hwd e2'
        rw [t1]
        unfold fX5_leastDeed_X149_151
        rw [hasTC hok, bd_some, hcl, fin i τ (agr_trans g4 t2) t3 t4 t5, if_neg hdub, hheld]
        by_cases hB : lstB R ru lf n p t k = 0
        · left
          rw [if_pos hB, if_pos rfl, if_neg (by decide), nI_1]
          refine ⟨(_, _, _, _, _, τ), rfl, agr_trans g4 t2, ?_, Or.inr ⟨k, by omega, hdub, rfl, hB⟩⟩
          rw [← i2, hstep, if_pos hB]
        · right
          rw [if_neg hB, if_neg (by decide)]
          refine ⟨τ, ?_, agr_trans g4 t2⟩
          rw [← i2, hstep, if_neg hB]
  · obtain ⟨x1, v3, v4, v5, v6, s⟩ := a
    obtain ⟨i1, i2, i3⟩ := hI
    dsimp only at i1 i2 i3 ⊢
    refine ⟨s, ?_, i1⟩
    rw [fX5_leastDeed_L7, show (200 : Int32) = nI 200 from by decide, if_pos (nI_lt (by omega) (by omega)), ← i2]
    rfl
theorem leastR {sh : List kd} (hsh : rmSh sh) {σ : St} {R : Rl} {ru : Option Cl} {lf : Lf} {n p t : Nat} (h : RX σ R ru) (hl : LfR σ = lf) (hwl : wfL R 999 lf) (hn : n ≤ 60) (hp : p < 6) :
    ∃ τ, i_bd (fX12_keepsAll sh σ) (fun r13 s14 => fX12_least_L41 sh (nI p) (nI t) (nI n) i_F (-2) 0 s14) = some (lst (lstB R ru lf n p t) 201 0, τ) ∧ agR σ τ := by
  obtain ⟨s1, a1, a2, a3⟩ := keepR hsh (σ := σ)
  rw [a1, bd_some]
  have hF : 201 < i_F := i_F_gt (by omega)
  generalize hFe : i_F = F at hF ⊢
  rw [← nz0]
  refine lpI (L := fun N k (a : Int32 × St) => fX12_least_L41 sh (nI p) (nI t) (nI n) N a.1 (nI k) a.2) (E := fun r => ∃ τ, r = some (lst (lstB R ru lf n p t) 201 0, τ) ∧ agR σ τ) (fun k a => agR σ a.2 ∧ KeptOf σ a.2 ∧ ((a.1 = -2 ∧ lst (lstB R ru lf n p t) (201 - k) k = lst (lstB R ru lf n p t) 201 0) ∨ (¬ a.1 = -2 ∧ a.1 = lst (lstB R ru lf n p t) 201 0))) 201 (fun N k a hk hI => ?_) (fun N a hI => ?_) 201 F 0 (-2, s1) rfl (by omega) ⟨a3, a2, Or.inl ⟨rfl, rfl⟩⟩
  · obtain ⟨x, s⟩ := a
    obtain ⟨i1, i2, i3⟩ := hI
    dsimp only at i1 i2 i3 ⊢
    rw [fX12_least_L41, show (200 : Int32) = nI 200 from by decide, if_neg (nI_nlt (by omega) (by omega))]
    rcases i3 with ⟨i3, i4⟩ | ⟨i3, i4⟩
    · left
      have hok : i_ok (nI p) 6 := ok_nI hp (by omega)
      have hcl : (nI p).toNatClampNeg = p := nI_clamp (by omega)
      have hs := RX_agR h i1
      have hls := (LfR_agR i1).trans hl
      have hth : s.2.1 6 p = lf.2.1 p := (LfR_of hls).2.2.2.2.1 p hp
      have hlife : lifeR s (s_A s 6 p (spThank (lf.2.1 p) (nI k))) := lifeR_A6
      obtain ⟨s5, b1, b2, b3⟩ := goForR (sh := sh) (RX_life hs hlife) (lf := lfD lf p k) (n := n) (b := 999) (by omega) (by omega) (by rw [LfR_th hp, hls]; rfl) (wfL_th hwl)
      obtain ⟨υ, u1, u2, u3, u4⟩ := layR hsh (Kept_life (Kept_life i2 hlife) b3) (agS_trans i1.1 (agS_trans hlife.1 b3.1))
      rw [if_neg (not_not_intro i3)]
      simp only [if_pos hok, hcl]
      rw [hth, upToR, bd_some, show (if lf.2.1 p + nI k < 999 then lf.2.1 p + nI k else 999) = spThank (lf.2.1 p) (nI k) from rfl, b1, bd_some, hasR, bd_some, u1, bd_some, (LfR_of b2).2.2.2.2.2.1 p hp, nI_1]
      have hstep : lst (lstB R ru lf n p t) (201 - k) k = if lstB R ru lf n p t k = 0 then lst (lstB R ru lf n p t) (201 - (k + 1)) (k + 1) else nI k := by
        rw [show 201 - k = (201 - (k + 1)) + 1 by omega]
        rfl
      by_cases hB : lstB R ru lf n p t k = 0
      · have hB' : (((spGo R ru n (lfD lf p k)).2.2.1 p >>> (nI t &&& 31)) &&& 1) = 0 := hB
        rw [if_pos hB', if_pos rfl]
        refine ⟨(-2, υ), rfl, u3, u2, Or.inl ⟨rfl, ?_⟩⟩
        rw [← i4, hstep, if_pos hB]
      · have hB' : ¬ (((spGo R ru n (lfD lf p k)).2.2.1 p >>> (nI t &&& 31)) &&& 1) = 0 := hB
        rw [if_neg hB', if_neg (by decide)]
        refine ⟨(nI k, υ), rfl, u3, u2, Or.inr ⟨i5ne (by omega), ?_⟩⟩
        rw [← i4, hstep, if_neg hB]
    · right
      rw [if_pos i3]
      exact ⟨s, by rw [← i4]; rfl, i1⟩
  · obtain ⟨x, s⟩ := a
    obtain ⟨i1, i2, i3⟩ := hI
    dsimp only at i1 i2 i3 ⊢
    refine ⟨s, ?_, i1⟩
    rw [fX12_least_L41, show (200 : Int32) = nI 200 from by decide, if_pos (nI_lt (by omega) (by omega))]
    rcases i3 with ⟨i3, i4⟩ | ⟨i3, i4⟩
    · rw [← i4, i3]
      rfl
    · rw [← i4]
      rfl
theorem q_least {sh shR : List kd} {σC σR : St} {R : Rl} {ru : Option Cl} {lf : Lf} (h : QX sh shR σC σR R ru lf) (p t n : Int32) : alikeQ (fX11_least sh σC p t n) (fX12_least shR σR p t n) σC σR := by
  have hC := h.2.2.2.1
  have hRR := h.2.2.2.2.1
  obtain ⟨lt1, lt2, lt3⟩ := wfR_lt h.2.2.1
  have hT6 := h.2.2.1.2.1
  have hP6 := h.2.2.1.2.2.1
  unfold fX11_least fX12_least
  by_cases hp : isN R.1.2.2.2 p
  · have hD := hD_of h.2.2.1 (Or.inl hp)
    rw [hasP_t (by omega) hC.2.2.2.2.1 hp, bd_some, if_neg n10, isP_t lt3 hRR.2.2.2.1 hp, bd_some, if_neg n10]
    by_cases ht : isN R.1.2.2.1 t
    · rw [hasT_t (by omega) hC.2.2.2.1 ht, bd_some, if_neg n10, isT_t lt2 hRR.2.2.1 ht, bd_some, if_neg n10]
      by_cases hn : btw n 1 60
      · rw [within_t (a := 1) (b := 60) (by decide) (by decide) (by decide) (by decide) hn, bd_some, if_pos n10, in_t (a := 1) (b := 60) (by decide) (by decide) (by decide) (by decide) hn, bd_some, if_pos n10]
        obtain ⟨n', n1, n2, n3⟩ := hn
        obtain ⟨p', p1, p2⟩ := hp
        obtain ⟨t', t1, t2⟩ := ht
        subst n3 p2 t2
        obtain ⟨τC, a1, a2⟩ := leastC (n := n') (p := p') (t := t') (QX_C h hD) h.2.2.2.2.2.2.2.1 n2 n1 p1 (by omega)
        obtain ⟨τR, b1, b2⟩ := leastR h.2.1 (n := n') (p := p') (t := t') (QX_R h hD) h.2.2.2.2.2.2.1 h.2.2.2.2.2.2.2.1 n2 (by omega)
        exact ⟨_, τC, τR, by rw [a1, bd_some], b1, a2, b2⟩
      · rw [within_f (a := 1) (b := 60) (by decide) (by decide) (by decide) (by decide) hn, bd_some, if_neg nn00, in_f (a := 1) (b := 60) (by decide) (by decide) (by decide) (by decide) hn, bd_some, if_neg nn00]
        exact alike_now
    · rw [hasT_f (by omega) hC.2.2.2.1 ht, bd_some, if_pos z00, isT_f lt2 hRR.2.2.1 ht, bd_some, if_pos z00]
      exact alike_now
  · rw [hasP_f (by omega) hC.2.2.2.2.1 hp, bd_some, if_pos z00, isP_f lt3 hRR.2.2.2.1 hp, bd_some, if_pos z00]
    exact alike_now
