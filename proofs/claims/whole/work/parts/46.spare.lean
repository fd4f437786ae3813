/-! ===== spare ===== -/
def spr (R : Rl) (ru : Option Cl) (t set : Int32) : Nat → Nat → Lf → Int32
  | 0, _, _ => 1
  | m + 1, k, l => if (spHour R ru (lfGl l ((set >>> (nI k &&& 31)) &&& 1))).1 = 0 then spr R ru t set m (k + 1) (spHour R ru (lfGl l ((set >>> (nI k &&& 31)) &&& 1))).2 else if ¬ (spHour R ru (lfGl l ((set >>> (nI k &&& 31)) &&& 1))).2.1.2.1 = t then spr R ru t set m (k + 1) (spHour R ru (lfGl l ((set >>> (nI k &&& 31)) &&& 1))).2 else 0
theorem spr01 {R : Rl} {ru : Option Cl} {t set : Int32} : ∀ (m k : Nat) (l : Lf), spr R ru t set m k l = 0 ∨ spr R ru t set m k l = 1
  | 0, _, _ => Or.inr rfl
  | m + 1, k, l => by
    rw [spr]
    split
    · exact spr01 m _ _
    · split
      · exact spr01 m _ _
      · exact Or.inl rfl
theorem gl_bit {R : Rl} {b : Nat} {l : Lf} {x : Int32} (h : wfL R b l) : wfL R b (lfGl l (x &&& 1)) := by
  rcases and1 x with e | e
  · rw [e, ← nz0]; exact wfL_gl h (by omega)
  · rw [e, ← nz1]; exact wfL_gl h (by omega)
theorem sprC {sh : List kd} {σ : St} {R : Rl} {ru : Option Cl} {lf : Lf} {n : Nat} {t set : Int32} (h : CX sh σ R ru lf) (hwl : wfL R 999 lf) (hn : n ≤ 8) :
    ∃ τ, fX5_isSpared sh σ t (nI n) set = some (spr R ru t set n 0 lf, τ) ∧ agr scC σ τ := by
  obtain ⟨s2, a1, a2, a3⟩ := beginC (sh := sh) (σ := σ)
  rw [h.2.2.2.2.1] at a2
  unfold fX5_isSpared
  rw [a1, bd_some]
  have hF : 8 < i_F := i_F_gt (by omega)
  generalize i_F = F at hF ⊢
  rw [← nz0]
  refine lpI (L := fun N k (a : Value × St) => fX5_isSpared_L7 sh t (nI n) set N (nI k) a.1 a.2) (E := fun r => ∃ τ, r = some (spr R ru t set n 0 lf, τ) ∧ agr scC σ τ) (fun k a => agr scC σ a.2 ∧ ∃ l, LfC a.2 135 = l ∧ wfL R (999 + k) l ∧ spr R ru t set (n - k) k l = spr R ru t set n 0 lf) n (fun N k a hk hI => ?_) (fun N a hI => ?_) n F 0 (.retAddr 0, s2) (by omega) (by omega) ⟨a3, lf, a2, hwl, rfl⟩
  · obtain ⟨v, s⟩ := a
    obtain ⟨i1, l, i2, i3, i4⟩ := hI
    dsimp only at i1 i2 ⊢
    rw [show n - k = (n - (k + 1)) + 1 by omega, spr] at i4
    have g1 : agr scC σ (s_F s 135 3 ((set >>> (nI k &&& 31)) &&& 1)) := agr_trans i1 (agr_F (by unfold scC; omega))
    have g2 : LfC (s_F s 135 3 ((set >>> (nI k &&& 31)) &&& 1)) 135 = lfGl l ((set >>> (nI k &&& 31)) &&& 1) := by rw [LfC_gl, i2]
    rw [fX5_isSpared_L7, if_neg (nI_ge hk (by omega))]
    generalize s_F s 135 3 ((set >>> (nI k &&& 31)) &&& 1) = s' at g1 g2
    have hw := gl_bit (x := set >>> (nI k &&& 31)) i3
    generalize lfGl l ((set >>> (nI k &&& 31)) &&& 1) = l' at g2 i4 hw
    obtain ⟨τ, t1, t2, t3⟩ := trialC (CX_agr h g1) (b := 999 + k) (by omega) g2 hw
    have hw' := wfL_hour (ru := ru) h.2.1 h.2.2.1 (by omega) hw
    rw [t1, bd_some, (LfC_of t2).2.1, nI_1]
    by_cases h0 : (spHour R ru l').1 = 0
    · rw [if_pos h0] at i4 ⊢
      exact Or.inl ⟨(_, τ), rfl, agr_trans g1 t3, _, t2, hw', i4⟩
    · rw [if_neg h0] at i4 ⊢
      by_cases h1 : (spHour R ru l').2.1.2.1 = t
      · rw [if_neg (not_not_intro h1)] at i4 ⊢
        exact Or.inr ⟨τ, by rw [← i4], agr_trans g1 t3⟩
      · rw [if_pos h1] at i4 ⊢
        exact Or.inl ⟨(_, τ), rfl, agr_trans g1 t3, _, t2, hw', i4⟩
  · obtain ⟨v, s⟩ := a
    obtain ⟨i1, l, i2, i3, i4⟩ := hI
    dsimp only at i1 i2 ⊢
    refine ⟨s, ?_, i1⟩
    rw [fX5_isSpared_L7, if_pos (nI_le (Nat.le_refl _) (by omega)), ← i4, Nat.sub_self]
    rfl
theorem bit01 {x : Int32} : (if (if x &&& 1 = 0 then (0 : Int32) else 1) = 0 then (0 : Int32) else 1) = x &&& 1 := by
  rcases and1 x with e | e
  · rw [e]; decide
  · rw [e]; decide
theorem sprR {sh : List kd} (hsh : rmSh sh) {σ0 σ : St} {R : Rl} {ru : Option Cl} {lf : Lf} {n : Nat} {t set : Int32} (h : RX σ R ru) (hl : LfR σ = lf) (hwl : wfL R 999 lf) (hn : n ≤ 8) (hK : KeptOf σ0 σ) (hg : agS σ0 σ) :
    ∃ τ, fX12_isSpared sh σ t (nI n) set = some (spr R ru t set n 0 lf, τ) ∧ KeptOf σ0 τ ∧ agR σ0 τ := by
  unfold fX12_isSpared
  have hF : 8 < i_F := i_F_gt (by omega)
  generalize i_F = F at hF ⊢
  rw [← nz0]
  refine lpI (L := fun N k (a : Int32 × Value × St) => fX12_isSpared_L6 sh t (nI n) set (fun (x55 : Int32) (x56 : Int32) (x57 : Value) (s58 : St) => fX12_isSpared_X80 sh t (nI n) set x55 x56 x57 s58) N a.1 (nI k) a.2.1 a.2.2) (E := fun r => ∃ τ, r = some (spr R ru t set n 0 lf, τ) ∧ KeptOf σ0 τ ∧ agR σ0 τ) (fun k a => KeptOf σ0 a.2.2 ∧ agS σ0 a.2.2 ∧ RX a.2.2 R ru ∧ ∃ l, LfR a.2.2 = l ∧ wfL R (999 + k) l ∧ ((a.1 = 1 ∧ spr R ru t set (n - k) k l = spr R ru t set n 0 lf) ∨ (a.1 = 0 ∧ spr R ru t set n 0 lf = 0))) n (fun N k a hk hI => Or.inl ?_) (fun N a hI => ?_) n F 0 (1, .retAddr 0, σ) (by omega) (by omega) ⟨hK, hg, h, lf, hl, hwl, Or.inl ⟨rfl, rfl⟩⟩
  · obtain ⟨x, v, s⟩ := a
    obtain ⟨i1, i2, i3, l, i4, i5, i6⟩ := hI
    dsimp only at i1 i2 i3 i4 i6 ⊢
    rw [fX12_isSpared_L6, if_neg (nI_ge hk (by omega)), hasR, bd_some, if_pos o_7, c_7, bit01]
    have hlife : lifeR s (s_A s 1 7 ((set >>> (nI k &&& 31)) &&& 1)) := lifeR_A1 (by omega)
    have g1 := Kept_life i1 hlife
    have g2 := agS_trans i2 hlife.1
    have g3 := RX_life i3 hlife
    have g4 : LfR (s_A s 1 7 ((set >>> (nI k &&& 31)) &&& 1)) = lfGl l ((set >>> (nI k &&& 31)) &&& 1) := by rw [LfR_gl, i4]
    generalize s_A s 1 7 ((set >>> (nI k &&& 31)) &&& 1) = s' at hlife g1 g2 g3 g4
    have hw := gl_bit (x := set >>> (nI k &&& 31)) i5
    obtain ⟨τ, t1, t2, t3⟩ := stepR (sh := sh) g3 (b := 999 + k) (by omega) g4 hw
    have hw' := wfL_hour (ru := ru) h.1 h.2.1 (by omega) hw
    rw [t1, bd_some, if_pos o_5, c_5, (LfR_of t2).2.1]
    unfold fX12_isSpared_J72
    rw [nI_1]
    rcases i6 with ⟨i6, i7⟩ | ⟨i6, i7⟩
    · rw [i6, if_neg n10]
      rw [show n - k = (n - (k + 1)) + 1 by omega, spr] at i7
      generalize lfGl l ((set >>> (nI k &&& 31)) &&& 1) = l' at g4 t2 hw hw' i7
      by_cases h0 : (spHour R ru l').1 = 0
      · rw [if_pos h0] at i7
        rw [if_pos h0, if_pos rfl]
        exact ⟨(1, _, τ), rfl, Kept_life g1 t3, agS_trans g2 t3.1, RX_life g3 t3, _, t2, hw', Or.inl ⟨rfl, i7⟩⟩
      · rw [if_neg h0] at i7
        rw [if_neg h0, if_neg n10]
        by_cases h1 : (spHour R ru l').2.1.2.1 = t
        · rw [if_neg (not_not_intro h1)] at i7
          rw [if_pos h1]
          exact ⟨(0, _, τ), rfl, Kept_life g1 t3, agS_trans g2 t3.1, RX_life g3 t3, _, t2, hw', Or.inr ⟨rfl, i7.symm⟩⟩
        · rw [if_pos h1] at i7
          rw [if_neg h1]
          exact ⟨(1, _, τ), rfl, Kept_life g1 t3, agS_trans g2 t3.1, RX_life g3 t3, _, t2, hw', Or.inl ⟨rfl, i7⟩⟩
    · rw [i6, if_pos rfl]
      exact ⟨(0, _, τ), rfl, Kept_life g1 t3, agS_trans g2 t3.1, RX_life g3 t3, _, t2, hw', Or.inr ⟨rfl, i7⟩⟩
  · obtain ⟨x, v, s⟩ := a
    obtain ⟨i1, i2, i3, l, i4, i5, i6⟩ := hI
    dsimp only at i1 i2 i3 i4 i6 ⊢
    obtain ⟨υ, u1, u2, u3, u4⟩ := layR hsh i1 i2
    refine ⟨υ, ?_, u2, u3⟩
    rw [fX12_isSpared_L6, if_pos (nI_le (Nat.le_refl _) (by omega))]
    unfold fX12_isSpared_X80
    rw [u1, bd_some]
    have e : x = spr R ru t set n 0 lf := by
      rcases i6 with ⟨i6, i7⟩ | ⟨i6, i7⟩
      · rw [← i7, Nat.sub_self, i6]
        rfl
      · rw [i6, i7]
    rw [← e]
    rcases i6 with ⟨i6, _⟩ | ⟨i6, _⟩
    · rw [i6]; rfl
    · rw [i6]; rfl
def gSp (V : Nat → Int32) (k b : Nat) : Nat := if spBits (nI b) ≤ spBits (nI k) then b else if V k = 0 then b else k
theorem shl8 : ∀ n : Nat, n ≤ 8 → (1 : Int32) <<< (nI n &&& 31) = nI (2 ^ n) ∧ (1 : Int32) <<< (nI n &&& 31) - 1 = nI (2 ^ n - 1) ∧ 0 < 2 ^ n ∧ 2 ^ n ≤ 256 := by decide +kernel
theorem spareC {sh : List kd} {σ : St} {R : Rl} {ru : Option Cl} {lf : Lf} {n : Nat} {t : Int32} (h : CX sh σ R ru lf) (hwl : wfL R 999 lf) (hn : n ≤ 8) :
    ∃ b τ, b = it (gSp (fun k => spr R ru t (nI k) n 0 lf)) (2 ^ n) 0 (2 ^ n - 1) ∧ b < 256 ∧ fX5_fewestGloves sh σ t (nI n) = some (nI b, τ) ∧ agr scC σ τ := by
  unfold fX5_fewestGloves
  obtain ⟨e1, e2, e3, e4⟩ := shl8 n hn
  rw [e2]
  have hF : 256 < i_F := i_F_gt (by omega)
  generalize hFe : i_F = F at hF ⊢
  rw [← nz0]
  generalize 2 ^ n = M at e1 e2 e3 e4 ⊢
  refine lpI (L := fun N k (a : Nat × St) => fX5_fewestGloves_L9 sh t (nI n) N (nI a.1) (nI k) a.2) (E := fun r => ∃ b τ, b = it (gSp (fun k => spr R ru t (nI k) n 0 lf)) M 0 (M - 1) ∧ b < 256 ∧ r = some (nI b, τ) ∧ agr scC σ τ) (fun k a => a.1 < 256 ∧ a.1 = it (gSp (fun k => spr R ru t (nI k) n 0 lf)) k 0 (M - 1) ∧ agr scC σ a.2) M (fun N k a hk hI => Or.inl ?_) (fun N a hI => ?_) M F 0 (M - 1, σ) (by omega) (by omega) ⟨by dsimp only; omega, rfl, agr_refl⟩
  · obtain ⟨b, s⟩ := a
    obtain ⟨i1, i2, i3⟩ := hI
    dsimp only at i1 i2 i3 ⊢
    have e : it (gSp (fun k => spr R ru t (nI k) n 0 lf)) (k + 1) 0 (M - 1) = gSp (fun k => spr R ru t (nI k) n 0 lf) k b := by rw [it_succ, ← i2]
    rw [fX5_fewestGloves_L9, e1, if_neg (nI_ge hk (by omega)), bcC, bd_some, bcC, bd_some, bc_bits k (by omega), bc_bits b i1]
    unfold fX5_fewestGloves_J43
    rw [nI_1]
    by_cases hc : spBits (nI b) ≤ spBits (nI k)
    · rw [if_pos hc]
      refine ⟨(b, s), rfl, i1, ?_, i3⟩
      rw [e]
      unfold gSp
      rw [if_pos hc]
    · rw [if_neg hc]
      obtain ⟨τ, t1, t2⟩ := sprC (t := t) (set := nI k) (CX_agr h i3) hwl hn
      rw [t1, bd_some]
      by_cases hv : spr R ru t (nI k) n 0 lf = 0
      · rw [if_pos hv]
        refine ⟨(b, τ), rfl, i1, ?_, agr_trans i3 t2⟩
        rw [e]
        unfold gSp
        rw [if_neg hc, if_pos hv]
      · rw [if_neg hv]
        refine ⟨(k, τ), rfl, by dsimp only; omega, ?_, agr_trans i3 t2⟩
        rw [e]
        unfold gSp
        rw [if_neg hc, if_neg hv]
  · obtain ⟨b, s⟩ := a
    obtain ⟨i1, i2, i3⟩ := hI
    dsimp only at i1 i2 i3 ⊢
    refine ⟨b, s, i2, i1, ?_, i3⟩
    rw [fX5_fewestGloves_L9, e1, if_pos (nI_le (Nat.le_refl _) (by omega))]
theorem spareR {sh : List kd} (hsh : rmSh sh) {σ : St} {R : Rl} {ru : Option Cl} {lf : Lf} {n : Nat} {t w : Int32} (h : RX σ R ru) (hl : LfR σ = lf) (hwl : wfL R 999 lf) (hn : n ≤ 8) :
    ∃ τ, i_bd (fX12_keepsAll sh σ) (fun r13 s14 => fX12_spare_L46 sh t (nI n) w (fun (x69 : Int32) (x70 : Int32) (s71 : St) => fX12_spare_X93 sh t (nI n) w x69 x70 s71) i_F ((1 <<< (nI n &&& 31)) - 1) 0 s14) = some ((if ¬ w = 0 then nI (it (gSp (fun k => spr R ru t (nI k) n 0 lf)) (2 ^ n) 0 (2 ^ n - 1)) else spBits (nI (it (gSp (fun k => spr R ru t (nI k) n 0 lf)) (2 ^ n) 0 (2 ^ n - 1)))), τ) ∧ agR σ τ := by
  obtain ⟨s1, a1, a2, a3⟩ := keepR hsh (σ := σ)
  rw [a1, bd_some]
  obtain ⟨e1, e2, e3, e4⟩ := shl8 n hn
  rw [e2]
  have hF : 256 < i_F := i_F_gt (by omega)
  generalize hFe : i_F = F at hF ⊢
  rw [← nz0]
  generalize 2 ^ n = M at e1 e2 e3 e4 ⊢
  refine lpI (L := fun N k (a : Nat × St) => fX12_spare_L46 sh t (nI n) w (fun (x69 : Int32) (x70 : Int32) (s71 : St) => fX12_spare_X93 sh t (nI n) w x69 x70 s71) N (nI a.1) (nI k) a.2) (E := fun r => ∃ τ, r = some ((if ¬ w = nI 0 then nI (it (gSp (fun k => spr R ru t (nI k) n 0 lf)) M 0 (M - 1)) else spBits (nI (it (gSp (fun k => spr R ru t (nI k) n 0 lf)) M 0 (M - 1)))), τ) ∧ agR σ τ) (fun k a => a.1 < 256 ∧ a.1 = it (gSp (fun k => spr R ru t (nI k) n 0 lf)) k 0 (M - 1) ∧ agR σ a.2 ∧ KeptOf σ a.2) M (fun N k a hk hI => Or.inl ?_) (fun N a hI => ?_) M F 0 (M - 1, s1) (by omega) (by omega) ⟨by dsimp only; omega, rfl, a3, a2⟩
  · obtain ⟨b, s⟩ := a
    obtain ⟨i1, i2, i3, i4⟩ := hI
    dsimp only at i1 i2 i3 i4 ⊢
    have e : it (gSp (fun k => spr R ru t (nI k) n 0 lf)) (k + 1) 0 (M - 1) = gSp (fun k => spr R ru t (nI k) n 0 lf) k b := by rw [it_succ, ← i2]
    rw [fX12_spare_L46, e1, if_neg (nI_ge hk (by omega)), bitsR, bd_some, bitsR, bd_some]
    unfold fX12_spare_J87
    rw [nI_1]
    by_cases hc : spBits (nI b) ≤ spBits (nI k)
    · rw [if_pos hc]
      refine ⟨(b, s), rfl, i1, ?_, i3, i4⟩
      rw [e]
      unfold gSp
      rw [if_pos hc]
    · rw [if_neg hc]
      obtain ⟨τ, t1, t2, t3⟩ := sprR hsh (σ0 := σ) (σ := s) (t := t) (set := nI k) (RX_agR h i3) ((LfR_agR i3).trans hl) hwl hn i4 i3.1
      rw [t1, bd_some]
      by_cases hv : spr R ru t (nI k) n 0 lf = 0
      · rw [if_pos hv]
        refine ⟨(b, τ), rfl, i1, ?_, t3, t2⟩
        rw [e]
        unfold gSp
        rw [if_neg hc, if_pos hv]
      · rw [if_neg hv]
        refine ⟨(k, τ), rfl, by dsimp only; omega, ?_, t3, t2⟩
        rw [e]
        unfold gSp
        rw [if_neg hc, if_neg hv]
  · obtain ⟨b, s⟩ := a
    obtain ⟨i1, i2, i3, i4⟩ := hI
    dsimp only at i1 i2 i3 i4 ⊢
    refine ⟨s, ?_, i3⟩
    rw [fX12_spare_L46, e1, if_pos (nI_le (Nat.le_refl _) (by omega))]
    unfold fX12_spare_X93 fX12_spare_J107
    rw [bitsR, bd_some, ← i2, nz0]
    by_cases w0 : w = 0
    · rw [if_neg (not_not_intro w0), if_neg (not_not_intro w0)]
    · rw [if_pos w0, if_pos w0]
theorem q_spare {sh shR : List kd} {σC σR : St} {R : Rl} {ru : Option Cl} {lf : Lf} (h : QX sh shR σC σR R ru lf) (t n w : Int32) : alikeQ (fX11_spare sh σC t n w) (fX12_spare shR σR t n w) σC σR := by
  have hC := h.2.2.2.1
  have hRR := h.2.2.2.2.1
  obtain ⟨lt1, lt2, lt3⟩ := wfR_lt h.2.2.1
  unfold fX11_spare fX12_spare
  by_cases ht : isN R.1.2.2.1 t
  · have hD := hD_of h.2.2.1 (Or.inr ht)
    rw [hasT_t (by omega) hC.2.2.2.1 ht, bd_some, if_neg n10, isT_t lt2 hRR.2.2.1 ht, bd_some, if_neg n10]
    by_cases hn : btw n 1 8
    · rw [within_t (a := 1) (b := 8) (by decide) (by decide) (by decide) (by decide) hn, bd_some, if_neg n10, in_t (a := 1) (b := 8) (by decide) (by decide) (by decide) (by decide) hn, bd_some, if_neg n10]
      by_cases hw : btw w 0 1
      · rw [within_t (a := 0) (b := 1) (by decide) (by decide) (by decide) (by decide) hw, bd_some, if_pos n10, in_t (a := 0) (b := 1) (by decide) (by decide) (by decide) (by decide) hw, bd_some, if_pos n10]
        obtain ⟨n', n1, n2, n3⟩ := hn
        subst n3
        obtain ⟨b, τC, a0, a1, a2, a3⟩ := spareC (n := n') (t := t) (QX_C h hD) h.2.2.2.2.2.2.2.1 n2
        obtain ⟨τR, b1, b2⟩ := spareR h.2.1 (n := n') (t := t) (w := w) (QX_R h hD) h.2.2.2.2.2.2.1 h.2.2.2.2.2.2.2.1 n2
        refine ⟨_, τC, τR, ?_, b1, a3, b2⟩
        rw [a2, bd_some]
        unfold fX11_spare_J60
        rw [bcC, bd_some, bc_bits b a1, ← a0]
        by_cases w0 : w = 0
        · rw [if_neg (not_not_intro w0), if_neg (not_not_intro w0)]
        · rw [if_pos w0, if_pos w0]
      · rw [within_f (a := 0) (b := 1) (by decide) (by decide) (by decide) (by decide) hw, bd_some, if_neg nn00, in_f (a := 0) (b := 1) (by decide) (by decide) (by decide) (by decide) hw, bd_some, if_neg nn00]
        exact alike_now
    · rw [within_f (a := 1) (b := 8) (by decide) (by decide) (by decide) (by decide) hn, bd_some, if_pos z00, in_f (a := 1) (b := 8) (by decide) (by decide) (by decide) (by decide) hn, bd_some, if_pos z00]
      exact alike_now
  · rw [hasT_f (by omega) hC.2.2.2.1 ht, bd_some, if_pos z00, isT_f lt2 hRR.2.2.1 ht, bd_some, if_pos z00]
    exact alike_now
