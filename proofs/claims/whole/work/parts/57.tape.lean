/-! ===== note, end, feed ===== -/
theorem note_C {σ : St} {W : Wd} {n : Nat} {t : Int32} (h : hdC σ 19 W) (hn : n ≤ 60) (hl : W.2.2.2.1.length < 10) : hdC (s_F (s_A (s_A σ 32 W.2.2.2.1.length (nI n)) 33 W.2.2.2.1.length t) 19 7 (nI (W.2.2.2.1.length + 1))) 19 (W.1, W.2.1, W.2.2.1, W.2.2.2.1 ++ [(n, t)], W.2.2.2.2) := by
  obtain ⟨R, lf, pst, nt, f, x⟩ := W
  obtain ⟨c1, c2, c3, c4, c5, c6⟩ := h
  dsimp only at c1 c2 c3 c4 c5 c6 hl ⊢
  have eo : ∀ i, i ≠ 19 → (s_F (s_A (s_A σ 32 nt.length (nI n)) 33 nt.length t) 19 7 (nI (nt.length + 1))).1 i = σ.1 i := fun i hi => by funext q; rw [s_F_rd, if_neg (fun e => hi e.1)]; rfl
  have ek : ∀ q, q ≠ 7 → (s_F (s_A (s_A σ 32 nt.length (nI n)) 33 nt.length t) 19 7 (nI (nt.length + 1))).1 19 q = σ.1 19 q := fun q hq => by rw [s_F_rd, if_neg (fun e => hq e.2)]; rfl
  have eA : ∀ i, i ≠ 32 → i ≠ 33 → (s_F (s_A (s_A σ 32 nt.length (nI n)) 33 nt.length t) 19 7 (nI (nt.length + 1))).2.1 i = σ.2.1 i := fun i h1 h2 => by rw [s_F_A, s_A_ne h2, s_A_ne h1]
  refine ⟨isRC_fr (eo 20 (by omega)) (fun i h1 h2 => eA i (by omega) (by omega)) c1, (LfC_ext (eo 26 (by omega)) (fun i h1 h2 => eA i (by omega) (by omega))).trans c2, ?_, ⟨?_, ?_, fun k q hq => ?_⟩, ?_, ?_⟩
  · obtain ⟨fi, f1, f2, f3, f4, f5⟩ := c3
    exact ⟨fi, f1, by rw [ek 3 (by omega)]; exact f2, by rw [ek 4 (by omega)]; exact f3, f4, fun i l hi => (LfC_ext (eo _ (by omega)) (fun j h1 h2 => eA j (by omega) (by omega))).trans (f5 i l hi)⟩
  · rw [List.length_append, List.length_singleton]; omega
  · rw [s_F_rd, if_pos ⟨rfl, rfl⟩, List.length_append, List.length_singleton]
  · show q.1 ≤ 60 ∧ (s_F _ 19 7 _).2.1 32 k = nI q.1 ∧ (s_F _ 19 7 _).2.1 33 k = q.2
    rw [s_F_A]
    by_cases hk : k < nt.length
    · rw [List.getElem?_append_left hk] at hq
      rw [s_A_ne (by decide), s_A_rd, if_neg (fun e => by omega), s_A_rd, if_neg (fun e => by omega), s_A_ne (by decide)]
      exact c4.2.2 k q hq
    · rw [List.getElem?_append_right (by omega)] at hq
      have h0 : k = nt.length := by
        by_cases h1 : k - nt.length = 0
        · omega
        · obtain ⟨z, hz⟩ : ∃ z, k - nt.length = z + 1 := ⟨_, (Nat.succ_pred h1).symm⟩
          rw [hz] at hq
          cases hq
      subst h0
      rw [Nat.sub_self] at hq
      cases hq
      exact ⟨hn, by rw [s_A_ne (by decide), s_A_at], s_A_at⟩
  · rw [ek 8 (by omega)]; exact c5
  · rw [ek 9 (by omega)]; exact c6
theorem note_R {σ : St} {W : Wd} {n : Nat} {t : Int32} (h : hdR σ W) (hn : n ≤ 60) (hl : W.2.2.2.1.length < 10) : hdR (s_A (s_A (s_A σ 10 W.2.2.2.1.length (nI n)) 11 W.2.2.2.1.length t) 1 8 (nI (W.2.2.2.1.length + 1))) (W.1, W.2.1, W.2.2.1, W.2.2.2.1 ++ [(n, t)], W.2.2.2.2) := by
  obtain ⟨R, lf, pst, nt, f, x⟩ := W
  obtain ⟨d1, d2, d3, d4, d5, d6⟩ := h
  dsimp only at d1 d2 d3 d4 d5 d6 hl ⊢
  have ek : ∀ q, q ≠ 8 → (s_A (s_A (s_A σ 10 nt.length (nI n)) 11 nt.length t) 1 8 (nI (nt.length + 1))).2.1 1 q = σ.2.1 1 q := fun q hq => by rw [s_A_rd, if_neg (fun e => hq e.2), s_A_ne (by decide), s_A_ne (by decide)]
  have eA : ∀ i, i ≠ 1 → i ≠ 10 → i ≠ 11 → (s_A (s_A (s_A σ 10 nt.length (nI n)) 11 nt.length t) 1 8 (nI (nt.length + 1))).2.1 i = σ.2.1 i := fun i h1 h2 h3 => by rw [s_A_ne h1, s_A_ne h3, s_A_ne h2]
  refine ⟨isRR_fr (fun j hj => ek j (by omega)) (fun i hi => eA i (by omega) (by omega) (by omega)) d1, ?_, ⟨d3.1, ?_⟩, ⟨?_, ?_, fun k q hq => ?_⟩, ?_, ?_⟩
  · refine Eq.trans ?_ d2
    unfold LfR
    rw [ek 4 (by omega), ek 5 (by omega), ek 6 (by omega), ek 7 (by omega), eA 6 (by omega) (by omega) (by omega), eA 8 (by omega) (by omega) (by omega), eA 9 (by omega) (by omega) (by omega), eA 4 (by omega) (by omega) (by omega)]
  · rw [eA 29 (by omega) (by omega) (by omega)]
    exact d3.2
  · rw [List.length_append, List.length_singleton]; omega
  · rw [s_A_at, List.length_append, List.length_singleton]
  · rw [s_A_ne (by decide), s_A_ne (show (11 : Nat) ≠ 1 by decide)]
    by_cases hk : k < nt.length
    · rw [List.getElem?_append_left hk] at hq
      rw [s_A_ne (by decide), s_A_rd, if_neg (fun e => by omega), s_A_rd, if_neg (fun e => by omega), s_A_ne (by decide)]
      exact d4.2.2 k q hq
    · rw [List.getElem?_append_right (by omega)] at hq
      have h0 : k = nt.length := by
        by_cases h1 : k - nt.length = 0
        · omega
        · obtain ⟨z, hz⟩ : ∃ z, k - nt.length = z + 1 := ⟨_, (Nat.succ_pred h1).symm⟩
          rw [hz] at hq
          cases hq
      subst h0
      rw [Nat.sub_self] at hq
      cases hq
      exact ⟨hn, by rw [s_A_ne (by decide), s_A_at], s_A_at⟩
  · rw [ek 10 (by omega)]; exact d5
  · rw [ek 9 (by omega)]; exact d6
theorem m_note {sh shR : List kd} {σC σR : St} {W : Wd} {rl : List Cl} {im : Im} {tp : List Nat} (h : IV sh shR σC σR W rl im tp) (n t : Int32) : alikeI sh shR (fX11_note sh σC n t) (fX12_note shR σR n t) := by
  obtain ⟨a1, a2, a3, a4, a5, a6⟩ := h.1
  have hQ := IV_QX h
  have hC := hQ.2.2.2.1
  have hRR := hQ.2.2.2.2.1
  obtain ⟨lt1, lt2, lt3⟩ := wfR_lt hQ.2.2.1
  have nC : σC.1 19 7 = nI W.2.2.2.1.length := a4.2.2.2.1.2.1
  have nR : σR.2.1 1 8 = nI W.2.2.2.1.length := a5.2.2.2.1.2.1
  have nL : W.2.2.2.1.length ≤ 10 := a5.2.2.2.1.1
  unfold fX11_note fX12_note
  simp only [if_pos o_8, c_8]
  by_cases hn1 : n = -1
  · rw [if_neg (not_not_intro hn1), if_neg (not_not_intro hn1)]
    refine ⟨0, s_F σC 19 7 0, s_A σR 1 8 0, (W.1, W.2.1, W.2.2.1, [], W.2.2.2.2), rl, im, tp, rfl, rfl, IV_act h keC_F19 keR_A1 ⟨a3.1, a3.2.1, a3.2.2.1, a3.2.2.2⟩ ?_ ?_⟩
    · obtain ⟨c1, c2, c3, c4, c5, c6⟩ := a4
      have eo : ∀ i, i ≠ 19 → (s_F σC 19 7 0).1 i = σC.1 i := fun i hi => by funext q; rw [s_F_rd, if_neg (fun e => hi e.1)]
      have ek : ∀ q, q ≠ 7 → (s_F σC 19 7 0).1 19 q = σC.1 19 q := fun q hq => by rw [s_F_rd, if_neg (fun e => hq e.2)]
      refine ⟨isRC_fr (eo 20 (by omega)) (fun _ _ _ => rfl) c1, (LfC_ext (eo 26 (by omega)) (fun _ _ _ => rfl)).trans c2, ?_, ⟨Nat.zero_le 10, by rw [s_F_rd, if_pos ⟨rfl, rfl⟩]; rfl, fun k q hq => by cases hq⟩, by rw [ek 8 (by omega)]; exact c5, by rw [ek 9 (by omega)]; exact c6⟩
      obtain ⟨fi, f1, f2, f3, f4, f5⟩ := c3
      exact ⟨fi, f1, by rw [ek 3 (by omega)]; exact f2, by rw [ek 4 (by omega)]; exact f3, f4, fun i l hi => (LfC_ext (eo _ (by omega)) (fun _ _ _ => rfl)).trans (f5 i l hi)⟩
    · obtain ⟨d1, d2, d3, d4, d5, d6⟩ := a5
      have ek : ∀ q, q ≠ 8 → (s_A σR 1 8 0).2.1 1 q = σR.2.1 1 q := fun q hq => by rw [s_A_rd, if_neg (fun e => hq e.2)]
      refine ⟨isRR_fr (fun j hj => ek j (by omega)) (fun i hi => s_A_ne (by omega)) d1, ?_, ⟨d3.1, ?_⟩, ⟨Nat.zero_le 10, s_A_at.trans rfl, fun k q hq => by cases hq⟩, by rw [ek 10 (by omega)]; exact d5, by rw [ek 9 (by omega)]; exact d6⟩
      · refine Eq.trans ?_ d2
        unfold LfR
        rw [ek 4 (by omega), ek 5 (by omega), ek 6 (by omega), ek 7 (by omega), s_A_ne (by decide), s_A_ne (by decide), s_A_ne (by decide), s_A_ne (by decide)]
      · rw [s_A_ne (by decide)]
        exact d3.2
  · rw [if_pos hn1, if_pos hn1]
    by_cases hD : W.1.1.1 = 0
    · rw [if_pos (told_f hC hD), isCt_f (by rw [hRR.1, hD]), bd_some, if_pos rfl]
      exact alike_nowI h
    have hD' : 0 < W.1.1.1 := by omega
    rw [if_neg (told_t hC hD'), isCt_t lt1 hRR.1 hD', bd_some, if_neg n10]
    by_cases hn : btw n 0 60
    · rw [within_t (a := 0) (b := 60) (by decide) (by decide) (by decide) (by decide) hn, bd_some, if_neg n10, in_t (a := 0) (b := 60) (by decide) (by decide) (by decide) (by decide) hn, bd_some, if_neg n10, nC, nR, show (10 : Int32) = nI 10 from by decide]
      obtain ⟨n', _, n2, n3⟩ := hn
      subst n3
      by_cases h10 : W.2.2.2.1.length < 10
      · have hok : i_ok (nI W.2.2.2.1.length) 10 := ok_nI h10 (by omega)
        have hcl : (nI W.2.2.2.1.length).toNatClampNeg = W.2.2.2.1.length := nI_clamp (by omega)
        have g1 : ∀ (a : Nat) (v : Int32), (s_A σC 32 a v).1 19 7 = nI W.2.2.2.1.length := fun _ _ => nC
        have g2 : ∀ (a b : Nat) (v u : Int32), (s_A (s_A σC 32 a v) 33 b u).1 19 7 = nI W.2.2.2.1.length := fun _ _ _ _ => nC
        have g3 : ∀ (a b : Nat) (v u : Int32), (s_A (s_A σR 10 a v) 11 b u).2.1 1 8 = nI W.2.2.2.1.length := fun a b v u => by rw [s_A_ne (by decide), s_A_ne (by decide), nR]
        have fin : alikeI sh shR (some (nI (W.2.2.2.1.length + 1), s_F (s_A (s_A σC 32 W.2.2.2.1.length (nI n')) 33 W.2.2.2.1.length t) 19 7 (nI (W.2.2.2.1.length + 1)))) (some (nI (W.2.2.2.1.length + 1), s_A (s_A (s_A σR 10 W.2.2.2.1.length (nI n')) 11 W.2.2.2.1.length t) 1 8 (nI (W.2.2.2.1.length + 1)))) := by
          refine ⟨_, _, _, (W.1, W.2.1, W.2.2.1, W.2.2.2.1 ++ [(n', t)], W.2.2.2.2), rl, im, tp, rfl, rfl, IV_act h ⟨fun i hi => ⟨by funext q; rw [s_F_rd, if_neg (fun e => by omega)]; rfl, by rw [s_F_A, s_A_ne (by omega), s_A_ne (by omega)]⟩, rfl⟩ ⟨rfl, ⟨rfl, rfl⟩, fun i hi => by rw [s_A_ne (by omega), s_A_ne (by omega), s_A_ne (by omega)], fun j _ => by rw [s_A_ne (by omega), s_A_ne (by omega), s_A_ne (by omega)]⟩ ⟨a3.1, a3.2.1, a3.2.2.1, a3.2.2.2⟩ (note_C (t := t) a4 n2 h10) (note_R (t := t) a5 n2 h10)⟩
        rw [if_neg (nI_ge h10 (by omega))]
        by_cases ht : t = -1
        · rw [if_pos ht, if_pos ht, if_pos (nI_ne (by omega) (by omega) (by omega))]
          simp only [if_pos hok, hcl, nC, g1, g2, g3, jp, nI_1]
          rw [s_F_rd, if_pos ⟨rfl, rfl⟩]
          exact fin
        · rw [if_neg ht, if_neg ht]
          by_cases hT : isN W.1.1.2.2.1 t
          · rw [hasT_t (by omega) hC.2.2.2.1 hT, bd_some, if_pos n10, isT_t lt2 hRR.2.2.1 hT, bd_some, if_neg n10, if_pos (nI_ne (by omega) (by omega) (by omega))]
            simp only [if_pos hok, hcl, nC, g1, g2, g3, jp, nI_1]
            rw [s_F_rd, if_pos ⟨rfl, rfl⟩]
            exact fin
          · rw [hasT_f (by omega) hC.2.2.2.1 hT, bd_some, if_neg nn00, isT_f lt2 hRR.2.2.1 hT, bd_some, if_pos rfl]
            exact alike_nowI h
      · have h10' : W.2.2.2.1.length = 10 := by omega
        rw [h10', if_pos (nI_le (Nat.le_refl _) (by omega))]
        by_cases ht : t = -1
        · rw [if_pos ht, if_neg (not_not_intro rfl)]
          exact alike_nowI h
        · rw [if_neg ht]
          by_cases hT : isN W.1.1.2.2.1 t
          · rw [isT_t lt2 hRR.2.2.1 hT, bd_some, if_neg n10, if_neg (not_not_intro rfl)]
            exact alike_nowI h
          · rw [isT_f lt2 hRR.2.2.1 hT, bd_some, if_pos rfl]
            exact alike_nowI h
    · rw [within_f (a := 0) (b := 60) (by decide) (by decide) (by decide) (by decide) hn, bd_some, if_pos z00, in_f (a := 0) (b := 60) (by decide) (by decide) (by decide) (by decide) hn, bd_some, if_pos z00]
      exact alike_nowI h
/-- the TAPE alone changes -/
def frTC (σ τ : St) : Prop := (∀ i k, ¬ (i = 1 ∧ k = 1) → τ.1 i k = σ.1 i k) ∧ (∀ i, i ≠ 2 → τ.2.1 i = σ.2.1 i) ∧ τ.2.2.2 = σ.2.2.2
def frTR (σ τ : St) : Prop := (∀ i k, ¬ (i = 0 ∧ k = 19) → τ.1 i k = σ.1 i k) ∧ (∀ i, i ≠ 19 → τ.2.1 i = σ.2.1 i) ∧ τ.2.2.2 = σ.2.2.2
theorem hdR_row {σ τ : St} {W : Wd} (e41 : τ.1 0 41 = σ.1 0 41) (e : ∀ i, i ≤ 12 ∨ i = 29 → τ.2.1 i = σ.2.1 i) (h : hdR σ W) : hdR τ W := by
  obtain ⟨d1, d2, d3, d4, d5, d6⟩ := h
  refine ⟨isRR_fr (fun j _ => by rw [e 1 (by omega)]) (fun i hi => e i (by omega)) d1, ?_, ⟨by rw [e41]; exact d3.1, by rw [e 29 (by omega)]; exact d3.2⟩, ?_, by rw [e 1 (by omega)]; exact d5, by rw [e 1 (by omega)]; exact d6⟩
  · refine Eq.trans ?_ d2
    unfold LfR
    rw [e 1 (by omega), e 6 (by omega), e 8 (by omega), e 9 (by omega), e 4 (by omega)]
  · unfold ntR
    rw [e 1 (by omega), e 10 (by omega), e 11 (by omega)]
    exact d4
theorem IV_tape {sh shR : List kd} {σC σR τC τR : St} {W : Wd} {rl : List Cl} {im : Im} {tp tp' : List Nat} (h : IV sh shR σC σR W rl im tp) (fC : frTC σC τC) (fR : frTR σR τR) (ht : tpe τC τR tp') : IV sh shR τC τR W rl im tp' := by
  refine IV_actT h ⟨fun i hi => ⟨by funext k; exact fC.1 i k (by omega), fC.2.1 i (by omega)⟩, fC.2.2⟩ ⟨⟨fR.1 0 23 (by omega), fR.1 0 28 (by omega)⟩, fun i hi => fR.2.1 i (by omega), fun j _ => by rw [fR.2.1 36 (by omega)]⟩ h.1.2.2.1 (hdC_ext (fun i h1 h2 => ⟨by funext k; exact fC.1 i k (by omega), fC.2.1 i (by omega)⟩) h.1.2.2.2.1) (hdR_row (fR.1 0 41 (by omega)) (fun i hi => fR.2.1 i (by omega)) h.1.2.2.2.2.1) ht
theorem m_end {sh shR : List kd} {σC σR : St} {W : Wd} {rl : List Cl} {im : Im} {tp : List Nat} (h : IV sh shR σC σR W rl im tp) (n : Int32) : alikeI sh shR (fX11_end sh σC n) (fX12_end shR σR n) := by
  obtain ⟨t1, t2, t3, t4⟩ := h.2.2.2.2.2.1
  unfold fX11_end fX12_end
  rw [t2, t3]
  by_cases h0 : n < 0
  · rw [if_pos h0, if_pos h0]
    exact alike_nowI h
  · rw [if_neg h0, if_neg h0]
    obtain ⟨k, k1, k2⟩ := nI_of h0
    subst k2
    by_cases hk : k ≤ tp.length
    · rw [if_pos (nI_le hk (by omega)), if_pos (nI_le hk (by omega))]
      refine ⟨_, _, _, W, rl, im, tp.take k, rfl, rfl, IV_tape h ⟨fun i q hq => by rw [s_F_rd, if_neg hq], fun _ _ => rfl, rfl⟩ ⟨fun i q hq => by rw [s_F_rd, if_neg hq], fun _ _ => rfl, rfl⟩ ⟨?_, ?_, ?_, fun j b hb => ?_⟩⟩
      · rw [List.length_take]; omega
      · rw [s_F_rd, if_pos ⟨rfl, rfl⟩, List.length_take, Nat.min_eq_left hk]
      · rw [s_F_rd, if_pos ⟨rfl, rfl⟩, List.length_take, Nat.min_eq_left hk]
      · refine t4 j b ?_
        rw [List.getElem?_take] at hb
        split at hb
        · exact hb
        · cases hb
    · rw [if_neg (nI_ge (by omega) (by omega)), if_neg (nI_ge (by omega) (by omega))]
      exact alike_nowI h
theorem byte_of (x : Int32) : ∃ n, n < 256 ∧ x &&& 255 = nI n ∧ x.toInt8.toInt32 = (nI n).toInt8.toInt32 := by
  refine ⟨x.toBitVec.toNat % 256, Nat.mod_lt _ (by omega), ?_, ?_⟩
  · apply Int32.toBitVec_inj.mp
    apply BitVec.eq_of_toNat_eq
    rw [Int32.toBitVec_and, BitVec.toNat_and]
    have e1 : (255 : Int32).toBitVec.toNat = 2 ^ 8 - 1 := by decide
    have e2 : (nI (x.toBitVec.toNat % 256)).toBitVec = BitVec.ofNat 32 (x.toBitVec.toNat % 256) := rfl
    rw [e1, e2, Nat.and_two_pow_sub_one_eq_mod, BitVec.toNat_ofNat]
    have := Nat.mod_lt x.toBitVec.toNat (show 256 > 0 by omega)
    omega
  · congr 1
    apply Int8.toBitVec_inj.mp
    rw [Int32.toBitVec_toInt8, Int32.toBitVec_toInt8]
    apply BitVec.eq_of_toNat_eq
    rw [BitVec.signExtend_eq_setWidth_of_le _ (by omega), BitVec.signExtend_eq_setWidth_of_le _ (by omega), BitVec.toNat_setWidth, BitVec.toNat_setWidth]
    have e2 : (nI (x.toBitVec.toNat % 256)).toBitVec = BitVec.ofNat 32 (x.toBitVec.toNat % 256) := rfl
    rw [e2, BitVec.toNat_ofNat]
    have := Nat.mod_lt x.toBitVec.toNat (show 256 > 0 by omega)
    omega
theorem nar8 (x : Int32) : vp_nar .byte x.toInt8.toInt32 = x.toInt8.toInt32 := by
  rw [vp_nar_byte]
  congr 1
  simp
def sf (m : Nat) : Int32 := nI (8 * m) - 8
theorem sf_s (m : Nat) : sf (m + 1) = nI (8 * m) := by
  unfold sf
  rw [show (8 : Int32) = nI 8 from by decide, nI_sub (by omega)]
  congr 1
theorem sf_n (m : Nat) : nI (8 * m) + (-8) = sf m := by
  unfold sf
  rw [Int32.sub_eq_add_neg]
theorem frTC_trans {σ τ υ : St} (h : frTC σ τ) (g : frTC τ υ) : frTC σ υ := ⟨fun i k hk => (g.1 i k hk).trans (h.1 i k hk), fun i hi => (g.2.1 i hi).trans (h.2.1 i hi), g.2.2.trans h.2.2⟩
theorem frTR_trans {σ τ υ : St} (h : frTR σ τ) (g : frTR τ υ) : frTR σ υ := ⟨fun i k hk => (g.1 i k hk).trans (h.1 i k hk), fun i hi => (g.2.1 i hi).trans (h.2.1 i hi), g.2.2.trans h.2.2⟩
theorem app_loop {sh shR : List kd} {p : Int32} : ∀ (m N : Nat) (σC σR : St) (tp : List Nat), m ≤ 4 → m < N → tpe σC σR tp → tp.length + m ≤ 400 → ∃ τC τR tp', fX9_append_L3 sh p N (sf m) σC = some ((), τC) ∧ fX12_put_L3 shR p N (sf m) σR = some ((), τR) ∧ tpe τC τR tp' ∧ tp'.length = tp.length + m ∧ frTC σC τC ∧ frTR σR τR := by
  intro m
  induction m with
  | zero =>
    intro N σC σR tp hm hN ht hl
    obtain ⟨N, rfl⟩ : ∃ n', N = n' + 1 := ⟨N - 1, by omega⟩
    refine ⟨σC, σR, tp, ?_, ?_, ht, rfl, ⟨fun _ _ _ => rfl, fun _ _ => rfl, rfl⟩, ⟨fun _ _ _ => rfl, fun _ _ => rfl, rfl⟩⟩
    · rw [fX9_append_L3, if_pos (by decide)]
      rfl
    · rw [fX12_put_L3, if_pos (by decide)]
  | succ m ih =>
    intro N σC σR tp hm hN ht hl
    obtain ⟨N, rfl⟩ : ∃ n', N = n' + 1 := ⟨N - 1, by omega⟩
    obtain ⟨t1, t2, t3, t4⟩ := ht
    rw [sf_s, fX9_append_L3, fX12_put_L3, if_neg (nI_pos (by omega)), if_neg (nI_pos (by omega)), t2, t3, show (400 : Int32) = nI 400 from by decide, if_neg (nI_ge (by omega) (by omega)), if_pos (ok_nI (by omega) (by omega)), if_pos (ok_nI (by omega) (by omega)), jp, jp, nI_clamp (by omega)]
    obtain ⟨b, b1, b2, b3⟩ := byte_of (p >>> (nI (8 * m) &&& 31))
    rw [b2, nar8, b3, sf_n]
    rw [show (s_A σC 2 tp.length (nI b)).1 1 1 = nI tp.length from t2, show (s_A σR 19 tp.length (nI b).toInt8.toInt32).1 0 19 = nI tp.length from t3, nI_1]
    have k1 : frTC σC (s_F (s_A σC 2 tp.length (nI b)) 1 1 (nI (tp.length + 1))) := ⟨fun i k hk => by rw [s_F_rd, if_neg hk]; rfl, fun i hi => by rw [s_F_A, s_A_ne hi], rfl⟩
    have k2 : frTR σR (s_F (s_A σR 19 tp.length (nI b).toInt8.toInt32) 0 19 (nI (tp.length + 1))) := ⟨fun i k hk => by rw [s_F_rd, if_neg hk]; rfl, fun i hi => by rw [s_F_A, s_A_ne hi], rfl⟩
    have ht' : tpe (s_F (s_A σC 2 tp.length (nI b)) 1 1 (nI (tp.length + 1))) (s_F (s_A σR 19 tp.length (nI b).toInt8.toInt32) 0 19 (nI (tp.length + 1))) (tp ++ [b]) := by
      refine ⟨by rw [List.length_append, List.length_singleton]; omega, by rw [s_F_rd, if_pos ⟨rfl, rfl⟩, List.length_append, List.length_singleton], by rw [s_F_rd, if_pos ⟨rfl, rfl⟩, List.length_append, List.length_singleton], fun k c hc => ?_⟩
      rw [s_F_A, s_F_A, s_A_rd, s_A_rd]
      by_cases hk : k < tp.length
      · rw [List.getElem?_append_left hk] at hc
        rw [if_neg (by omega), if_neg (by omega)]
        exact t4 k c hc
      · rw [List.getElem?_append_right (by omega)] at hc
        have h0 : k = tp.length := by
          by_cases h1 : k - tp.length = 0
          · omega
          · obtain ⟨z, hz⟩ : ∃ z, k - tp.length = z + 1 := ⟨_, (Nat.succ_pred h1).symm⟩
            rw [hz] at hc
            cases hc
        subst h0
        rw [Nat.sub_self] at hc
        cases hc
        exact ⟨b1, if_pos ⟨rfl, rfl⟩, if_pos ⟨rfl, rfl⟩⟩
    obtain ⟨τC, τR, tp', e1, e2, e3, e4, e5, e6⟩ := ih N _ _ (tp ++ [b]) (by omega) (by omega) ht' (by rw [List.length_append, List.length_singleton]; omega)
    refine ⟨τC, τR, tp', e1, e2, e3, ?_, frTC_trans k1 e5, frTR_trans k2 e6⟩
    rw [e4, List.length_append, List.length_singleton]; omega
theorem app4 {sh shR : List kd} {p : Int32} {σC σR : St} {tp : List Nat} (ht : tpe σC σR tp) (hl : tp.length + 4 ≤ 400) : ∃ τC τR tp', fX9_append sh σC p = some ((), τC) ∧ fX12_put shR σR p = some ((), τR) ∧ tpe τC τR tp' ∧ tp'.length = tp.length + 4 ∧ frTC σC τC ∧ frTR σR τR := by
  unfold fX9_append fX12_put
  have e : (24 : Int32) = sf 4 := by decide
  rw [e]
  exact app_loop 4 i_F σC σR tp (by omega) (i_F_gt (by omega)) ht (by omega)
theorem m_feed {sh shR : List kd} {σC σR : St} {W : Wd} {rl : List Cl} {im : Im} {tp : List Nat} (h : IV sh shR σC σR W rl im tp) (a b c d e : Int32) : alikeI sh shR (fX11_feed sh σC a b c d e) (fX12_feed shR σR a b c d e) := by
  have ht := h.2.2.2.2.2.1
  unfold fX11_feed fX12_feed
  rw [ht.2.1, ht.2.2.1, show (20 : Int32) = nI 20 from by decide, nI_add, show (400 : Int32) = nI 400 from by decide]
  have h4 := ht.1
  by_cases hl : tp.length + 20 ≤ 400
  · rw [if_pos (nI_le hl (by omega)), if_pos (nI_le hl (by omega))]
    obtain ⟨c1, r1, p1, x1, y1, z1, l1, f1, g1⟩ := app4 (sh := sh) (shR := shR) (p := a) ht (by omega)
    obtain ⟨c2, r2, p2, x2, y2, z2, l2, f2, g2⟩ := app4 (sh := sh) (shR := shR) (p := b) z1 (by omega)
    obtain ⟨c3, r3, p3, x3, y3, z3, l3, f3, g3⟩ := app4 (sh := sh) (shR := shR) (p := c) z2 (by omega)
    obtain ⟨c4, r4, p4, x4, y4, z4, l4, f4, g4⟩ := app4 (sh := sh) (shR := shR) (p := d) z3 (by omega)
    obtain ⟨c5, r5, p5, x5, y5, z5, l5, f5, g5⟩ := app4 (sh := sh) (shR := shR) (p := e) z4 (by omega)
    rw [x1, bd_some, x2, bd_some, x3, bd_some, x4, bd_some, x5, bd_some, y1, bd_some, y2, bd_some, y3, bd_some, y4, bd_some, y5, bd_some, z5.2.1, z5.2.2.1]
    exact ⟨_, c5, r5, W, rl, im, p5, rfl, rfl, IV_tape h (frTC_trans f1 (frTC_trans f2 (frTC_trans f3 (frTC_trans f4 f5)))) (frTR_trans g1 (frTR_trans g2 (frTR_trans g3 (frTR_trans g4 g5)))) z5⟩
  · rw [if_neg (nI_ge (by omega) (by omega)), if_neg (nI_ge (by omega) (by omega))]
    exact alike_nowI h
