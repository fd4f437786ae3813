/-! ===== dubbed ===== -/
theorem n10 : ¬ (1 : Int32) = 0 := by decide
theorem z00 : (0 : Int32) = 0 := rfl
theorem nn00 : ¬ ¬ (0 : Int32) = 0 := by decide
def spDub (R : Rl) (ru : Option Cl) (p : Int32) : Nat → Lf → Option Lf
  | 0, _ => none
  | m + 1, lf => if (((spHour R ru lf).1 >>> (p &&& 31)) &&& 1) = 0 then spDub R ru p m (spHour R ru lf).2 else some (spHour R ru lf).2
def ansDub (w : Int32) (o : Option Lf) : Int32 := match o with
  | none => -2
  | some l => if ¬ w = 0 then l.1.2.1 else l.1.1 - 1
theorem dubC {sh : List kd} {σ : St} {R : Rl} {ru : Option Cl} {lf : Lf} {p w : Int32} (h : CX sh σ R ru lf) (hwl : wfL R 999 lf) :
    ∃ τ, fX5_firstDubbing sh σ p ((if ¬ w = 0 then 0 else 1) : Int32) = some (ansDub w (spDub R ru p 100 lf), τ) ∧ agr scC σ τ := by
  obtain ⟨s2, a1, a2, a3⟩ := beginC (sh := sh) (σ := σ)
  rw [h.2.2.2.2.1] at a2
  unfold fX5_firstDubbing
  rw [a1, bd_some]
  have hF : 100 < i_F := i_F_gt (by omega)
  generalize i_F = F at hF ⊢
  rw [← nz0]
  have n100 : (100 : Int32) = nI 100 := by decide
  have key : ∀ (m N k b : Nat) (s : St) (l : Lf) (v : Value), CX sh s R ru lf → k + m = 100 → m < N → b + m ≤ 2000 → LfC s 135 = l → wfL R b l → ∃ τ, fX5_firstDubbing_L6 sh p ((if ¬ w = nI 0 then nI 0 else 1) : Int32) (fun (x57 : Int32) (x58 : Int32) (s59 : St) => fX5_firstDubbing_X48 sh p ((if ¬ w = nI 0 then nI 0 else 1) : Int32) x57 x58 s59) N (nI k) v s = some (ansDub w (spDub R ru p m l), τ) ∧ agr scC s τ := by
    intro m
    induction m with
    | zero =>
      intro N k b s l v h hk hN hb hl hwl
      obtain ⟨N, rfl⟩ : ∃ n', N = n' + 1 := ⟨N - 1, by omega⟩
      refine ⟨s, ?_, agr_refl⟩
      rw [fX5_firstDubbing_L6, n100, if_pos (nI_le (by omega) (by omega))]
      rfl
    | succ m ih =>
      intro N k b s l v h hk hN hb hl hwl
      obtain ⟨N, rfl⟩ : ∃ n', N = n' + 1 := ⟨N - 1, by omega⟩
      obtain ⟨τ, t1, t2, t3⟩ := trialC h (b := b) (by omega) hl hwl
      rw [fX5_firstDubbing_L6, n100, if_neg (nI_ge (by omega) (by omega)), t1, bd_some, nI_1]
      unfold spDub
      by_cases hc : (((spHour R ru l).1 >>> (p &&& 31)) &&& 1) = 0
      · rw [if_pos hc, if_pos hc]
        obtain ⟨υ, u1, u2⟩ := ih N (k + 1) (b + 1) τ (spHour R ru l).2 _ (CX_agr h t3) (by omega) (by omega) (by omega) t2 (wfL_hour h.2.1 h.2.2.1 (by omega) hwl)
        exact ⟨υ, u1, agr_trans t3 u2⟩
      · rw [if_neg hc, if_neg hc]
        refine ⟨τ, ?_, t3⟩
        unfold fX5_firstDubbing_X48 ansDub
        obtain ⟨l1, l2, _⟩ := LfC_of t2
        rw [l1, l2, nz0]
        by_cases w0 : w = 0
        · simp [w0]
        · simp [w0]
  obtain ⟨τ, t1, t2⟩ := key 100 F 0 999 s2 lf (.retAddr 0) (CX_agr h a3) rfl hF (by omega) a2 hwl
  exact ⟨τ, t1, agr_trans a3 t2⟩
theorem i5ne {n : Nat} (h : n < 2 ^ 31) : ¬ nI n = -2 := fun e => by
  have : ¬ nI n < 0 := nI_pos h
  rw [e] at this
  exact this (by decide)
theorem dubR {sh : List kd} (hsh : rmSh sh) {σ : St} {R : Rl} {ru : Option Cl} {lf : Lf} {p w : Int32} (h : RX σ R ru) (hl : LfR σ = lf) (hwl : wfL R 999 lf) :
    ∃ τ, i_bd (fX12_keepsAll sh σ) (fun _ s10 => fX12_dubbed_L31 sh p w (fun (x65 : Int32) (x66 : Int32) (s67 : St) => fX12_dubbed_X70 sh p w x65 x66 s67) i_F (-2) 0 s10) = some (ansDub w (spDub R ru p 100 lf), τ) ∧ agR σ τ := by
  obtain ⟨s1, a1, a2, a3⟩ := keepR hsh (σ := σ)
  rw [a1, bd_some]
  have hF : 100 < i_F := i_F_gt (by omega)
  generalize i_F = F at hF ⊢
  rw [← nz0]
  have n100 : (100 : Int32) = nI 100 := by decide
  have key : ∀ (m N k b : Nat) (s : St) (l : Lf), RX s R ru → KeptOf σ s → agS σ s → k + m = 100 → m < N → b + m ≤ 2000 → LfR s = l → wfL R b l → ∃ τ, fX12_dubbed_L31 sh p w (fun (x65 : Int32) (x66 : Int32) (s67 : St) => fX12_dubbed_X70 sh p w x65 x66 s67) N (-2) (nI k) s = some (ansDub w (spDub R ru p m l), τ) ∧ agR σ τ := by
    intro m
    induction m with
    | zero =>
      intro N k b s l h hK hg hk hN hb hl hwl
      obtain ⟨N, rfl⟩ : ∃ n', N = n' + 1 := ⟨N - 1, by omega⟩
      obtain ⟨τ, t1, _, t3, _⟩ := layR hsh hK hg
      refine ⟨τ, ?_, t3⟩
      rw [fX12_dubbed_L31, n100, if_pos (nI_le (by omega) (by omega))]
      unfold fX12_dubbed_X70 fX12_dubbed_J87
      rw [if_neg (by decide), t1, bd_some]
      unfold spDub ansDub
      simp
    | succ m ih =>
      intro N k b s l h hK hg hk hN hb hl hwl
      obtain ⟨N, rfl⟩ : ∃ n', N = n' + 1 := ⟨N - 1, by omega⟩
      obtain ⟨τ, t1, t2, t3⟩ := stepR (sh := sh) h (b := b) (by omega) hl hwl
      rw [fX12_dubbed_L31, n100, if_neg (nI_ge (by omega) (by omega)), if_neg (by decide), t1, bd_some, hasR, bd_some]
      unfold fX12_dubbed_J64
      rw [nI_1]
      unfold spDub
      by_cases hc : (((spHour R ru l).1 >>> (p &&& 31)) &&& 1) = 0
      · rw [if_pos hc, if_pos rfl, if_pos hc]
        exact ih N (k + 1) (b + 1) τ (spHour R ru l).2 (RX_life h t3) (Kept_life hK t3) (agS_trans hg t3.1) (by omega) (by omega) (by omega) t2 (wfL_hour h.1 h.2.1 (by omega) hwl)
      · rw [if_neg hc, if_neg (by decide), if_neg hc, if_pos o_4, c_4]
        obtain ⟨l1, l2, _⟩ := LfR_of t2
        obtain ⟨⟨q, q1, q2⟩, _⟩ := hwl
        have e1 : (spHour R ru l).2.1.1 = nI (q + 1) := by
          show l.1.1 + 1 = _
          rw [q2, nI_1]
        have e2 : τ.2.1 1 4 - 1 = nI q := by rw [l1, e1, nI_pred]
        rw [e2]
        obtain ⟨υ, u1, _, u3, _⟩ := layR hsh (Kept_life hK t3) (agS_trans hg t3.1)
        refine ⟨υ, ?_, u3⟩
        have hK2 : fX12_dubbed_X70 sh p w (nI q) (nI (k + 1)) τ = some (ansDub w (some (spHour R ru l).2), υ) := by
          unfold fX12_dubbed_X70 fX12_dubbed_J87
          rw [if_pos (i5ne (by omega)), if_pos o_5, c_5, u1, bd_some, l2]
          unfold ansDub
          dsimp only
          rw [e1, nI_pred]
        obtain ⟨N, rfl⟩ : ∃ n', N = n' + 1 := ⟨N - 1, by omega⟩
        rw [fX12_dubbed_L31]
        by_cases hk1 : nI 100 ≤ nI (k + 1)
        · rw [n100, if_pos hk1]
          exact hK2
        · rw [n100, if_neg hk1, if_pos (i5ne (by omega))]
          exact hK2
  exact key 100 F 0 999 s1 lf (RX_agR h a3) a2 a3.1 rfl hF (by omega) ((LfR_agR a3).trans hl) hwl
theorem q_dubbed {sh shR : List kd} {σC σR : St} {R : Rl} {ru : Option Cl} {lf : Lf} (h : QX sh shR σC σR R ru lf) (p w : Int32) : alikeQ (fX11_dubbed sh σC p w) (fX12_dubbed shR σR p w) σC σR := by
  have hC := h.2.2.2.1
  have hRR := h.2.2.2.2.1
  obtain ⟨lt1, lt2, lt3⟩ := wfR_lt h.2.2.1
  unfold fX11_dubbed fX12_dubbed
  by_cases hp : isN R.1.2.2.2 p
  · rw [hasP_t (by omega) hC.2.2.2.2.1 hp, bd_some, if_neg n10, isP_t lt3 hRR.2.2.2.1 hp, bd_some, if_neg n10]
    by_cases hw : btw w 0 1
    · have hD : 0 < R.1.1 := Nat.pos_of_ne_zero fun e => by
        obtain ⟨k, k1, _⟩ := hp
        have := h.2.2.1.2.2.2.1 e
        omega
      rw [within_t (a := 0) (b := 1) (by decide) (by decide) (by decide) (by decide) hw, bd_some, if_pos n10, in_t (a := 0) (b := 1) (by decide) (by decide) (by decide) (by decide) hw, bd_some, if_pos n10]
      obtain ⟨τC, a1, a2⟩ := dubC (p := p) (w := w) (QX_C h hD) h.2.2.2.2.2.2.2.1
      obtain ⟨τR, b1, b2⟩ := dubR h.2.1 (p := p) (w := w) (QX_R h hD) h.2.2.2.2.2.2.1 h.2.2.2.2.2.2.2.1
      exact ⟨_, τC, τR, by rw [a1, bd_some], b1, a2, b2⟩
    · rw [within_f (a := 0) (b := 1) (by decide) (by decide) (by decide) (by decide) hw, bd_some, if_neg nn00, in_f (a := 0) (b := 1) (by decide) (by decide) (by decide) (by decide) hw, bd_some, if_neg nn00]
      exact alike_now
  · rw [hasP_f (by omega) hC.2.2.2.2.1 hp, bd_some, if_pos z00, isP_f lt3 hRR.2.2.2.1 hp, bd_some, if_pos z00]
    exact alike_now
