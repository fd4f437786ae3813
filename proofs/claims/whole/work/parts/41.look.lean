/-! ===== look ===== -/
theorem wfL_spGo_isH {R : Rl} {ru : Option Cl} {lf : Lf} {h : Nat} (hR : wfR R) (hD : 0 < R.1.1) (hh : h ≤ 1000) (hl : wfL R 999 lf) : isH 6 (crs R ru lf h) := by
  have hw := (wfL_go (ru := ru) hR hD (h + 1) lf 999 (by omega) hl).2.1
  unfold crs
  rcases hw with h | ⟨t, h1, h2⟩
  · exact Or.inl h
  · exact Or.inr ⟨t, by have := hR.2.1; omega, h2⟩
def lkM (R : Rl) (rl : List Cl) (nt : List (Nat × Int32)) (n h : Nat) : Nat := mx ((sus (soT R rl nt) n).map (fun row => crs R (ruI rl row) (lf0 R) h))
def ansLook (R : Rl) (rl : List Cl) (nt : List (Nat × Int32)) (n : Nat) (w : Int32) : Int32 := if nI (sus (soT R rl nt) n).length = 0 then -2 else if ¬ w = 0 then nI (lkM R rl nt n (it (gLk (lkM R rl nt n)) 60 1 0)) else nI (it (gLk (lkM R rl nt n)) 60 1 0)
theorem lookC {sh : List kd} (hsh : cSh sh) {σ : St} {R : Rl} {rl : List Cl} {nt : List (Nat × Int32)} {w : Int32} (hR : wfR R) (hD : 0 < R.1.1) (hr : isRC σ 20 R) (hc : CR sh σ rl) (hn : ntC σ nt) (hq : ∀ row, row < 7 → σ.2.2.2 149 row = some (150 + row)) :
    ∃ τ, i_bd (fX3_hear sh σ (nI rl.length)) (fun r6 s7 => i_bd (fX3_bestHour sh s7 ((if ¬ w = 0 then 0 else 1) : Int32)) (fun r9 s10 => some (r9, s10))) = some (ansLook R rl nt 7 w, τ) ∧ agr scC σ τ := by
  obtain ⟨s1, a1, a2, a3, a4, a5⟩ := hearC hsh hR hD hr hc hn hq
  rw [a1, bd_some]
  rw [sus_cnt] at a4
  unfold ansLook
  by_cases h0 : nI (sus (soT R rl nt) 7).length = 0
  · rw [if_pos h0]
    refine ⟨s1, ?_, a2⟩
    unfold fX3_bestHour
    rw [a4, if_neg (not_not_intro h0), bd_some]
  · rw [if_neg h0]
    have hlo : ∀ row, row < 7 → ¬ soT R rl nt row = 0 → row ≤ rl.length := by
      intro row _ h1
      by_cases h2 : row ≤ rl.length
      · exact h2
      · exact absurd (soT_hi row (by omega)) h1
    obtain ⟨τ, t1, t2⟩ := bestC hsh (σ := s1) (f := soT R rl nt) (V := fun row h => crs R (ruI rl row) (lf0 R) h) (w := ((if ¬ w = 0 then 0 else 1) : Int32)) a3 (fun row hr hn0 h hh => a5 row hr (hlo row hr hn0) h hh) (fun row hr hn0 h hh => wfL_spGo_isH hR hD (by omega) (wfL_mono (by omega) lf0_wf)) (fun row hr => by rw [a2.2]; exact hq row hr) (by rw [a4]; exact h0)
    rw [t1, bd_some]
    refine ⟨τ, ?_, agr_trans a2 ⟨fun i hi => t2.1 i (fun e => hi (by unfold scC; omega)), t2.2⟩⟩
    unfold lkM
    by_cases w0 : w = 0
    · simp [w0]
    · simp [w0]
theorem lookR {sh : List kd} (hsh : rmSh sh) {σ : St} {R : Rl} {rl : List Cl} {nt : List (Nat × Int32)} {w : Int32} (hR : wfR R) (hD : 0 < R.1.1) (hr : isRR σ R) (hl : RRl σ rl) (hn : ntR σ nt) :
    ∃ τ, i_bd (fX12_keepsAll sh σ) (fun r9 s10 => fX12_look_L27 sh w (fun (x66 : Int32) (x67 : Int32) (x68 : Value) (s69 : St) => fX12_look_X87 sh w x66 x67 x68 s69) i_F 0 (-1) (.retAddr 0) s10) = some (ansLook R rl nt (rl.length + 1) w, τ) ∧ agR σ τ := by
  obtain ⟨s1, a1, a2, a3⟩ := keepR hsh (σ := σ)
  rw [a1, bd_some]
  have hlen := hl.1
  have hF : rl.length + 1 < i_F := i_F_gt (by omega)
  have hF2 : 61 < i_F := i_F_gt (by omega)
  generalize i_F = F at hF hF2 ⊢
  rw [show (-1 : Int32) = li 0 from li_0.symm]
  refine lpI (L := fun n k (a : Nat × Value × St) => fX12_look_L27 sh w (fun (x66 : Int32) (x67 : Int32) (x68 : Value) (s69 : St) => fX12_look_X87 sh w x66 x67 x68 s69) n (nI a.1) (li k) a.2.1 a.2.2) (E := fun r => ∃ τ, r = some (ansLook R rl nt (rl.length + 1) w, τ) ∧ agR σ τ) (fun k a => agR σ a.2.2 ∧ KeptOf σ a.2.2 ∧ a.1 = (sus (soT R rl nt) k).length ∧ ∀ i q, (sus (soT R rl nt) k)[i]? = some q → ∀ h, h < 61 → a.2.2.2.1 35 (61 * i + h) = crs R (ruI rl q) (lf0 R) h) (rl.length + 1) (fun n k a hk hI => Or.inl ?_) (fun n a hI => ?_) (rl.length + 1) F 0 (0, .retAddr 0, s1) (by omega) hF ⟨a3, a2, rfl, fun i q e => by cases e⟩
  · obtain ⟨x, v, s⟩ := a
    obtain ⟨i1, i2, i3, i4⟩ := hI
    dsimp only at i1 i2 i3 i4 ⊢
    have hsl := sus_len (f := soT R rl nt) k
    obtain ⟨τ, t1, t2, t3, t4, t5⟩ := couldR hsh (σ0 := σ) (σ := s) (row := k) hR hD hr hl hn (by omega) i2 i1.1
    rw [fX12_look_L27, i1.1.1 0 23 (by omega), hl.2.1, if_neg (li_le hlen (by omega)), t1, bd_some, li_1, ← soT_lo (by omega)]
    by_cases h0 : soT R rl nt k = 0
    · rw [if_pos h0]
      have es : sus (soT R rl nt) (k + 1) = sus (soT R rl nt) k := by rw [sus_succ, if_pos h0]
      refine ⟨(x, v, τ), rfl, t3, t2, by rw [es]; exact i3, ?_⟩
      rw [es]
      dsimp only
      rw [t5]
      exact i4
    · rw [if_neg h0]
      have es : sus (soT R rl nt) (k + 1) = sus (soT R rl nt) k ++ [k] := by rw [sus_succ, if_neg h0]
      -- the course is laid behind the others
      have hlay : ∃ υ, fX12_look_L46 sh w (nI x) (li k) (fun (x178 : Int32) (s179 : St) => fX12_look_X78 sh w (nI x) (li k) (fX12_look_L27 sh w (fun (x66 : Int32) (x67 : Int32) (x68 : Value) (s69 : St) => fX12_look_X87 sh w x66 x67 x68 s69) n) x178 s179) i_F (nI 0) τ = fX12_look_L27 sh w (fun (x66 : Int32) (x67 : Int32) (x68 : Value) (s69 : St) => fX12_look_X87 sh w x66 x67 x68 s69) n (nI (x + 1)) (li (k + 1)) (.int (nI 61)) υ ∧ (∀ i, i ≠ 35 → υ.2.1 i = τ.2.1 i) ∧ υ.1 = τ.1 ∧ υ.2.2 = τ.2.2 ∧ ∀ j, υ.2.1 35 j = if 61 * x ≤ j ∧ j < 61 * x + 61 then τ.2.1 34 (j - 61 * x) else τ.2.1 35 j := by
        have hG : 61 < i_F := i_F_gt (by omega)
        generalize i_F = G at hG ⊢
        refine lpI (L := fun m h t => fX12_look_L46 sh w (nI x) (li k) (fun (x178 : Int32) (s179 : St) => fX12_look_X78 sh w (nI x) (li k) (fX12_look_L27 sh w (fun (x66 : Int32) (x67 : Int32) (x68 : Value) (s69 : St) => fX12_look_X87 sh w x66 x67 x68 s69) n) x178 s179) m (nI h) t) (E := fun r => ∃ υ, r = fX12_look_L27 sh w (fun (x66 : Int32) (x67 : Int32) (x68 : Value) (s69 : St) => fX12_look_X87 sh w x66 x67 x68 s69) n (nI (x + 1)) (li (k + 1)) (.int (nI 61)) υ ∧ (∀ i, i ≠ 35 → υ.2.1 i = τ.2.1 i) ∧ υ.1 = τ.1 ∧ υ.2.2 = τ.2.2 ∧ ∀ j, υ.2.1 35 j = if 61 * x ≤ j ∧ j < 61 * x + 61 then τ.2.1 34 (j - 61 * x) else τ.2.1 35 j) (fun h t => (∀ i, i ≠ 35 → t.2.1 i = τ.2.1 i) ∧ t.1 = τ.1 ∧ t.2.2 = τ.2.2 ∧ ∀ j, t.2.1 35 j = if 61 * x ≤ j ∧ j < 61 * x + h then τ.2.1 34 (j - 61 * x) else τ.2.1 35 j) 61 (fun m h t hh hJ => Or.inl ?_) (fun m t hJ => ?_) 61 G 0 τ rfl hG ⟨fun _ _ => rfl, rfl, rfl, fun j => by rw [if_neg (by omega)]⟩
        · obtain ⟨j1, j2, j3, j4⟩ := hJ
          refine ⟨s_A t 35 (61 * x + h) (τ.2.1 34 h), ?_, fun i hi => by rw [s_A_ne hi, j1 i hi], j2, j3, fun j => ?_⟩
          · rw [fX12_look_L46, n60, if_neg (nI_nlt (by omega) (by omega)), if_pos (ok_nI (by omega) (by omega)), n61, nI_mul, nI_add, if_pos (ok_nI (by omega) (by omega)), nI_clamp (by omega), nI_clamp (by omega), j1 34 (by decide), nI_1]
          · rw [s_A_rd]
            by_cases hj : j = 61 * x + h
            · rw [if_pos ⟨rfl, hj⟩, if_pos (by omega), hj, show 61 * x + h - 61 * x = h by omega]
            · rw [if_neg (fun e => hj e.2), j4 j]
              by_cases hj2 : 61 * x ≤ j ∧ j < 61 * x + h
              · rw [if_pos hj2, if_pos (by omega)]
              · rw [if_neg hj2, if_neg (by omega)]
        · obtain ⟨j1, j2, j3, j4⟩ := hJ
          refine ⟨t, ?_, j1, j2, j3, j4⟩
          rw [fX12_look_L46, n60, if_pos (nI_lt (by omega) (by omega))]
          unfold fX12_look_X78
          rw [nI_1, li_1]
      obtain ⟨υ, u1, u2, u3, u4, u5⟩ := hlay
      rw [nz0] at u1
      have g1 : agS τ υ := ⟨fun i k _ => by rw [u3], fun i _ _ _ _ _ _ _ _ _ h35 _ => u2 i h35, fun j _ => by rw [u2 36 (by decide)], fun j _ => by rw [u2 1 (by decide)], by rw [u4]⟩
      have g2 : agR σ υ := ⟨agS_trans t3.1 g1, by rw [u2 1 (by decide)]; exact t3.2.1, by rw [u2 4 (by decide)]; exact t3.2.2.1, by rw [u2 6 (by decide)]; exact t3.2.2.2.1, by rw [u2 8 (by decide)]; exact t3.2.2.2.2.1, by rw [u2 9 (by decide)]; exact t3.2.2.2.2.2⟩
      refine ⟨(x + 1, .int (nI 61), υ), u1, g2, by unfold KeptOf; rw [u2 36 (by decide)]; exact t2, ?_, ?_⟩
      · rw [es, List.length_append, ← i3]
        rfl
      · rw [es]
        intro i q hq h hh
        dsimp only
        rw [u5]
        by_cases hi : i < (sus (soT R rl nt) k).length
        · rw [List.getElem?_append_left hi] at hq
          rw [if_neg (by omega), t5]
          exact i4 i q hq h hh
        · rw [List.getElem?_append_right (by omega)] at hq
          have hi0 : i - (sus (soT R rl nt) k).length = 0 := by
            by_cases h1 : i - (sus (soT R rl nt) k).length = 0
            · exact h1
            · obtain ⟨z, hz⟩ : ∃ z, i - (sus (soT R rl nt) k).length = z + 1 := ⟨_, (Nat.succ_pred h1).symm⟩
              rw [hz] at hq
              cases hq
          rw [hi0] at hq
          cases hq
          have hix : i = x := by omega
          subst hix
          rw [if_pos (by omega), show 61 * i + h - 61 * i = h by omega, t4 h (by omega)]
  · obtain ⟨x, v, s⟩ := a
    obtain ⟨i1, i2, i3, i4⟩ := hI
    dsimp only at i1 i2 i3 i4 ⊢
    have hsl := sus_len (f := soT R rl nt) (rl.length + 1)
    refine ⟨s, ?_, i1⟩
    rw [fX12_look_L27, i1.1.1 0 23 (by omega), hl.2.1, li_s, if_pos (nI_le (Nat.le_refl _) (by omega))]
    unfold fX12_look_X87 ansLook
    rw [← i3]
    by_cases h0 : nI x = 0
    · rw [if_neg (not_not_intro h0), if_pos h0]
    · rw [if_pos h0, if_neg h0]
      have hal : ∀ h, h ≤ 60 → fX12_mostAlike sh s (nI h) (nI x) = some (nI (lkM R rl nt (rl.length + 1) h), s) := by
        intro h hh
        have hG : ∀ i, i < x → s.2.1 35 (61 * i + h) = crs R (ruI rl ((sus (soT R rl nt) (rl.length + 1))[i]?.getD 0)) (lf0 R) h := by
          intro i hi
          have hi2 : i < (sus (soT R rl nt) (rl.length + 1)).length := by omega
          rw [i4 i _ (List.getElem?_eq_getElem hi2) h (by omega), List.getElem?_eq_getElem hi2]
          rfl
        rw [alikeR hh (by omega) hG]
        unfold lkM
        congr 3
        apply congrArg mx
        apply List.ext_getElem?
        intro i
        rw [List.getElem?_map, List.getElem?_map]
        by_cases hi : i < x
        · have hi2 : i < (sus (soT R rl nt) (rl.length + 1)).length := by omega
          rw [List.getElem?_range hi, List.getElem?_eq_getElem hi2]
          simp [List.getElem?_eq_getElem hi2]
        · rw [List.getElem?_eq_none (by rw [List.length_range]; omega), List.getElem?_eq_none (by omega)]
          rfl
      have hMle : ∀ h, lkM R rl nt (rl.length + 1) h ≤ 7 := by
        intro h
        unfold lkM
        have h1 := mx_le (l := (sus (soT R rl nt) (rl.length + 1)).map (fun row => crs R (ruI rl row) (lf0 R) h))
        rw [List.length_map] at h1
        omega
      have hG : 61 < i_F := i_F_gt (by omega)
      generalize i_F = G at hG ⊢
      have hloop : fX12_look_L99 sh w (nI x) (fun (x238 : Int32) (x239 : Int32) (s240 : St) => fX12_look_X135 sh w (nI x) x238 x239 s240) G (nI 0) (nI 1) s = fX12_look_X135 sh w (nI x) (nI (it (gLk (lkM R rl nt (rl.length + 1))) 60 1 0)) (nI 61) s := by
        refine lpI (L := fun m k (a : Nat) => fX12_look_L99 sh w (nI x) (fun (x238 : Int32) (x239 : Int32) (s240 : St) => fX12_look_X135 sh w (nI x) x238 x239 s240) m (nI a) (nI k) s) (E := fun r => r = fX12_look_X135 sh w (nI x) (nI (it (gLk (lkM R rl nt (rl.length + 1))) 60 1 0)) (nI 61) s) (fun k a => a ≤ 60 ∧ 1 ≤ k ∧ it (gLk (lkM R rl nt (rl.length + 1))) (61 - k) k a = it (gLk (lkM R rl nt (rl.length + 1))) 60 1 0) 61 (fun m k a hk hJ => Or.inl ?_) (fun m a hJ => ?_) 60 G 1 0 rfl (by omega) ⟨by omega, by omega, rfl⟩
        · obtain ⟨j1, j2, j3⟩ := hJ
          rw [show 61 - k = (61 - (k + 1)) + 1 by omega] at j3
          refine ⟨gLk (lkM R rl nt (rl.length + 1)) k a, ?_, ?_, by omega, j3⟩
          · rw [fX12_look_L99, n60, if_neg (nI_nlt (by omega) (by omega)), hal k (by omega), bd_some, hal a j1, bd_some, nI_1]
            unfold gLk
            have := hMle a
            have := hMle k
            by_cases hc : lkM R rl nt (rl.length + 1) a ≤ lkM R rl nt (rl.length + 1) k
            · rw [if_pos (nI_le hc (by omega)), if_pos hc]
            · rw [if_neg (nI_ge (by omega) (by omega)), if_neg hc]
          · unfold gLk
            split <;> omega
        · obtain ⟨j1, j2, j3⟩ := hJ
          have j4 : a = it (gLk (lkM R rl nt (rl.length + 1))) 60 1 0 := j3
          rw [fX12_look_L99, n60, if_pos (nI_lt (by omega) (by omega)), j4]
      have hIs : it (gLk (lkM R rl nt (rl.length + 1))) 60 1 0 ≤ 60 := by
        refine it_inv (I := fun _ a => a ≤ 60) 60 1 0 (fun j b h1 h2 hb => ?_) (by omega)
        unfold gLk
        split <;> omega
      rw [nz0, nz1] at hloop
      rw [hloop]
      unfold fX12_look_X135 fX12_look_J149
      rw [hal _ hIs, bd_some]
      by_cases w0 : w = 0
      · rw [if_neg (not_not_intro w0), if_neg (not_not_intro w0)]
      · rw [if_pos w0, if_pos w0]
theorem q_look {sh shR : List kd} {σC σR : St} {R : Rl} {ru : Option Cl} {lf : Lf} {rl : List Cl} {nt : List (Nat × Int32)} (h : QX sh shR σC σR R ru lf) (hN : NX sh σC σR rl nt) (w : Int32) : alikeQ (fX11_look sh σC w) (fX12_look shR σR w) σC σR := by
  have hC := h.2.2.2.1
  have hRR := h.2.2.2.2.1
  obtain ⟨lt1, lt2, lt3⟩ := wfR_lt h.2.2.1
  obtain ⟨n1, n2, n3, n4, n5⟩ := hN
  unfold fX11_look fX12_look
  by_cases hD : R.1.1 = 0
  · rw [if_pos (told_f hC hD), isCt_f (by rw [hRR.1, hD]), bd_some, if_pos rfl]
    exact alike_now
  have hD' : 0 < R.1.1 := by omega
  rw [if_neg (told_t hC hD'), isCt_t lt1 hRR.1 hD', bd_some, if_neg n10]
  by_cases hw : btw w 0 1
  · rw [within_t (a := 0) (b := 1) (by decide) (by decide) (by decide) (by decide) hw, bd_some, if_pos n10, in_t (a := 0) (b := 1) (by decide) (by decide) (by decide) (by decide) hw, bd_some, if_pos n10]
    obtain ⟨τC, a1, a2⟩ := lookC h.1 (w := w) h.2.2.1 hD' hC n1 n3 n5
    obtain ⟨τR, b1, b2⟩ := lookR h.2.1 (w := w) h.2.2.1 hD' hRR n2 n4
    have hlen := n1.1
    have e7 : ansLook R rl nt 7 w = ansLook R rl nt (rl.length + 1) w := by
      have e : sus (soT R rl nt) 7 = sus (soT R rl nt) (rl.length + 1) := by
        have e7 : 7 = rl.length + 1 + (6 - rl.length) := by omega
        rw [e7, sus_cut (m := rl.length + 1) _ soT_hi]
      have e2 : lkM R rl nt 7 = lkM R rl nt (rl.length + 1) := by
        funext h
        unfold lkM
        rw [e]
      unfold ansLook
      rw [e, e2]
    refine ⟨_, τC, τR, ?_, b1, a2, b2⟩
    rw [n1.2.1, a1, e7]
  · rw [within_f (a := 0) (b := 1) (by decide) (by decide) (by decide) (by decide) hw, bd_some, if_neg nn00, in_f (a := 0) (b := 1) (by decide) (by decide) (by decide) (by decide) hw, bd_some, if_neg nn00]
    exact alike_now
