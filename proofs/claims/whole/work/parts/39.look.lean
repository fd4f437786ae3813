/-! ===== look: the class ===== -/
theorem s_A_at {σ : St} {i k : Nat} {x : Int32} : (s_A σ i k x).2.1 i k = x := by rw [s_A_rd, if_pos ⟨rfl, rfl⟩]
theorem li_add {j : Nat} : li j + 1 = nI j := by
  rw [li_1, li_s]
theorem li_inj {a b : Nat} (ha : a < 2 ^ 30) (hb : b < 2 ^ 30) (h : li a = li b) : a = b := by
  have e : li a + 1 = li b + 1 := by rw [h]
  rw [li_add, li_add] at e
  exact nI_inj (by omega) (by omega) e
theorem isH_li {T : Nat} {x : Int32} (hT : T ≤ 6) (h : isH T x) : ∃ j, j < 7 ∧ x = li j := by
  rcases h with h | ⟨t, h1, h2⟩
  · exact ⟨0, by omega, by rw [h, li_0]⟩
  · exact ⟨t + 1, by omega, by rw [h2, li_s]⟩
theorem alikeC {sh : List kd} (hsh : cSh sh) {σ : St} {f V : Nat → Int32} {h : Nat} (hh : h ≤ 60) (hf : ∀ row, row < 7 → σ.2.1 157 row = f row) (hv : ∀ row, row < 7 → ¬ f row = 0 → σ.2.1 (150 + row) h = V row) (hH : ∀ row, row < 7 → ¬ f row = 0 → isH 6 (V row)) (hq : ∀ row, row < 7 → σ.2.2.2 149 row = some (150 + row)) :
    ∃ τ, fX3_mostAlike sh σ (nI h) = some (nI (mx ((sus f 7).map V)), τ) ∧ agr (fun i => i = 158) σ τ := by
  unfold fX3_mostAlike
  obtain ⟨s2, a1, a2, a3, a4, a5⟩ := fillC (σ := σ) (v := 0) (sC_158 hsh) (by omega)
  rw [a1, bd_some]
  have hF : 7 < i_F := i_F_gt (by omega)
  generalize i_F = F at hF ⊢
  rw [← nz0]
  refine lpI (L := fun n k (a : Int32 × Value × St) => fX3_mostAlike_L12 sh (nI h) n a.1 (nI k) a.2.1 a.2.2) (E := fun r => ∃ τ, r = some (nI (mx ((sus f 7).map V)), τ) ∧ agr (fun i => i = 158) σ τ) (fun k a => agr (fun i => i = 158) σ a.2.2 ∧ (∀ j, j < 7 → a.2.2.2.1 158 j = nI (cntv (li j) ((sus f k).map V))) ∧ a.1 = nI (mx ((sus f k).map V))) 7 (fun n k a hk hI => Or.inl ?_) (fun n a hI => ?_) 7 F 0 (nI 0, .retAddr 0, s2) rfl hF ⟨⟨fun i hi => ⟨by rw [a2], a4 i hi⟩, by rw [a3]⟩, fun j hj => by rw [a5 j hj]; rfl, rfl⟩
  · obtain ⟨x4, x6, s⟩ := a
    obtain ⟨i1, i2, i3⟩ := hI
    dsimp only at i1 i2 i3 ⊢
    have hcl : (nI k).toNatClampNeg = k := nI_clamp (by omega)
    have hok : i_ok (nI k) 7 := ok_nI hk (by omega)
    have e157 : s.2.1 157 k = f k := by rw [(i1.1 157 (by omega)).2, hf k hk]
    rw [fX3_mostAlike_L12, n7, if_neg (nI_ge hk (by omega))]
    simp only [if_pos hok, hcl, e157, nI_clamp (show h < 2 ^ 31 by omega)]
    have hsl := sus_len (f := f) k
    by_cases h0 : f k = 0
    · rw [if_pos h0]
      unfold fX3_mostAlike_J62
      rw [nI_1]
      have es : sus f (k + 1) = sus f k := by rw [sus_succ, if_pos h0]
      exact ⟨(x4, x6, s), rfl, i1, by rw [es]; exact i2, by rw [es]; exact i3⟩
    · rw [if_neg h0, i1.2, hq k hk]
      have es : (sus f (k + 1)).map V = (sus f k).map V ++ [V k] := by
        rw [sus_succ, if_neg h0, List.map_append]
        rfl
      have eV : s.2.1 (150 + k) h = V k := by rw [(i1.1 (150 + k) (by omega)).2, hv k hk h0]
      obtain ⟨j, hj, eVj⟩ := isH_li (Nat.le_refl 6) (hH k hk h0)
      show ∃ a', i_al sh .int (150 + k) _ = _ ∧ _
      rw [i_al_at (hsr hsh hk), if_pos (ok_nI (by omega) (by omega)), eV, eVj, li_add]
      simp only [if_pos (ok_nI hj (show 7 < 2 ^ 31 by omega)), nI_clamp (show j < 2 ^ 31 by omega), jp]
      rw [i2 j hj, nI_1]
      have hcle := cntv_le (v := li j) ((sus f k).map V)
      have hmle := mx_le (l := (sus f k).map V)
      rw [List.length_map] at hcle hmle
      unfold fX3_mostAlike_J62
      have hmx : (if nI (mx ((sus f k).map V)) < nI (cntv (li j) ((sus f k).map V) + 1) then nI (cntv (li j) ((sus f k).map V) + 1) else nI (mx ((sus f k).map V))) = nI (max (mx ((sus f k).map V)) (cntv (li j) ((sus f k).map V) + 1)) := by
        by_cases hlt : mx ((sus f k).map V) < cntv (li j) ((sus f k).map V) + 1
        · rw [if_pos (nI_lt hlt (by omega)), Nat.max_eq_right (by omega)]
        · rw [if_neg (nI_nlt (by omega) (by omega)), Nat.max_eq_left (by omega)]
      rw [nI_1, s_A_at, i3, hmx]
      refine ⟨(_, _, _), rfl, agr_trans i1 (agr_A rfl), fun j' hj' => ?_, ?_⟩
      · rw [es, cntv_app, eVj]
        show (if 158 = 158 ∧ j' = j then _ else s.2.1 158 j') = _
        by_cases hjj : j' = j
        · rw [if_pos ⟨rfl, hjj⟩, hjj, if_pos rfl]
        · rw [if_neg (fun e => hjj e.2), if_neg (fun e => hjj (li_inj (by omega) (by omega) e).symm), i2 j' hj', Nat.add_zero]
      · rw [es, mx_app, eVj]
        rfl
  · obtain ⟨x4, x6, s⟩ := a
    obtain ⟨i1, i2, i3⟩ := hI
    dsimp only at i1 i2 i3 ⊢
    refine ⟨s, ?_, i1⟩
    rw [fX3_mostAlike_L12, n7, if_pos (nI_le (Nat.le_refl _) (by omega)), i3]
def gBH (M : Nat → Nat) (h : Nat) (a : Int32 × Int32) : Int32 × Int32 := if a.2 ≤ nI (M h) then a else (nI h, nI (M h))
def gLk (M : Nat → Nat) (n : Nat) (is : Nat) : Nat := if M is ≤ M n then is else n
theorem best_eq {M : Nat → Nat} (hM : ∀ h, M h ≤ 7) : it (gBH M) 61 0 (0, 8) = (nI (it (gLk M) 60 1 0), nI (M (it (gLk M) 60 1 0))) := by
  have h1 : it (gBH M) 61 0 (0, 8) = it (gBH M) 60 1 (nI 0, nI (M 0)) := by
    show it (gBH M) 60 (0 + 1) (gBH M 0 (0, 8)) = _
    unfold gBH
    have := hM 0
    rw [if_neg (by show ¬ 8 ≤ nI (M 0); rw [← nz8]; exact nI_ge (by omega) (by omega))]
  rw [h1]
  refine it_sim (Rel := fun (a : Int32 × Int32) (b : Nat) => a = (nI b, nI (M b))) 60 1 _ _ (fun j x y _ _ hx => ?_) rfl
  have := hM y
  have := hM j
  subst hx
  unfold gBH gLk
  dsimp only
  by_cases hc : M y ≤ M j
  · rw [if_pos (nI_le hc (by omega)), if_pos hc]
  · rw [if_neg (nI_ge (by omega) (by omega)), if_neg hc]
theorem bestC {sh : List kd} (hsh : cSh sh) {σ : St} {f : Nat → Int32} {V : Nat → Nat → Int32} {w : Int32} (hf : ∀ row, row < 7 → σ.2.1 157 row = f row) (hv : ∀ row, row < 7 → ¬ f row = 0 → ∀ h, h < 61 → σ.2.1 (150 + row) h = V row h) (hH : ∀ row, row < 7 → ¬ f row = 0 → ∀ h, h < 61 → isH 6 (V row h)) (hq : ∀ row, row < 7 → σ.2.2.2 149 row = some (150 + row)) (h0 : ¬ σ.1 143 6 = 0) :
    ∃ τ, fX3_bestHour sh σ w = some ((if w = 0 then nI (mx ((sus f 7).map (fun row => V row (it (gLk (fun h => mx ((sus f 7).map (fun row => V row h)))) 60 1 0)))) else nI (it (gLk (fun h => mx ((sus f 7).map (fun row => V row h)))) 60 1 0) : Int32), τ) ∧ agr (fun i => i = 158) σ τ := by
  have hM : ∀ h, mx ((sus f 7).map (fun row => V row h)) ≤ 7 := by
    intro h
    have h1 := mx_le (l := (sus f 7).map (fun row => V row h))
    have h2 := sus_len (f := f) 7
    rw [List.length_map] at h1
    omega
  have hb := best_eq (M := fun h => mx ((sus f 7).map (fun row => V row h))) hM
  unfold fX3_bestHour
  rw [if_pos h0]
  have hF : 61 < i_F := i_F_gt (by omega)
  generalize i_F = F at hF ⊢
  rw [← nz0, ← nz8]
  refine lpI (L := fun n k (a : (Int32 × Int32) × Value × St) => fX3_bestHour_L18 sh w (fun (x57 : Int32) (x58 : Int32) (x59 : Int32) (x60 : Value) (s61 : St) => fX3_bestHour_X51 sh w x57 x58 x59 x60 s61) n a.1.1 a.1.2 (nI k) a.2.1 a.2.2) (E := fun r => ∃ τ, r = some ((if w = nI 0 then nI (mx ((sus f 7).map (fun row => V row (it (gLk (fun h => mx ((sus f 7).map (fun row => V row h)))) 60 1 0)))) else nI (it (gLk (fun h => mx ((sus f 7).map (fun row => V row h)))) 60 1 0) : Int32), τ) ∧ agr (fun i => i = 158) σ τ) (fun k a => agr (fun i => i = 158) σ a.2.2 ∧ a.1 = it (gBH (fun h => mx ((sus f 7).map (fun row => V row h)))) k 0 (0, 8)) 61 (fun n k a hk hI => Or.inl ?_) (fun n a hI => ?_) 61 F 0 ((nI 0, nI 8), .retAddr 0, σ) rfl hF ⟨agr_refl, rfl⟩
  · obtain ⟨⟨x2, x3⟩, x5, s⟩ := a
    obtain ⟨i1, i2⟩ := hI
    dsimp only at i1 i2 ⊢
    obtain ⟨τ, t1, t2⟩ := alikeC hsh (σ := s) (f := f) (V := fun row => V row k) (h := k) (by omega) (fun row hr => by rw [(i1.1 157 (by omega)).2]; exact hf row hr) (fun row hr hn => by rw [(i1.1 (150 + row) (by omega)).2]; exact hv row hr hn k hk) (fun row hr hn => hH row hr hn k hk) (fun row hr => by rw [i1.2]; exact hq row hr)
    rw [fX3_bestHour_L18, n60, if_neg (nI_nlt (by omega) (by omega)), t1, bd_some]
    unfold fX3_bestHour_J45
    rw [nI_1]
    have e : it (gBH (fun h => mx ((sus f 7).map (fun row => V row h)))) (k + 1) 0 (0, 8) = gBH (fun h => mx ((sus f 7).map (fun row => V row h))) k (x2, x3) := by rw [it_succ, i2]
    by_cases hc : x3 ≤ nI (mx ((sus f 7).map (fun row => V row k)))
    · rw [if_pos hc]
      refine ⟨((x2, x3), _, τ), rfl, agr_trans i1 t2, ?_⟩
      rw [e]
      unfold gBH
      rw [if_pos hc]
    · rw [if_neg hc]
      refine ⟨((nI k, nI (mx ((sus f 7).map (fun row => V row k)))), _, τ), rfl, agr_trans i1 t2, ?_⟩
      rw [e]
      unfold gBH
      rw [if_neg hc]
  · obtain ⟨⟨x2, x3⟩, x5, s⟩ := a
    obtain ⟨i1, i2⟩ := hI
    dsimp only at i1 i2 ⊢
    refine ⟨s, ?_, i1⟩
    rw [hb] at i2
    obtain ⟨j1, j2⟩ := Prod.mk.inj i2
    rw [fX3_bestHour_L18, n60, if_pos (nI_lt (by omega) (by omega))]
    unfold fX3_bestHour_X51
    rw [j1, j2, nz0]
/-! the reference -/
theorem alikeR {sh : List kd} {σ : St} {G : Nat → Int32} {h many : Nat} (hh : h ≤ 60) (hm : many ≤ 7) (hG : ∀ i, i < many → σ.2.1 35 (61 * i + h) = G i) : fX12_mostAlike sh σ (nI h) (nI many) = some (nI (mx ((List.range many).map G)), σ) := by
  unfold fX12_mostAlike
  have hF : 7 < i_F := i_F_gt (by omega)
  have hidx : ∀ i, i < many → i_ok (61 * nI i + nI h) 427 ∧ (61 * nI i + nI h).toNatClampNeg = 61 * i + h := by
    intro i hi
    rw [n61, nI_mul, nI_add]
    exact ⟨ok_nI (by omega) (by omega), nI_clamp (by omega)⟩
  have hin : ∀ (x1 : Int32) (i : Nat) (K : Int32 → Int32 → Option (Int32 × St)) (N : Nat), i < many → 7 < N → fX12_mostAlike_L17 sh (nI h) (nI many) σ x1 (nI i) K N 0 0 = K (nI (cntv (G i) ((List.range many).map G))) (nI many) := by
    intro x1 i K N hi hN
    have e := it_loop (L := fun n k c => fX12_mostAlike_L17 sh (nI h) (nI many) σ x1 (nI i) K n (nI c) (nI k)) (E := fun c => K (nI c) (nI many)) (g := fun k c => c + if G k = G i then 1 else 0) (N := many) (fun n k c hk => by
      show fX12_mostAlike_L17 sh (nI h) (nI many) σ x1 (nI i) K (n + 1) (nI c) (nI k) = fX12_mostAlike_L17 sh (nI h) (nI many) σ x1 (nI i) K n (nI (c + if G k = G i then 1 else 0)) (nI (k + 1))
      rw [fX12_mostAlike_L17, if_neg (nI_ge hk (by omega)), if_pos (hidx k hk).1, if_pos (hidx i hi).1, (hidx k hk).2, (hidx i hi).2, hG k hk, hG i hi, nI_1]
      by_cases hc : G k = G i
      · rw [if_neg (not_not_intro hc), if_pos hc, nI_1]
      · rw [if_pos hc, if_neg hc, Int32.add_zero]
        rfl) (fun n c => by
      show fX12_mostAlike_L17 sh (nI h) (nI many) σ x1 (nI i) K (n + 1) (nI c) (nI many) = K (nI c) (nI many)
      rw [fX12_mostAlike_L17, if_pos (nI_le (Nat.le_refl _) (by omega))]) many N 0 0 (by omega) (by omega)
    rw [nz0] at e
    rw [e, it_fold (F := fun c x => c + if x = G i then 1 else 0) (G := G)]
    rfl
  generalize hFe : i_F = F at hF ⊢
  rw [← nz0]
  refine lpI (L := fun n k (a : Nat × Value × Value) => fX12_mostAlike_L5 sh (nI h) (nI many) σ n (nI a.1) (nI k) a.2.1 a.2.2) (E := fun r => r = some (nI (mx ((List.range many).map G)), σ)) (fun k a => a.1 ≤ 7 ∧ a.1 = it (fun i x => max x (cntv (G i) ((List.range many).map G))) k 0 0) many (fun n k a hk hI => Or.inl ?_) (fun n a hI => ?_) many F 0 (0, .retAddr 0, .retAddr 0) (by omega) (by omega) ⟨by omega, rfl⟩
  · obtain ⟨x, v1, v2⟩ := a
    obtain ⟨i1, i2⟩ := hI
    dsimp only at i1 i2 ⊢
    have hcl := cntv_le (v := G k) ((List.range many).map G)
    rw [List.length_map, List.length_range] at hcl
    rw [fX12_mostAlike_L5, if_neg (nI_ge hk (by omega)), hin _ k _ i_F hk (i_F_gt (by omega))]
    unfold fX12_mostAlike_X66
    refine ⟨(max x (cntv (G k) ((List.range many).map G)), .int (nI (cntv (G k) ((List.range many).map G))), .int (nI many)), ?_, by dsimp only; omega, ?_⟩
    · rw [nI_1]
      dsimp only
      by_cases hc : cntv (G k) ((List.range many).map G) ≤ x
      · rw [if_pos (nI_le hc (by omega)), Nat.max_eq_left hc]
      · rw [if_neg (nI_ge (by omega) (by omega)), Nat.max_eq_right (by omega)]
    · rw [it_succ, ← i2]
  · obtain ⟨x, v1, v2⟩ := a
    obtain ⟨i1, i2⟩ := hI
    dsimp only at i1 i2 ⊢
    rw [fX12_mostAlike_L5, if_pos (nI_le (Nat.le_refl _) (by omega)), i2, it_fold (F := fun a v => max a (cntv v ((List.range many).map G))) (G := G)]
    rfl
