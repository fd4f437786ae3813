/-! ===== the class: which word of a list stands here ===== -/
def sg (p1 : Nat) : Nat → Nat → Nat → List (Nat × Nat)
  | 0, st, i => [(st, i)]
  | m + 1, st, i => if i_schr p1 i = 32 then (st, i) :: sg p1 m (i + 1) (i + 1) else sg p1 m st (i + 1)
noncomputable def fi (H : Nat → Nat → Prop) : Nat → List (Nat × Nat) → Int32
  | _, [] => -1
  | k, q :: t => @ite _ (H q.1 q.2) (Classical.propDecidable _) (nI k) (fi H (k + 1) t)
theorem fi_t {H : Nat → Nat → Prop} {k : Nat} {q : Nat × Nat} {t : List (Nat × Nat)} (h : H q.1 q.2) : fi H k (q :: t) = nI k := @if_pos _ (Classical.propDecidable _) h _ _ _
theorem fi_f {H : Nat → Nat → Prop} {k : Nat} {q : Nat × Nat} {t : List (Nat × Nat)} (h : ¬ H q.1 q.2) : fi H k (q :: t) = fi H (k + 1) t := @if_neg _ (Classical.propDecidable _) h _ _ _
theorem hereC {sh : List kd} {σ : St} {tp : List Nat} {s L a p1 : Nat} (ht : tpC σ tp) (ha : σ.1 1 2 = nI s) (hL : rn isL tp s = L) (hs : s ≤ tp.length) (hp : p1 < 28) (hal : a + L ≤ i_slen p1) :
    (isW tp s (fun j => i_schr p1 (a + j)) L ∧ fX9_isHere sh σ p1 (nI a) (nI L) = some (1, σ)) ∨ (¬ isW tp s (fun j => i_schr p1 (a + j)) L ∧ fX9_isHere sh σ p1 (nI a) (nI L) = some (0, σ)) := by
  have h400 := ht.1
  have hsl := i_slen_lt p1 hp
  have hrn := rn_le (f := isL) hs
  rw [hL] at hrn
  unfold fX9_isHere
  have hF : L < i_F := i_F_gt (by omega)
  generalize i_F = F at hF ⊢
  rw [← nz0]
  have key : ∀ (m N i : Nat), i + m = L → m < N → (∀ j, j < i → ∃ b, tp[s + j]? = some b ∧ nI b = i_schr p1 (a + j)) → (isW tp s (fun j => i_schr p1 (a + j)) L ∧ fX9_isHere_L3 sh p1 (nI a) (nI L) σ N (nI i) = some (1, σ)) ∨ (¬ isW tp s (fun j => i_schr p1 (a + j)) L ∧ fX9_isHere_L3 sh p1 (nI a) (nI L) σ N (nI i) = some (nI 0, σ)) := by
    intro m
    induction m with
    | zero =>
      intro N i hi hN hpre
      obtain ⟨N, rfl⟩ : ∃ n', N = n' + 1 := ⟨N - 1, by omega⟩
      left
      refine ⟨⟨hL, fun j hj => hpre j (by omega)⟩, ?_⟩
      rw [fX9_isHere_L3, if_pos (nI_le (by omega) (by omega))]
    | succ m ih =>
      intro N i hi hN hpre
      obtain ⟨N, rfl⟩ : ∃ n', N = n' + 1 := ⟨N - 1, by omega⟩
      obtain ⟨b, hb⟩ : ∃ b, tp[s + i]? = some b := ⟨_, List.getElem?_eq_getElem (show s + i < tp.length by omega)⟩
      obtain ⟨c1, c2⟩ := ht.2.2 _ b hb
      rw [fX9_isHere_L3, if_neg (nI_ge (by omega) (by omega)), ha, nI_add, if_pos (ok_nI (by omega) (by omega)), if_pos hp, nI_add, if_pos (ok_nI (by omega) (by omega)), nI_clamp (by omega), nI_clamp (by omega), c2, nI_1]
      by_cases he : nI b = i_schr p1 (a + i)
      · rw [if_pos he]
        exact ih N (i + 1) (by omega) (by omega) (fun j hj => by
          by_cases hji : j = i
          · subst hji; exact ⟨b, hb, he⟩
          · exact hpre j (by omega))
      · rw [if_neg he]
        right
        refine ⟨fun hw => ?_, by rw [nI_0]⟩
        obtain ⟨b', h1, h2⟩ := hw.2 i (by omega)
        rw [hb] at h1
        cases h1
        exact he h2
  exact key L F 0 (by omega) hF (fun j hj => by omega)
theorem slen1000 : ∀ k, k < 28 → i_slen k + 1 < 1000 := by decide +kernel
theorem seg_hit {sh : List kd} {s5 : St} {tp : List Nat} {s L p1 st i idx : Nat} {X : St → Option (Int32 × St)} (ht : tpC s5 tp) (ha : s5.1 1 2 = nI s) (hL : rn isL tp s = L) (hs : s ≤ tp.length) (hp : p1 < 28) (h1 : st ≤ i) (h2 : i ≤ i_slen p1) :
    (isW tp s (fun j => i_schr p1 (st + j)) (i - st) → (if ¬ (nI i - nI st) = (nI (s + L) - (s5.1 1 2)) then X s5 else i_bd (fX9_isHere sh s5 p1 (nI st) (nI (s + L) - (s5.1 1 2))) (fun r17 s18 => if r17 = 0 then X s18 else some (nI idx, s18))) = some (nI idx, s5)) ∧
    (¬ isW tp s (fun j => i_schr p1 (st + j)) (i - st) → (if ¬ (nI i - nI st) = (nI (s + L) - (s5.1 1 2)) then X s5 else i_bd (fX9_isHere sh s5 p1 (nI st) (nI (s + L) - (s5.1 1 2))) (fun r17 s18 => if r17 = 0 then X s18 else some (nI idx, s18))) = X s5) := by
  have h400 := ht.1
  have hsl := i_slen_lt p1 hp
  have hrn := rn_le (f := isL) hs
  rw [hL] at hrn
  have hsL : nI (s + L) - nI s = nI L := by rw [nI_sub (by omega), show s + L - s = L by omega]
  rw [ha, hsL, nI_sub h1]
  by_cases hl : i - st = L
  · rw [hl, if_neg (not_not_intro rfl)]
    rcases hereC (sh := sh) (a := st) ht ha hL hs hp (by omega) with ⟨q1, q2⟩ | ⟨q1, q2⟩
    · rw [q2, bd_some, if_neg n10]
      exact ⟨fun _ => rfl, fun h => absurd q1 h⟩
    · rw [q2, bd_some, if_pos rfl]
      exact ⟨fun h => absurd h q1, fun _ => rfl⟩
  · rw [if_pos (nI_ne hl (by omega) (by omega))]
    exact ⟨fun h => absurd (h.1.symm.trans hL) hl, fun _ => rfl⟩
theorem segC {sh : List kd} {s5 : St} {tp : List Nat} {s L p1 : Nat} (ht : tpC s5 tp) (ha : s5.1 1 2 = nI s) (hL : rn isL tp s = L) (hs : s ≤ tp.length) (hp : p1 < 28) :
    ∀ (m N st idx i : Nat), i + m = i_slen p1 → m + 1 < N → st ≤ i → fX9_wordIn_L23 sh p1 (nI (s + L)) s5 N (nI st) (nI idx) (nI i) s5 = some (fi (fun a b => isW tp s (fun j => i_schr p1 (a + j)) (b - a)) idx (sg p1 m st i), s5) := by
  have hsl := slen1000 p1 hp
  intro m
  induction m with
  | zero =>
    intro N st idx i hi hN hst
    obtain ⟨N, rfl⟩ : ∃ n', N = n' + 1 := ⟨N - 1, by omega⟩
    obtain ⟨N, rfl⟩ : ∃ n', N = n' + 1 := ⟨N - 1, by omega⟩
    have hie : i = i_slen p1 := by omega
    obtain ⟨q1, q2⟩ := seg_hit (sh := sh) (st := st) (i := i) (idx := idx) (X := fun s10 => fX9_wordIn_L23 sh p1 (nI (s + L)) s5 (N + 1) (nI i + 1) (nI idx + 1) (nI i + 1) s10) ht ha hL hs hp hst (by omega)
    rw [fX9_wordIn_L23, if_pos hp, ofN, if_neg (nI_nlt (by omega) (by omega)), if_pos hp, if_pos (by rw [hie])]
    show _ = some (fi _ idx [(st, i)], s5)
    by_cases hh : isW tp s (fun j => i_schr p1 (st + j)) (i - st)
    · rw [q1 hh, fi_t (q := (st, i)) hh]
    · rw [q2 hh, fi_f (q := (st, i)) hh]
      rw [nI_1, fX9_wordIn_L23, if_pos hp, ofN, if_pos (nI_lt (by omega) (by omega))]
      rfl
  | succ m ih =>
    intro N st idx i hi hN hst
    obtain ⟨N, rfl⟩ : ∃ n', N = n' + 1 := ⟨N - 1, by omega⟩
    rw [fX9_wordIn_L23, if_pos hp, ofN, if_neg (nI_nlt (by omega) (by omega)), if_pos hp, if_neg (nI_ne (by omega) (by omega) (by omega)), if_pos hp, if_pos (ok_nI (by omega) (by omega)), nI_clamp (by omega), sg]
    by_cases h32 : i_schr p1 i = 32
    · rw [if_neg (not_not_intro h32), if_pos h32]
      obtain ⟨q1, q2⟩ := seg_hit (sh := sh) (st := st) (i := i) (idx := idx) (X := fun s10 => fX9_wordIn_L23 sh p1 (nI (s + L)) s5 N (nI i + 1) (nI idx + 1) (nI i + 1) s10) ht ha hL hs hp hst (by omega)
      by_cases hh : isW tp s (fun j => i_schr p1 (st + j)) (i - st)
      · rw [q1 hh, fi_t (q := (st, i)) hh]
      · rw [q2 hh, fi_f (q := (st, i)) hh]
        rw [nI_1, nI_1]
        exact ih N (i + 1) (idx + 1) (i + 1) (by omega) (by omega) (Nat.le_refl _)
    · rw [if_pos h32, if_neg h32, nI_1]
      exact ih N st idx (i + 1) (by omega) (by omega) (by omega)
def chkS (p1 : Nat) : List (Nat × Nat) → List Nat → Bool
  | [], [] => true
  | q :: l, id :: ids => (q.2 - q.1 == i_slen id) && (List.range (i_slen id)).all (fun j => i_schr p1 (q.1 + j) == i_schr id j) && chkS p1 l ids
  | _, _ => false
/-- which of the words ids stands at s, if one does -/
def wAt (tp : List Nat) (s : Nat) (id : Nat) : Prop := isW tp s (i_schr id) (i_slen id)
noncomputable def wi (tp : List Nat) (s : Nat) : Nat → List Nat → Int32
  | _, [] => -1
  | k, id :: t => @ite _ (wAt tp s id) (Classical.propDecidable _) (nI k) (wi tp s (k + 1) t)
theorem wi_t {tp : List Nat} {s k id : Nat} {t : List Nat} (h : wAt tp s id) : wi tp s k (id :: t) = nI k := @if_pos _ (Classical.propDecidable _) h _ _ _
theorem wi_f {tp : List Nat} {s k id : Nat} {t : List Nat} (h : ¬ wAt tp s id) : wi tp s k (id :: t) = wi tp s (k + 1) t := @if_neg _ (Classical.propDecidable _) h _ _ _
theorem fi_wi {tp : List Nat} {s p1 : Nat} : ∀ (l : List (Nat × Nat)) (ids : List Nat) (k : Nat), chkS p1 l ids = true → fi (fun a b => isW tp s (fun j => i_schr p1 (a + j)) (b - a)) k l = wi tp s k ids
  | [], [], _, _ => rfl
  | [], _ :: _, _, h => by cases h
  | _ :: _, [], _, h => by cases h
  | q :: l, id :: ids, k, h => by
    rw [chkS, Bool.and_eq_true, Bool.and_eq_true] at h
    obtain ⟨⟨h1, h2⟩, h3⟩ := h
    have h1' : q.2 - q.1 = i_slen id := by simpa using h1
    have h2' : ∀ j, j < i_slen id → i_schr p1 (q.1 + j) = i_schr id j := by
      intro j hj
      rw [List.all_eq_true] at h2
      have := h2 j (List.mem_range.mpr hj)
      simpa using this
    have e : isW tp s (fun j => i_schr p1 (q.1 + j)) (q.2 - q.1) ↔ wAt tp s id := by
      rw [h1']
      exact isW_congr h2'
    by_cases hh : wAt tp s id
    · rw [wi_t hh, fi_t (e.mpr hh)]
    · rw [wi_f hh, fi_f (fun q => hh (e.mp q))]
      exact fi_wi l ids (k + 1) h3
theorem wordInC {sh : List kd} {σ : St} {tp : List Nat} {p p1 : Nat} {ids : List Nat} (hc : chkS p1 (sg p1 (i_slen p1) 0 0) ids = true) (hp1 : p1 < 28) (ht : tpC σ tp) (hp : p ≤ tp.length) (ha : σ.1 1 2 = nI p) : fX9_wordIn sh σ p1 = some (wi tp (skp tp p) 0 ids, s_F σ 1 2 (nI (skp tp p))) := by
  have h400 := ht.1
  have hsl := i_slen_lt p1 hp1
  have hs := skp_le hp
  unfold fX9_wordIn
  have e2 : (s_F σ 1 2 (nI (skp tp p))).1 1 2 = nI (skp tp p) := by rw [s_F_rd, if_pos ⟨rfl, rfl⟩]
  rw [signC _ σ p ht hp rfl ha, bd_some, wendC (tpC_F (by decide) ht) hs e2, bd_some]
  have hF : i_slen p1 + 1 < i_F := by
    have : ∀ k, k < 28 → i_slen k + 1 < 1000 := by decide +kernel
    exact i_F_gt (by have := this p1 hp1; omega)
  generalize i_F = F at hF ⊢
  have := segC (sh := sh) (tpC_F (x := nI (skp tp p)) (k := 2) (by decide) ht) e2 rfl hs hp1 (i_slen p1) F 0 0 0 (by omega) hF (Nat.le_refl _)
  rw [nI_0] at this
  rw [this, fi_wi _ ids 0 hc]
theorem chk_court : chkS 0 (sg 0 (i_slen 0) 0 0) [7, 8, 9, 10, 11] = true := by decide +kernel
theorem chk_hold : chkS 1 (sg 1 (i_slen 1) 0 0) [12] = true := by decide +kernel
theorem chk_words : chkS 2 (sg 2 (i_slen 2) 0 0) [8, 13, 14, 15, 16, 17, 18, 19, 20, 21, 22, 23] = true := by decide +kernel
theorem chk_if : chkS 3 (sg 3 (i_slen 3) 0 0) [24] = true := by decide +kernel
theorem chk_not : chkS 4 (sg 4 (i_slen 4) 0 0) [25] = true := by decide +kernel
theorem chk_and : chkS 5 (sg 5 (i_slen 5) 0 0) [26] = true := by decide +kernel
theorem chk_or : chkS 6 (sg 6 (i_slen 6) 0 0) [27] = true := by decide +kernel
