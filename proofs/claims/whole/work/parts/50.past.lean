/-! ===== what can be UNDONE ===== -/
def pushP (pst : List Lf) (l : Lf) : List Lf := if pst.length < 20 then pst ++ [l] else pst.drop 1 ++ [l]
theorem push_len {pst : List Lf} {l : Lf} (h : pst.length ≤ 20) : (pushP pst l).length = if pst.length < 20 then pst.length + 1 else 20 := by
  unfold pushP
  split
  · simp
  · simp
    omega
theorem push_mem {pst : List Lf} {l x : Lf} (h : x ∈ pushP pst l) : x ∈ pst ∨ x = l := by
  unfold pushP at h
  split at h
  · rcases List.mem_append.mp h with h | h
    · exact Or.inl h
    · exact Or.inr (List.mem_singleton.mp h)
  · rcases List.mem_append.mp h with h | h
    · exact Or.inl (List.mem_of_mem_drop h)
    · exact Or.inr (List.mem_singleton.mp h)
/-- the class: the Whole at a -/
def pstC (σ : St) (a : Nat) (pst : List Lf) : Prop := ∃ f, f < 20 ∧ σ.1 a 3 = nI f ∧ σ.1 a 4 = nI pst.length ∧ pst.length ≤ 20 ∧ ∀ i l, pst[i]? = some l → LfC σ (a + 15 + 5 * ((f + i) % 20)) = l
def rfC (σ : St) (a : Nat) : Prop := ∀ i, i < 20 → σ.2.2.2 (a + 12) i = some (a + 15 + 5 * i)
def lvSh (sh : List kd) (a : Nat) : Prop := ∀ i, i < 20 → lSh sh (a + 15 + 5 * i)
theorem lv19 {sh : List kd} (h : cSh sh) : lvSh sh 19 := by
  intro i hi
  have : i = 0 ∨ i = 1 ∨ i = 2 ∨ i = 3 ∨ i = 4 ∨ i = 5 ∨ i = 6 ∨ i = 7 ∨ i = 8 ∨ i = 9 ∨ i = 10 ∨ i = 11 ∨ i = 12 ∨ i = 13 ∨ i = 14 ∨ i = 15 ∨ i = 16 ∨ i = 17 ∨ i = 18 ∨ i = 19 := by omega
  rcases this with e | e | e | e | e | e | e | e | e | e | e | e | e | e | e | e | e | e | e | e
  · subst e; exact lShB_34 h
  · subst e; exact lShB_39 h
  · subst e; exact lShB_44 h
  · subst e; exact lShB_49 h
  · subst e; exact lShB_54 h
  · subst e; exact lShB_59 h
  · subst e; exact lShB_64 h
  · subst e; exact lShB_69 h
  · subst e; exact lShB_74 h
  · subst e; exact lShB_79 h
  · subst e; exact lShB_84 h
  · subst e; exact lShB_89 h
  · subst e; exact lShB_94 h
  · subst e; exact lShB_99 h
  · subst e; exact lShB_104 h
  · subst e; exact lShB_109 h
  · subst e; exact lShB_114 h
  · subst e; exact lShB_119 h
  · subst e; exact lShB_124 h
  · subst e; exact lShB_129 h
theorem m20 {a : Nat} (h : a < 2 ^ 31) : nI a - nI a / 20 * 20 = nI (a % 20) := by
  rw [show (20 : Int32) = nI 20 from by decide]
  exact nI_mod h (by omega)
theorem LfC_ext {σ τ : St} {a : Nat} (h1 : τ.1 a = σ.1 a) (h2 : ∀ i, a < i → i ≤ a + 4 → τ.2.1 i = σ.2.1 i) : LfC τ a = LfC σ a := by
  unfold LfC
  rw [h1, h2 (a + 1) (by omega) (by omega), h2 (a + 2) (by omega) (by omega), h2 (a + 3) (by omega) (by omega), h2 (a + 4) (by omega) (by omega)]
/-- what an ACT that is remembered leaves alone -/
def frP (σ τ : St) : Prop := (∀ i, i ≠ 19 → ¬ (34 ≤ i ∧ i < 134) → τ.1 i = σ.1 i) ∧ (∀ k, k ≠ 3 → k ≠ 4 → τ.1 19 k = σ.1 19 k) ∧ (∀ i, ¬ (34 ≤ i ∧ i < 134) → τ.2.1 i = σ.2.1 i) ∧ τ.2.2.2 = σ.2.2.2
theorem remC {sh : List kd} (hsh : cSh sh) {σ : St} {pst : List Lf} {lf : Lf} (hp : pstC σ 19 pst) (hr : rfC σ 19) (hl : LfC σ 26 = lf) : ∃ τ, fX10_remember sh σ 19 = some ((), τ) ∧ pstC τ 19 (pushP pst lf) ∧ frP σ τ := by
  obtain ⟨f, f1, f2, f3, f4, f5⟩ := hp
  have hm : (f + pst.length) % 20 < 20 := Nat.mod_lt _ (by omega)
  obtain ⟨τ, t1, t2, t3⟩ := lifeCopyC (sh := sh) (σ := σ) (a := 34 + 5 * ((f + pst.length) % 20)) (b := 26) (by omega)
  unfold fX10_remember
  rw [f2, f3, nI_add, m20 (by omega), if_pos (ok_nI hm (by omega)), nI_clamp (by omega), hr _ hm]
  show ∃ τ, i_ck (lSh sh (34 + 5 * ((f + pst.length) % 20))) _ = _ ∧ _
  rw [i_ck_pos (lv19 hsh _ hm)]
  show ∃ τ, i_bd (fX4_copyFrom sh σ (34 + 5 * ((f + pst.length) % 20)) 26) _ = _ ∧ _
  rw [t1, bd_some]
  have e3 : τ.1 19 = σ.1 19 := t3.1 19 (by omega)
  rw [e3, f3, f2, show (20 : Int32) = nI 20 from by decide]
  unfold fX10_remember_J59
  have hfr : frP σ τ := ⟨fun i h1 h2 => t3.1 i (by omega), fun k _ _ => by rw [e3], fun i hi => t3.2.1 i (by omega) (by omega) (by omega) (by omega), t3.2.2⟩
  have hold : ∀ j, j < 20 → j ≠ (f + pst.length) % 20 → LfC τ (34 + 5 * j) = LfC σ (34 + 5 * j) := by
    intro j hj hne
    exact LfC_ext (t3.1 _ (by omega)) (fun i h1 h2 => t3.2.1 i (by omega) (by omega) (by omega) (by omega))
  by_cases hlen : pst.length < 20
  · rw [if_neg (nI_ge hlen (by omega)), nI_1]
    refine ⟨s_F τ 19 4 (nI (pst.length + 1)), rfl, ⟨f, f1, ?_, ?_, ?_, ?_⟩, ?_⟩
    · rw [s_F_rd, if_neg (by omega), e3, f2]
    · rw [s_F_rd, if_pos ⟨rfl, rfl⟩, push_len f4, if_pos hlen]
    · rw [push_len f4, if_pos hlen]; omega
    · intro i l hi
      have hL : LfC (s_F τ 19 4 (nI (pst.length + 1))) (34 + 5 * ((f + i) % 20)) = LfC τ (34 + 5 * ((f + i) % 20)) := LfC_ext (by funext k; rw [s_F_rd, if_neg (by omega)]) (fun _ _ _ => rfl)
      show LfC _ (34 + 5 * ((f + i) % 20)) = l
      rw [hL]
      unfold pushP at hi
      rw [if_pos hlen] at hi
      by_cases hin : i < pst.length
      · rw [List.getElem?_append_left hin] at hi
        rw [hold _ (Nat.mod_lt _ (by omega)) (by omega)]
        exact f5 i l hi
      · rw [List.getElem?_append_right (by omega)] at hi
        have h0 : i = pst.length := by
          by_cases h1 : i - pst.length = 0
          · omega
          · obtain ⟨z, hz⟩ : ∃ z, i - pst.length = z + 1 := ⟨_, (Nat.succ_pred h1).symm⟩
            rw [hz] at hi
            cases hi
        subst h0
        rw [Nat.sub_self] at hi
        cases hi
        rw [t2, hl]
    · refine ⟨fun i h1 h2 => ?_, fun k h1 h2 => ?_, hfr.2.2.1, hfr.2.2.2⟩
      · rw [← hfr.1 i h1 h2]
        funext k
        rw [s_F_rd, if_neg (fun e => h1 e.1)]
      · rw [s_F_rd, if_neg (fun e => h2 e.2), e3]
  · have hl20 : pst.length = 20 := by omega
    rw [if_pos (nI_le (by omega) (by omega)), nI_1, show nI (f + 1) - nI (f + 1) / nI 20 * nI 20 = nI ((f + 1) % 20) from nI_mod (by omega) (by omega)]
    have hidx : (f + pst.length) % 20 = f := by rw [hl20]; omega
    rw [hidx] at hold t2
    refine ⟨s_F τ 19 3 (nI ((f + 1) % 20)), rfl, ⟨(f + 1) % 20, Nat.mod_lt _ (by omega), ?_, ?_, ?_, ?_⟩, ?_⟩
    · rw [s_F_rd, if_pos ⟨rfl, rfl⟩]
    · rw [s_F_rd, if_neg (by omega), e3, f3, push_len f4, if_neg hlen, hl20]
    · rw [push_len f4, if_neg hlen]; omega
    · intro i l hi
      have hL : LfC (s_F τ 19 3 (nI ((f + 1) % 20))) (34 + 5 * (((f + 1) % 20 + i) % 20)) = LfC τ (34 + 5 * (((f + 1) % 20 + i) % 20)) := LfC_ext (by funext k; rw [s_F_rd, if_neg (by omega)]) (fun _ _ _ => rfl)
      show LfC _ (34 + 5 * (((f + 1) % 20 + i) % 20)) = l
      rw [hL]
      unfold pushP at hi
      rw [if_neg hlen] at hi
      have hdl : (pst.drop 1).length = 19 := by rw [List.length_drop, hl20]
      by_cases hin : i < 19
      · rw [List.getElem?_append_left (by omega), List.getElem?_drop] at hi
        have e : ((f + 1) % 20 + i) % 20 = (f + (1 + i)) % 20 := by omega
        rw [hold _ (Nat.mod_lt _ (by omega)) (by omega), e]
        exact f5 (1 + i) l hi
      · rw [List.getElem?_append_right (by omega), hdl] at hi
        have h0 : i = 19 := by
          by_cases h1 : i - 19 = 0
          · omega
          · obtain ⟨z, hz⟩ : ∃ z, i - 19 = z + 1 := ⟨_, (Nat.succ_pred h1).symm⟩
            rw [hz] at hi
            cases hi
        subst h0
        cases hi
        rw [show ((f + 1) % 20 + 19) % 20 = f by omega, t2, hl]
    · refine ⟨fun i h1 h2 => ?_, fun k h1 h2 => ?_, hfr.2.2.1, hfr.2.2.2⟩
      · rw [← hfr.1 i h1 h2]
        funext k
        rw [s_F_rd, if_neg (fun e => h1 e.1)]
      · rw [s_F_rd, if_neg (fun e => h1 e.2), e3]
theorem backC {sh : List kd} (hsh : cSh sh) {σ : St} {pst : List Lf} {l : Lf} (hp : pstC σ 19 (pst ++ [l])) (hr : rfC σ 19) : ∃ τ, fX10_takeBack sh σ 19 = some ((), τ) ∧ pstC τ 19 pst ∧ LfC τ 26 = l ∧ τ.1 19 4 = nI pst.length ∧ (∀ i, i ≠ 19 → i ≠ 26 → τ.1 i = σ.1 i) ∧ (∀ k, k ≠ 3 → k ≠ 4 → τ.1 19 k = σ.1 19 k) ∧ (∀ i, ¬ (26 ≤ i ∧ i ≤ 30) → τ.2.1 i = σ.2.1 i) ∧ τ.2.2.2 = σ.2.2.2 := by
  obtain ⟨f, f1, f2, f3, f4, f5⟩ := hp
  rw [List.length_append, List.length_singleton] at f3 f4
  have hm : (f + pst.length) % 20 < 20 := Nat.mod_lt _ (by omega)
  unfold fX10_takeBack
  have e4 : (s_F σ 19 4 (σ.1 19 4 - 1)).1 19 4 = nI pst.length := by rw [s_F_rd, if_pos ⟨rfl, rfl⟩, f3, nI_pred]
  have e3 : (s_F σ 19 4 (σ.1 19 4 - 1)).1 19 3 = nI f := by rw [s_F_rd, if_neg (by omega), f2]
  have eo : ∀ i, i ≠ 19 → (s_F σ 19 4 (σ.1 19 4 - 1)).1 i = σ.1 i := fun i hi => by funext k; rw [s_F_rd, if_neg (fun e => hi e.1)]
  have ek : ∀ k, k ≠ 4 → (s_F σ 19 4 (σ.1 19 4 - 1)).1 19 k = σ.1 19 k := fun k hk => by rw [s_F_rd, if_neg (fun e => hk e.2)]
  have ea : (s_F σ 19 4 (σ.1 19 4 - 1)).2 = σ.2 := rfl
  generalize s_F σ 19 4 (σ.1 19 4 - 1) = s at e4 e3 eo ek ea
  rw [e3, e4, nI_add, m20 (by omega), if_pos (ok_nI hm (by omega)), nI_clamp (by omega), ea, hr _ hm]
  show ∃ τ, i_ck (lSh sh (34 + 5 * ((f + pst.length) % 20))) _ = _ ∧ _
  rw [i_ck_pos (lv19 hsh _ hm)]
  obtain ⟨τ, t1, t2, t3⟩ := lifeCopyC (sh := sh) (σ := s) (a := 26) (b := 34 + 5 * ((f + pst.length) % 20)) (by omega)
  show ∃ τ, i_bd (fX4_copyFrom sh s 26 (34 + 5 * ((f + pst.length) % 20))) _ = _ ∧ _
  rw [t1, bd_some]
  have hs : ∀ j, LfC s (34 + 5 * j) = LfC σ (34 + 5 * j) := fun j => LfC_ext (eo _ (by omega)) (fun i _ _ => by rw [ea])
  refine ⟨τ, rfl, ⟨f, f1, ?_, ?_, by omega, ?_⟩, ?_, ?_, fun i h1 h2 => ?_, fun k h1 h2 => ?_, fun i hi => ?_, ?_⟩
  · rw [t3.1 19 (by decide), e3]
  · rw [t3.1 19 (by decide), e4]
  · intro i l' hi
    have hil : i < pst.length := by
      rw [List.getElem?_eq_some_iff] at hi
      exact hi.1
    show LfC τ (34 + 5 * ((f + i) % 20)) = l'
    rw [LfC_ext (t3.1 _ (by omega)) (fun j h1 h2 => t3.2.1 j (by omega) (by omega) (by omega) (by omega)), hs]
    exact f5 i l' (by rw [List.getElem?_append_left hil]; exact hi)
  · rw [t2, hs]
    exact f5 pst.length l (by rw [List.getElem?_append_right (Nat.le_refl _), Nat.sub_self]; rfl)
  · rw [t3.1 19 (by decide), e4]
  · rw [t3.1 i h2, eo i h1]
  · rw [t3.1 19 (by decide), ek k h2]
  · rw [t3.2.1 i (by omega) (by omega) (by omega) (by omega), ea]
  · rw [t3.2.2, ea]
