/-! ===== a Whole is made ===== -/
def lvK (q i : Nat) : iH := (List.range i).flatMap (fun j => lifeK (q + 15 + 5 * j))
theorem lvK_succ {q i : Nat} : lvK q (i + 1) = lvK q i ++ lifeK (q + 15 + 5 * i) := by
  unfold lvK
  rw [List.range_succ, List.flatMap_append]
  simp
theorem lvK_len {q : Nat} : ∀ i, (lvK q i).length = 5 * i
  | 0 => rfl
  | i + 1 => by
    rw [lvK_succ, List.length_append, lvK_len i]
    show 5 * i + 5 = _
    omega
def fI (q i : Nat) : Nat → Option Nat := fun j => if j < i then some (q + 15 + 5 * j) else none
def baseK (q : Nat) (f : Nat → Option Nat) : iH := .inr (9, [.ref (q + 1), .ref (q + 7), .ref (q + 12), .int 0, .int 0, .ref (q + 13), .ref (q + 14), .int 0, .int (-1), .int 0]) :: (realmK (q + 1) ++ (lifeK (q + 7) ++ [.inl (.object RX4, 20, .inr (.inr (.inr (.inr f)))), .inl (.int, 10, .inl (fun _ => 0)), .inl (.int, 10, .inl (fun _ => 0))]))
theorem realmInit' {H E : iH} {r : Nat} (hr : r = H.length + E.length) (hb : r + 6 < i_SB) : i_X 1 50 [.ref r] (H ++ (E ++ [.inr (5, i_dfl 5)])) 5 36 none (H ++ (E ++ realmK r)) := by
  have := realmInit (H := H ++ E) (q := r) (by rw [List.length_append, hr]) hb
  rw [List.append_assoc, List.append_assoc] at this
  exact this
theorem lifeInit' {H E : iH} {r : Nat} (hr : r = H.length + E.length) (hb : r + 5 < i_SB) : i_X 1 25 [.ref r] (H ++ (E ++ [.inr (3, i_dfl 3)])) 4 24 none (H ++ (E ++ lifeK r)) := by
  have := lifeInit (H := H ++ E) (q := r) (by rw [List.length_append, hr]) hb
  rw [List.append_assoc, List.append_assoc] at this
  exact this
theorem wholeLoop {H : iH} {q : Nat} (hq : H.length = q) (hb : q + 120 < i_SB) : ∀ (m i : Nat), i + m = 20 → p_R 1 mX10_init 114 758 none (H ++ (baseK q (fI q 20) ++ lvK q 20)) 58 [.ref q, .int (nI i)] [] (H ++ (baseK q (fI q i) ++ lvK q i)) (14 + 5 * i) (118 + 32 * i) := by
  intro m
  induction m with
  | zero =>
    intro i hi
    have : i = 20 := by omega
    subst this
    refine p_s aX10i_58 rfl ?_
    refine p_s aX10i_59 rfl ?_
    refine p_getE (k := 0) aX10i_60 hq.symm rfl rfl ?_
    refine p_s (st2 := [.int (nI 20), .int (nI 20)]) aX10i_63 (by
      simp only [i_s, i_alen, E_at (H := H) (E := baseK q (fI q 20) ++ lvK q 20) (i := q + 12) (k := 12) (by rw [hq]) rfl]
      rfl) ?_
    refine p_s (pc2 := 86) (st2 := []) aX10i_64 (by simp only [i_s, i_icm]; rw [if_pos (Int32.le_refl _)]) ?_
    exact p_r aX10i_86 ⟨rfl, rfl, rfl, rfl⟩ (Nat.le_refl _) (Nat.le_refl _)
  | succ m ih =>
    intro i hi
    have hel : (baseK q (fI q i) ++ lvK q i).length = 15 + 5 * i := by
      rw [List.length_append, lvK_len]
      rfl
    have hr : q + 15 + 5 * i = H.length + (baseK q (fI q i) ++ lvK q i).length := by rw [hel, hq]; omega
    refine p_s aX10i_58 rfl ?_
    refine p_s aX10i_59 rfl ?_
    refine p_getE (k := 0) aX10i_60 hq.symm rfl rfl ?_
    refine p_s (st2 := [.int (nI 20), .int (nI i)]) aX10i_63 (by
      simp only [i_s, i_alen, E_at (H := H) (E := baseK q (fI q i) ++ lvK q i) (i := q + 12) (k := 12) (by rw [hq]) rfl]
      rfl) ?_
    refine p_s (pc2 := 67) (st2 := []) aX10i_64 (by simp only [i_s, i_icm]; rw [if_neg (nI_ge (by omega) (by omega))]) ?_
    refine p_s aX10i_67 rfl ?_
    refine p_getE (k := 0) aX10i_68 hq.symm rfl rfl ?_
    refine p_s aX10i_71 rfl ?_
    refine p_newO (r := q + 15 + 5 * i) (m := 8) aX10i_72 hr (by omega) rfl (by omega) (by omega) rfl ?_
    refine p_s (st2 := [.ref (q + 15 + 5 * i), .ref (q + 15 + 5 * i), .int (nI i), .ref (q + 12)]) aX10i_75 rfl ?_
    refine p_c (As := [.ref (q + 15 + 5 * i)]) (rest := [.ref (q + 15 + 5 * i), .int (nI i), .ref (q + 12)]) (r := none) aX10i_76 ⟨Nat.le_of_ble_eq_true rfl, _, [], rfl, rfl, rfl⟩ (lifeInit' hr (by omega)) (by omega) (by omega) ?_
    have hup : va_up (fI q i) i (some (q + 15 + 5 * i)) = fI q (i + 1) := by
      funext j
      show (if j = i then some (q + 15 + 5 * i) else fI q i j) = fI q (i + 1) j
      unfold fI
      by_cases hj : j = i
      · subst hj
        rw [if_pos rfl, if_pos (by omega)]
      · rw [if_neg hj]
        by_cases hj2 : j < i
        · rw [if_pos hj2, if_pos (by omega)]
        · rw [if_neg hj2, if_neg (by omega)]
    refine p_s (pc2 := 80) (loc2 := [.ref q, .int (nI i)]) (st2 := []) (h2 := H ++ (baseK q (fI q (i + 1)) ++ lvK q (i + 1))) aX10i_79 ?_ ?_
    · have k12 : (H ++ (baseK q (fI q i) ++ lvK q i ++ lifeK (q + 15 + 5 * i)))[q + 12]? = some (.inl (.object RX4, 20, .inr (.inr (.inr (.inr (fI q i)))))) := E_at (k := 12) (by rw [hq]) rfl
      have kr : (H ++ (baseK q (fI q i) ++ lvK q i ++ lifeK (q + 15 + 5 * i)))[q + 15 + 5 * i]? = some (.inr (3, [.int 0, .int (-1), .int (-1), .int 0, .ref (q + 15 + 5 * i + 1), .ref (q + 15 + 5 * i + 2), .ref (q + 15 + 5 * i + 3), .ref (q + 15 + 5 * i + 4)])) := by
        refine E_at (k := (baseK q (fI q i) ++ lvK q i).length) hr ?_
        rw [List.getElem?_append_right (Nat.le_refl _), Nat.sub_self]
        rfl
      show i_aast 79 [.ref q, .int (nI i)] [.ref (q + 15 + 5 * i), .int (nI i), .ref (q + 12)] _ = _
      unfold i_aast
      dsimp only
      rw [k12, kr]
      dsimp only
      rw [if_pos ⟨by decide +kernel, nI_pos (by omega), by rw [nI_clamp (by omega)]; omega⟩, nI_clamp (by omega), hup, E_set (k := 12) (by rw [hq]), lvK_succ, ← List.append_assoc (baseK q (fI q (i + 1)))]
      rfl
    refine p_s (pc2 := 83) (loc2 := [.ref q, .int (nI (i + 1))]) aX10i_80 (by simp only [i_s]; show some (80 + 3, [Value.ref q, Value.int (nI i + 1)], ([] : List Value), _) = _; rw [nI_1]) ?_
    refine p_s (pc2 := 58) aX10i_83 rfl ?_
    have := ih (i + 1) (by omega)
    rw [show 14 + 5 * (i + 1) = 14 + 5 * i + 1 + 4 by omega, show 118 + 32 * (i + 1) = 118 + 32 * i + 8 + 24 by omega] at this
    exact this
theorem wholeInit {H : iH} {q : Nat} (hq : H.length = q) (hb : q + 120 < i_SB) : i_X 2 86 [.ref q] (H ++ [.inr (9, i_dfl 9)]) 114 758 none (H ++ (baseK q (fI q 20) ++ lvK q 20)) := by
  refine p_X (M := mX10_init) (loc := [.ref q, .retAddr 0]) rfl (Nat.le_of_ble_eq_true rfl) rfl ?_
  refine p_s aX10i_0 rfl ?_
  refine p_s (pc2 := 4) (st2 := []) aX10i_1 rfl ?_
  refine p_s aX10i_4 rfl ?_
  refine p_newO (r := q + 1) (m := 10) aX10i_5 (by rw [hq]; rfl) (by omega) rfl (by omega) (by omega) rfl ?_
  refine p_s (st2 := [.ref (q + 1), .ref (q + 1), .ref q]) aX10i_8 rfl ?_
  refine p_c (As := [.ref (q + 1)]) (rest := [.ref (q + 1), .ref q]) (r := none) aX10i_9 ⟨Nat.le_of_ble_eq_true rfl, _, [], rfl, rfl, rfl⟩ (realmInit' (by rw [hq]; rfl) (by omega)) (by omega) (by omega) ?_
  refine p_putE (k := 0) aX10i_12 hq.symm rfl rfl (Nat.le_of_ble_eq_true rfl) rfl ?_
  refine p_s aX10i_15 rfl ?_
  refine p_newO (r := q + 7) (m := 8) aX10i_16 (by rw [hq]; rfl) (by omega) rfl (by omega) (by omega) rfl ?_
  refine p_s (st2 := [.ref (q + 7), .ref (q + 7), .ref q]) aX10i_19 rfl ?_
  refine p_c (As := [.ref (q + 7)]) (rest := [.ref (q + 7), .ref q]) (r := none) aX10i_20 ⟨Nat.le_of_ble_eq_true rfl, _, [], rfl, rfl, rfl⟩ (lifeInit' (by rw [hq]; rfl) (by omega)) (by omega) (by omega) ?_
  refine p_putE (k := 0) aX10i_23 hq.symm rfl rfl (Nat.le_of_ble_eq_true rfl) rfl ?_
  refine p_s aX10i_26 rfl ?_
  refine p_s (st2 := [.int (nI 20), .ref q]) aX10i_27 rfl ?_
  refine p_newQ (n := 20) (r := q + 12) aX10i_29 (by omega) (by rw [hq]; rfl) (by omega) (by omega) (by omega) rfl ?_
  refine p_putE (k := 0) aX10i_32 hq.symm rfl rfl (Nat.le_of_ble_eq_true rfl) rfl ?_
  refine p_s aX10i_35 rfl ?_
  refine p_s (st2 := [.int (nI 10), .ref q]) aX10i_36 rfl ?_
  refine p_newA (n := 10) (r := q + 13) aX10i_38 (by omega) (by rw [hq]; rfl) (by omega) (by omega) (by omega) rfl ?_
  refine p_putE (k := 0) aX10i_40 hq.symm rfl rfl (Nat.le_of_ble_eq_true rfl) rfl ?_
  refine p_s aX10i_43 rfl ?_
  refine p_s (st2 := [.int (nI 10), .ref q]) aX10i_44 rfl ?_
  refine p_newA (n := 10) (r := q + 14) aX10i_46 (by omega) (by rw [hq]; rfl) (by omega) (by omega) (by omega) rfl ?_
  refine p_putE (k := 0) aX10i_48 hq.symm rfl rfl (Nat.le_of_ble_eq_true rfl) rfl ?_
  refine p_s aX10i_51 rfl ?_
  refine p_s (st2 := [.int (-1), .ref q]) aX10i_52 rfl ?_
  refine p_putE (k := 0) aX10i_53 hq.symm rfl rfl (Nat.le_of_ble_eq_true rfl) rfl ?_
  refine p_s (st2 := [.int 0]) aX10i_56 rfl ?_
  refine p_s (loc2 := [.ref q, .int (nI 0)]) aX10i_57 rfl ?_
  have e0 : fI q 0 = fun _ => none := by
    funext j
    unfold fI
    rw [if_neg (by omega)]
  have := wholeLoop hq hb 20 0 rfl
  rw [e0] at this
  exact this
