/-! ===== runs over any heap: methods that make cells ===== -/
def p_R (d : Nat) (M : iM) (mc ms : Nat) (v : Option Value) (h' : iH) (pc : Nat) (loc st : List Value) (h : iH) (c s : Nat) : Prop := ∃ n, i_P (i_X d) M mc ms v h' n pc loc st h c s
section PR
variable {d : Nat} {M : iM} {mc ms : Nat} {v : Option Value} {h' h h2 : iH} {pc pc2 : Nat} {loc loc2 st st2 : List Value} {c s : Nat} {q : iI}
theorem p_X {y : Nat} {as : List Value} (hM : i_mT[y]? = some M) (hl : (i_sl as).length ≤ M.2.2.2.1) (he : i_ent M.2.2.2.1 as = loc) (k : p_R d M mc ms v h' 0 loc [] h 0 0) : i_X (d + 1) y as h mc ms v h' := by
  subst he
  obtain ⟨n, k⟩ := k
  exact ⟨M, n, hM, hl, k⟩
theorem p_s (hat : i_at M.2.2.2.2.2 pc = some q) (hs : i_s q pc loc st h = some (pc2, loc2, st2, h2)) (k : p_R d M mc ms v h' pc2 loc2 st2 h2 c s) : p_R d M mc ms v h' pc loc st h c s := by
  obtain ⟨n, k⟩ := k
  exact ⟨n + 1, q, hat, Or.inl ⟨_, _, _, _, hs, k⟩⟩
theorem p_n {dc ds : Nat} (hat : i_at M.2.2.2.2.2 pc = some q) (hs : i_nw q pc loc st h = some ((pc2, loc2, st2, h2), dc, ds)) (h1 : c + dc ≤ mc) (h3 : s + ds ≤ ms) (k : p_R d M mc ms v h' pc2 loc2 st2 h2 (c + dc) (s + ds)) : p_R d M mc ms v h' pc loc st h c s := by
  obtain ⟨n, k⟩ := k
  exact ⟨n + 1, q, hat, Or.inr (Or.inl ⟨_, _, _, _, _, _, hs, h1, h3, k⟩)⟩
theorem p_r (hat : i_at M.2.2.2.2.2 pc = some q) (hr : i_ret M q st h v h') (h1 : c ≤ mc) (h3 : s ≤ ms) : p_R d M mc ms v h' pc loc st h c s := ⟨1, q, hat, Or.inr (Or.inr (Or.inl ⟨hr, h1, h3⟩))⟩
theorem p_c {As rest : List Value} {r : Option Value} {kc ks : Nat} (hat : i_at M.2.2.2.2.2 pc = some q) (hi : i_inv q As st rest h) (hX : i_X d q.2.2.1 As h kc ks r h2) (h1 : c + kc ≤ mc) (h3 : s + ks ≤ ms) (k : p_R d M mc ms v h' (pc + 3) loc (r.toList ++ rest) h2 (c + kc) (s + ks)) : p_R d M mc ms v h' pc loc st h c s := by
  obtain ⟨n, k⟩ := k
  exact ⟨n + 1, q, hat, Or.inr (Or.inr (Or.inr ⟨As, rest, r, h2, kc, ks, hi, hX, h1, h3, k⟩))⟩
end PR
theorem app_l {α : Type} {h e : List α} {i : Nat} {x : α} (hi : h[i]? = some x) : (h ++ e)[i]? = some x := by
  rw [List.getElem?_append_left (List.getElem?_eq_some_iff.mp hi).1]
  exact hi
theorem app_at {α : Type} {h : List α} {x : α} : (h ++ [x])[h.length]? = some x := by
  rw [List.getElem?_append_right (Nat.le_refl _), Nat.sub_self]
  rfl
theorem set_at {α : Type} {h : List α} {x y : α} : (h ++ [x]).set h.length y = h ++ [y] := by
  rw [List.set_append_right _ _ (Nat.le_refl _), Nat.sub_self]
  rfl
theorem aJ7_0 : i_at mJ7_copyOf_59c91.2.2.2.2.2 0 = some (.iload_n 1, 1, 0, 0, 0, 0) := by decide +kernel
theorem aJ7_1 : i_at mJ7_copyOf_59c91.2.2.2.2.2 1 = some (.aload_n 0, 1, 0, 0, 0, 0) := by decide +kernel
theorem aJ7_2 : i_at mJ7_copyOf_59c91.2.2.2.2.2 2 = some (.arraylength, 1, 0, 0, 0, 0) := by decide +kernel
theorem aJ7_3 : i_at mJ7_copyOf_59c91.2.2.2.2.2 3 = some (.if_icmp .ne 11, 3, 14, 0, 0, 0) := by decide +kernel
theorem aJ7_6 : i_at mJ7_copyOf_59c91.2.2.2.2.2 6 = some (.aload_n 0, 1, 0, 0, 0, 0) := by decide +kernel
theorem aJ7_7 : i_at mJ7_copyOf_59c91.2.2.2.2.2 7 = some (.invokevirtual 316, 3, 1006, 0, 721, 0) := by decide +kernel
theorem aJ7_10 : i_at mJ7_copyOf_59c91.2.2.2.2.2 10 = some (.checkcast 317, 3, 0, 0, 727, 0) := by decide +kernel
theorem aJ7_13 : i_at mJ7_copyOf_59c91.2.2.2.2.2 13 = some (.areturn, 1, 0, 0, 0, 0) := by decide +kernel
theorem aJ7_14 : i_at mJ7_copyOf_59c91.2.2.2.2.2 14 = some (.iload_n 1, 1, 0, 0, 0, 0) := by decide +kernel
theorem aJ7_15 : i_at mJ7_copyOf_59c91.2.2.2.2.2 15 = some (.newarray .int, 2, 0, 0, 146, 0) := by decide +kernel
theorem aJ7_17 : i_at mJ7_copyOf_59c91.2.2.2.2.2 17 = some (.astore_n 2, 1, 0, 0, 0, 0) := by decide +kernel
theorem aJ7_18 : i_at mJ7_copyOf_59c91.2.2.2.2.2 18 = some (.aload_n 0, 1, 0, 0, 0, 0) := by decide +kernel
theorem aJ7_19 : i_at mJ7_copyOf_59c91.2.2.2.2.2 19 = some (.iconst 0, 1, 0, 0, 0, 0) := by decide +kernel
theorem aJ7_20 : i_at mJ7_copyOf_59c91.2.2.2.2.2 20 = some (.aload_n 2, 1, 0, 0, 0, 0) := by decide +kernel
theorem aJ7_21 : i_at mJ7_copyOf_59c91.2.2.2.2.2 21 = some (.iconst 0, 1, 0, 0, 0, 0) := by decide +kernel
theorem aJ7_22 : i_at mJ7_copyOf_59c91.2.2.2.2.2 22 = some (.aload_n 0, 1, 0, 0, 0, 0) := by decide +kernel
theorem aJ7_23 : i_at mJ7_copyOf_59c91.2.2.2.2.2 23 = some (.arraylength, 1, 0, 0, 0, 0) := by decide +kernel
theorem aJ7_24 : i_at mJ7_copyOf_59c91.2.2.2.2.2 24 = some (.iload_n 1, 1, 0, 0, 0, 0) := by decide +kernel
theorem aJ7_25 : i_at mJ7_copyOf_59c91.2.2.2.2.2 25 = some (.invokestatic 304, 3, 1002, 2, 728, 0) := by decide +kernel
theorem aJ7_28 : i_at mJ7_copyOf_59c91.2.2.2.2.2 28 = some (.invokestatic 150, 3, 1003, 5, 731, 0) := by decide +kernel
theorem aJ7_31 : i_at mJ7_copyOf_59c91.2.2.2.2.2 31 = some (.aload_n 2, 1, 0, 0, 0, 0) := by decide +kernel
theorem aJ7_32 : i_at mJ7_copyOf_59c91.2.2.2.2.2 32 = some (.areturn, 1, 0, 0, 0, 0) := by decide +kernel
theorem copyOf {i k n0 : Nat} {f : Nat → Int32} {h : iH} (hi : h[i]? = some (.inl (.int, n0, .inl f))) (hk : k ≤ n0) (hn : n0 ≤ 60000) (hb : h.length < i_SB) : ∃ g : Nat → Int32, (∀ j, j < k → g j = f j) ∧ i_X 1 232 [.ref i, .int (nI k)] h 1 k (some (.ref h.length)) (h ++ [.inl (.int, k, .inl g)]) := by
  have hc : (nI k).toNatClampNeg = k := nI_clamp (by omega)
  by_cases he : k = n0
  · subst he
    refine ⟨f, fun _ _ => rfl, p_X (M := mJ7_copyOf_59c91) (loc := [.ref i, .int (nI k), .retAddr 0]) rfl (Nat.le_of_ble_eq_true rfl) rfl ?_⟩
    refine p_s aJ7_0 rfl ?_
    refine p_s aJ7_1 rfl ?_
    refine p_s (st2 := [.int (nI k), .int (nI k)]) aJ7_2 (by simp only [i_s, i_alen, hi]; rfl) ?_
    refine p_s (pc2 := 6) (st2 := []) aJ7_3 (by simp only [i_s, i_icm]; rw [if_neg (not_not_intro trivial)]) ?_
    refine p_s aJ7_6 rfl ?_
    refine p_n (pc2 := 10) (loc2 := [.ref i, .int (nI k), .retAddr 0]) (st2 := [.ref h.length]) (h2 := h ++ [.inl (.int, k, .inl f)]) (dc := 1) (ds := k) aJ7_7 (by simp only [i_nw, hi]; rw [if_pos ⟨hb, hn, by decide⟩]) (by omega) (by omega) ?_
    refine p_n (pc2 := 13) (loc2 := [.ref i, .int (nI k), .retAddr 0]) (st2 := [.ref h.length]) (h2 := h ++ [.inl (.int, k, .inl f)]) (dc := 0) (ds := 0) aJ7_10 (by simp only [i_nw, app_at]) (by omega) (by omega) ?_
    exact p_r aJ7_13 ⟨.ref h.length, .array .int, rfl, rfl, rfl, Or.inr ⟨_, rfl⟩, rfl, rfl⟩ (by omega) (by omega)
  · have hlt : k < n0 := by omega
    refine ⟨va_cpy f (fun _ => 0) 0 0 k, fun j hj => ?_, p_X (M := mJ7_copyOf_59c91) (loc := [.ref i, .int (nI k), .retAddr 0]) rfl (Nat.le_of_ble_eq_true rfl) rfl ?_⟩
    · unfold va_cpy
      rw [if_pos (by omega)]
      congr 1
      omega
    refine p_s aJ7_0 rfl ?_
    refine p_s aJ7_1 rfl ?_
    refine p_s (st2 := [.int (nI n0), .int (nI k)]) aJ7_2 (by simp only [i_s, i_alen, hi]; rfl) ?_
    refine p_s (pc2 := 14) (st2 := []) aJ7_3 (by simp only [i_s, i_icm]; rw [if_pos (nI_ne he (by omega) (by omega))]) ?_
    refine p_s aJ7_14 rfl ?_
    refine p_n (pc2 := 17) (loc2 := [.ref i, .int (nI k), .retAddr 0]) (st2 := [.ref h.length]) (h2 := h ++ [.inl (.int, k, .inl (fun _ => 0))]) (dc := 1) (ds := k) aJ7_15 (by simp only [i_nw, hc]; rw [if_pos ⟨hb, nI_pos (by omega), by omega⟩]) (by omega) (by omega) ?_
    refine p_s (loc2 := [.ref i, .int (nI k), .ref h.length]) aJ7_17 rfl ?_
    refine p_s aJ7_18 rfl ?_
    refine p_s (st2 := [.int 0, .ref i]) aJ7_19 rfl ?_
    refine p_s aJ7_20 rfl ?_
    refine p_s (st2 := [.int 0, .ref h.length, .int 0, .ref i]) aJ7_21 rfl ?_
    refine p_s aJ7_22 rfl ?_
    refine p_s (st2 := [.int (nI n0), .int 0, .ref h.length, .int 0, .ref i]) aJ7_23 (by simp only [i_s, i_alen, app_l hi]; rfl) ?_
    refine p_s aJ7_24 rfl ?_
    refine p_s (pc2 := 28) (st2 := [.int (nI k), .int 0, .ref h.length, .int 0, .ref i]) aJ7_25 (by simp only [i_s, i_prim]; rw [if_pos (Nat.le_of_ble_eq_true rfl), if_pos (nI_lt hlt (by omega))]) ?_
    refine p_s (pc2 := 31) (st2 := []) (h2 := h ++ [.inl (.int, k, .inl (va_cpy f (fun _ => 0) 0 0 k))]) aJ7_28 (by simp only [i_s, i_prim, i_cpy, app_l hi, app_at, hc]; rw [if_pos ⟨by decide, by decide, nI_pos (by omega), by show 0 + k ≤ n0; omega, by show 0 + k ≤ k; omega, by decide⟩, set_at]; rfl) ?_
    refine p_s aJ7_31 rfl ?_
    exact p_r aJ7_32 ⟨.ref h.length, .array .int, rfl, rfl, rfl, Or.inr ⟨_, rfl⟩, rfl, rfl⟩ (by omega) (by omega)
