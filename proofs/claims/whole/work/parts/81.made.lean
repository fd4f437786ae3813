/-! ===== a Rule is made ===== -/
theorem aX7i_0 : i_at mX7_init.2.2.2.2.2 0 = some (.aload_n 0, 1, 0, 0, 0, 0) := by decide +kernel
theorem aX7i_1 : i_at mX7_init.2.2.2.2.2 1 = some (.invokespecial 1, 3, 1000, 0, 735, 0) := by decide +kernel
theorem aX7i_4 : i_at mX7_init.2.2.2.2.2 4 = some (.aload_n 0, 1, 0, 0, 0, 0) := by decide +kernel
theorem aX7i_5 : i_at mX7_init.2.2.2.2.2 5 = some (.aload_n 1, 1, 0, 0, 0, 0) := by decide +kernel
theorem aX7i_6 : i_at mX7_init.2.2.2.2.2 6 = some (.putfield 7, 3, 6, 0, 736, 0) := by decide +kernel
theorem aX7i_9 : i_at mX7_init.2.2.2.2.2 9 = some (.aload_n 0, 1, 0, 0, 0, 0) := by decide +kernel
theorem aX7i_10 : i_at mX7_init.2.2.2.2.2 10 = some (.aload_n 2, 1, 0, 0, 0, 0) := by decide +kernel
theorem aX7i_11 : i_at mX7_init.2.2.2.2.2 11 = some (.putfield 13, 3, 6, 1, 737, 0) := by decide +kernel
theorem aX7i_14 : i_at mX7_init.2.2.2.2.2 14 = some (.aload_n 0, 1, 0, 0, 0, 0) := by decide +kernel
theorem aX7i_15 : i_at mX7_init.2.2.2.2.2 15 = some (.aload_n 3, 1, 0, 0, 0, 0) := by decide +kernel
theorem aX7i_16 : i_at mX7_init.2.2.2.2.2 16 = some (.putfield 16, 3, 6, 2, 738, 0) := by decide +kernel
theorem aX7i_19 : i_at mX7_init.2.2.2.2.2 19 = some (.aload_n 0, 1, 0, 0, 0, 0) := by decide +kernel
theorem aX7i_20 : i_at mX7_init.2.2.2.2.2 20 = some (.aload 4, 2, 0, 0, 0, 0) := by decide +kernel
theorem aX7i_22 : i_at mX7_init.2.2.2.2.2 22 = some (.putfield 19, 3, 6, 3, 739, 0) := by decide +kernel
theorem aX7i_25 : i_at mX7_init.2.2.2.2.2 25 = some (.return_, 1, 0, 0, 0, 0) := by decide +kernel
theorem aX8m_0 : i_at mX8_made.2.2.2.2.2 0 = some (.new 83, 3, 6, 0, 716, 0) := by decide +kernel
theorem aX8m_3 : i_at mX8_made.2.2.2.2.2 3 = some (.dup, 1, 0, 0, 0, 0) := by decide +kernel
theorem aX8m_4 : i_at mX8_made.2.2.2.2.2 4 = some (.aload_n 0, 1, 0, 0, 0, 0) := by decide +kernel
theorem aX8m_5 : i_at mX8_made.2.2.2.2.2 5 = some (.getfield 9, 3, 7, 1, 235, 0) := by decide +kernel
theorem aX8m_8 : i_at mX8_made.2.2.2.2.2 8 = some (.aload_n 0, 1, 0, 0, 0, 0) := by decide +kernel
theorem aX8m_9 : i_at mX8_made.2.2.2.2.2 9 = some (.getfield 33, 3, 7, 5, 239, 0) := by decide +kernel
theorem aX8m_12 : i_at mX8_made.2.2.2.2.2 12 = some (.invokestatic 85, 3, 232, 2, 718, 0) := by decide +kernel
theorem aX8m_15 : i_at mX8_made.2.2.2.2.2 15 = some (.aload_n 0, 1, 0, 0, 0, 0) := by decide +kernel
theorem aX8m_16 : i_at mX8_made.2.2.2.2.2 16 = some (.getfield 15, 3, 7, 2, 236, 0) := by decide +kernel
theorem aX8m_19 : i_at mX8_made.2.2.2.2.2 19 = some (.aload_n 0, 1, 0, 0, 0, 0) := by decide +kernel
theorem aX8m_20 : i_at mX8_made.2.2.2.2.2 20 = some (.getfield 33, 3, 7, 5, 239, 0) := by decide +kernel
theorem aX8m_23 : i_at mX8_made.2.2.2.2.2 23 = some (.invokestatic 85, 3, 232, 2, 718, 0) := by decide +kernel
theorem aX8m_26 : i_at mX8_made.2.2.2.2.2 26 = some (.aload_n 0, 1, 0, 0, 0, 0) := by decide +kernel
theorem aX8m_27 : i_at mX8_made.2.2.2.2.2 27 = some (.getfield 18, 3, 7, 3, 237, 0) := by decide +kernel
theorem aX8m_30 : i_at mX8_made.2.2.2.2.2 30 = some (.aload_n 0, 1, 0, 0, 0, 0) := by decide +kernel
theorem aX8m_31 : i_at mX8_made.2.2.2.2.2 31 = some (.getfield 37, 3, 7, 6, 240, 0) := by decide +kernel
theorem aX8m_34 : i_at mX8_made.2.2.2.2.2 34 = some (.invokestatic 85, 3, 232, 2, 718, 0) := by decide +kernel
theorem aX8m_37 : i_at mX8_made.2.2.2.2.2 37 = some (.aload_n 0, 1, 0, 0, 0, 0) := by decide +kernel
theorem aX8m_38 : i_at mX8_made.2.2.2.2.2 38 = some (.getfield 21, 3, 7, 4, 238, 0) := by decide +kernel
theorem aX8m_41 : i_at mX8_made.2.2.2.2.2 41 = some (.aload_n 0, 1, 0, 0, 0, 0) := by decide +kernel
theorem aX8m_42 : i_at mX8_made.2.2.2.2.2 42 = some (.getfield 37, 3, 7, 6, 240, 0) := by decide +kernel
theorem aX8m_45 : i_at mX8_made.2.2.2.2.2 45 = some (.invokestatic 85, 3, 232, 2, 718, 0) := by decide +kernel
theorem aX8m_48 : i_at mX8_made.2.2.2.2.2 48 = some (.invokespecial 91, 3, 57, 4, 732, 0) := by decide +kernel
theorem aX8m_51 : i_at mX8_made.2.2.2.2.2 51 = some (.areturn, 1, 0, 0, 0, 0) := by decide +kernel
theorem aX11r_0 : i_at mX11_rule.2.2.2.2.2 0 = some (.aload_n 0, 1, 0, 0, 0, 0) := by decide +kernel
theorem aX11r_1 : i_at mX11_rule.2.2.2.2.2 1 = some (.getfield 120, 3, 10, 10, 464, 0) := by decide +kernel
theorem aX11r_4 : i_at mX11_rule.2.2.2.2.2 4 = some (.bipush 6, 2, 0, 0, 0, 0) := by decide +kernel
theorem aX11r_6 : i_at mX11_rule.2.2.2.2.2 6 = some (.if_icmp .lt 5, 3, 11, 0, 0, 0) := by decide +kernel
theorem aX11r_9 : i_at mX11_rule.2.2.2.2.2 9 = some (.iconst (-1), 1, 0, 0, 0, 0) := by decide +kernel
theorem aX11r_10 : i_at mX11_rule.2.2.2.2.2 10 = some (.ireturn, 1, 0, 0, 0, 0) := by decide +kernel
theorem aX11r_11 : i_at mX11_rule.2.2.2.2.2 11 = some (.aload_n 0, 1, 0, 0, 0, 0) := by decide +kernel
theorem aX11r_12 : i_at mX11_rule.2.2.2.2.2 12 = some (.getfield 37, 3, 10, 3, 457, 0) := by decide +kernel
theorem aX11r_15 : i_at mX11_rule.2.2.2.2.2 15 = some (.invokevirtual 123, 3, 62, 0, 648, 0) := by decide +kernel
theorem aX11r_18 : i_at mX11_rule.2.2.2.2.2 18 = some (.istore_n 1, 1, 0, 0, 0, 0) := by decide +kernel
theorem aX11r_19 : i_at mX11_rule.2.2.2.2.2 19 = some (.aload_n 0, 1, 0, 0, 0, 0) := by decide +kernel
theorem aX11r_20 : i_at mX11_rule.2.2.2.2.2 20 = some (.getfield 10, 3, 10, 0, 454, 0) := by decide +kernel
theorem aX11r_23 : i_at mX11_rule.2.2.2.2.2 23 = some (.iconst 0, 1, 0, 0, 0, 0) := by decide +kernel
theorem aX11r_24 : i_at mX11_rule.2.2.2.2.2 24 = some (.putfield 83, 3, 8, 1, 128, 0) := by decide +kernel
theorem aX11r_27 : i_at mX11_rule.2.2.2.2.2 27 = some (.iload_n 1, 1, 0, 0, 0, 0) := by decide +kernel
theorem aX11r_28 : i_at mX11_rule.2.2.2.2.2 28 = some (.ifCond .eq 8, 3, 36, 0, 0, 0) := by decide +kernel
theorem aX11r_31 : i_at mX11_rule.2.2.2.2.2 31 = some (.bipush (-2), 2, 0, 0, 0, 0) := by decide +kernel
theorem aX11r_33 : i_at mX11_rule.2.2.2.2.2 33 = some (.iload_n 1, 1, 0, 0, 0, 0) := by decide +kernel
theorem aX11r_34 : i_at mX11_rule.2.2.2.2.2 34 = some (.isub, 1, 0, 0, 0, 0) := by decide +kernel
theorem aX11r_35 : i_at mX11_rule.2.2.2.2.2 35 = some (.ireturn, 1, 0, 0, 0, 0) := by decide +kernel
theorem aX11r_36 : i_at mX11_rule.2.2.2.2.2 36 = some (.aload_n 0, 1, 0, 0, 0, 0) := by decide +kernel
theorem aX11r_37 : i_at mX11_rule.2.2.2.2.2 37 = some (.getfield 43, 3, 10, 4, 458, 0) := by decide +kernel
theorem aX11r_40 : i_at mX11_rule.2.2.2.2.2 40 = some (.aload_n 0, 1, 0, 0, 0, 0) := by decide +kernel
theorem aX11r_41 : i_at mX11_rule.2.2.2.2.2 41 = some (.getfield 120, 3, 10, 10, 464, 0) := by decide +kernel
theorem aX11r_44 : i_at mX11_rule.2.2.2.2.2 44 = some (.aload_n 0, 1, 0, 0, 0, 0) := by decide +kernel
theorem aX11r_45 : i_at mX11_rule.2.2.2.2.2 45 = some (.getfield 37, 3, 10, 3, 457, 0) := by decide +kernel
theorem aX11r_48 : i_at mX11_rule.2.2.2.2.2 48 = some (.invokevirtual 124, 3, 63, 0, 712, 0) := by decide +kernel
theorem aX11r_51 : i_at mX11_rule.2.2.2.2.2 51 = some (.aastore, 1, 0, 0, 0, 0) := by decide +kernel
theorem aX11r_52 : i_at mX11_rule.2.2.2.2.2 52 = some (.aload_n 0, 1, 0, 0, 0, 0) := by decide +kernel
theorem aX11r_53 : i_at mX11_rule.2.2.2.2.2 53 = some (.dup, 1, 0, 0, 0, 0) := by decide +kernel
theorem aX11r_54 : i_at mX11_rule.2.2.2.2.2 54 = some (.getfield 120, 3, 10, 10, 464, 0) := by decide +kernel
theorem aX11r_57 : i_at mX11_rule.2.2.2.2.2 57 = some (.iconst 1, 1, 0, 0, 0, 0) := by decide +kernel
theorem aX11r_58 : i_at mX11_rule.2.2.2.2.2 58 = some (.iadd, 1, 0, 0, 0, 0) := by decide +kernel
theorem aX11r_59 : i_at mX11_rule.2.2.2.2.2 59 = some (.putfield 120, 3, 10, 10, 464, 0) := by decide +kernel
theorem aX11r_62 : i_at mX11_rule.2.2.2.2.2 62 = some (.aload_n 0, 1, 0, 0, 0, 0) := by decide +kernel
theorem aX11r_63 : i_at mX11_rule.2.2.2.2.2 63 = some (.getfield 120, 3, 10, 10, 464, 0) := by decide +kernel
theorem aX11r_66 : i_at mX11_rule.2.2.2.2.2 66 = some (.iconst 1, 1, 0, 0, 0, 0) := by decide +kernel
theorem aX11r_67 : i_at mX11_rule.2.2.2.2.2 67 = some (.isub, 1, 0, 0, 0, 0) := by decide +kernel
theorem aX11r_68 : i_at mX11_rule.2.2.2.2.2 68 = some (.ireturn, 1, 0, 0, 0, 0) := by decide +kernel
section PR2
variable {d : Nat} {M : iM} {mc ms : Nat} {v : Option Value} {h' h : iH} {pc : Nat} {loc st : List Value} {c s : Nat} {l a b w : Nat} {z : Int}
/-- a field is set, is read -/
theorem p_put {i k0 : Nat} {x : Value} {fs : List Value} {h2 : iH} (hat : i_at M.2.2.2.2.2 pc = some (.putfield k0, l, a, b, w, z)) (hi : h[i]? = some (.inr (a, fs))) (hx : i_okf (i_ty a b) x = true) (hb : b < fs.length) (h2e : h.set i (.inr (a, fs.set b x)) = h2) (k : p_R d M mc ms v h' (pc + 3) loc st h2 c s) : p_R d M mc ms v h' pc loc (x :: .ref i :: st) h c s := by
  subst h2e
  exact p_s hat (by simp only [i_s, i_putf, hi]; rw [if_pos ⟨trivial, hx, hb⟩]) k
theorem p_get {i k0 : Nat} {x : Value} {fs : List Value} (hat : i_at M.2.2.2.2.2 pc = some (.getfield k0, l, a, b, w, z)) (hi : h[i]? = some (.inr (a, fs))) (hb : fs[b]? = some x) (k : p_R d M mc ms v h' (pc + 3) loc (x :: st) h c s) : p_R d M mc ms v h' pc loc (.ref i :: st) h c s := p_s hat (by simp only [i_s, i_getf, hi, if_pos, hb]) k
end PR2
theorem set_in {h : iH} {i : Nat} {x y : iC} (hi : h[i]? = some y) : (h.set i x)[i]? = some x := by
  have hlt := (List.getElem?_eq_some_iff.mp hi).1
  rw [List.getElem?_set_self hlt]
theorem ruleInit {q a1 a2 a3 a4 : Nat} {h : iH} (hq : h[q]? = some (.inr (6, [.null, .null, .null, .null]))) : i_X 1 57 [.ref q, .ref a1, .ref a2, .ref a3, .ref a4] h 0 0 none (h.set q (.inr (6, [.ref a1, .ref a2, .ref a3, .ref a4]))) := by
  refine p_X (M := mX7_init) (loc := [.ref q, .ref a1, .ref a2, .ref a3, .ref a4]) rfl (Nat.le_of_ble_eq_true rfl) rfl ?_
  refine p_s aX7i_0 rfl ?_
  refine p_s (pc2 := 4) (st2 := []) aX7i_1 rfl ?_
  refine p_s aX7i_4 rfl ?_
  refine p_s aX7i_5 rfl ?_
  refine p_put aX7i_6 hq rfl (Nat.le_of_ble_eq_true rfl) rfl ?_
  refine p_s aX7i_9 rfl ?_
  refine p_s aX7i_10 rfl ?_
  refine p_put (h2 := h.set q (.inr (6, [.ref a1, .ref a2, .null, .null]))) aX7i_11 (set_in hq) rfl (Nat.le_of_ble_eq_true rfl) (List.set_set _) ?_
  refine p_s aX7i_14 rfl ?_
  refine p_s aX7i_15 rfl ?_
  refine p_put (h2 := h.set q (.inr (6, [.ref a1, .ref a2, .ref a3, .null]))) aX7i_16 (set_in hq) rfl (Nat.le_of_ble_eq_true rfl) (List.set_set _) ?_
  refine p_s aX7i_19 rfl ?_
  refine p_s aX7i_20 rfl ?_
  refine p_put (h2 := h.set q (.inr (6, [.ref a1, .ref a2, .ref a3, .ref a4]))) aX7i_22 (set_in hq) rfl (Nat.le_of_ble_eq_true rfl) (List.set_set _) ?_
  exact p_r aX7i_25 ⟨rfl, rfl, rfl, rfl⟩ (Nat.le_refl _) (Nat.le_refl _)
theorem made {h : iH} {f1 f2 f3 f4 : Nat → Int32} {n m : Nat} {x0 x7 : Value} (h10 : h[10]? = some (.inr (7, [x0, .ref 11, .ref 12, .ref 13, .ref 14, .int (nI n), .int (nI m), x7]))) (h11 : h[11]? = some (.inl (.int, 400, .inl f1))) (h12 : h[12]? = some (.inl (.int, 400, .inl f2))) (h13 : h[13]? = some (.inl (.int, 12, .inl f3))) (h14 : h[14]? = some (.inl (.int, 12, .inl f4))) (hn : n ≤ 400) (hm : m ≤ 12) (hb : h.length + 5 < i_SB) :
    ∃ g1 g2 g3 g4 : Nat → Int32, (∀ j, j < n → g1 j = f1 j) ∧ (∀ j, j < n → g2 j = f2 j) ∧ (∀ j, j < m → g3 j = f3 j) ∧ (∀ j, j < m → g4 j = f4 j) ∧ i_X 2 63 [.ref 10] h 5 1000 (some (.ref h.length)) (h ++ [.inr (6, [.ref (h.length + 1), .ref (h.length + 2), .ref (h.length + 3), .ref (h.length + 4)]), .inl (.int, n, .inl g1), .inl (.int, n, .inl g2), .inl (.int, m, .inl g3), .inl (.int, m, .inl g4)]) := by
  obtain ⟨h1, e1⟩ : ∃ h1, h1 = h ++ [(.inr (6, [.null, .null, .null, .null]) : iC)] := ⟨_, rfl⟩
  have l1 : h1.length = h.length + 1 := by rw [e1, List.length_append]; rfl
  have k1 : ∀ {i : Nat} {x : iC}, h[i]? = some x → h1[i]? = some x := fun hx => by rw [e1]; exact app_l hx
  obtain ⟨g1, a1, b1⟩ := copyOf (k := n) (k1 h11) hn (by omega) (by omega)
  obtain ⟨h2, e2⟩ : ∃ h2, h2 = h1 ++ [(.inl (.int, n, .inl g1) : iC)] := ⟨_, rfl⟩
  have l2 : h2.length = h.length + 2 := by rw [e2, List.length_append, l1]; rfl
  have k2 : ∀ {i : Nat} {x : iC}, h[i]? = some x → h2[i]? = some x := fun hx => by rw [e2]; exact app_l (k1 hx)
  rw [← e2, l1] at b1
  obtain ⟨g2, a2, b2⟩ := copyOf (k := n) (k2 h12) hn (by omega) (by omega)
  obtain ⟨h3, e3⟩ : ∃ h3, h3 = h2 ++ [(.inl (.int, n, .inl g2) : iC)] := ⟨_, rfl⟩
  have l3 : h3.length = h.length + 3 := by rw [e3, List.length_append, l2]; rfl
  have k3 : ∀ {i : Nat} {x : iC}, h[i]? = some x → h3[i]? = some x := fun hx => by rw [e3]; exact app_l (k2 hx)
  rw [← e3, l2] at b2
  obtain ⟨g3, a3, b3⟩ := copyOf (k := m) (k3 h13) hm (by omega) (by omega)
  obtain ⟨h4, e4⟩ : ∃ h4, h4 = h3 ++ [(.inl (.int, m, .inl g3) : iC)] := ⟨_, rfl⟩
  have l4 : h4.length = h.length + 4 := by rw [e4, List.length_append, l3]; rfl
  have k4 : ∀ {i : Nat} {x : iC}, h[i]? = some x → h4[i]? = some x := fun hx => by rw [e4]; exact app_l (k3 hx)
  rw [← e4, l3] at b3
  obtain ⟨g4, a4, b4⟩ := copyOf (k := m) (k4 h14) hm (by omega) (by omega)
  obtain ⟨h5, e5⟩ : ∃ h5, h5 = h4 ++ [(.inl (.int, m, .inl g4) : iC)] := ⟨_, rfl⟩
  rw [← e5, l4] at b4
  have e5' : h5 = h ++ [.inr (6, [.null, .null, .null, .null]), .inl (.int, n, .inl g1), .inl (.int, n, .inl g2), .inl (.int, m, .inl g3), .inl (.int, m, .inl g4)] := by
    rw [e5, e4, e3, e2, e1]
    simp
  have hq5 : h5[h.length]? = some (.inr (6, [.null, .null, .null, .null])) := by
    rw [e5', List.getElem?_append_right (Nat.le_refl _), Nat.sub_self]
    rfl
  have hs5 : h5.set h.length (.inr (6, [.ref (h.length + 1), .ref (h.length + 2), .ref (h.length + 3), .ref (h.length + 4)])) = h ++ [.inr (6, [.ref (h.length + 1), .ref (h.length + 2), .ref (h.length + 3), .ref (h.length + 4)]), .inl (.int, n, .inl g1), .inl (.int, n, .inl g2), .inl (.int, m, .inl g3), .inl (.int, m, .inl g4)] := by
    rw [e5', List.set_append_right _ _ (Nat.le_refl _), Nat.sub_self]
    rfl
  have b5 := ruleInit (a1 := h.length + 1) (a2 := h.length + 2) (a3 := h.length + 3) (a4 := h.length + 4) hq5
  rw [hs5] at b5
  refine ⟨g1, g2, g3, g4, a1, a2, a3, a4, p_X (M := mX8_made) (loc := [.ref 10]) rfl (Nat.le_of_ble_eq_true rfl) rfl ?_⟩
  refine p_n (pc2 := 3) (loc2 := [.ref 10]) (st2 := [.ref h.length]) (h2 := h1) (dc := 1) (ds := 4) aX8m_0 (by simp only [i_nw]; rw [if_pos (by omega), e1]; rfl) (by omega) (by omega) ?_
  refine p_s (st2 := [.ref h.length, .ref h.length]) aX8m_3 rfl ?_
  refine p_s aX8m_4 rfl ?_
  refine p_get aX8m_5 (k1 h10) rfl ?_
  refine p_s aX8m_8 rfl ?_
  refine p_get aX8m_9 (k1 h10) rfl ?_
  refine p_c (As := [.ref 11, .int (nI n)]) (rest := [.ref h.length, .ref h.length]) (r := some (.ref (h.length + 1))) aX8m_12 ⟨Nat.le_of_ble_eq_true rfl, rfl, rfl⟩ b1 (by omega) (by omega) ?_
  refine p_s aX8m_15 rfl ?_
  refine p_get aX8m_16 (k2 h10) rfl ?_
  refine p_s aX8m_19 rfl ?_
  refine p_get aX8m_20 (k2 h10) rfl ?_
  refine p_c (As := [.ref 12, .int (nI n)]) (rest := [.ref (h.length + 1), .ref h.length, .ref h.length]) (r := some (.ref (h.length + 2))) aX8m_23 ⟨Nat.le_of_ble_eq_true rfl, rfl, rfl⟩ b2 (by omega) (by omega) ?_
  refine p_s aX8m_26 rfl ?_
  refine p_get aX8m_27 (k3 h10) rfl ?_
  refine p_s aX8m_30 rfl ?_
  refine p_get aX8m_31 (k3 h10) rfl ?_
  refine p_c (As := [.ref 13, .int (nI m)]) (rest := [.ref (h.length + 2), .ref (h.length + 1), .ref h.length, .ref h.length]) (r := some (.ref (h.length + 3))) aX8m_34 ⟨Nat.le_of_ble_eq_true rfl, rfl, rfl⟩ b3 (by omega) (by omega) ?_
  refine p_s aX8m_37 rfl ?_
  refine p_get aX8m_38 (k4 h10) rfl ?_
  refine p_s aX8m_41 rfl ?_
  refine p_get aX8m_42 (k4 h10) rfl ?_
  refine p_c (As := [.ref 14, .int (nI m)]) (rest := [.ref (h.length + 3), .ref (h.length + 2), .ref (h.length + 1), .ref h.length, .ref h.length]) (r := some (.ref (h.length + 4))) aX8m_45 ⟨Nat.le_of_ble_eq_true rfl, rfl, rfl⟩ b4 (by omega) (by omega) ?_
  refine p_c (As := [.ref h.length, .ref (h.length + 1), .ref (h.length + 2), .ref (h.length + 3), .ref (h.length + 4)]) (rest := [.ref h.length]) (r := none) aX8m_48 ⟨Nat.le_of_ble_eq_true rfl, h.length, [.ref (h.length + 1), .ref (h.length + 2), .ref (h.length + 3), .ref (h.length + 4)], rfl, rfl, rfl⟩ b5 (by omega) (by omega) ?_
  exact p_r aX8m_51 ⟨.ref h.length, .object "SpoonCourt$Rule", rfl, rfl, rfl, Or.inr ⟨_, rfl⟩, rfl, rfl⟩ (by omega) (by omega)
