/-! ===== the constructors ===== -/
section PE2
variable {d : Nat} {M : iM} {mc ms : Nat} {v : Option Value} {h' H E E2 : iH} {pc : Nat} {loc st : List Value} {c s : Nat} {l a b w : Nat} {z : Int}
theorem p_newL {n r : Nat} (hat : i_at M.2.2.2.2.2 pc = some (.newarray .long, l, a, b, w, z)) (hn : n ≤ 60000) (hr : r = H.length + E.length) (hb : r < i_SB) (hc : c + 1 ≤ mc) (hs : s + n ≤ ms) (hE : E ++ [(.inl (.long, n, .inr (.inl (fun _ => 0))) : iC)] = E2) (kk : p_R d M mc ms v h' (pc + 2) loc (.ref r :: st) (H ++ E2) (c + 1) (s + n)) : p_R d M mc ms v h' pc loc (.int (nI n) :: st) (H ++ E) c s := by
  subst hE
  have hl : (H ++ E).length = r := by rw [List.length_append, hr]
  have hcl : (nI n).toNatClampNeg = n := nI_clamp (by omega)
  refine p_n (pc2 := pc + 2) (loc2 := loc) (st2 := .ref r :: st) (h2 := H ++ (E ++ [(.inl (.long, n, .inr (.inl (fun _ => 0))) : iC)])) (dc := 1) (ds := n) hat ?_ hc hs kk
  simp only [i_nw, hcl, hl]
  rw [if_pos ⟨hb, nI_pos (by omega), hn⟩, List.append_assoc]
theorem p_newB {n r : Nat} (hat : i_at M.2.2.2.2.2 pc = some (.newarray .byte, l, a, b, w, z)) (hn : n ≤ 60000) (hr : r = H.length + E.length) (hb : r < i_SB) (hc : c + 1 ≤ mc) (hs : s + n ≤ ms) (hE : E ++ [(.inl (.byte, n, .inl (fun _ => 0)) : iC)] = E2) (kk : p_R d M mc ms v h' (pc + 2) loc (.ref r :: st) (H ++ E2) (c + 1) (s + n)) : p_R d M mc ms v h' pc loc (.int (nI n) :: st) (H ++ E) c s := by
  subst hE
  have hl : (H ++ E).length = r := by rw [List.length_append, hr]
  have hcl : (nI n).toNatClampNeg = n := nI_clamp (by omega)
  refine p_n (pc2 := pc + 2) (loc2 := loc) (st2 := .ref r :: st) (h2 := H ++ (E ++ [(.inl (.byte, n, .inl (fun _ => 0)) : iC)])) (dc := 1) (ds := n) hat ?_ hc hs kk
  simp only [i_nw, hcl, hl]
  rw [if_pos ⟨hb, nI_pos (by omega), hn⟩, List.append_assoc]
theorem p_newZ {n r : Nat} (hat : i_at M.2.2.2.2.2 pc = some (.newarray .boolean, l, a, b, w, z)) (hn : n ≤ 60000) (hr : r = H.length + E.length) (hb : r < i_SB) (hc : c + 1 ≤ mc) (hs : s + n ≤ ms) (hE : E ++ [(.inl (.boolean, n, .inl (fun _ => 0)) : iC)] = E2) (kk : p_R d M mc ms v h' (pc + 2) loc (.ref r :: st) (H ++ E2) (c + 1) (s + n)) : p_R d M mc ms v h' pc loc (.int (nI n) :: st) (H ++ E) c s := by
  subst hE
  have hl : (H ++ E).length = r := by rw [List.length_append, hr]
  have hcl : (nI n).toNatClampNeg = n := nI_clamp (by omega)
  refine p_n (pc2 := pc + 2) (loc2 := loc) (st2 := .ref r :: st) (h2 := H ++ (E ++ [(.inl (.boolean, n, .inl (fun _ => 0)) : iC)])) (dc := 1) (ds := n) hat ?_ hc hs kk
  simp only [i_nw, hcl, hl]
  rw [if_pos ⟨hb, nI_pos (by omega), hn⟩, List.append_assoc]
theorem p_newQ6 {n r : Nat} {k0 : Nat} (hat : i_at M.2.2.2.2.2 pc = some (.anewarray k0, l, 6, b, w, z)) (hn : n ≤ 60000) (hr : r = H.length + E.length) (hb : r < i_SB) (hc : c + 1 ≤ mc) (hs : s + n ≤ ms) (hE : E ++ [(.inl (.object RX7, n, .inr (.inr (.inr (.inr (fun _ => none))))) : iC)] = E2) (kk : p_R d M mc ms v h' (pc + 3) loc (.ref r :: st) (H ++ E2) (c + 1) (s + n)) : p_R d M mc ms v h' pc loc (.int (nI n) :: st) (H ++ E) c s := by
  subst hE
  have hl : (H ++ E).length = r := by rw [List.length_append, hr]
  have hcl : (nI n).toNatClampNeg = n := nI_clamp (by omega)
  refine p_n (pc2 := pc + 3) (loc2 := loc) (st2 := .ref r :: st) (h2 := H ++ (E ++ [(.inl (.object RX7, n, .inr (.inr (.inr (.inr (fun _ => none))))) : iC)])) (dc := 1) (ds := n) hat ?_ hc hs kk
  simp only [i_nw, hcl, hl]
  rw [if_pos ⟨hb, nI_pos (by omega), hn⟩, List.append_assoc]
theorem p_newQ9 {n r : Nat} {k0 : Nat} (hat : i_at M.2.2.2.2.2 pc = some (.anewarray k0, l, 9, b, w, z)) (hn : n ≤ 60000) (hr : r = H.length + E.length) (hb : r < i_SB) (hc : c + 1 ≤ mc) (hs : s + n ≤ ms) (hE : E ++ [(.inl (.object RX10, n, .inr (.inr (.inr (.inr (fun _ => none))))) : iC)] = E2) (kk : p_R d M mc ms v h' (pc + 3) loc (.ref r :: st) (H ++ E2) (c + 1) (s + n)) : p_R d M mc ms v h' pc loc (.int (nI n) :: st) (H ++ E) c s := by
  subst hE
  have hl : (H ++ E).length = r := by rw [List.length_append, hr]
  have hcl : (nI n).toNatClampNeg = n := nI_clamp (by omega)
  refine p_n (pc2 := pc + 3) (loc2 := loc) (st2 := .ref r :: st) (h2 := H ++ (E ++ [(.inl (.object RX10, n, .inr (.inr (.inr (.inr (fun _ => none))))) : iC)])) (dc := 1) (ds := n) hat ?_ hc hs kk
  simp only [i_nw, hcl, hl]
  rw [if_pos ⟨hb, nI_pos (by omega), hn⟩, List.append_assoc]
theorem p_newM {n k r i0 : Nat} (hat : i_at M.2.2.2.2.2 pc = some (.multianewarray i0 2, l, a, b, w, z)) (hn : n ≤ 60000) (hk : k ≤ 60000) (hr : r = H.length + E.length) (hb : r + 1 + n ≤ i_SB) (hc : c + (1 + n) ≤ mc) (hs : s + (n + n * k) ≤ ms) (hE : E ++ ([(.inl (.array .int, n, .inr (.inr (.inr (.inr (fun i => if i < n then some (r + 1 + i) else none))))) : iC)] ++ List.replicate n (.inl (.int, k, .inl (fun _ => 0)))) = E2) (kk : p_R d M mc ms v h' (pc + 4) loc (.ref r :: st) (H ++ E2) (c + (1 + n)) (s + (n + n * k))) : p_R d M mc ms v h' pc loc (.int (nI k) :: .int (nI n) :: st) (H ++ E) c s := by
  subst hE
  have hl : (H ++ E).length = r := by rw [List.length_append, hr]
  have hcl : (nI n).toNatClampNeg = n := nI_clamp (by omega)
  have hck : (nI k).toNatClampNeg = k := nI_clamp (by omega)
  refine p_n (pc2 := pc + 4) (loc2 := loc) (st2 := .ref r :: st) (h2 := H ++ (E ++ ([(.inl (.array .int, n, .inr (.inr (.inr (.inr (fun i => if i < n then some (r + 1 + i) else none))))) : iC)] ++ List.replicate n (.inl (.int, k, .inl (fun _ => 0)))))) (dc := 1 + n) (ds := n + n * k) hat ?_ hc hs kk
  simp only [i_nw, hcl, hck, hl]
  rw [if_pos ⟨hb, nI_pos (by omega), nI_pos (by omega), hn, hk⟩, List.append_assoc, List.append_assoc]
theorem p_ist {k i n : Nat} {j x : Int32} {f : Nat → Int32} (hat : i_at M.2.2.2.2.2 pc = some (.iastore, l, a, b, w, z)) (hi : i = H.length + k) (hk : E[k]? = some (.inl (.int, n, .inl f))) (hj : i_ok j n) (hE : E.set k (.inl (.int, n, .inl (upd f j.toNatClampNeg x))) = E2) (kk : p_R d M mc ms v h' (pc + 1) loc st (H ++ E2) c s) : p_R d M mc ms v h' pc loc (.int x :: .int j :: .ref i :: st) (H ++ E) c s := by
  subst hE
  refine p_s hat (by
    show i_ast pc loc (.int x :: .int j :: .ref i :: st) (H ++ E) i_isi = _
    unfold i_ast
    dsimp only
    rw [E_at hi hk]
    dsimp only
    rw [if_pos ⟨rfl, hj.1, hj.2⟩, E_set hi]
    rfl) kk
end PE2
theorem aX9i_0 : i_at mX9_init.2.2.2.2.2 0 = some (.aload_n 0, 1, 0, 0, 0, 0) := by decide +kernel
theorem aX9i_1 : i_at mX9_init.2.2.2.2.2 1 = some (.invokespecial 3, 3, 1000, 0, 125, 0) := by decide +kernel
theorem aX9i_4 : i_at mX9_init.2.2.2.2.2 4 = some (.aload_n 0, 1, 0, 0, 0, 0) := by decide +kernel
theorem aX9i_5 : i_at mX9_init.2.2.2.2.2 5 = some (.sipush 400, 3, 0, 0, 0, 0) := by decide +kernel
theorem aX9i_8 : i_at mX9_init.2.2.2.2.2 8 = some (.newarray .int, 2, 0, 0, 146, 0) := by decide +kernel
theorem aX9i_10 : i_at mX9_init.2.2.2.2.2 10 = some (.putfield 9, 3, 8, 0, 126, 0) := by decide +kernel
theorem aX9i_13 : i_at mX9_init.2.2.2.2.2 13 = some (.return_, 1, 0, 0, 0, 0) := by decide +kernel
def tapeK (q : Nat) : iH := [.inr (8, [.ref (q + 1), .int 0, .int 0, .int 0]), .inl (.int, 400, .inl (fun _ => 0))]
theorem tapeInit {H : iH} {q : Nat}  (hq : H.length = q) (hb : q + 130 < i_SB) : i_X 1 74 [.ref q] (H ++ [.inr (8, [.null, .int 0, .int 0, .int 0])]) 1 400 none (H ++ tapeK q) := by
  refine p_X (M := mX9_init) (loc := [.ref q]) rfl (Nat.le_of_ble_eq_true rfl) rfl ?_
  refine p_s aX9i_0 rfl ?_
  refine p_s (pc2 := 4) (st2 := []) aX9i_1 rfl ?_
  refine p_s aX9i_4 rfl ?_
  refine p_s (st2 := .int (nI 400) :: _) aX9i_5 rfl ?_
  refine p_newA (n := 400) (r := q + 1) aX9i_8 (by omega) (by rw [hq]; rfl) (by omega) (by omega) (by omega) rfl ?_
  refine p_putE (k := 0) aX9i_10 hq.symm rfl rfl (Nat.le_of_ble_eq_true rfl) rfl ?_
  exact p_r aX9i_13 ⟨rfl, rfl, rfl, rfl⟩ (Nat.le_refl _) (Nat.le_refl _)
theorem tapeInit' {H E : iH} {r : Nat}  (hr : r = H.length + E.length) (hb : r + 130 < i_SB) : i_X 1 74 [.ref r] (H ++ (E ++ [.inr (8, i_dfl 8)])) 1 400 none (H ++ (E ++ tapeK r)) := by
  have := tapeInit (H := H ++ E) (q := r)  (by rw [List.length_append, hr]) hb
  rw [List.append_assoc, List.append_assoc] at this
  exact this
theorem aX1i_0 : i_at mX1_init.2.2.2.2.2 0 = some (.aload_n 0, 1, 0, 0, 0, 0) := by decide +kernel
theorem aX1i_1 : i_at mX1_init.2.2.2.2.2 1 = some (.invokespecial 3, 3, 1000, 0, 220, 0) := by decide +kernel
theorem aX1i_4 : i_at mX1_init.2.2.2.2.2 4 = some (.aload_n 0, 1, 0, 0, 0, 0) := by decide +kernel
theorem aX1i_5 : i_at mX1_init.2.2.2.2.2 5 = some (.aload_n 1, 1, 0, 0, 0, 0) := by decide +kernel
theorem aX1i_6 : i_at mX1_init.2.2.2.2.2 6 = some (.putfield 9, 3, 1, 0, 221, 0) := by decide +kernel
theorem aX1i_9 : i_at mX1_init.2.2.2.2.2 9 = some (.aload_n 0, 1, 0, 0, 0, 0) := by decide +kernel
theorem aX1i_10 : i_at mX1_init.2.2.2.2.2 10 = some (.aload_n 2, 1, 0, 0, 0, 0) := by decide +kernel
theorem aX1i_11 : i_at mX1_init.2.2.2.2.2 11 = some (.putfield 15, 3, 1, 1, 222, 0) := by decide +kernel
theorem aX1i_14 : i_at mX1_init.2.2.2.2.2 14 = some (.return_, 1, 0, 0, 0, 0) := by decide +kernel
def crdK (q arg1 arg2 : Nat) : iH := [.inr (1, [.ref arg1, .ref arg2])]
theorem crdInit {H : iH} {q : Nat} {arg1 : Nat} {arg2 : Nat} (hq : H.length = q) (hb : q + 130 < i_SB) : i_X 1 5 [.ref q, .ref arg1, .ref arg2] (H ++ [.inr (1, [.null, .null])]) 0 0 none (H ++ crdK q arg1 arg2) := by
  refine p_X (M := mX1_init) (loc := [.ref q, .ref arg1, .ref arg2]) rfl (Nat.le_of_ble_eq_true rfl) rfl ?_
  refine p_s aX1i_0 rfl ?_
  refine p_s (pc2 := 4) (st2 := []) aX1i_1 rfl ?_
  refine p_s aX1i_4 rfl ?_
  refine p_s aX1i_5 rfl ?_
  refine p_putE (k := 0) aX1i_6 hq.symm rfl rfl (Nat.le_of_ble_eq_true rfl) rfl ?_
  refine p_s aX1i_9 rfl ?_
  refine p_s aX1i_10 rfl ?_
  refine p_putE (k := 0) aX1i_11 hq.symm rfl rfl (Nat.le_of_ble_eq_true rfl) rfl ?_
  exact p_r aX1i_14 ⟨rfl, rfl, rfl, rfl⟩ (Nat.le_refl _) (Nat.le_refl _)
theorem crdInit' {H E : iH} {r : Nat} {arg1 : Nat} {arg2 : Nat} (hr : r = H.length + E.length) (hb : r + 130 < i_SB) : i_X 1 5 [.ref r, .ref arg1, .ref arg2] (H ++ (E ++ [.inr (1, i_dfl 1)])) 0 0 none (H ++ (E ++ crdK r arg1 arg2)) := by
  have := crdInit (H := H ++ E) (q := r) (arg1 := arg1) (arg2 := arg2) (by rw [List.length_append, hr]) hb
  rw [List.append_assoc, List.append_assoc] at this
  exact this
theorem aX8i_0 : i_at mX8_init.2.2.2.2.2 0 = some (.aload_n 0, 1, 0, 0, 0, 0) := by decide +kernel
theorem aX8i_1 : i_at mX8_init.2.2.2.2.2 1 = some (.invokespecial 3, 3, 1000, 0, 233, 0) := by decide +kernel
theorem aX8i_4 : i_at mX8_init.2.2.2.2.2 4 = some (.aload_n 0, 1, 0, 0, 0, 0) := by decide +kernel
theorem aX8i_5 : i_at mX8_init.2.2.2.2.2 5 = some (.sipush 400, 3, 0, 0, 0, 0) := by decide +kernel
theorem aX8i_8 : i_at mX8_init.2.2.2.2.2 8 = some (.newarray .int, 2, 0, 0, 146, 0) := by decide +kernel
theorem aX8i_10 : i_at mX8_init.2.2.2.2.2 10 = some (.putfield 9, 3, 7, 1, 235, 0) := by decide +kernel
theorem aX8i_13 : i_at mX8_init.2.2.2.2.2 13 = some (.aload_n 0, 1, 0, 0, 0, 0) := by decide +kernel
theorem aX8i_14 : i_at mX8_init.2.2.2.2.2 14 = some (.sipush 400, 3, 0, 0, 0, 0) := by decide +kernel
theorem aX8i_17 : i_at mX8_init.2.2.2.2.2 17 = some (.newarray .int, 2, 0, 0, 146, 0) := by decide +kernel
theorem aX8i_19 : i_at mX8_init.2.2.2.2.2 19 = some (.putfield 15, 3, 7, 2, 236, 0) := by decide +kernel
theorem aX8i_22 : i_at mX8_init.2.2.2.2.2 22 = some (.aload_n 0, 1, 0, 0, 0, 0) := by decide +kernel
theorem aX8i_23 : i_at mX8_init.2.2.2.2.2 23 = some (.bipush 12, 2, 0, 0, 0, 0) := by decide +kernel
theorem aX8i_25 : i_at mX8_init.2.2.2.2.2 25 = some (.newarray .int, 2, 0, 0, 146, 0) := by decide +kernel
theorem aX8i_27 : i_at mX8_init.2.2.2.2.2 27 = some (.putfield 18, 3, 7, 3, 237, 0) := by decide +kernel
theorem aX8i_30 : i_at mX8_init.2.2.2.2.2 30 = some (.aload_n 0, 1, 0, 0, 0, 0) := by decide +kernel
theorem aX8i_31 : i_at mX8_init.2.2.2.2.2 31 = some (.bipush 12, 2, 0, 0, 0, 0) := by decide +kernel
theorem aX8i_33 : i_at mX8_init.2.2.2.2.2 33 = some (.newarray .int, 2, 0, 0, 146, 0) := by decide +kernel
theorem aX8i_35 : i_at mX8_init.2.2.2.2.2 35 = some (.putfield 21, 3, 7, 4, 238, 0) := by decide +kernel
theorem aX8i_38 : i_at mX8_init.2.2.2.2.2 38 = some (.aload_n 0, 1, 0, 0, 0, 0) := by decide +kernel
theorem aX8i_39 : i_at mX8_init.2.2.2.2.2 39 = some (.aload_n 1, 1, 0, 0, 0, 0) := by decide +kernel
theorem aX8i_40 : i_at mX8_init.2.2.2.2.2 40 = some (.putfield 24, 3, 7, 0, 234, 0) := by decide +kernel
theorem aX8i_43 : i_at mX8_init.2.2.2.2.2 43 = some (.return_, 1, 0, 0, 0, 0) := by decide +kernel
def rrdK (q arg1 : Nat) : iH := [.inr (7, [.ref arg1, .ref (q + 1), .ref (q + 2), .ref (q + 3), .ref (q + 4), .int 0, .int 0, .int 0]), .inl (.int, 400, .inl (fun _ => 0)), .inl (.int, 400, .inl (fun _ => 0)), .inl (.int, 12, .inl (fun _ => 0)), .inl (.int, 12, .inl (fun _ => 0))]
theorem rrdInit {H : iH} {q : Nat} {arg1 : Nat} (hq : H.length = q) (hb : q + 130 < i_SB) : i_X 1 61 [.ref q, .ref arg1] (H ++ [.inr (7, [.null, .null, .null, .null, .null, .int 0, .int 0, .int 0])]) 4 824 none (H ++ rrdK q arg1) := by
  refine p_X (M := mX8_init) (loc := [.ref q, .ref arg1]) rfl (Nat.le_of_ble_eq_true rfl) rfl ?_
  refine p_s aX8i_0 rfl ?_
  refine p_s (pc2 := 4) (st2 := []) aX8i_1 rfl ?_
  refine p_s aX8i_4 rfl ?_
  refine p_s (st2 := .int (nI 400) :: _) aX8i_5 rfl ?_
  refine p_newA (n := 400) (r := q + 1) aX8i_8 (by omega) (by rw [hq]; rfl) (by omega) (by omega) (by omega) rfl ?_
  refine p_putE (k := 0) aX8i_10 hq.symm rfl rfl (Nat.le_of_ble_eq_true rfl) rfl ?_
  refine p_s aX8i_13 rfl ?_
  refine p_s (st2 := .int (nI 400) :: _) aX8i_14 rfl ?_
  refine p_newA (n := 400) (r := q + 2) aX8i_17 (by omega) (by rw [hq]; rfl) (by omega) (by omega) (by omega) rfl ?_
  refine p_putE (k := 0) aX8i_19 hq.symm rfl rfl (Nat.le_of_ble_eq_true rfl) rfl ?_
  refine p_s aX8i_22 rfl ?_
  refine p_s (st2 := .int (nI 12) :: _) aX8i_23 rfl ?_
  refine p_newA (n := 12) (r := q + 3) aX8i_25 (by omega) (by rw [hq]; rfl) (by omega) (by omega) (by omega) rfl ?_
  refine p_putE (k := 0) aX8i_27 hq.symm rfl rfl (Nat.le_of_ble_eq_true rfl) rfl ?_
  refine p_s aX8i_30 rfl ?_
  refine p_s (st2 := .int (nI 12) :: _) aX8i_31 rfl ?_
  refine p_newA (n := 12) (r := q + 4) aX8i_33 (by omega) (by rw [hq]; rfl) (by omega) (by omega) (by omega) rfl ?_
  refine p_putE (k := 0) aX8i_35 hq.symm rfl rfl (Nat.le_of_ble_eq_true rfl) rfl ?_
  refine p_s aX8i_38 rfl ?_
  refine p_s aX8i_39 rfl ?_
  refine p_putE (k := 0) aX8i_40 hq.symm rfl rfl (Nat.le_of_ble_eq_true rfl) rfl ?_
  exact p_r aX8i_43 ⟨rfl, rfl, rfl, rfl⟩ (Nat.le_refl _) (Nat.le_refl _)
theorem rrdInit' {H E : iH} {r : Nat} {arg1 : Nat} (hr : r = H.length + E.length) (hb : r + 130 < i_SB) : i_X 1 61 [.ref r, .ref arg1] (H ++ (E ++ [.inr (7, i_dfl 7)])) 4 824 none (H ++ (E ++ rrdK r arg1)) := by
  have := rrdInit (H := H ++ E) (q := r) (arg1 := arg1) (by rw [List.length_append, hr]) hb
  rw [List.append_assoc, List.append_assoc] at this
  exact this
theorem aX0i_0 : i_at mX0_init.2.2.2.2.2 0 = some (.aload_n 0, 1, 0, 0, 0, 0) := by decide +kernel
theorem aX0i_1 : i_at mX0_init.2.2.2.2.2 1 = some (.invokespecial 3, 3, 1000, 0, 266, 0) := by decide +kernel
theorem aX0i_4 : i_at mX0_init.2.2.2.2.2 4 = some (.aload_n 0, 1, 0, 0, 0, 0) := by decide +kernel
theorem aX0i_5 : i_at mX0_init.2.2.2.2.2 5 = some (.bipush 12, 2, 0, 0, 0, 0) := by decide +kernel
theorem aX0i_7 : i_at mX0_init.2.2.2.2.2 7 = some (.newarray .long, 2, 0, 0, 277, 0) := by decide +kernel
theorem aX0i_9 : i_at mX0_init.2.2.2.2.2 9 = some (.putfield 11, 3, 0, 1, 268, 0) := by decide +kernel
theorem aX0i_12 : i_at mX0_init.2.2.2.2.2 12 = some (.aload_n 0, 1, 0, 0, 0, 0) := by decide +kernel
theorem aX0i_13 : i_at mX0_init.2.2.2.2.2 13 = some (.bipush 64, 2, 0, 0, 0, 0) := by decide +kernel
theorem aX0i_15 : i_at mX0_init.2.2.2.2.2 15 = some (.newarray .long, 2, 0, 0, 277, 0) := by decide +kernel
theorem aX0i_17 : i_at mX0_init.2.2.2.2.2 17 = some (.putfield 17, 3, 0, 2, 269, 0) := by decide +kernel
theorem aX0i_20 : i_at mX0_init.2.2.2.2.2 20 = some (.aload_n 0, 1, 0, 0, 0, 0) := by decide +kernel
theorem aX0i_21 : i_at mX0_init.2.2.2.2.2 21 = some (.aload_n 1, 1, 0, 0, 0, 0) := by decide +kernel
theorem aX0i_22 : i_at mX0_init.2.2.2.2.2 22 = some (.putfield 20, 3, 0, 0, 267, 0) := by decide +kernel
theorem aX0i_25 : i_at mX0_init.2.2.2.2.2 25 = some (.return_, 1, 0, 0, 0, 0) := by decide +kernel
def clwK (q arg1 : Nat) : iH := [.inr (0, [.ref arg1, .ref (q + 1), .ref (q + 2)]), .inl (.long, 12, .inr (.inl (fun _ => 0))), .inl (.long, 64, .inr (.inl (fun _ => 0)))]
theorem clwInit {H : iH} {q : Nat} {arg1 : Nat} (hq : H.length = q) (hb : q + 130 < i_SB) : i_X 1 0 [.ref q, .ref arg1] (H ++ [.inr (0, [.null, .null, .null])]) 2 76 none (H ++ clwK q arg1) := by
  refine p_X (M := mX0_init) (loc := [.ref q, .ref arg1]) rfl (Nat.le_of_ble_eq_true rfl) rfl ?_
  refine p_s aX0i_0 rfl ?_
  refine p_s (pc2 := 4) (st2 := []) aX0i_1 rfl ?_
  refine p_s aX0i_4 rfl ?_
  refine p_s (st2 := .int (nI 12) :: _) aX0i_5 rfl ?_
  refine p_newL (n := 12) (r := q + 1) aX0i_7 (by omega) (by rw [hq]; rfl) (by omega) (by omega) (by omega) rfl ?_
  refine p_putE (k := 0) aX0i_9 hq.symm rfl rfl (Nat.le_of_ble_eq_true rfl) rfl ?_
  refine p_s aX0i_12 rfl ?_
  refine p_s (st2 := .int (nI 64) :: _) aX0i_13 rfl ?_
  refine p_newL (n := 64) (r := q + 2) aX0i_15 (by omega) (by rw [hq]; rfl) (by omega) (by omega) (by omega) rfl ?_
  refine p_putE (k := 0) aX0i_17 hq.symm rfl rfl (Nat.le_of_ble_eq_true rfl) rfl ?_
  refine p_s aX0i_20 rfl ?_
  refine p_s aX0i_21 rfl ?_
  refine p_putE (k := 0) aX0i_22 hq.symm rfl rfl (Nat.le_of_ble_eq_true rfl) rfl ?_
  exact p_r aX0i_25 ⟨rfl, rfl, rfl, rfl⟩ (Nat.le_refl _) (Nat.le_refl _)
theorem clwInit' {H E : iH} {r : Nat} {arg1 : Nat} (hr : r = H.length + E.length) (hb : r + 130 < i_SB) : i_X 1 0 [.ref r, .ref arg1] (H ++ (E ++ [.inr (0, i_dfl 0)])) 2 76 none (H ++ (E ++ clwK r arg1)) := by
  have := clwInit (H := H ++ E) (q := r) (arg1 := arg1) (by rw [List.length_append, hr]) hb
  rw [List.append_assoc, List.append_assoc] at this
  exact this
theorem aX5i_0 : i_at mX5_init.2.2.2.2.2 0 = some (.aload_n 0, 1, 0, 0, 0, 0) := by decide +kernel
theorem aX5i_1 : i_at mX5_init.2.2.2.2.2 1 = some (.invokespecial 3, 3, 1000, 0, 397, 0) := by decide +kernel
theorem aX5i_4 : i_at mX5_init.2.2.2.2.2 4 = some (.aload_n 0, 1, 0, 0, 0, 0) := by decide +kernel
theorem aX5i_5 : i_at mX5_init.2.2.2.2.2 5 = some (.new 9, 3, 3, 0, 398, 0) := by decide +kernel
theorem aX5i_8 : i_at mX5_init.2.2.2.2.2 8 = some (.dup, 1, 0, 0, 0, 0) := by decide +kernel
theorem aX5i_9 : i_at mX5_init.2.2.2.2.2 9 = some (.invokespecial 11, 3, 25, 0, 4, 1) := by decide +kernel
theorem aX5i_12 : i_at mX5_init.2.2.2.2.2 12 = some (.putfield 12, 3, 4, 2, 402, 0) := by decide +kernel
theorem aX5i_15 : i_at mX5_init.2.2.2.2.2 15 = some (.aload_n 0, 1, 0, 0, 0, 0) := by decide +kernel
theorem aX5i_16 : i_at mX5_init.2.2.2.2.2 16 = some (.bipush 66, 2, 0, 0, 0, 0) := by decide +kernel
theorem aX5i_18 : i_at mX5_init.2.2.2.2.2 18 = some (.newarray .int, 2, 0, 0, 146, 0) := by decide +kernel
theorem aX5i_20 : i_at mX5_init.2.2.2.2.2 20 = some (.putfield 18, 3, 4, 3, 403, 0) := by decide +kernel
theorem aX5i_23 : i_at mX5_init.2.2.2.2.2 23 = some (.aload_n 0, 1, 0, 0, 0, 0) := by decide +kernel
theorem aX5i_24 : i_at mX5_init.2.2.2.2.2 24 = some (.bipush 25, 2, 0, 0, 0, 0) := by decide +kernel
theorem aX5i_26 : i_at mX5_init.2.2.2.2.2 26 = some (.newarray .int, 2, 0, 0, 146, 0) := by decide +kernel
theorem aX5i_28 : i_at mX5_init.2.2.2.2.2 28 = some (.putfield 22, 3, 4, 4, 404, 0) := by decide +kernel
theorem aX5i_31 : i_at mX5_init.2.2.2.2.2 31 = some (.aload_n 0, 1, 0, 0, 0, 0) := by decide +kernel
theorem aX5i_32 : i_at mX5_init.2.2.2.2.2 32 = some (.bipush 25, 2, 0, 0, 0, 0) := by decide +kernel
theorem aX5i_34 : i_at mX5_init.2.2.2.2.2 34 = some (.newarray .int, 2, 0, 0, 146, 0) := by decide +kernel
theorem aX5i_36 : i_at mX5_init.2.2.2.2.2 36 = some (.putfield 25, 3, 4, 5, 405, 0) := by decide +kernel
theorem aX5i_39 : i_at mX5_init.2.2.2.2.2 39 = some (.aload_n 0, 1, 0, 0, 0, 0) := by decide +kernel
theorem aX5i_40 : i_at mX5_init.2.2.2.2.2 40 = some (.aload_n 1, 1, 0, 0, 0, 0) := by decide +kernel
theorem aX5i_41 : i_at mX5_init.2.2.2.2.2 41 = some (.putfield 28, 3, 4, 0, 400, 0) := by decide +kernel
theorem aX5i_44 : i_at mX5_init.2.2.2.2.2 44 = some (.aload_n 0, 1, 0, 0, 0, 0) := by decide +kernel
theorem aX5i_45 : i_at mX5_init.2.2.2.2.2 45 = some (.aload_n 2, 1, 0, 0, 0, 0) := by decide +kernel
theorem aX5i_46 : i_at mX5_init.2.2.2.2.2 46 = some (.putfield 32, 3, 4, 1, 401, 0) := by decide +kernel
theorem aX5i_49 : i_at mX5_init.2.2.2.2.2 49 = some (.return_, 1, 0, 0, 0, 0) := by decide +kernel
def oraK (q arg1 arg2 : Nat) : iH := .inr (4, [.ref arg1, .ref arg2, .ref (q + 1), .ref (q + 6), .ref (q + 7), .ref (q + 8)]) :: (lifeK (q + 1) ++ [.inl (.int, 66, .inl (fun _ => 0)), .inl (.int, 25, .inl (fun _ => 0)), .inl (.int, 25, .inl (fun _ => 0))])
theorem oraInit {H : iH} {q : Nat} {arg1 : Nat} {arg2 : Nat} (hq : H.length = q) (hb : q + 130 < i_SB) : i_X 2 32 [.ref q, .ref arg1, .ref arg2] (H ++ [.inr (4, [.null, .null, .null, .null, .null, .null])]) 8 148 none (H ++ oraK q arg1 arg2) := by
  refine p_X (M := mX5_init) (loc := [.ref q, .ref arg1, .ref arg2]) rfl (Nat.le_of_ble_eq_true rfl) rfl ?_
  refine p_s aX5i_0 rfl ?_
  refine p_s (pc2 := 4) (st2 := []) aX5i_1 rfl ?_
  refine p_s aX5i_4 rfl ?_
  refine p_newO (r := q + 1) (m := 8) aX5i_5 (by rw [hq]; rfl) (by omega) rfl (by omega) (by omega) rfl ?_
  refine p_s (st2 := .ref (q + 1) :: .ref (q + 1) :: _) aX5i_8 rfl ?_
  refine p_c (As := [.ref (q + 1)]) (rest := [.ref (q + 1), .ref q]) (r := none) aX5i_9 ⟨Nat.le_of_ble_eq_true rfl, _, [], rfl, rfl, rfl⟩ (i_X_mono (by omega) (lifeInit' (by rw [hq]; rfl) (by omega))) (by omega) (by omega) ?_
  refine p_putE (k := 0) aX5i_12 hq.symm rfl rfl (Nat.le_of_ble_eq_true rfl) rfl ?_
  refine p_s aX5i_15 rfl ?_
  refine p_s (st2 := .int (nI 66) :: _) aX5i_16 rfl ?_
  refine p_newA (n := 66) (r := q + 6) aX5i_18 (by omega) (by rw [hq]; rfl) (by omega) (by omega) (by omega) rfl ?_
  refine p_putE (k := 0) aX5i_20 hq.symm rfl rfl (Nat.le_of_ble_eq_true rfl) rfl ?_
  refine p_s aX5i_23 rfl ?_
  refine p_s (st2 := .int (nI 25) :: _) aX5i_24 rfl ?_
  refine p_newA (n := 25) (r := q + 7) aX5i_26 (by omega) (by rw [hq]; rfl) (by omega) (by omega) (by omega) rfl ?_
  refine p_putE (k := 0) aX5i_28 hq.symm rfl rfl (Nat.le_of_ble_eq_true rfl) rfl ?_
  refine p_s aX5i_31 rfl ?_
  refine p_s (st2 := .int (nI 25) :: _) aX5i_32 rfl ?_
  refine p_newA (n := 25) (r := q + 8) aX5i_34 (by omega) (by rw [hq]; rfl) (by omega) (by omega) (by omega) rfl ?_
  refine p_putE (k := 0) aX5i_36 hq.symm rfl rfl (Nat.le_of_ble_eq_true rfl) rfl ?_
  refine p_s aX5i_39 rfl ?_
  refine p_s aX5i_40 rfl ?_
  refine p_putE (k := 0) aX5i_41 hq.symm rfl rfl (Nat.le_of_ble_eq_true rfl) rfl ?_
  refine p_s aX5i_44 rfl ?_
  refine p_s aX5i_45 rfl ?_
  refine p_putE (k := 0) aX5i_46 hq.symm rfl rfl (Nat.le_of_ble_eq_true rfl) rfl ?_
  exact p_r aX5i_49 ⟨rfl, rfl, rfl, rfl⟩ (Nat.le_refl _) (Nat.le_refl _)
theorem oraInit' {H E : iH} {r : Nat} {arg1 : Nat} {arg2 : Nat} (hr : r = H.length + E.length) (hb : r + 130 < i_SB) : i_X 2 32 [.ref r, .ref arg1, .ref arg2] (H ++ (E ++ [.inr (4, i_dfl 4)])) 8 148 none (H ++ (E ++ oraK r arg1 arg2)) := by
  have := oraInit (H := H ++ E) (q := r) (arg1 := arg1) (arg2 := arg2) (by rw [List.length_append, hr]) hb
  rw [List.append_assoc, List.append_assoc] at this
  exact this
theorem aX3i_0 : i_at mX3_init.2.2.2.2.2 0 = some (.aload_n 0, 1, 0, 0, 0, 0) := by decide +kernel
theorem aX3i_1 : i_at mX3_init.2.2.2.2.2 1 = some (.invokespecial 3, 3, 1000, 0, 424, 0) := by decide +kernel
theorem aX3i_4 : i_at mX3_init.2.2.2.2.2 4 = some (.aload_n 0, 1, 0, 0, 0, 0) := by decide +kernel
theorem aX3i_5 : i_at mX3_init.2.2.2.2.2 5 = some (.new 9, 3, 3, 0, 425, 0) := by decide +kernel
theorem aX3i_8 : i_at mX3_init.2.2.2.2.2 8 = some (.dup, 1, 0, 0, 0, 0) := by decide +kernel
theorem aX3i_9 : i_at mX3_init.2.2.2.2.2 9 = some (.invokespecial 11, 3, 25, 0, 5, 1) := by decide +kernel
theorem aX3i_12 : i_at mX3_init.2.2.2.2.2 12 = some (.putfield 12, 3, 2, 2, 431, 0) := by decide +kernel
theorem aX3i_15 : i_at mX3_init.2.2.2.2.2 15 = some (.aload_n 0, 1, 0, 0, 0, 0) := by decide +kernel
theorem aX3i_16 : i_at mX3_init.2.2.2.2.2 16 = some (.bipush 7, 2, 0, 0, 0, 0) := by decide +kernel
theorem aX3i_18 : i_at mX3_init.2.2.2.2.2 18 = some (.bipush 61, 2, 0, 0, 0, 0) := by decide +kernel
theorem aX3i_20 : i_at mX3_init.2.2.2.2.2 20 = some (.multianewarray 18 2, 4, 0, 0, 427, 0) := by decide +kernel
theorem aX3i_24 : i_at mX3_init.2.2.2.2.2 24 = some (.putfield 20, 3, 2, 3, 432, 0) := by decide +kernel
theorem aX3i_27 : i_at mX3_init.2.2.2.2.2 27 = some (.aload_n 0, 1, 0, 0, 0, 0) := by decide +kernel
theorem aX3i_28 : i_at mX3_init.2.2.2.2.2 28 = some (.bipush 7, 2, 0, 0, 0, 0) := by decide +kernel
theorem aX3i_30 : i_at mX3_init.2.2.2.2.2 30 = some (.newarray .boolean, 2, 0, 0, 452, 0) := by decide +kernel
theorem aX3i_32 : i_at mX3_init.2.2.2.2.2 32 = some (.putfield 23, 3, 2, 4, 433, 0) := by decide +kernel
theorem aX3i_35 : i_at mX3_init.2.2.2.2.2 35 = some (.aload_n 0, 1, 0, 0, 0, 0) := by decide +kernel
theorem aX3i_36 : i_at mX3_init.2.2.2.2.2 36 = some (.bipush 7, 2, 0, 0, 0, 0) := by decide +kernel
theorem aX3i_38 : i_at mX3_init.2.2.2.2.2 38 = some (.newarray .int, 2, 0, 0, 146, 0) := by decide +kernel
theorem aX3i_40 : i_at mX3_init.2.2.2.2.2 40 = some (.putfield 27, 3, 2, 5, 434, 0) := by decide +kernel
theorem aX3i_43 : i_at mX3_init.2.2.2.2.2 43 = some (.aload_n 0, 1, 0, 0, 0, 0) := by decide +kernel
theorem aX3i_44 : i_at mX3_init.2.2.2.2.2 44 = some (.aload_n 1, 1, 0, 0, 0, 0) := by decide +kernel
theorem aX3i_45 : i_at mX3_init.2.2.2.2.2 45 = some (.putfield 31, 3, 2, 0, 429, 0) := by decide +kernel
theorem aX3i_48 : i_at mX3_init.2.2.2.2.2 48 = some (.aload_n 0, 1, 0, 0, 0, 0) := by decide +kernel
theorem aX3i_49 : i_at mX3_init.2.2.2.2.2 49 = some (.aload_n 2, 1, 0, 0, 0, 0) := by decide +kernel
theorem aX3i_50 : i_at mX3_init.2.2.2.2.2 50 = some (.putfield 35, 3, 2, 1, 430, 0) := by decide +kernel
theorem aX3i_53 : i_at mX3_init.2.2.2.2.2 53 = some (.return_, 1, 0, 0, 0, 0) := by decide +kernel
def earK (q arg1 arg2 : Nat) : iH := .inr (2, [.ref arg1, .ref arg2, .ref (q + 1), .ref (q + 6), .ref (q + 14), .ref (q + 15), .int 0]) :: (lifeK (q + 1) ++ ([.inl (.array .int, 7, .inr (.inr (.inr (.inr (fun i => if i < 7 then some (q + 6 + 1 + i) else none)))))] ++ (List.replicate 7 (.inl (.int, 61, .inl (fun _ => 0))) ++ [.inl (.boolean, 7, .inl (fun _ => 0)), .inl (.int, 7, .inl (fun _ => 0))])))
theorem earInit {H : iH} {q : Nat} {arg1 : Nat} {arg2 : Nat} (hq : H.length = q) (hb : q + 130 < i_SB) : i_X 2 18 [.ref q, .ref arg1, .ref arg2] (H ++ [.inr (2, [.null, .null, .null, .null, .null, .null, .int 0])]) 15 480 none (H ++ earK q arg1 arg2) := by
  refine p_X (M := mX3_init) (loc := [.ref q, .ref arg1, .ref arg2]) rfl (Nat.le_of_ble_eq_true rfl) rfl ?_
  refine p_s aX3i_0 rfl ?_
  refine p_s (pc2 := 4) (st2 := []) aX3i_1 rfl ?_
  refine p_s aX3i_4 rfl ?_
  refine p_newO (r := q + 1) (m := 8) aX3i_5 (by rw [hq]; rfl) (by omega) rfl (by omega) (by omega) rfl ?_
  refine p_s (st2 := .ref (q + 1) :: .ref (q + 1) :: _) aX3i_8 rfl ?_
  refine p_c (As := [.ref (q + 1)]) (rest := [.ref (q + 1), .ref q]) (r := none) aX3i_9 ⟨Nat.le_of_ble_eq_true rfl, _, [], rfl, rfl, rfl⟩ (i_X_mono (by omega) (lifeInit' (by rw [hq]; rfl) (by omega))) (by omega) (by omega) ?_
  refine p_putE (k := 0) aX3i_12 hq.symm rfl rfl (Nat.le_of_ble_eq_true rfl) rfl ?_
  refine p_s aX3i_15 rfl ?_
  refine p_s (st2 := .int (nI 7) :: _) aX3i_16 rfl ?_
  refine p_s (st2 := .int (nI 61) :: _) aX3i_18 rfl ?_
  refine p_newM (n := 7) (k := 61) (r := q + 6) aX3i_20 (by omega) (by omega) (by rw [hq]; rfl) (by omega) (by omega) (by omega) rfl ?_
  refine p_putE (k := 0) aX3i_24 hq.symm rfl rfl (Nat.le_of_ble_eq_true rfl) rfl ?_
  refine p_s aX3i_27 rfl ?_
  refine p_s (st2 := .int (nI 7) :: _) aX3i_28 rfl ?_
  refine p_newZ (n := 7) (r := q + 14) aX3i_30 (by omega) (by rw [hq]; rfl) (by omega) (by omega) (by omega) rfl ?_
  refine p_putE (k := 0) aX3i_32 hq.symm rfl rfl (Nat.le_of_ble_eq_true rfl) rfl ?_
  refine p_s aX3i_35 rfl ?_
  refine p_s (st2 := .int (nI 7) :: _) aX3i_36 rfl ?_
  refine p_newA (n := 7) (r := q + 15) aX3i_38 (by omega) (by rw [hq]; rfl) (by omega) (by omega) (by omega) rfl ?_
  refine p_putE (k := 0) aX3i_40 hq.symm rfl rfl (Nat.le_of_ble_eq_true rfl) rfl ?_
  refine p_s aX3i_43 rfl ?_
  refine p_s aX3i_44 rfl ?_
  refine p_putE (k := 0) aX3i_45 hq.symm rfl rfl (Nat.le_of_ble_eq_true rfl) rfl ?_
  refine p_s aX3i_48 rfl ?_
  refine p_s aX3i_49 rfl ?_
  refine p_putE (k := 0) aX3i_50 hq.symm rfl rfl (Nat.le_of_ble_eq_true rfl) rfl ?_
  exact p_r aX3i_53 ⟨rfl, rfl, rfl, rfl⟩ (Nat.le_refl _) (Nat.le_refl _)
theorem earInit' {H E : iH} {r : Nat} {arg1 : Nat} {arg2 : Nat} (hr : r = H.length + E.length) (hb : r + 130 < i_SB) : i_X 2 18 [.ref r, .ref arg1, .ref arg2] (H ++ (E ++ [.inr (2, i_dfl 2)])) 15 480 none (H ++ (E ++ earK r arg1 arg2)) := by
  have := earInit (H := H ++ E) (q := r) (arg1 := arg1) (arg2 := arg2) (by rw [List.length_append, hr]) hb
  rw [List.append_assoc, List.append_assoc] at this
  exact this
