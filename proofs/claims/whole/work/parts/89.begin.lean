/-! ===== SpoonCourt, the reference: made ===== -/
theorem wholeInit' {H E : iH} {r : Nat} (hr : r = H.length + E.length) (hb : r + 120 < i_SB) : i_X 2 86 [.ref r] (H ++ (E ++ [.inr (9, i_dfl 9)])) 114 758 none (H ++ (E ++ (baseK r (fI r 20) ++ lvK r 20))) := by
  have := wholeInit (H := H ++ E) (q := r) (by rw [List.length_append, hr]) hb
  rw [List.append_assoc, List.append_assoc] at this
  exact this
theorem s_h_zip {sh : List kd} {σ : St} : s_h sh σ = sh.zipIdx.map (fun p => s_cell σ p.2 p.1) := by
  unfold s_h
  rw [List.mapIdx_eq_zipIdx_map]
def s0F (i k : Nat) : Int32 := if 19 ≤ i ∧ i < 134 then wF (i - 19) k else if (i = 135 ∨ i = 144) ∧ (k = 1 ∨ k = 2) then -1 else 0
def s0C : St := (s0F, fun _ _ => 0, fun _ _ => 0, fun i => if i = 31 then fI 19 20 else if i = 149 then (fun j => if j < 7 then some (143 + 6 + 1 + j) else none) else fun _ => none)
theorem aX11i_0 : i_at mX11_init.2.2.2.2.2 0 = some (.aload_n 0, 1, 0, 0, 0, 0) := by decide +kernel
theorem aX11i_1 : i_at mX11_init.2.2.2.2.2 1 = some (.invokespecial 1, 3, 1000, 0, 117, 0) := by decide +kernel
theorem aX11i_4 : i_at mX11_init.2.2.2.2.2 4 = some (.aload_n 0, 1, 0, 0, 0, 0) := by decide +kernel
theorem aX11i_5 : i_at mX11_init.2.2.2.2.2 5 = some (.new 7, 3, 8, 0, 120, 0) := by decide +kernel
theorem aX11i_8 : i_at mX11_init.2.2.2.2.2 8 = some (.dup, 1, 0, 0, 0, 0) := by decide +kernel
theorem aX11i_9 : i_at mX11_init.2.2.2.2.2 9 = some (.invokespecial 9, 3, 74, 0, 0, 1) := by decide +kernel
theorem aX11i_12 : i_at mX11_init.2.2.2.2.2 12 = some (.putfield 10, 3, 10, 0, 454, 0) := by decide +kernel
theorem aX11i_15 : i_at mX11_init.2.2.2.2.2 15 = some (.aload_n 0, 1, 0, 0, 0, 0) := by decide +kernel
theorem aX11i_16 : i_at mX11_init.2.2.2.2.2 16 = some (.new 16, 3, 5, 0, 147, 0) := by decide +kernel
theorem aX11i_19 : i_at mX11_init.2.2.2.2.2 19 = some (.dup, 1, 0, 0, 0, 0) := by decide +kernel
theorem aX11i_20 : i_at mX11_init.2.2.2.2.2 20 = some (.invokespecial 18, 3, 50, 0, 1, 1) := by decide +kernel
theorem aX11i_23 : i_at mX11_init.2.2.2.2.2 23 = some (.putfield 19, 3, 10, 1, 455, 0) := by decide +kernel
theorem aX11i_26 : i_at mX11_init.2.2.2.2.2 26 = some (.aload_n 0, 1, 0, 0, 0, 0) := by decide +kernel
theorem aX11i_27 : i_at mX11_init.2.2.2.2.2 27 = some (.new 23, 3, 1, 0, 215, 0) := by decide +kernel
theorem aX11i_30 : i_at mX11_init.2.2.2.2.2 30 = some (.dup, 1, 0, 0, 0, 0) := by decide +kernel
theorem aX11i_31 : i_at mX11_init.2.2.2.2.2 31 = some (.aload_n 0, 1, 0, 0, 0, 0) := by decide +kernel
theorem aX11i_32 : i_at mX11_init.2.2.2.2.2 32 = some (.getfield 10, 3, 10, 0, 454, 0) := by decide +kernel
theorem aX11i_35 : i_at mX11_init.2.2.2.2.2 35 = some (.aload_n 0, 1, 0, 0, 0, 0) := by decide +kernel
theorem aX11i_36 : i_at mX11_init.2.2.2.2.2 36 = some (.getfield 19, 3, 10, 1, 455, 0) := by decide +kernel
theorem aX11i_39 : i_at mX11_init.2.2.2.2.2 39 = some (.invokespecial 25, 3, 5, 2, 217, 0) := by decide +kernel
theorem aX11i_42 : i_at mX11_init.2.2.2.2.2 42 = some (.putfield 28, 3, 10, 2, 456, 0) := by decide +kernel
theorem aX11i_45 : i_at mX11_init.2.2.2.2.2 45 = some (.aload_n 0, 1, 0, 0, 0, 0) := by decide +kernel
theorem aX11i_46 : i_at mX11_init.2.2.2.2.2 46 = some (.new 32, 3, 7, 0, 228, 0) := by decide +kernel
theorem aX11i_49 : i_at mX11_init.2.2.2.2.2 49 = some (.dup, 1, 0, 0, 0, 0) := by decide +kernel
theorem aX11i_50 : i_at mX11_init.2.2.2.2.2 50 = some (.aload_n 0, 1, 0, 0, 0, 0) := by decide +kernel
theorem aX11i_51 : i_at mX11_init.2.2.2.2.2 51 = some (.getfield 10, 3, 10, 0, 454, 0) := by decide +kernel
theorem aX11i_54 : i_at mX11_init.2.2.2.2.2 54 = some (.invokespecial 34, 3, 61, 1, 230, 0) := by decide +kernel
theorem aX11i_57 : i_at mX11_init.2.2.2.2.2 57 = some (.putfield 37, 3, 10, 3, 457, 0) := by decide +kernel
theorem aX11i_60 : i_at mX11_init.2.2.2.2.2 60 = some (.aload_n 0, 1, 0, 0, 0, 0) := by decide +kernel
theorem aX11i_61 : i_at mX11_init.2.2.2.2.2 61 = some (.bipush 6, 2, 0, 0, 0, 0) := by decide +kernel
theorem aX11i_63 : i_at mX11_init.2.2.2.2.2 63 = some (.anewarray 41, 3, 6, 0, 259, 0) := by decide +kernel
theorem aX11i_66 : i_at mX11_init.2.2.2.2.2 66 = some (.putfield 43, 3, 10, 4, 458, 0) := by decide +kernel
theorem aX11i_69 : i_at mX11_init.2.2.2.2.2 69 = some (.aload_n 0, 1, 0, 0, 0, 0) := by decide +kernel
theorem aX11i_70 : i_at mX11_init.2.2.2.2.2 70 = some (.new 47, 3, 0, 0, 261, 0) := by decide +kernel
theorem aX11i_73 : i_at mX11_init.2.2.2.2.2 73 = some (.dup, 1, 0, 0, 0, 0) := by decide +kernel
theorem aX11i_74 : i_at mX11_init.2.2.2.2.2 74 = some (.aload_n 0, 1, 0, 0, 0, 0) := by decide +kernel
theorem aX11i_75 : i_at mX11_init.2.2.2.2.2 75 = some (.getfield 43, 3, 10, 4, 458, 0) := by decide +kernel
theorem aX11i_78 : i_at mX11_init.2.2.2.2.2 78 = some (.invokespecial 49, 3, 0, 1, 263, 0) := by decide +kernel
theorem aX11i_81 : i_at mX11_init.2.2.2.2.2 81 = some (.putfield 52, 3, 10, 5, 459, 0) := by decide +kernel
theorem aX11i_84 : i_at mX11_init.2.2.2.2.2 84 = some (.aload_n 0, 1, 0, 0, 0, 0) := by decide +kernel
theorem aX11i_85 : i_at mX11_init.2.2.2.2.2 85 = some (.new 56, 3, 9, 0, 278, 0) := by decide +kernel
theorem aX11i_88 : i_at mX11_init.2.2.2.2.2 88 = some (.dup, 1, 0, 0, 0, 0) := by decide +kernel
theorem aX11i_89 : i_at mX11_init.2.2.2.2.2 89 = some (.invokespecial 58, 3, 86, 0, 280, 0) := by decide +kernel
theorem aX11i_92 : i_at mX11_init.2.2.2.2.2 92 = some (.putfield 59, 3, 10, 6, 460, 0) := by decide +kernel
theorem aX11i_95 : i_at mX11_init.2.2.2.2.2 95 = some (.aload_n 0, 1, 0, 0, 0, 0) := by decide +kernel
theorem aX11i_96 : i_at mX11_init.2.2.2.2.2 96 = some (.new 63, 3, 4, 0, 392, 0) := by decide +kernel
theorem aX11i_99 : i_at mX11_init.2.2.2.2.2 99 = some (.dup, 1, 0, 0, 0, 0) := by decide +kernel
theorem aX11i_100 : i_at mX11_init.2.2.2.2.2 100 = some (.aload_n 0, 1, 0, 0, 0, 0) := by decide +kernel
theorem aX11i_101 : i_at mX11_init.2.2.2.2.2 101 = some (.getfield 59, 3, 10, 6, 460, 0) := by decide +kernel
theorem aX11i_104 : i_at mX11_init.2.2.2.2.2 104 = some (.aload_n 0, 1, 0, 0, 0, 0) := by decide +kernel
theorem aX11i_105 : i_at mX11_init.2.2.2.2.2 105 = some (.getfield 52, 3, 10, 5, 459, 0) := by decide +kernel
theorem aX11i_108 : i_at mX11_init.2.2.2.2.2 108 = some (.invokespecial 65, 3, 32, 2, 394, 0) := by decide +kernel
theorem aX11i_111 : i_at mX11_init.2.2.2.2.2 111 = some (.putfield 68, 3, 10, 7, 461, 0) := by decide +kernel
theorem aX11i_114 : i_at mX11_init.2.2.2.2.2 114 = some (.aload_n 0, 1, 0, 0, 0, 0) := by decide +kernel
theorem aX11i_115 : i_at mX11_init.2.2.2.2.2 115 = some (.new 72, 3, 2, 0, 419, 0) := by decide +kernel
theorem aX11i_118 : i_at mX11_init.2.2.2.2.2 118 = some (.dup, 1, 0, 0, 0, 0) := by decide +kernel
theorem aX11i_119 : i_at mX11_init.2.2.2.2.2 119 = some (.aload_n 0, 1, 0, 0, 0, 0) := by decide +kernel
theorem aX11i_120 : i_at mX11_init.2.2.2.2.2 120 = some (.getfield 59, 3, 10, 6, 460, 0) := by decide +kernel
theorem aX11i_123 : i_at mX11_init.2.2.2.2.2 123 = some (.aload_n 0, 1, 0, 0, 0, 0) := by decide +kernel
theorem aX11i_124 : i_at mX11_init.2.2.2.2.2 124 = some (.getfield 52, 3, 10, 5, 459, 0) := by decide +kernel
theorem aX11i_127 : i_at mX11_init.2.2.2.2.2 127 = some (.invokespecial 74, 3, 18, 2, 421, 0) := by decide +kernel
theorem aX11i_130 : i_at mX11_init.2.2.2.2.2 130 = some (.putfield 75, 3, 10, 8, 462, 0) := by decide +kernel
theorem aX11i_133 : i_at mX11_init.2.2.2.2.2 133 = some (.aload_n 0, 1, 0, 0, 0, 0) := by decide +kernel
theorem aX11i_134 : i_at mX11_init.2.2.2.2.2 134 = some (.iconst 4, 1, 0, 0, 0, 0) := by decide +kernel
theorem aX11i_135 : i_at mX11_init.2.2.2.2.2 135 = some (.anewarray 56, 3, 9, 0, 278, 0) := by decide +kernel
theorem aX11i_138 : i_at mX11_init.2.2.2.2.2 138 = some (.putfield 79, 3, 10, 9, 463, 0) := by decide +kernel
theorem aX11i_141 : i_at mX11_init.2.2.2.2.2 141 = some (.return_, 1, 0, 0, 0, 0) := by decide +kernel
set_option maxRecDepth 40000 in
theorem courtInit : i_X 3 90 [.ref 0] [.inr (10, i_dfl 10)] 200 4000 none (s_h shC s0C) := by
  have hSB : 10000 < i_SB := by decide
  refine p_X (M := mX11_init) (loc := [.ref 0]) rfl (Nat.le_of_ble_eq_true rfl) rfl ?_
  show p_R _ _ _ _ _ _ 0 _ _ (([] : iH) ++ [.inr (10, i_dfl 10)]) 0 0
  refine p_s aX11i_0 rfl ?_
  refine p_s (pc2 := 4) (st2 := []) aX11i_1 rfl ?_
  refine p_s aX11i_4 rfl ?_
  refine p_newO (r := 1) (m := 4) aX11i_5 rfl (by omega) rfl (by omega) (by omega) rfl ?_
  refine p_s (st2 := .ref (1) :: .ref (1) :: _) aX11i_8 rfl ?_
  refine p_c (As := [.ref (1)]) (rest := [.ref (1), .ref 0]) (r := none) aX11i_9 ⟨Nat.le_of_ble_eq_true rfl, _, [], rfl, rfl, rfl⟩ (i_X_mono (by omega) (tapeInit' rfl (by omega))) (by omega) (by omega) ?_
  refine p_putE (k := 0) aX11i_12 rfl rfl rfl (Nat.le_of_ble_eq_true rfl) rfl ?_
  refine p_s aX11i_15 rfl ?_
  refine p_newO (r := 3) (m := 10) aX11i_16 rfl (by omega) rfl (by omega) (by omega) rfl ?_
  refine p_s (st2 := .ref (3) :: .ref (3) :: _) aX11i_19 rfl ?_
  refine p_c (As := [.ref (3)]) (rest := [.ref (3), .ref 0]) (r := none) aX11i_20 ⟨Nat.le_of_ble_eq_true rfl, _, [], rfl, rfl, rfl⟩ (i_X_mono (by omega) (realmInit' rfl (by omega))) (by omega) (by omega) ?_
  refine p_putE (k := 0) aX11i_23 rfl rfl rfl (Nat.le_of_ble_eq_true rfl) rfl ?_
  refine p_s aX11i_26 rfl ?_
  refine p_newO (r := 9) (m := 2) aX11i_27 rfl (by omega) rfl (by omega) (by omega) rfl ?_
  refine p_s (st2 := .ref (9) :: .ref (9) :: _) aX11i_30 rfl ?_
  refine p_s aX11i_31 rfl ?_
  refine p_getE (k := 0) aX11i_32 rfl rfl rfl ?_
  refine p_s aX11i_35 rfl ?_
  refine p_getE (k := 0) aX11i_36 rfl rfl rfl ?_
  refine p_c (As := [.ref (9), .ref (1), .ref (3)]) (rest := [.ref (9), .ref 0]) (r := none) aX11i_39 ⟨Nat.le_of_ble_eq_true rfl, _, [.ref (1), .ref (3)], rfl, rfl, rfl⟩ (i_X_mono (by omega) (crdInit' rfl (by omega))) (by omega) (by omega) ?_
  refine p_putE (k := 0) aX11i_42 rfl rfl rfl (Nat.le_of_ble_eq_true rfl) rfl ?_
  refine p_s aX11i_45 rfl ?_
  refine p_newO (r := 10) (m := 8) aX11i_46 rfl (by omega) rfl (by omega) (by omega) rfl ?_
  refine p_s (st2 := .ref (10) :: .ref (10) :: _) aX11i_49 rfl ?_
  refine p_s aX11i_50 rfl ?_
  refine p_getE (k := 0) aX11i_51 rfl rfl rfl ?_
  refine p_c (As := [.ref (10), .ref (1)]) (rest := [.ref (10), .ref 0]) (r := none) aX11i_54 ⟨Nat.le_of_ble_eq_true rfl, _, [.ref (1)], rfl, rfl, rfl⟩ (i_X_mono (by omega) (rrdInit' rfl (by omega))) (by omega) (by omega) ?_
  refine p_putE (k := 0) aX11i_57 rfl rfl rfl (Nat.le_of_ble_eq_true rfl) rfl ?_
  refine p_s aX11i_60 rfl ?_
  refine p_s (st2 := .int (nI 6) :: _) aX11i_61 rfl ?_
  refine p_newQ6 (n := 6) (r := 15) aX11i_63 (by omega) rfl (by omega) (by omega) (by omega) rfl ?_
  refine p_putE (k := 0) aX11i_66 rfl rfl rfl (Nat.le_of_ble_eq_true rfl) rfl ?_
  refine p_s aX11i_69 rfl ?_
  refine p_newO (r := 16) (m := 3) aX11i_70 rfl (by omega) rfl (by omega) (by omega) rfl ?_
  refine p_s (st2 := .ref (16) :: .ref (16) :: _) aX11i_73 rfl ?_
  refine p_s aX11i_74 rfl ?_
  refine p_getE (k := 0) aX11i_75 rfl rfl rfl ?_
  refine p_c (As := [.ref (16), .ref (15)]) (rest := [.ref (16), .ref 0]) (r := none) aX11i_78 ⟨Nat.le_of_ble_eq_true rfl, _, [.ref (15)], rfl, rfl, rfl⟩ (i_X_mono (by omega) (clwInit' rfl (by omega))) (by omega) (by omega) ?_
  refine p_putE (k := 0) aX11i_81 rfl rfl rfl (Nat.le_of_ble_eq_true rfl) rfl ?_
  refine p_s aX11i_84 rfl ?_
  refine p_newO (r := 19) (m := 10) aX11i_85 rfl (by omega) rfl (by omega) (by omega) rfl ?_
  refine p_s (st2 := .ref (19) :: .ref (19) :: _) aX11i_88 rfl ?_
  refine p_c (As := [.ref (19)]) (rest := [.ref (19), .ref 0]) (r := none) aX11i_89 ⟨Nat.le_of_ble_eq_true rfl, _, [], rfl, rfl, rfl⟩ (i_X_mono (by omega) (wholeInit' rfl (by omega))) (by omega) (by omega) ?_
  refine p_putE (k := 0) aX11i_92 rfl rfl rfl (Nat.le_of_ble_eq_true rfl) rfl ?_
  refine p_s aX11i_95 rfl ?_
  refine p_newO (r := 134) (m := 6) aX11i_96 rfl (by omega) rfl (by omega) (by omega) rfl ?_
  refine p_s (st2 := .ref (134) :: .ref (134) :: _) aX11i_99 rfl ?_
  refine p_s aX11i_100 rfl ?_
  refine p_getE (k := 0) aX11i_101 rfl rfl rfl ?_
  refine p_s aX11i_104 rfl ?_
  refine p_getE (k := 0) aX11i_105 rfl rfl rfl ?_
  refine p_c (As := [.ref (134), .ref (19), .ref (16)]) (rest := [.ref (134), .ref 0]) (r := none) aX11i_108 ⟨Nat.le_of_ble_eq_true rfl, _, [.ref (19), .ref (16)], rfl, rfl, rfl⟩ (i_X_mono (by omega) (oraInit' rfl (by omega))) (by omega) (by omega) ?_
  refine p_putE (k := 0) aX11i_111 rfl rfl rfl (Nat.le_of_ble_eq_true rfl) rfl ?_
  refine p_s aX11i_114 rfl ?_
  refine p_newO (r := 143) (m := 7) aX11i_115 rfl (by omega) rfl (by omega) (by omega) rfl ?_
  refine p_s (st2 := .ref (143) :: .ref (143) :: _) aX11i_118 rfl ?_
  refine p_s aX11i_119 rfl ?_
  refine p_getE (k := 0) aX11i_120 rfl rfl rfl ?_
  refine p_s aX11i_123 rfl ?_
  refine p_getE (k := 0) aX11i_124 rfl rfl rfl ?_
  refine p_c (As := [.ref (143), .ref (19), .ref (16)]) (rest := [.ref (143), .ref 0]) (r := none) aX11i_127 ⟨Nat.le_of_ble_eq_true rfl, _, [.ref (19), .ref (16)], rfl, rfl, rfl⟩ (i_X_mono (by omega) (earInit' rfl (by omega))) (by omega) (by omega) ?_
  refine p_putE (k := 0) aX11i_130 rfl rfl rfl (Nat.le_of_ble_eq_true rfl) rfl ?_
  refine p_s aX11i_133 rfl ?_
  refine p_s (st2 := .int (nI 4) :: _) aX11i_134 rfl ?_
  refine p_newQ9 (n := 4) (r := 159) aX11i_135 (by omega) rfl (by omega) (by omega) (by omega) rfl ?_
  refine p_putE (k := 0) aX11i_138 rfl rfl rfl (Nat.le_of_ble_eq_true rfl) rfl ?_
  exact p_r aX11i_141 ⟨rfl, rfl, rfl, s_h_zip.trans rfl⟩ (by omega) (by omega)
theorem aX12i_0 : i_at mX12_init.2.2.2.2.2 0 = some (.aload_n 0, 1, 0, 0, 0, 0) := by decide +kernel
theorem aX12i_1 : i_at mX12_init.2.2.2.2.2 1 = some (.invokespecial 3, 3, 1000, 0, 1087, 0) := by decide +kernel
theorem aX12i_4 : i_at mX12_init.2.2.2.2.2 4 = some (.aload_n 0, 1, 0, 0, 0, 0) := by decide +kernel
theorem aX12i_5 : i_at mX12_init.2.2.2.2.2 5 = some (.bipush 11, 2, 0, 0, 0, 0) := by decide +kernel
theorem aX12i_7 : i_at mX12_init.2.2.2.2.2 7 = some (.newarray .int, 2, 0, 0, 146, 0) := by decide +kernel
theorem aX12i_9 : i_at mX12_init.2.2.2.2.2 9 = some (.dup, 1, 0, 0, 0, 0) := by decide +kernel
theorem aX12i_10 : i_at mX12_init.2.2.2.2.2 10 = some (.iconst 0, 1, 0, 0, 0, 0) := by decide +kernel
theorem aX12i_11 : i_at mX12_init.2.2.2.2.2 11 = some (.iconst 0, 1, 0, 0, 0, 0) := by decide +kernel
theorem aX12i_12 : i_at mX12_init.2.2.2.2.2 12 = some (.iastore, 1, 0, 0, 0, 0) := by decide +kernel
theorem aX12i_13 : i_at mX12_init.2.2.2.2.2 13 = some (.dup, 1, 0, 0, 0, 0) := by decide +kernel
theorem aX12i_14 : i_at mX12_init.2.2.2.2.2 14 = some (.iconst 1, 1, 0, 0, 0, 0) := by decide +kernel
theorem aX12i_15 : i_at mX12_init.2.2.2.2.2 15 = some (.iconst 0, 1, 0, 0, 0, 0) := by decide +kernel
theorem aX12i_16 : i_at mX12_init.2.2.2.2.2 16 = some (.iastore, 1, 0, 0, 0, 0) := by decide +kernel
theorem aX12i_17 : i_at mX12_init.2.2.2.2.2 17 = some (.dup, 1, 0, 0, 0, 0) := by decide +kernel
theorem aX12i_18 : i_at mX12_init.2.2.2.2.2 18 = some (.iconst 2, 1, 0, 0, 0, 0) := by decide +kernel
theorem aX12i_19 : i_at mX12_init.2.2.2.2.2 19 = some (.iconst 0, 1, 0, 0, 0, 0) := by decide +kernel
theorem aX12i_20 : i_at mX12_init.2.2.2.2.2 20 = some (.iastore, 1, 0, 0, 0, 0) := by decide +kernel
theorem aX12i_21 : i_at mX12_init.2.2.2.2.2 21 = some (.dup, 1, 0, 0, 0, 0) := by decide +kernel
theorem aX12i_22 : i_at mX12_init.2.2.2.2.2 22 = some (.iconst 3, 1, 0, 0, 0, 0) := by decide +kernel
theorem aX12i_23 : i_at mX12_init.2.2.2.2.2 23 = some (.iconst 0, 1, 0, 0, 0, 0) := by decide +kernel
theorem aX12i_24 : i_at mX12_init.2.2.2.2.2 24 = some (.iastore, 1, 0, 0, 0, 0) := by decide +kernel
theorem aX12i_25 : i_at mX12_init.2.2.2.2.2 25 = some (.dup, 1, 0, 0, 0, 0) := by decide +kernel
theorem aX12i_26 : i_at mX12_init.2.2.2.2.2 26 = some (.iconst 4, 1, 0, 0, 0, 0) := by decide +kernel
theorem aX12i_27 : i_at mX12_init.2.2.2.2.2 27 = some (.iconst 0, 1, 0, 0, 0, 0) := by decide +kernel
theorem aX12i_28 : i_at mX12_init.2.2.2.2.2 28 = some (.iastore, 1, 0, 0, 0, 0) := by decide +kernel
theorem aX12i_29 : i_at mX12_init.2.2.2.2.2 29 = some (.dup, 1, 0, 0, 0, 0) := by decide +kernel
theorem aX12i_30 : i_at mX12_init.2.2.2.2.2 30 = some (.iconst 5, 1, 0, 0, 0, 0) := by decide +kernel
theorem aX12i_31 : i_at mX12_init.2.2.2.2.2 31 = some (.iconst (-1), 1, 0, 0, 0, 0) := by decide +kernel
theorem aX12i_32 : i_at mX12_init.2.2.2.2.2 32 = some (.iastore, 1, 0, 0, 0, 0) := by decide +kernel
theorem aX12i_33 : i_at mX12_init.2.2.2.2.2 33 = some (.dup, 1, 0, 0, 0, 0) := by decide +kernel
theorem aX12i_34 : i_at mX12_init.2.2.2.2.2 34 = some (.bipush 6, 2, 0, 0, 0, 0) := by decide +kernel
theorem aX12i_36 : i_at mX12_init.2.2.2.2.2 36 = some (.iconst (-1), 1, 0, 0, 0, 0) := by decide +kernel
theorem aX12i_37 : i_at mX12_init.2.2.2.2.2 37 = some (.iastore, 1, 0, 0, 0, 0) := by decide +kernel
theorem aX12i_38 : i_at mX12_init.2.2.2.2.2 38 = some (.dup, 1, 0, 0, 0, 0) := by decide +kernel
theorem aX12i_39 : i_at mX12_init.2.2.2.2.2 39 = some (.bipush 7, 2, 0, 0, 0, 0) := by decide +kernel
theorem aX12i_41 : i_at mX12_init.2.2.2.2.2 41 = some (.iconst 0, 1, 0, 0, 0, 0) := by decide +kernel
theorem aX12i_42 : i_at mX12_init.2.2.2.2.2 42 = some (.iastore, 1, 0, 0, 0, 0) := by decide +kernel
theorem aX12i_43 : i_at mX12_init.2.2.2.2.2 43 = some (.dup, 1, 0, 0, 0, 0) := by decide +kernel
theorem aX12i_44 : i_at mX12_init.2.2.2.2.2 44 = some (.bipush 8, 2, 0, 0, 0, 0) := by decide +kernel
theorem aX12i_46 : i_at mX12_init.2.2.2.2.2 46 = some (.iconst 0, 1, 0, 0, 0, 0) := by decide +kernel
theorem aX12i_47 : i_at mX12_init.2.2.2.2.2 47 = some (.iastore, 1, 0, 0, 0, 0) := by decide +kernel
theorem aX12i_48 : i_at mX12_init.2.2.2.2.2 48 = some (.dup, 1, 0, 0, 0, 0) := by decide +kernel
theorem aX12i_49 : i_at mX12_init.2.2.2.2.2 49 = some (.bipush 9, 2, 0, 0, 0, 0) := by decide +kernel
theorem aX12i_51 : i_at mX12_init.2.2.2.2.2 51 = some (.iconst 0, 1, 0, 0, 0, 0) := by decide +kernel
theorem aX12i_52 : i_at mX12_init.2.2.2.2.2 52 = some (.iastore, 1, 0, 0, 0, 0) := by decide +kernel
theorem aX12i_53 : i_at mX12_init.2.2.2.2.2 53 = some (.dup, 1, 0, 0, 0, 0) := by decide +kernel
theorem aX12i_54 : i_at mX12_init.2.2.2.2.2 54 = some (.bipush 10, 2, 0, 0, 0, 0) := by decide +kernel
theorem aX12i_56 : i_at mX12_init.2.2.2.2.2 56 = some (.iconst (-1), 1, 0, 0, 0, 0) := by decide +kernel
theorem aX12i_57 : i_at mX12_init.2.2.2.2.2 57 = some (.iastore, 1, 0, 0, 0, 0) := by decide +kernel
theorem aX12i_58 : i_at mX12_init.2.2.2.2.2 58 = some (.putfield 9, 3, 11, 1, 1088, 0) := by decide +kernel
theorem aX12i_61 : i_at mX12_init.2.2.2.2.2 61 = some (.aload_n 0, 1, 0, 0, 0, 0) := by decide +kernel
theorem aX12i_62 : i_at mX12_init.2.2.2.2.2 62 = some (.bipush 6, 2, 0, 0, 0, 0) := by decide +kernel
theorem aX12i_64 : i_at mX12_init.2.2.2.2.2 64 = some (.newarray .int, 2, 0, 0, 146, 0) := by decide +kernel
theorem aX12i_66 : i_at mX12_init.2.2.2.2.2 66 = some (.putfield 13, 3, 11, 2, 1089, 0) := by decide +kernel
theorem aX12i_69 : i_at mX12_init.2.2.2.2.2 69 = some (.aload_n 0, 1, 0, 0, 0, 0) := by decide +kernel
theorem aX12i_70 : i_at mX12_init.2.2.2.2.2 70 = some (.bipush 6, 2, 0, 0, 0, 0) := by decide +kernel
theorem aX12i_72 : i_at mX12_init.2.2.2.2.2 72 = some (.newarray .int, 2, 0, 0, 146, 0) := by decide +kernel
theorem aX12i_74 : i_at mX12_init.2.2.2.2.2 74 = some (.putfield 16, 3, 11, 3, 1090, 0) := by decide +kernel
theorem aX12i_77 : i_at mX12_init.2.2.2.2.2 77 = some (.aload_n 0, 1, 0, 0, 0, 0) := by decide +kernel
theorem aX12i_78 : i_at mX12_init.2.2.2.2.2 78 = some (.bipush 6, 2, 0, 0, 0, 0) := by decide +kernel
theorem aX12i_80 : i_at mX12_init.2.2.2.2.2 80 = some (.newarray .int, 2, 0, 0, 146, 0) := by decide +kernel
theorem aX12i_82 : i_at mX12_init.2.2.2.2.2 82 = some (.putfield 19, 3, 11, 4, 1091, 0) := by decide +kernel
theorem aX12i_85 : i_at mX12_init.2.2.2.2.2 85 = some (.aload_n 0, 1, 0, 0, 0, 0) := by decide +kernel
theorem aX12i_86 : i_at mX12_init.2.2.2.2.2 86 = some (.bipush 12, 2, 0, 0, 0, 0) := by decide +kernel
theorem aX12i_88 : i_at mX12_init.2.2.2.2.2 88 = some (.newarray .int, 2, 0, 0, 146, 0) := by decide +kernel
theorem aX12i_90 : i_at mX12_init.2.2.2.2.2 90 = some (.putfield 22, 3, 11, 5, 1092, 0) := by decide +kernel
theorem aX12i_93 : i_at mX12_init.2.2.2.2.2 93 = some (.aload_n 0, 1, 0, 0, 0, 0) := by decide +kernel
theorem aX12i_94 : i_at mX12_init.2.2.2.2.2 94 = some (.bipush 6, 2, 0, 0, 0, 0) := by decide +kernel
theorem aX12i_96 : i_at mX12_init.2.2.2.2.2 96 = some (.newarray .int, 2, 0, 0, 146, 0) := by decide +kernel
theorem aX12i_98 : i_at mX12_init.2.2.2.2.2 98 = some (.putfield 25, 3, 11, 6, 1093, 0) := by decide +kernel
theorem aX12i_101 : i_at mX12_init.2.2.2.2.2 101 = some (.aload_n 0, 1, 0, 0, 0, 0) := by decide +kernel
theorem aX12i_102 : i_at mX12_init.2.2.2.2.2 102 = some (.bipush 6, 2, 0, 0, 0, 0) := by decide +kernel
theorem aX12i_104 : i_at mX12_init.2.2.2.2.2 104 = some (.newarray .int, 2, 0, 0, 146, 0) := by decide +kernel
theorem aX12i_106 : i_at mX12_init.2.2.2.2.2 106 = some (.putfield 28, 3, 11, 7, 1094, 0) := by decide +kernel
theorem aX12i_109 : i_at mX12_init.2.2.2.2.2 109 = some (.aload_n 0, 1, 0, 0, 0, 0) := by decide +kernel
theorem aX12i_110 : i_at mX12_init.2.2.2.2.2 110 = some (.bipush 6, 2, 0, 0, 0, 0) := by decide +kernel
theorem aX12i_112 : i_at mX12_init.2.2.2.2.2 112 = some (.newarray .int, 2, 0, 0, 146, 0) := by decide +kernel
theorem aX12i_114 : i_at mX12_init.2.2.2.2.2 114 = some (.putfield 31, 3, 11, 8, 1095, 0) := by decide +kernel
theorem aX12i_117 : i_at mX12_init.2.2.2.2.2 117 = some (.aload_n 0, 1, 0, 0, 0, 0) := by decide +kernel
theorem aX12i_118 : i_at mX12_init.2.2.2.2.2 118 = some (.bipush 6, 2, 0, 0, 0, 0) := by decide +kernel
theorem aX12i_120 : i_at mX12_init.2.2.2.2.2 120 = some (.newarray .int, 2, 0, 0, 146, 0) := by decide +kernel
theorem aX12i_122 : i_at mX12_init.2.2.2.2.2 122 = some (.putfield 34, 3, 11, 9, 1096, 0) := by decide +kernel
theorem aX12i_125 : i_at mX12_init.2.2.2.2.2 125 = some (.aload_n 0, 1, 0, 0, 0, 0) := by decide +kernel
theorem aX12i_126 : i_at mX12_init.2.2.2.2.2 126 = some (.bipush 10, 2, 0, 0, 0, 0) := by decide +kernel
theorem aX12i_128 : i_at mX12_init.2.2.2.2.2 128 = some (.newarray .int, 2, 0, 0, 146, 0) := by decide +kernel
theorem aX12i_130 : i_at mX12_init.2.2.2.2.2 130 = some (.putfield 37, 3, 11, 10, 1097, 0) := by decide +kernel
theorem aX12i_133 : i_at mX12_init.2.2.2.2.2 133 = some (.aload_n 0, 1, 0, 0, 0, 0) := by decide +kernel
theorem aX12i_134 : i_at mX12_init.2.2.2.2.2 134 = some (.bipush 10, 2, 0, 0, 0, 0) := by decide +kernel
theorem aX12i_136 : i_at mX12_init.2.2.2.2.2 136 = some (.newarray .int, 2, 0, 0, 146, 0) := by decide +kernel
theorem aX12i_138 : i_at mX12_init.2.2.2.2.2 138 = some (.putfield 40, 3, 11, 11, 1098, 0) := by decide +kernel
theorem aX12i_141 : i_at mX12_init.2.2.2.2.2 141 = some (.aload_n 0, 1, 0, 0, 0, 0) := by decide +kernel
theorem aX12i_142 : i_at mX12_init.2.2.2.2.2 142 = some (.bipush 6, 2, 0, 0, 0, 0) := by decide +kernel
theorem aX12i_144 : i_at mX12_init.2.2.2.2.2 144 = some (.newarray .int, 2, 0, 0, 146, 0) := by decide +kernel
theorem aX12i_146 : i_at mX12_init.2.2.2.2.2 146 = some (.putfield 43, 3, 11, 12, 1099, 0) := by decide +kernel
theorem aX12i_149 : i_at mX12_init.2.2.2.2.2 149 = some (.aload_n 0, 1, 0, 0, 0, 0) := by decide +kernel
theorem aX12i_150 : i_at mX12_init.2.2.2.2.2 150 = some (.iconst 4, 1, 0, 0, 0, 0) := by decide +kernel
theorem aX12i_151 : i_at mX12_init.2.2.2.2.2 151 = some (.newarray .int, 2, 0, 0, 146, 0) := by decide +kernel
theorem aX12i_153 : i_at mX12_init.2.2.2.2.2 153 = some (.putfield 46, 3, 11, 13, 1100, 0) := by decide +kernel
theorem aX12i_156 : i_at mX12_init.2.2.2.2.2 156 = some (.aload_n 0, 1, 0, 0, 0, 0) := by decide +kernel
theorem aX12i_157 : i_at mX12_init.2.2.2.2.2 157 = some (.bipush 6, 2, 0, 0, 0, 0) := by decide +kernel
theorem aX12i_159 : i_at mX12_init.2.2.2.2.2 159 = some (.newarray .int, 2, 0, 0, 146, 0) := by decide +kernel
theorem aX12i_161 : i_at mX12_init.2.2.2.2.2 161 = some (.putfield 49, 3, 11, 14, 1101, 0) := by decide +kernel
theorem aX12i_164 : i_at mX12_init.2.2.2.2.2 164 = some (.aload_n 0, 1, 0, 0, 0, 0) := by decide +kernel
theorem aX12i_165 : i_at mX12_init.2.2.2.2.2 165 = some (.bipush 6, 2, 0, 0, 0, 0) := by decide +kernel
theorem aX12i_167 : i_at mX12_init.2.2.2.2.2 167 = some (.newarray .int, 2, 0, 0, 146, 0) := by decide +kernel
theorem aX12i_169 : i_at mX12_init.2.2.2.2.2 169 = some (.putfield 52, 3, 11, 15, 1102, 0) := by decide +kernel
theorem aX12i_172 : i_at mX12_init.2.2.2.2.2 172 = some (.aload_n 0, 1, 0, 0, 0, 0) := by decide +kernel
theorem aX12i_173 : i_at mX12_init.2.2.2.2.2 173 = some (.bipush 12, 2, 0, 0, 0, 0) := by decide +kernel
theorem aX12i_175 : i_at mX12_init.2.2.2.2.2 175 = some (.newarray .int, 2, 0, 0, 146, 0) := by decide +kernel
theorem aX12i_177 : i_at mX12_init.2.2.2.2.2 177 = some (.putfield 55, 3, 11, 16, 1103, 0) := by decide +kernel
theorem aX12i_180 : i_at mX12_init.2.2.2.2.2 180 = some (.aload_n 0, 1, 0, 0, 0, 0) := by decide +kernel
theorem aX12i_181 : i_at mX12_init.2.2.2.2.2 181 = some (.bipush 6, 2, 0, 0, 0, 0) := by decide +kernel
theorem aX12i_183 : i_at mX12_init.2.2.2.2.2 183 = some (.newarray .int, 2, 0, 0, 146, 0) := by decide +kernel
theorem aX12i_185 : i_at mX12_init.2.2.2.2.2 185 = some (.putfield 58, 3, 11, 17, 1104, 0) := by decide +kernel
theorem aX12i_188 : i_at mX12_init.2.2.2.2.2 188 = some (.aload_n 0, 1, 0, 0, 0, 0) := by decide +kernel
theorem aX12i_189 : i_at mX12_init.2.2.2.2.2 189 = some (.bipush 6, 2, 0, 0, 0, 0) := by decide +kernel
theorem aX12i_191 : i_at mX12_init.2.2.2.2.2 191 = some (.newarray .int, 2, 0, 0, 146, 0) := by decide +kernel
theorem aX12i_193 : i_at mX12_init.2.2.2.2.2 193 = some (.putfield 61, 3, 11, 18, 1105, 0) := by decide +kernel
theorem aX12i_196 : i_at mX12_init.2.2.2.2.2 196 = some (.aload_n 0, 1, 0, 0, 0, 0) := by decide +kernel
theorem aX12i_197 : i_at mX12_init.2.2.2.2.2 197 = some (.bipush 12, 2, 0, 0, 0, 0) := by decide +kernel
theorem aX12i_199 : i_at mX12_init.2.2.2.2.2 199 = some (.putfield 64, 3, 11, 28, 1115, 0) := by decide +kernel
theorem aX12i_202 : i_at mX12_init.2.2.2.2.2 202 = some (.aload_n 0, 1, 0, 0, 0, 0) := by decide +kernel
theorem aX12i_203 : i_at mX12_init.2.2.2.2.2 203 = some (.sipush 400, 3, 0, 0, 0, 0) := by decide +kernel
theorem aX12i_206 : i_at mX12_init.2.2.2.2.2 206 = some (.newarray .byte, 2, 0, 0, 643, 0) := by decide +kernel
theorem aX12i_208 : i_at mX12_init.2.2.2.2.2 208 = some (.putfield 68, 3, 11, 29, 1116, 0) := by decide +kernel
theorem aX12i_211 : i_at mX12_init.2.2.2.2.2 211 = some (.aload_n 0, 1, 0, 0, 0, 0) := by decide +kernel
theorem aX12i_212 : i_at mX12_init.2.2.2.2.2 212 = some (.sipush 1800, 3, 0, 0, 0, 0) := by decide +kernel
theorem aX12i_215 : i_at mX12_init.2.2.2.2.2 215 = some (.newarray .int, 2, 0, 0, 146, 0) := by decide +kernel
theorem aX12i_217 : i_at mX12_init.2.2.2.2.2 217 = some (.putfield 72, 3, 11, 30, 1117, 0) := by decide +kernel
theorem aX12i_220 : i_at mX12_init.2.2.2.2.2 220 = some (.aload_n 0, 1, 0, 0, 0, 0) := by decide +kernel
theorem aX12i_221 : i_at mX12_init.2.2.2.2.2 221 = some (.sipush 1800, 3, 0, 0, 0, 0) := by decide +kernel
theorem aX12i_224 : i_at mX12_init.2.2.2.2.2 224 = some (.newarray .int, 2, 0, 0, 146, 0) := by decide +kernel
theorem aX12i_226 : i_at mX12_init.2.2.2.2.2 226 = some (.putfield 75, 3, 11, 31, 1118, 0) := by decide +kernel
theorem aX12i_229 : i_at mX12_init.2.2.2.2.2 229 = some (.aload_n 0, 1, 0, 0, 0, 0) := by decide +kernel
theorem aX12i_230 : i_at mX12_init.2.2.2.2.2 230 = some (.bipush 6, 2, 0, 0, 0, 0) := by decide +kernel
theorem aX12i_232 : i_at mX12_init.2.2.2.2.2 232 = some (.newarray .int, 2, 0, 0, 146, 0) := by decide +kernel
theorem aX12i_234 : i_at mX12_init.2.2.2.2.2 234 = some (.putfield 78, 3, 11, 32, 1119, 0) := by decide +kernel
theorem aX12i_237 : i_at mX12_init.2.2.2.2.2 237 = some (.aload_n 0, 1, 0, 0, 0, 0) := by decide +kernel
theorem aX12i_238 : i_at mX12_init.2.2.2.2.2 238 = some (.bipush 72, 2, 0, 0, 0, 0) := by decide +kernel
theorem aX12i_240 : i_at mX12_init.2.2.2.2.2 240 = some (.newarray .int, 2, 0, 0, 146, 0) := by decide +kernel
theorem aX12i_242 : i_at mX12_init.2.2.2.2.2 242 = some (.putfield 81, 3, 11, 33, 1120, 0) := by decide +kernel
theorem aX12i_245 : i_at mX12_init.2.2.2.2.2 245 = some (.aload_n 0, 1, 0, 0, 0, 0) := by decide +kernel
theorem aX12i_246 : i_at mX12_init.2.2.2.2.2 246 = some (.bipush 72, 2, 0, 0, 0, 0) := by decide +kernel
theorem aX12i_248 : i_at mX12_init.2.2.2.2.2 248 = some (.newarray .int, 2, 0, 0, 146, 0) := by decide +kernel
theorem aX12i_250 : i_at mX12_init.2.2.2.2.2 250 = some (.putfield 84, 3, 11, 34, 1121, 0) := by decide +kernel
theorem aX12i_253 : i_at mX12_init.2.2.2.2.2 253 = some (.aload_n 0, 1, 0, 0, 0, 0) := by decide +kernel
theorem aX12i_254 : i_at mX12_init.2.2.2.2.2 254 = some (.bipush 72, 2, 0, 0, 0, 0) := by decide +kernel
theorem aX12i_256 : i_at mX12_init.2.2.2.2.2 256 = some (.newarray .int, 2, 0, 0, 146, 0) := by decide +kernel
theorem aX12i_258 : i_at mX12_init.2.2.2.2.2 258 = some (.putfield 87, 3, 11, 35, 1122, 0) := by decide +kernel
theorem aX12i_261 : i_at mX12_init.2.2.2.2.2 261 = some (.aload_n 0, 1, 0, 0, 0, 0) := by decide +kernel
theorem aX12i_262 : i_at mX12_init.2.2.2.2.2 262 = some (.sipush 402, 3, 0, 0, 0, 0) := by decide +kernel
theorem aX12i_265 : i_at mX12_init.2.2.2.2.2 265 = some (.newarray .int, 2, 0, 0, 146, 0) := by decide +kernel
theorem aX12i_267 : i_at mX12_init.2.2.2.2.2 267 = some (.putfield 90, 3, 11, 36, 1123, 0) := by decide +kernel
theorem aX12i_270 : i_at mX12_init.2.2.2.2.2 270 = some (.aload_n 0, 1, 0, 0, 0, 0) := by decide +kernel
theorem aX12i_271 : i_at mX12_init.2.2.2.2.2 271 = some (.bipush 12, 2, 0, 0, 0, 0) := by decide +kernel
theorem aX12i_273 : i_at mX12_init.2.2.2.2.2 273 = some (.newarray .long, 2, 0, 0, 277, 0) := by decide +kernel
theorem aX12i_275 : i_at mX12_init.2.2.2.2.2 275 = some (.putfield 93, 3, 11, 37, 1124, 0) := by decide +kernel
theorem aX12i_278 : i_at mX12_init.2.2.2.2.2 278 = some (.aload_n 0, 1, 0, 0, 0, 0) := by decide +kernel
theorem aX12i_279 : i_at mX12_init.2.2.2.2.2 279 = some (.sipush 300, 3, 0, 0, 0, 0) := by decide +kernel
theorem aX12i_282 : i_at mX12_init.2.2.2.2.2 282 = some (.newarray .long, 2, 0, 0, 277, 0) := by decide +kernel
theorem aX12i_284 : i_at mX12_init.2.2.2.2.2 284 = some (.putfield 97, 3, 11, 38, 1125, 0) := by decide +kernel
theorem aX12i_287 : i_at mX12_init.2.2.2.2.2 287 = some (.aload_n 0, 1, 0, 0, 0, 0) := by decide +kernel
theorem aX12i_288 : i_at mX12_init.2.2.2.2.2 288 = some (.sipush 560, 3, 0, 0, 0, 0) := by decide +kernel
theorem aX12i_291 : i_at mX12_init.2.2.2.2.2 291 = some (.newarray .int, 2, 0, 0, 146, 0) := by decide +kernel
theorem aX12i_293 : i_at mX12_init.2.2.2.2.2 293 = some (.putfield 100, 3, 11, 39, 1126, 0) := by decide +kernel
theorem aX12i_296 : i_at mX12_init.2.2.2.2.2 296 = some (.aload_n 0, 1, 0, 0, 0, 0) := by decide +kernel
theorem aX12i_297 : i_at mX12_init.2.2.2.2.2 297 = some (.iconst 1, 1, 0, 0, 0, 0) := by decide +kernel
theorem aX12i_298 : i_at mX12_init.2.2.2.2.2 298 = some (.newarray .int, 2, 0, 0, 146, 0) := by decide +kernel
theorem aX12i_300 : i_at mX12_init.2.2.2.2.2 300 = some (.putfield 103, 3, 11, 40, 1127, 0) := by decide +kernel
theorem aX12i_303 : i_at mX12_init.2.2.2.2.2 303 = some (.aload_n 0, 1, 0, 0, 0, 0) := by decide +kernel
theorem aX12i_304 : i_at mX12_init.2.2.2.2.2 304 = some (.bipush 6, 2, 0, 0, 0, 0) := by decide +kernel
theorem aX12i_306 : i_at mX12_init.2.2.2.2.2 306 = some (.newarray .int, 2, 0, 0, 146, 0) := by decide +kernel
theorem aX12i_308 : i_at mX12_init.2.2.2.2.2 308 = some (.putfield 106, 3, 11, 44, 1131, 0) := by decide +kernel
theorem aX12i_311 : i_at mX12_init.2.2.2.2.2 311 = some (.aload_n 0, 1, 0, 0, 0, 0) := by decide +kernel
theorem aX12i_312 : i_at mX12_init.2.2.2.2.2 312 = some (.bipush 25, 2, 0, 0, 0, 0) := by decide +kernel
theorem aX12i_314 : i_at mX12_init.2.2.2.2.2 314 = some (.newarray .int, 2, 0, 0, 146, 0) := by decide +kernel
theorem aX12i_316 : i_at mX12_init.2.2.2.2.2 316 = some (.putfield 109, 3, 11, 45, 1132, 0) := by decide +kernel
theorem aX12i_319 : i_at mX12_init.2.2.2.2.2 319 = some (.aload_n 0, 1, 0, 0, 0, 0) := by decide +kernel
theorem aX12i_320 : i_at mX12_init.2.2.2.2.2 320 = some (.bipush 25, 2, 0, 0, 0, 0) := by decide +kernel
theorem aX12i_322 : i_at mX12_init.2.2.2.2.2 322 = some (.newarray .int, 2, 0, 0, 146, 0) := by decide +kernel
theorem aX12i_324 : i_at mX12_init.2.2.2.2.2 324 = some (.putfield 112, 3, 11, 46, 1133, 0) := by decide +kernel
theorem aX12i_327 : i_at mX12_init.2.2.2.2.2 327 = some (.aload_n 0, 1, 0, 0, 0, 0) := by decide +kernel
theorem aX12i_328 : i_at mX12_init.2.2.2.2.2 328 = some (.bipush 66, 2, 0, 0, 0, 0) := by decide +kernel
theorem aX12i_330 : i_at mX12_init.2.2.2.2.2 330 = some (.newarray .int, 2, 0, 0, 146, 0) := by decide +kernel
theorem aX12i_332 : i_at mX12_init.2.2.2.2.2 332 = some (.putfield 115, 3, 11, 47, 1134, 0) := by decide +kernel
theorem aX12i_335 : i_at mX12_init.2.2.2.2.2 335 = some (.aload_n 0, 1, 0, 0, 0, 0) := by decide +kernel
theorem aX12i_336 : i_at mX12_init.2.2.2.2.2 336 = some (.sipush 427, 3, 0, 0, 0, 0) := by decide +kernel
theorem aX12i_339 : i_at mX12_init.2.2.2.2.2 339 = some (.newarray .int, 2, 0, 0, 146, 0) := by decide +kernel
theorem aX12i_341 : i_at mX12_init.2.2.2.2.2 341 = some (.putfield 118, 3, 11, 48, 1135, 0) := by decide +kernel
theorem aX12i_344 : i_at mX12_init.2.2.2.2.2 344 = some (.aload_n 0, 1, 0, 0, 0, 0) := by decide +kernel
theorem aX12i_345 : i_at mX12_init.2.2.2.2.2 345 = some (.sipush 3500, 3, 0, 0, 0, 0) := by decide +kernel
theorem aX12i_348 : i_at mX12_init.2.2.2.2.2 348 = some (.newarray .int, 2, 0, 0, 146, 0) := by decide +kernel
theorem aX12i_350 : i_at mX12_init.2.2.2.2.2 350 = some (.putfield 121, 3, 11, 49, 1136, 0) := by decide +kernel
theorem aX12i_353 : i_at mX12_init.2.2.2.2.2 353 = some (.aload_n 0, 1, 0, 0, 0, 0) := by decide +kernel
theorem aX12i_354 : i_at mX12_init.2.2.2.2.2 354 = some (.iconst 4, 1, 0, 0, 0, 0) := by decide +kernel
theorem aX12i_355 : i_at mX12_init.2.2.2.2.2 355 = some (.newarray .boolean, 2, 0, 0, 452, 0) := by decide +kernel
theorem aX12i_357 : i_at mX12_init.2.2.2.2.2 357 = some (.putfield 124, 3, 11, 50, 1137, 0) := by decide +kernel
theorem aX12i_360 : i_at mX12_init.2.2.2.2.2 360 = some (.return_, 1, 0, 0, 0, 0) := by decide +kernel
def row1 : Nat → Int32 := (upd (upd (upd (upd (upd (upd (upd (upd (upd (upd (upd (fun _ => 0) (nI 0).toNatClampNeg (nI 0)) (nI 1).toNatClampNeg (nI 0)) (nI 2).toNatClampNeg (nI 0)) (nI 3).toNatClampNeg (nI 0)) (nI 4).toNatClampNeg (nI 0)) (nI 5).toNatClampNeg (-1)) (nI 6).toNatClampNeg (-1)) (nI 7).toNatClampNeg (nI 0)) (nI 8).toNatClampNeg (nI 0)) (nI 9).toNatClampNeg (nI 0)) (nI 10).toNatClampNeg (-1))
def s0R : St := (fun i k => if k = 28 then nI 12 else 0, fun i => if i = 1 then row1 else fun _ => 0, fun _ _ => 0, fun _ _ => none)
set_option maxRecDepth 40000 in
theorem refInit : i_X 1 126 [.ref 0] [.inr (11, i_dfl 11)] 100 12000 none (s_h shR s0R) := by
  have hSB : 10000 < i_SB := by decide
  refine p_X (M := mX12_init) (loc := [.ref 0]) rfl (Nat.le_of_ble_eq_true rfl) rfl ?_
  show p_R _ _ _ _ _ _ 0 _ _ (([] : iH) ++ [.inr (11, i_dfl 11)]) 0 0
  refine p_s aX12i_0 rfl ?_
  refine p_s (pc2 := 4) (st2 := []) aX12i_1 rfl ?_
  refine p_s aX12i_4 rfl ?_
  refine p_s (st2 := .int (nI 11) :: _) aX12i_5 rfl ?_
  refine p_newA (n := 11) (r := 1) aX12i_7 (by omega) rfl (by omega) (by omega) (by omega) rfl ?_
  refine p_s (st2 := .ref (1) :: .ref (1) :: _) aX12i_9 rfl ?_
  refine p_s (st2 := .int (nI 0) :: _) aX12i_10 rfl ?_
  refine p_s (st2 := .int (nI 0) :: _) aX12i_11 rfl ?_
  refine p_ist (k := 1) (x := (nI 0)) (j := (nI 0)) aX12i_12 rfl rfl ⟨by decide, by decide⟩ rfl ?_
  refine p_s (st2 := .ref (1) :: .ref (1) :: _) aX12i_13 rfl ?_
  refine p_s (st2 := .int (nI 1) :: _) aX12i_14 rfl ?_
  refine p_s (st2 := .int (nI 0) :: _) aX12i_15 rfl ?_
  refine p_ist (k := 1) (x := (nI 0)) (j := (nI 1)) aX12i_16 rfl rfl ⟨by decide, by decide⟩ rfl ?_
  refine p_s (st2 := .ref (1) :: .ref (1) :: _) aX12i_17 rfl ?_
  refine p_s (st2 := .int (nI 2) :: _) aX12i_18 rfl ?_
  refine p_s (st2 := .int (nI 0) :: _) aX12i_19 rfl ?_
  refine p_ist (k := 1) (x := (nI 0)) (j := (nI 2)) aX12i_20 rfl rfl ⟨by decide, by decide⟩ rfl ?_
  refine p_s (st2 := .ref (1) :: .ref (1) :: _) aX12i_21 rfl ?_
  refine p_s (st2 := .int (nI 3) :: _) aX12i_22 rfl ?_
  refine p_s (st2 := .int (nI 0) :: _) aX12i_23 rfl ?_
  refine p_ist (k := 1) (x := (nI 0)) (j := (nI 3)) aX12i_24 rfl rfl ⟨by decide, by decide⟩ rfl ?_
  refine p_s (st2 := .ref (1) :: .ref (1) :: _) aX12i_25 rfl ?_
  refine p_s (st2 := .int (nI 4) :: _) aX12i_26 rfl ?_
  refine p_s (st2 := .int (nI 0) :: _) aX12i_27 rfl ?_
  refine p_ist (k := 1) (x := (nI 0)) (j := (nI 4)) aX12i_28 rfl rfl ⟨by decide, by decide⟩ rfl ?_
  refine p_s (st2 := .ref (1) :: .ref (1) :: _) aX12i_29 rfl ?_
  refine p_s (st2 := .int (nI 5) :: _) aX12i_30 rfl ?_
  refine p_s (st2 := .int (-1) :: _) aX12i_31 rfl ?_
  refine p_ist (k := 1) (x := (-1)) (j := (nI 5)) aX12i_32 rfl rfl ⟨by decide, by decide⟩ rfl ?_
  refine p_s (st2 := .ref (1) :: .ref (1) :: _) aX12i_33 rfl ?_
  refine p_s (st2 := .int (nI 6) :: _) aX12i_34 rfl ?_
  refine p_s (st2 := .int (-1) :: _) aX12i_36 rfl ?_
  refine p_ist (k := 1) (x := (-1)) (j := (nI 6)) aX12i_37 rfl rfl ⟨by decide, by decide⟩ rfl ?_
  refine p_s (st2 := .ref (1) :: .ref (1) :: _) aX12i_38 rfl ?_
  refine p_s (st2 := .int (nI 7) :: _) aX12i_39 rfl ?_
  refine p_s (st2 := .int (nI 0) :: _) aX12i_41 rfl ?_
  refine p_ist (k := 1) (x := (nI 0)) (j := (nI 7)) aX12i_42 rfl rfl ⟨by decide, by decide⟩ rfl ?_
  refine p_s (st2 := .ref (1) :: .ref (1) :: _) aX12i_43 rfl ?_
  refine p_s (st2 := .int (nI 8) :: _) aX12i_44 rfl ?_
  refine p_s (st2 := .int (nI 0) :: _) aX12i_46 rfl ?_
  refine p_ist (k := 1) (x := (nI 0)) (j := (nI 8)) aX12i_47 rfl rfl ⟨by decide, by decide⟩ rfl ?_
  refine p_s (st2 := .ref (1) :: .ref (1) :: _) aX12i_48 rfl ?_
  refine p_s (st2 := .int (nI 9) :: _) aX12i_49 rfl ?_
  refine p_s (st2 := .int (nI 0) :: _) aX12i_51 rfl ?_
  refine p_ist (k := 1) (x := (nI 0)) (j := (nI 9)) aX12i_52 rfl rfl ⟨by decide, by decide⟩ rfl ?_
  refine p_s (st2 := .ref (1) :: .ref (1) :: _) aX12i_53 rfl ?_
  refine p_s (st2 := .int (nI 10) :: _) aX12i_54 rfl ?_
  refine p_s (st2 := .int (-1) :: _) aX12i_56 rfl ?_
  refine p_ist (k := 1) (x := (-1)) (j := (nI 10)) aX12i_57 rfl rfl ⟨by decide, by decide⟩ rfl ?_
  refine p_putE (k := 0) aX12i_58 rfl rfl rfl (Nat.le_of_ble_eq_true rfl) rfl ?_
  refine p_s aX12i_61 rfl ?_
  refine p_s (st2 := .int (nI 6) :: _) aX12i_62 rfl ?_
  refine p_newA (n := 6) (r := 2) aX12i_64 (by omega) rfl (by omega) (by omega) (by omega) rfl ?_
  refine p_putE (k := 0) aX12i_66 rfl rfl rfl (Nat.le_of_ble_eq_true rfl) rfl ?_
  refine p_s aX12i_69 rfl ?_
  refine p_s (st2 := .int (nI 6) :: _) aX12i_70 rfl ?_
  refine p_newA (n := 6) (r := 3) aX12i_72 (by omega) rfl (by omega) (by omega) (by omega) rfl ?_
  refine p_putE (k := 0) aX12i_74 rfl rfl rfl (Nat.le_of_ble_eq_true rfl) rfl ?_
  refine p_s aX12i_77 rfl ?_
  refine p_s (st2 := .int (nI 6) :: _) aX12i_78 rfl ?_
  refine p_newA (n := 6) (r := 4) aX12i_80 (by omega) rfl (by omega) (by omega) (by omega) rfl ?_
  refine p_putE (k := 0) aX12i_82 rfl rfl rfl (Nat.le_of_ble_eq_true rfl) rfl ?_
  refine p_s aX12i_85 rfl ?_
  refine p_s (st2 := .int (nI 12) :: _) aX12i_86 rfl ?_
  refine p_newA (n := 12) (r := 5) aX12i_88 (by omega) rfl (by omega) (by omega) (by omega) rfl ?_
  refine p_putE (k := 0) aX12i_90 rfl rfl rfl (Nat.le_of_ble_eq_true rfl) rfl ?_
  refine p_s aX12i_93 rfl ?_
  refine p_s (st2 := .int (nI 6) :: _) aX12i_94 rfl ?_
  refine p_newA (n := 6) (r := 6) aX12i_96 (by omega) rfl (by omega) (by omega) (by omega) rfl ?_
  refine p_putE (k := 0) aX12i_98 rfl rfl rfl (Nat.le_of_ble_eq_true rfl) rfl ?_
  refine p_s aX12i_101 rfl ?_
  refine p_s (st2 := .int (nI 6) :: _) aX12i_102 rfl ?_
  refine p_newA (n := 6) (r := 7) aX12i_104 (by omega) rfl (by omega) (by omega) (by omega) rfl ?_
  refine p_putE (k := 0) aX12i_106 rfl rfl rfl (Nat.le_of_ble_eq_true rfl) rfl ?_
  refine p_s aX12i_109 rfl ?_
  refine p_s (st2 := .int (nI 6) :: _) aX12i_110 rfl ?_
  refine p_newA (n := 6) (r := 8) aX12i_112 (by omega) rfl (by omega) (by omega) (by omega) rfl ?_
  refine p_putE (k := 0) aX12i_114 rfl rfl rfl (Nat.le_of_ble_eq_true rfl) rfl ?_
  refine p_s aX12i_117 rfl ?_
  refine p_s (st2 := .int (nI 6) :: _) aX12i_118 rfl ?_
  refine p_newA (n := 6) (r := 9) aX12i_120 (by omega) rfl (by omega) (by omega) (by omega) rfl ?_
  refine p_putE (k := 0) aX12i_122 rfl rfl rfl (Nat.le_of_ble_eq_true rfl) rfl ?_
  refine p_s aX12i_125 rfl ?_
  refine p_s (st2 := .int (nI 10) :: _) aX12i_126 rfl ?_
  refine p_newA (n := 10) (r := 10) aX12i_128 (by omega) rfl (by omega) (by omega) (by omega) rfl ?_
  refine p_putE (k := 0) aX12i_130 rfl rfl rfl (Nat.le_of_ble_eq_true rfl) rfl ?_
  refine p_s aX12i_133 rfl ?_
  refine p_s (st2 := .int (nI 10) :: _) aX12i_134 rfl ?_
  refine p_newA (n := 10) (r := 11) aX12i_136 (by omega) rfl (by omega) (by omega) (by omega) rfl ?_
  refine p_putE (k := 0) aX12i_138 rfl rfl rfl (Nat.le_of_ble_eq_true rfl) rfl ?_
  refine p_s aX12i_141 rfl ?_
  refine p_s (st2 := .int (nI 6) :: _) aX12i_142 rfl ?_
  refine p_newA (n := 6) (r := 12) aX12i_144 (by omega) rfl (by omega) (by omega) (by omega) rfl ?_
  refine p_putE (k := 0) aX12i_146 rfl rfl rfl (Nat.le_of_ble_eq_true rfl) rfl ?_
  refine p_s aX12i_149 rfl ?_
  refine p_s (st2 := .int (nI 4) :: _) aX12i_150 rfl ?_
  refine p_newA (n := 4) (r := 13) aX12i_151 (by omega) rfl (by omega) (by omega) (by omega) rfl ?_
  refine p_putE (k := 0) aX12i_153 rfl rfl rfl (Nat.le_of_ble_eq_true rfl) rfl ?_
  refine p_s aX12i_156 rfl ?_
  refine p_s (st2 := .int (nI 6) :: _) aX12i_157 rfl ?_
  refine p_newA (n := 6) (r := 14) aX12i_159 (by omega) rfl (by omega) (by omega) (by omega) rfl ?_
  refine p_putE (k := 0) aX12i_161 rfl rfl rfl (Nat.le_of_ble_eq_true rfl) rfl ?_
  refine p_s aX12i_164 rfl ?_
  refine p_s (st2 := .int (nI 6) :: _) aX12i_165 rfl ?_
  refine p_newA (n := 6) (r := 15) aX12i_167 (by omega) rfl (by omega) (by omega) (by omega) rfl ?_
  refine p_putE (k := 0) aX12i_169 rfl rfl rfl (Nat.le_of_ble_eq_true rfl) rfl ?_
  refine p_s aX12i_172 rfl ?_
  refine p_s (st2 := .int (nI 12) :: _) aX12i_173 rfl ?_
  refine p_newA (n := 12) (r := 16) aX12i_175 (by omega) rfl (by omega) (by omega) (by omega) rfl ?_
  refine p_putE (k := 0) aX12i_177 rfl rfl rfl (Nat.le_of_ble_eq_true rfl) rfl ?_
  refine p_s aX12i_180 rfl ?_
  refine p_s (st2 := .int (nI 6) :: _) aX12i_181 rfl ?_
  refine p_newA (n := 6) (r := 17) aX12i_183 (by omega) rfl (by omega) (by omega) (by omega) rfl ?_
  refine p_putE (k := 0) aX12i_185 rfl rfl rfl (Nat.le_of_ble_eq_true rfl) rfl ?_
  refine p_s aX12i_188 rfl ?_
  refine p_s (st2 := .int (nI 6) :: _) aX12i_189 rfl ?_
  refine p_newA (n := 6) (r := 18) aX12i_191 (by omega) rfl (by omega) (by omega) (by omega) rfl ?_
  refine p_putE (k := 0) aX12i_193 rfl rfl rfl (Nat.le_of_ble_eq_true rfl) rfl ?_
  refine p_s aX12i_196 rfl ?_
  refine p_s (st2 := .int (nI 12) :: _) aX12i_197 rfl ?_
  refine p_putE (k := 0) aX12i_199 rfl rfl rfl (Nat.le_of_ble_eq_true rfl) rfl ?_
  refine p_s aX12i_202 rfl ?_
  refine p_s (st2 := .int (nI 400) :: _) aX12i_203 rfl ?_
  refine p_newB (n := 400) (r := 19) aX12i_206 (by omega) rfl (by omega) (by omega) (by omega) rfl ?_
  refine p_putE (k := 0) aX12i_208 rfl rfl rfl (Nat.le_of_ble_eq_true rfl) rfl ?_
  refine p_s aX12i_211 rfl ?_
  refine p_s (st2 := .int (nI 1800) :: _) aX12i_212 rfl ?_
  refine p_newA (n := 1800) (r := 20) aX12i_215 (by omega) rfl (by omega) (by omega) (by omega) rfl ?_
  refine p_putE (k := 0) aX12i_217 rfl rfl rfl (Nat.le_of_ble_eq_true rfl) rfl ?_
  refine p_s aX12i_220 rfl ?_
  refine p_s (st2 := .int (nI 1800) :: _) aX12i_221 rfl ?_
  refine p_newA (n := 1800) (r := 21) aX12i_224 (by omega) rfl (by omega) (by omega) (by omega) rfl ?_
  refine p_putE (k := 0) aX12i_226 rfl rfl rfl (Nat.le_of_ble_eq_true rfl) rfl ?_
  refine p_s aX12i_229 rfl ?_
  refine p_s (st2 := .int (nI 6) :: _) aX12i_230 rfl ?_
  refine p_newA (n := 6) (r := 22) aX12i_232 (by omega) rfl (by omega) (by omega) (by omega) rfl ?_
  refine p_putE (k := 0) aX12i_234 rfl rfl rfl (Nat.le_of_ble_eq_true rfl) rfl ?_
  refine p_s aX12i_237 rfl ?_
  refine p_s (st2 := .int (nI 72) :: _) aX12i_238 rfl ?_
  refine p_newA (n := 72) (r := 23) aX12i_240 (by omega) rfl (by omega) (by omega) (by omega) rfl ?_
  refine p_putE (k := 0) aX12i_242 rfl rfl rfl (Nat.le_of_ble_eq_true rfl) rfl ?_
  refine p_s aX12i_245 rfl ?_
  refine p_s (st2 := .int (nI 72) :: _) aX12i_246 rfl ?_
  refine p_newA (n := 72) (r := 24) aX12i_248 (by omega) rfl (by omega) (by omega) (by omega) rfl ?_
  refine p_putE (k := 0) aX12i_250 rfl rfl rfl (Nat.le_of_ble_eq_true rfl) rfl ?_
  refine p_s aX12i_253 rfl ?_
  refine p_s (st2 := .int (nI 72) :: _) aX12i_254 rfl ?_
  refine p_newA (n := 72) (r := 25) aX12i_256 (by omega) rfl (by omega) (by omega) (by omega) rfl ?_
  refine p_putE (k := 0) aX12i_258 rfl rfl rfl (Nat.le_of_ble_eq_true rfl) rfl ?_
  refine p_s aX12i_261 rfl ?_
  refine p_s (st2 := .int (nI 402) :: _) aX12i_262 rfl ?_
  refine p_newA (n := 402) (r := 26) aX12i_265 (by omega) rfl (by omega) (by omega) (by omega) rfl ?_
  refine p_putE (k := 0) aX12i_267 rfl rfl rfl (Nat.le_of_ble_eq_true rfl) rfl ?_
  refine p_s aX12i_270 rfl ?_
  refine p_s (st2 := .int (nI 12) :: _) aX12i_271 rfl ?_
  refine p_newL (n := 12) (r := 27) aX12i_273 (by omega) rfl (by omega) (by omega) (by omega) rfl ?_
  refine p_putE (k := 0) aX12i_275 rfl rfl rfl (Nat.le_of_ble_eq_true rfl) rfl ?_
  refine p_s aX12i_278 rfl ?_
  refine p_s (st2 := .int (nI 300) :: _) aX12i_279 rfl ?_
  refine p_newL (n := 300) (r := 28) aX12i_282 (by omega) rfl (by omega) (by omega) (by omega) rfl ?_
  refine p_putE (k := 0) aX12i_284 rfl rfl rfl (Nat.le_of_ble_eq_true rfl) rfl ?_
  refine p_s aX12i_287 rfl ?_
  refine p_s (st2 := .int (nI 560) :: _) aX12i_288 rfl ?_
  refine p_newA (n := 560) (r := 29) aX12i_291 (by omega) rfl (by omega) (by omega) (by omega) rfl ?_
  refine p_putE (k := 0) aX12i_293 rfl rfl rfl (Nat.le_of_ble_eq_true rfl) rfl ?_
  refine p_s aX12i_296 rfl ?_
  refine p_s (st2 := .int (nI 1) :: _) aX12i_297 rfl ?_
  refine p_newA (n := 1) (r := 30) aX12i_298 (by omega) rfl (by omega) (by omega) (by omega) rfl ?_
  refine p_putE (k := 0) aX12i_300 rfl rfl rfl (Nat.le_of_ble_eq_true rfl) rfl ?_
  refine p_s aX12i_303 rfl ?_
  refine p_s (st2 := .int (nI 6) :: _) aX12i_304 rfl ?_
  refine p_newA (n := 6) (r := 31) aX12i_306 (by omega) rfl (by omega) (by omega) (by omega) rfl ?_
  refine p_putE (k := 0) aX12i_308 rfl rfl rfl (Nat.le_of_ble_eq_true rfl) rfl ?_
  refine p_s aX12i_311 rfl ?_
  refine p_s (st2 := .int (nI 25) :: _) aX12i_312 rfl ?_
  refine p_newA (n := 25) (r := 32) aX12i_314 (by omega) rfl (by omega) (by omega) (by omega) rfl ?_
  refine p_putE (k := 0) aX12i_316 rfl rfl rfl (Nat.le_of_ble_eq_true rfl) rfl ?_
  refine p_s aX12i_319 rfl ?_
  refine p_s (st2 := .int (nI 25) :: _) aX12i_320 rfl ?_
  refine p_newA (n := 25) (r := 33) aX12i_322 (by omega) rfl (by omega) (by omega) (by omega) rfl ?_
  refine p_putE (k := 0) aX12i_324 rfl rfl rfl (Nat.le_of_ble_eq_true rfl) rfl ?_
  refine p_s aX12i_327 rfl ?_
  refine p_s (st2 := .int (nI 66) :: _) aX12i_328 rfl ?_
  refine p_newA (n := 66) (r := 34) aX12i_330 (by omega) rfl (by omega) (by omega) (by omega) rfl ?_
  refine p_putE (k := 0) aX12i_332 rfl rfl rfl (Nat.le_of_ble_eq_true rfl) rfl ?_
  refine p_s aX12i_335 rfl ?_
  refine p_s (st2 := .int (nI 427) :: _) aX12i_336 rfl ?_
  refine p_newA (n := 427) (r := 35) aX12i_339 (by omega) rfl (by omega) (by omega) (by omega) rfl ?_
  refine p_putE (k := 0) aX12i_341 rfl rfl rfl (Nat.le_of_ble_eq_true rfl) rfl ?_
  refine p_s aX12i_344 rfl ?_
  refine p_s (st2 := .int (nI 3500) :: _) aX12i_345 rfl ?_
  refine p_newA (n := 3500) (r := 36) aX12i_348 (by omega) rfl (by omega) (by omega) (by omega) rfl ?_
  refine p_putE (k := 0) aX12i_350 rfl rfl rfl (Nat.le_of_ble_eq_true rfl) rfl ?_
  refine p_s aX12i_353 rfl ?_
  refine p_s (st2 := .int (nI 4) :: _) aX12i_354 rfl ?_
  refine p_newZ (n := 4) (r := 37) aX12i_355 (by omega) rfl (by omega) (by omega) (by omega) rfl ?_
  refine p_putE (k := 0) aX12i_357 rfl rfl rfl (Nat.le_of_ble_eq_true rfl) rfl ?_
  exact p_r aX12i_360 ⟨rfl, rfl, rfl, s_h_zip.trans rfl⟩ (by omega) (by omega)
