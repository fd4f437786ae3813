/-! ===== what the law finds at its entry ===== -/
def lg_Gv : List Cond := flatC (Jvm.Cond.and given_1 narrow_1)
def lg_sT (k : Nat) : Term := .string (i_str k).1 (i_str k).2.1
def lg_sV (k : Nat) : Term := .field (lg_sT k) "java/lang/String" "value" "[B"
def lg_pos (k : Nat) : Nat := [45, 81, 89, 162, 168, 175, 182, 188, 197, 206, 215, 225, 236, 245, 253, 262, 271, 279, 288, 298, 305, 316, 324, 334, 342, 349, 357, 365].getD k 0
def lg_row (k : Nat) : List Cond := Cond.exactly (lg_sT k) "java/lang/String" :: Cond.eq (.field (lg_sT k) "java/lang/String" "coder" "B") (.int 0) :: Cond.arrayOf (lg_sV k) .byte :: Cond.eq (.length (lg_sV k)) (.int (Int32.ofNat (i_slen k))) :: (List.range (i_slen k)).map (fun j => Cond.eq (.elem (lg_sV k) (.int (Int32.ofNat j))) (.int (i_schr k j)))
set_option maxRecDepth 1000000 in
theorem lg_rows : ∀ k, k < 28 → (lg_Gv.drop (lg_pos k)).take (4 + i_slen k) = lg_row k := by decide +kernel
theorem lg_in {k : Nat} (hk : k < 28) {w : Cond} (hw : w ∈ lg_row k) : w ∈ lg_Gv := by
  rw [← lg_rows k hk] at hw
  exact List.mem_of_mem_drop (List.mem_of_mem_take hw)
theorem lg_m1 (k : Nat) (hk : k < 28) : Cond.exactly (lg_sT k) "java/lang/String" ∈ lg_Gv := lg_in hk List.mem_cons_self
theorem lg_m2 (k : Nat) (hk : k < 28) : Cond.eq (.field (lg_sT k) "java/lang/String" "coder" "B") (.int 0) ∈ lg_Gv := lg_in hk (List.mem_cons_of_mem _ List.mem_cons_self)
theorem lg_m3 (k : Nat) (hk : k < 28) : Cond.arrayOf (lg_sV k) .byte ∈ lg_Gv := lg_in hk (List.mem_cons_of_mem _ (List.mem_cons_of_mem _ List.mem_cons_self))
theorem lg_m4 (k : Nat) (hk : k < 28) : Cond.eq (.length (lg_sV k)) (.int (Int32.ofNat (i_slen k))) ∈ lg_Gv := lg_in hk (List.mem_cons_of_mem _ (List.mem_cons_of_mem _ (List.mem_cons_of_mem _ List.mem_cons_self)))
theorem lg_m5 (k : Nat) (hk : k < 28) (j : Nat) (hj : j < i_slen k) : Cond.eq (.elem (lg_sV k) (.int (Int32.ofNat j))) (.int (i_schr k j)) ∈ lg_Gv := lg_in hk (List.mem_cons_of_mem _ (List.mem_cons_of_mem _ (List.mem_cons_of_mem _ (List.mem_cons_of_mem _ (List.mem_map.mpr ⟨j, List.mem_range.mpr hj, rfl⟩)))))
set_option maxRecDepth 1000000 in
theorem lg_m6 : ∀ k, k < 28 → Cond.stringRef (i_str k).1 (i_str k).2.1 (i_str k).2.2.1 ∈ lw_tbl := by decide +kernel
theorem lg_m7 : ∀ k, k < 28 → i_slen k < 2 ^ 31 := by decide +kernel
section LE
variable {s : State} {A : Array Value} {A0 : Nat → Prop}
theorem lg_K (hts : ∀ w ∈ i_tb, w.before A s = true) : ∃ D : va_G, va_K D vwCl [] s := by
  have h0 : ∀ k : Nat, ∃ q : ClassId × (Nat → Nat), ∀ z : vw_C, vwCl[k]? = some z → u_Kn s z.1 z.2.1 z.2.2 q.1 q.2 := by
    intro k
    cases hk : vwCl[k]? with
    | none => exact ⟨(0, fun _ => 0), fun z h => by cases h⟩
    | some z =>
      obtain ⟨C, T, N⟩ := z
      obtain ⟨h1, -, -, h2, -⟩ := i_cls hk
      obtain ⟨cC, iS, hKn⟩ := u_known (C := C) (T := T) (N := N) (n := N) hts h1 (hts _ h2)
      exact ⟨(cC, iS), fun z h => by cases h; exact hKn⟩
  exact ⟨(fun k => (Classical.choose (h0 k)).1, fun k => (Classical.choose (h0 k)).2), fun k z h => Classical.choose_spec (h0 k) z h, fun k q h => by simp at h⟩
set_option maxRecDepth 1000000 in
theorem lg_En (hts : ∀ w ∈ lw_tbl, w.before A s = true) : i_En s := by
  refine ⟨?_, va_AO.of (hts (.arrayOver (.object RX4)) (by decide +kernel)), va_AO.of (hts (.arrayOver (.object RX7)) (by decide +kernel)), va_AO.of (hts (.arrayOver (.object RX10)) (by decide +kernel)), hts (.arrayOver (.array .int)) (by decide +kernel), va_Nw.of rfl (hts (.castable "[I" "java/lang/Cloneable") (by decide +kernel))⟩
  exact i_nst_cases (va_Nw.of rfl (hts (i_nst 0) (by decide +kernel))) (va_Nw.of rfl (hts (i_nst 1) (by decide +kernel))) (va_Nw.of rfl (hts (i_nst 2) (by decide +kernel))) (va_Nw.of rfl (hts (i_nst 3) (by decide +kernel))) (va_Nw.of rfl (hts (i_nst 4) (by decide +kernel))) (va_Nw.of rfl (hts (i_nst 5) (by decide +kernel)))
set_option maxRecDepth 1000000 in
theorem lg_Es (hts : ∀ w ∈ lw_tbl, w.before A s = true) (hgv : ∀ w ∈ lg_Gv, w.before A s = true) (hA : ∀ a : Nat, a < s.heap.size → ¬ A0 a) : ∃ sa sv : Nat → Nat, i_Es sa sv A0 s s.heap := by
  have h0 : ∀ i : Nat, ∃ q : Nat × Nat, i < 28 → vk_R (i_str i).1 (i_str i).2.1 (i_str i).2.2.1 q.1 s ∧ va_O "java/lang/String" q.1 A0 s s.heap ∧ va_OF "java/lang/String" "coder" "B" (.int 0) q.1 A0 s s.heap ∧ va_OF "java/lang/String" "value" "[B" (.ref q.2) q.1 A0 s s.heap ∧ va_T .byte q.2 (i_slen i) (fun j => .int (i_schr i j)) A0 s s.heap := by
    intro i
    by_cases hi : i < 28
    · obtain ⟨a, c, cA, kA, q1, q2, q3, q4, q5, q6, -⟩ := Cond.exactly_spec (args := A) (first := s) (o := none) (s := s) (idx := []) (t := lg_sT i) (cls := "java/lang/String") (hgv _ (lg_m1 i hi))
      obtain ⟨t, ht, hT⟩ := va_Tof (f := fun j => .int (i_schr i j)) (A := A0) (lg_m7 i hi) (hgv _ (lg_m3 i hi)) (va_eqt (hgv _ (lg_m4 i hi))) (fun j hj => va_eqt (hgv _ (lg_m5 i hi j hj))) hA
      exact ⟨(a, t), fun _ => ⟨vk_R.of (hts _ (lg_m6 i hi)) q1, ⟨cA, q3, q5, by rw [q6]; exact q2, hA a (Array.getElem?_eq_some_iff.mp q3).1⟩, vk_OFof q1 (va_eqt (hgv _ (lg_m2 i hi))) hA, vk_OFof q1 ht hA, hT⟩⟩
    · exact ⟨(0, 0), fun h => absurd h hi⟩
  refine ⟨fun i => (Classical.choose (h0 i)).1, fun i => (Classical.choose (h0 i)).2, fun i hi => Classical.choose_spec (h0 i) hi, ?_, ?_⟩
  · exact va_Zof (hts (.laysStatic "java/lang/String" "COMPACT_STRINGS" "Z") (by decide +kernel)) (hts (.initialized "java/lang/String") (by decide +kernel)) (va_eqt (hgv (.eq (.static "java/lang/String" "COMPACT_STRINGS" "Z") (.int 1)) (by decide +kernel))) hA
  · exact va_Zqof (hts (.laysStatic "jdk/internal/util/Preconditions" "SIOOBE_FORMATTER" "Ljava/util/function/BiFunction;") (by decide +kernel)) (hts (.initialized "jdk/internal/util/Preconditions") (by decide +kernel)) (hgv (.isRef (.static "jdk/internal/util/Preconditions" "SIOOBE_FORMATTER" "Ljava/util/function/BiFunction;")) (by decide +kernel)) hA
theorem lg_E (hts : ∀ w ∈ lw_tbl, w.before A s = true) (hgv : (Jvm.Cond.and given_1 narrow_1).before A s = true) : ∃ (D : va_G) (sa sv : Nat → Nat), i_E D sa sv (fun q : Nat => s.heap.size ≤ q) s s.heap := by
  obtain ⟨D, hD⟩ := lg_K (A := A) (s := s) (fun w hw => hts w (List.mem_filter.mp hw).1)
  obtain ⟨sa, sv, hS⟩ := lg_Es (A0 := fun q : Nat => s.heap.size ≤ q) hts (flat_of_before _ hgv) (fun a h1 h2 => by omega)
  exact ⟨D, sa, sv, hD, lg_En hts, hS⟩
end LE
