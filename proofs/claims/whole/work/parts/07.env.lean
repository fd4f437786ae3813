/-! ===== what a method finds beside its world: nest mates, arrays of references, String constants ===== -/
def i_AOA (U : State) : Prop := (Cond.arrayOver (.array .int)).before #[] U = true
theorem i_AOA.spec {s : State} (h : i_AOA s) : ∃ comp c k, s.vm.findClass (FieldType.array .int).toString = some comp ∧ (s.vm.classes.findIdx? fun (x : Class) => match x.kind with | .array component _ => component == comp | _ => false) = some c ∧ s.vm.classes[c]? = some k ∧ k.kind = .array comp (.array .int) ∧ s.vm.findClass ("[" ++ (FieldType.array .int).toString) = some c := by
  unfold i_AOA Cond.before at h
  simp only [Cond.holds, Cond.value, beq_iff_eq] at h
  cases hc : s.vm.findClass (FieldType.array .int).toString with
  | none => simp [hc] at h
  | some comp =>
    simp only [hc, Option.bind_some, Option.bind_eq_some_iff, Option.map_eq_some_iff] at h
    obtain ⟨c, hi, k, hk, hb⟩ := h
    obtain ⟨hlt, hp, -⟩ := Array.findIdx?_eq_some_iff_getElem.mp hi
    have hkk : s.vm.classes[c] = k := (Array.getElem?_eq_some_iff.mp hk).2
    rw [hkk] at hp
    cases hkind : k.kind with
    | array component ty =>
      rw [hkind] at hb hp
      simp at hb hp
      exact ⟨comp, c, k, rfl, hi, hk, by rw [hkind, hp, hb.1], hb.2⟩
    | _ => rw [hkind] at hb; simp at hb
theorem i_AOA.moved {u U : State} (hvm : u.vm.Alike U.vm) (h : i_AOA u) : i_AOA U := by
  obtain ⟨comp, c, k, h1, h2, h3, h4, h5⟩ := i_AOA.spec h
  obtain ⟨k', hk', he⟩ := hvm.2.2 _ _ h3
  have hi : (U.vm.classes.findIdx? fun (x : Class) => match x.kind with | .array component _ => component == comp | _ => false) = some c := by
    have e1 := va_idx_bare U.vm comp
    have e2 := va_idx_bare u.vm comp
    have e3 : U.vm.bare = u.vm.bare := by first | exact hvm.bare_eq | exact hvm.bare_eq.symm
    rw [e3] at e1
    exact e1.symm.trans (e2.trans h2)
  have hkind : k'.kind = .array comp (.array .int) := by rw [he]; exact h4
  have f1 : U.vm.findClass (FieldType.array .int).toString = some comp := by rw [hvm.findClass]; exact h1
  have f2 : U.vm.findClass ("[" ++ (FieldType.array .int).toString) = some c := by rw [hvm.findClass]; exact h5
  unfold i_AOA Cond.before Cond.holds
  simp only [Cond.value]
  rw [f1, Option.bind_some]
  refine (congrArg (fun o : Option Nat => (o.bind (fun c => (U.vm.classes[c]?).map fun (k : Class) => match k.kind with | .array _ ty => decide (ty = FieldType.array .int) && decide (U.vm.findClass ("[" ++ (FieldType.array .int).toString) = some c) | _ => false) == some true)) hi).trans ?_
  simp [hk', hkind, f2]
def i_En (U : State) : Prop := (∀ k : Nat, k < 6 → va_Nw (i_nst k) U) ∧ va_AO RX4 U ∧ va_AO RX7 U ∧ va_AO RX10 U ∧ i_AOA U ∧ va_Nw (.castable "[I" "java/lang/Cloneable") U
theorem i_nst_cases {P : Nat → Prop} (h0 : P 0) (h1 : P 1) (h2 : P 2) (h3 : P 3) (h4 : P 4) (h5 : P 5) : ∀ k : Nat, k < 6 → P k := by
  intro k hk
  rcases (show k = 0 ∨ k = 1 ∨ k = 2 ∨ k = 3 ∨ k = 4 ∨ k = 5 by omega) with rfl | rfl | rfl | rfl | rfl | rfl <;> assumption
theorem i_En.same {u U : State} (h : u.vm = U.vm) (hE : i_En u) : i_En U := by
  have hal : u.vm.Alike U.vm := by rw [h]; exact Vm.Alike.refl _
  obtain ⟨h1, h2, h3, h4, h5, h6⟩ := hE
  exact ⟨fun k hk => va_Nw.same (by revert k; exact i_nst_cases rfl rfl rfl rfl rfl rfl) h (h1 k hk), h2.moved hal, h3.moved hal, h4.moved hal, h5.moved hal, va_Nw.same rfl h h6⟩
theorem i_En.warm {s U : State} (hW : s.WarmedH U.vm) (hE : i_En s) : i_En U := by
  have hal := hW.alike
  obtain ⟨h1, h2, h3, h4, h5, h6⟩ := hE
  refine ⟨fun k hk => ?_, h2.moved hal, h3.moved hal, h4.moved hal, h5.moved hal, va_Nw.warmC hW h6⟩
  revert k
  exact i_nst_cases (va_Nw.warmM hW (h1 0 (by omega))) (va_Nw.warmM hW (h1 1 (by omega))) (va_Nw.warmM hW (h1 2 (by omega))) (va_Nw.warmM hW (h1 3 (by omega))) (va_Nw.warmM hW (h1 4 (by omega))) (va_Nw.warmM hW (h1 5 (by omega)))
  
def i_str (k : Nat) : String × Nat × String × List Int32 := i_strs.getD k ("", 0, "", [])
def i_Es (sa sv : Nat → Nat) (A : Nat → Prop) (U : State) (H : Heap) : Prop := (∀ k : Nat, k < 28 → vk_R (i_str k).1 (i_str k).2.1 (i_str k).2.2.1 (sa k) U ∧ va_O "java/lang/String" (sa k) A U H ∧ va_OF "java/lang/String" "coder" "B" (.int 0) (sa k) A U H ∧ va_OF "java/lang/String" "value" "[B" (.ref (sv k)) (sa k) A U H ∧ va_T .byte (sv k) (i_slen k) (fun j => .int (i_schr k j)) A U H) ∧ va_Z "java/lang/String" "COMPACT_STRINGS" "Z" (.int 1) A U H ∧ va_Zq "jdk/internal/util/Preconditions" "SIOOBE_FORMATTER" "Ljava/util/function/BiFunction;" A U H
theorem i_Es.same {sa sv : Nat → Nat} {A : Nat → Prop} {u U : State} {H : Heap} (h : u.vm = U.vm) (hE : i_Es sa sv A u H) : i_Es sa sv A U H := by
  have hal : u.vm.Alike U.vm := by rw [h]; exact Vm.Alike.refl _
  exact ⟨fun k hk => ⟨(hE.1 k hk).1.same h.symm, (hE.1 k hk).2.1.moved hal, (hE.1 k hk).2.2.1.moved hal, (hE.1 k hk).2.2.2.1.moved hal, (hE.1 k hk).2.2.2.2.moved hal⟩, hE.2.1.moved hal, hE.2.2.moved hal⟩
theorem i_Es.warm {sa sv : Nat → Nat} {A B : Nat → Prop} {s U : State} {H0 H : Heap} (hW : s.WarmedH U.vm) (hq : ∀ a : Nat, a < H0.size → ¬ A a → H[a]? = H0[a]?) (hAB : ∀ q, B q → A q) (hE : i_Es sa sv A s H0) : i_Es sa sv B U H := by
  have hal := hW.alike
  exact ⟨fun k hk => ⟨(hE.1 k hk).1.warm hW, (((hE.1 k hk).2.1.kept hq).narrow hAB).moved hal, (((hE.1 k hk).2.2.1.kept hq).narrow hAB).moved hal, (((hE.1 k hk).2.2.2.1.kept hq).narrow hAB).moved hal, (((hE.1 k hk).2.2.2.2.kept hq).narrow hAB).moved hal⟩, ((hE.2.1.kept hq).narrow hAB).moved hal, ((hE.2.2.kept hq).narrow hAB).moved hal⟩
def i_E (D : va_G) (sa sv : Nat → Nat) (A : Nat → Prop) (U : State) (H : Heap) : Prop := va_K D vwCl [] U ∧ i_En U ∧ i_Es sa sv A U H
theorem i_E.same {D : va_G} {sa sv : Nat → Nat} {A : Nat → Prop} {u U : State} {H : Heap} (h : u.vm = U.vm) (hE : i_E D sa sv A u H) : i_E D sa sv A U H :=
  ⟨va_K.moved (by rw [h]; exact Vm.Alike.refl _) hE.1, hE.2.1.same h, hE.2.2.same h⟩
theorem i_E.warm {D : va_G} {sa sv : Nat → Nat} {A B : Nat → Prop} {s U : State} {H0 H : Heap} (hW : s.WarmedH U.vm) (hq : ∀ a : Nat, a < H0.size → ¬ A a → H[a]? = H0[a]?) (hAB : ∀ q, B q → A q) (hE : i_E D sa sv A s H0) : i_E D sa sv B U H :=
  ⟨va_K.moved hW.alike hE.1, hE.2.1.warm hW, hE.2.2.warm hW hq hAB⟩
/-! the world of an abstract heap -/
def i_Ty (ad : iA) (h : iH) (U : State) : Prop := ∀ (i : Nat) (ty : FieldType) (x : vp_A), h[i]? = some (.inl (ty, x)) → ArrOfT U (ad.getD i (0, 0)).2 ty ∧ va_RA U (ad.getD i (0, 0)).2 ty
def i_Wd (sa : Nat → Nat) (D : va_G) (A : Nat → Prop) (ad : iA) (h : iH) (U : State) (H : Heap) : Prop := ad.length = h.length ∧ i_okh h ∧ va_P D vwCl (i_w sa ad h) H ∧ va_D A (i_w sa ad h) ∧ i_Ty ad h U
theorem i_Ty.moved {ad : iA} {h : iH} {u U : State} (hvm : u.vm.Alike U.vm) (ht : i_Ty ad h u) : i_Ty ad h U := fun i ty x hx => ⟨arrOfT_moved hvm (ht i ty x hx).1, (ht i ty x hx).2.moved hvm⟩
theorem i_Wd.moved {sa : Nat → Nat} {D : va_G} {A : Nat → Prop} {ad : iA} {h : iH} {u U : State} {H : Heap} (hvm : u.vm.Alike U.vm) (hw : i_Wd sa D A ad h u H) : i_Wd sa D A ad h U H := ⟨hw.1, hw.2.1, hw.2.2.1, hw.2.2.2.1, hw.2.2.2.2.moved hvm⟩
theorem i_Ty.set {ad : iA} {h : iH} {U : State} {i : Nat} {c : iC} (ht : i_Ty ad h U) (hc : ∀ ty x, c = .inl (ty, x) → ∃ x0, h[i]? = some (.inl (ty, x0))) : i_Ty ad (h.set i c) U := by
  intro j ty x hx
  by_cases hj : j = i
  · subst hj
    by_cases hl : j < h.length
    · rw [List.getElem?_set_self hl] at hx
      obtain ⟨x0, h0⟩ := hc ty x (Option.some.inj hx)
      exact ht j ty x0 h0
    · rw [List.set_eq_of_length_le (by omega)] at hx
      exact ht j ty x hx
  · rw [List.getElem?_set_ne (Ne.symm hj)] at hx
    exact ht j ty x hx
theorem i_Ty.push {ad : iA} {h : iH} {U : State} {q : Nat} {cid : ClassId} {c : iC} (e : ad.length = h.length) (ht : i_Ty ad h U) (hc : ∀ ty x, c = .inl (ty, x) → ArrOfT U cid ty ∧ va_RA U cid ty) : i_Ty (ad ++ [(q, cid)]) (h ++ [c]) U := by
  intro j ty x hx
  by_cases hl : j < h.length
  · rw [List.getElem?_append_left hl] at hx
    have := ht j ty x hx
    rw [List.getD_eq_getElem?_getD] at this ⊢
    rw [List.getElem?_append_left (by omega)]
    exact this
  · rw [List.getElem?_append_right (by omega)] at hx
    have hz : j - h.length < 1 := (List.getElem?_eq_some_iff.mp hx).1
    have hj : j = h.length := by omega
    subst hj
    rw [Nat.sub_self] at hx
    have := hc ty x (Option.some.inj hx)
    rw [List.getD_eq_getElem?_getD, List.getElem?_append_right (by omega), e, Nat.sub_self]
    exact this
theorem i_Wd.K {sa : Nat → Nat} {D : va_G} {A : Nat → Prop} {ad : iA} {h : iH} {U : State} {H : Heap} {i : Nat} {ty : FieldType} {x : vp_A} (hK : va_K D vwCl [] U) (hw : i_Wd sa D A ad h U H) (hx : h[i]? = some (.inl (ty, x))) : va_K D vwCl [((ad.getD i (0, 0)).2, ty)] U := by
  refine ⟨hK.1, fun k q hk => ?_⟩
  have hz : k < 1 := (List.getElem?_eq_some_iff.mp hk).1
  have h0 : k = 0 := by omega
  subst h0
  cases hk
  exact hw.2.2.2.2 i ty x hx
/-! a contract: start and end -/
def i_Pre (D : va_G) (sa sv : Nat → Nat) (as : List Value) (h : iH) (ad : iA) (sz : Nat) : Array Value → State → Prop := va_Pc (as.map (i_mv sa ad)) (fun U => U.heap.size = sz ∧ i_Wd sa D (fun _ => True) ad h U U.heap ∧ i_E D sa sv (va_A (i_w sa ad h) sz) U U.heap)
def i_Q (D : va_G) (sa : Nat → Nat) (A : Nat → Prop) (ad : iA) (v : Option Value) (h' : iH) : Array Value → State → Outcome → State → Prop := fun _ st o t => (∃ ex : iA, o = .returned (v.map (i_mv sa (ad ++ ex))) ∧ i_Wd sa D A (ad ++ ex) h' t t.heap ∧ ∀ x, v = some x → i_okv h'.length x) ∧ va_F A st t
theorem i_Pre.blind {D : va_G} {sa sv : Nat → Nat} {as : List Value} {h : iH} {ad : iA} {sz : Nat} : FrameBlind (i_Pre D sa sv as h ad sz) := by
  intro a U g mk q
  obtain ⟨q0, q1, q2, q3⟩ := q
  exact ⟨q0, q1, i_Wd.moved (u := U) (U := U.calling g mk a) (Vm.Alike.refl U.vm) q2, i_E.same (u := U) (U := U.calling g mk a) rfl q3⟩
section IC
variable {p : Program} {l : Launch} {e : Env} {R : Room} {s : State} {m : MethodId} {args : Array Value} {below : List Frame} {meth : Method} {c : Code} {H : Heap} {locs : List Loc} {cells slots : Nat} {Q : State → Prop}
variable {pc : Nat} {ls : Array Slot} {rest st0 : List Value} {a : Array Value} {A0 A1 : Nat → Prop} {H0 : Heap} {mc ms : Nat} {free : Addr → Prop} {D : va_G} {sa : Nat → Nat} {ad : iA} {v : Option Value} {h' : iH}
/-- behind a call of a method of the tables -/
theorem i_call (hr : va_Run p l e R s m args below meth c H locs cells slots mc ms (F0 m pc ls st0) rest (i_Q D sa A1 ad v h' a) free) (hS : va_S A0 H0 H locs) (hA : ∀ q, q < H.size → A1 q → A0 q) (hf : ∀ q, free q → A0 q)
    (kk : ∀ (ex : iA) (t : State) (H1 : Heap) (locs1 : List Loc), t.heap = H1 → s.vm.Alike t.vm → i_Wd sa D A1 (ad ++ ex) h' t H1 → (∀ x, v = some x → i_okv h'.length x) → va_S A0 H0 H1 locs1 → W p l e R s m args below meth c H1 locs1 (cells + mc) (slots + ms) Q (F0 m (pc + 3) ls ((v.map (i_mv sa (ad ++ ex))).toList ++ rest))) : W p l e R s m args below meth c H locs cells slots Q (F0 m pc ls st0) := by
  intro T hT X
  obtain ⟨w, st₀, t, T', L, h0, X', hL, e1, e2, ⟨⟨ex, hv, hw, hok⟩, hz, hk⟩, st⟩ := hr T hT X
  cases hv
  rw [h0] at hz hk
  obtain ⟨t2, a1, b1⟩ := kk ex t T'.heap (locs ++ L) e1.symm (by rw [← e2]; exact X'.warmed.alike) (by rw [e1]; exact hw) hok
    ⟨Nat.le_trans hS.1 (by rw [e1]; exact hz), fun q h1 h2 => by rw [e1, hk q (Nat.lt_of_lt_of_le h1 hS.1) (fun z => h2 (hA q (Nat.lt_of_lt_of_le h1 hS.1) z))]; exact hS.2.1 q h1 h2, fun q hq => by
      rcases List.mem_append.mp hq with h | h
      · exact hS.2.2 q h
      · exact hf _ (hL q h)⟩ T' rfl X'
  exact ⟨t2, st t2 a1, b1⟩
end IC
/-! the words that every method has, and its room -/
def i_tb : List Cond := lw_tbl.filter goodWord
def i_ws (M : iM) : List Cond := .code M.2.1 M.2.2.1 M.2.2.2.1 M.2.2.2.2.1 :: i_tb
theorem i_tb_in {w : Nat} {c : Cond} (h : i_wd w c = true) : c ∈ i_tb := by
  unfold i_wd at h
  simp only [Bool.and_eq_true, decide_eq_true_eq] at h
  exact List.mem_filter.mpr ⟨List.mem_of_getElem? h.1, h.2⟩
theorem i_tb_good {Ts : List Cond} (h : ∀ w ∈ i_tb, w ∈ Ts) : GoodIn Ts i_tb := fun w hw => ⟨h w hw, good_of_word (List.mem_filter.mp hw).2⟩
def i_rm (d mc ms : Nat) : Room := { frames := 6 + d, cells := mc, slots := ms, locals := 300 + 60 * d }
