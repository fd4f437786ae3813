/-! ===== typed states: the shape of the cells (fixed), the numbers in them ===== -/
/-- an array: type, length; an object: class, fields (none: a number; some r: the reference r) -/
abbrev kd : Type := (FieldType × Nat) ⊕ (Nat × List (Option Nat))
/-- numbers of fields, of int arrays (byte and boolean too), of long arrays, references of arrays of references -/
abbrev St : Type := (Nat → Nat → Int32) × (Nat → Nat → Int32) × (Nat → Nat → Int64) × (Nat → Nat → Option Nat)
def s_fs (f : Nat → Int32) : Nat → List (Option Nat) → List Value
  | _, [] => []
  | k, none :: t => .int (f k) :: s_fs f (k + 1) t
  | k, some r :: t => .ref r :: s_fs f (k + 1) t
def s_cell (σ : St) (i : Nat) (k : kd) : iC := match k with
  | .inl (ty, n) => match ty with
    | .long => .inl (.long, n, .inr (.inl (σ.2.2.1 i)))
    | .object C => .inl (.object C, n, .inr (.inr (.inr (.inr (σ.2.2.2 i)))))
    | .array t => .inl (.array t, n, .inr (.inr (.inr (.inr (σ.2.2.2 i)))))
    | ty => .inl (ty, n, .inl (σ.2.1 i))
  | .inr (ci, fs) => .inr (ci, s_fs (σ.1 i) 0 fs)
def s_h (sh : List kd) (σ : St) : iH := sh.mapIdx (s_cell σ)
def s_F (σ : St) (i k : Nat) (x : Int32) : St := (fun i' k' => if i' = i ∧ k' = k then x else σ.1 i' k', σ.2)
def s_A (σ : St) (i j : Nat) (x : Int32) : St := (σ.1, fun i' j' => if i' = i ∧ j' = j then x else σ.2.1 i' j', σ.2.2)
def s_L (σ : St) (i j : Nat) (x : Int64) : St := (σ.1, σ.2.1, fun i' j' => if i' = i ∧ j' = j then x else σ.2.2.1 i' j', σ.2.2.2)
def s_Q (σ : St) (i j : Nat) (x : Option Nat) : St := (σ.1, σ.2.1, σ.2.2.1, fun i' j' => if i' = i ∧ j' = j then x else σ.2.2.2 i' j')
/-- array i copied into array j -/
def s_C (σ : St) (i j sp dp n : Nat) : St := (σ.1, fun i' j' => if i' = j then va_cpy (σ.2.1 i) (σ.2.1 j) sp dp n j' else σ.2.1 i' j', σ.2.2)
theorem s_h_at {sh : List kd} {σ : St} {i : Nat} {k : kd} (h : sh[i]? = some k) : (s_h sh σ)[i]? = some (s_cell σ i k) := by
  unfold s_h
  rw [List.getElem?_mapIdx, h]
  rfl
theorem s_fs_at {f : Nat → Int32} : ∀ {l : List (Option Nat)} {b k : Nat} {o : Option Nat}, l[k]? = some o → (s_fs f b l)[k]? = some (match o with
    | none => .int (f (b + k))
    | some r => .ref r)
  | [], _, _, _, h => by simp at h
  | a :: l, b, 0, o, h => by
    rw [List.getElem?_cons_zero] at h
    cases h
    cases a <;> rfl
  | a :: l, b, k + 1, o, h => by
    rw [List.getElem?_cons_succ] at h
    have ih := s_fs_at (f := f) (b := b + 1) h
    rw [show b + 1 + k = b + (k + 1) by omega] at ih
    cases a <;> exact ih
theorem s_fs_len {f : Nat → Int32} : ∀ {l : List (Option Nat)} {b : Nat}, (s_fs f b l).length = l.length
  | [], _ => rfl
  | a :: l, b => by cases a <;> exact congrArg (· + 1) s_fs_len
theorem s_fs_set {f : Nat → Int32} {x : Int32} : ∀ {l : List (Option Nat)} {b k : Nat}, l[k]? = some none → (s_fs f b l).set k (.int x) = s_fs (fun j => if j = b + k then x else f j) b l
  | [], _, _, h => by simp at h
  | a :: l, b, 0, h => by
    rw [List.getElem?_cons_zero] at h
    cases h
    show Value.int x :: s_fs f (b + 1) l = Value.int (if b = b + 0 then x else f b) :: s_fs (fun j => if j = b + 0 then x else f j) (b + 1) l
    rw [if_pos (by omega)]
    congr 1
    have key : ∀ (l : List (Option Nat)) (c : Nat), b < c → s_fs f c l = s_fs (fun j => if j = b + 0 then x else f j) c l := by
      intro l
      induction l with
      | nil => intro c _; rfl
      | cons o l ih =>
        intro c hc
        cases o with
        | none =>
          show Value.int (f c) :: s_fs f (c + 1) l = Value.int (if c = b + 0 then x else f c) :: _
          rw [if_neg (by omega), ih (c + 1) (by omega)]
        | some r =>
          show Value.ref r :: s_fs f (c + 1) l = Value.ref r :: _
          rw [ih (c + 1) (by omega)]
    exact key l (b + 1) (by omega)
  | a :: l, b, k + 1, h => by
    rw [List.getElem?_cons_succ] at h
    have ih := s_fs_set (f := f) (x := x) (b := b + 1) h
    rw [show b + 1 + k = b + (k + 1) by omega] at ih
    cases a with
    | none =>
      show Value.int (f b) :: (s_fs f (b + 1) l).set k (.int x) = Value.int (if b = b + (k + 1) then x else f b) :: _
      rw [if_neg (by omega), ih]
    | some r =>
      show Value.ref r :: (s_fs f (b + 1) l).set k (.int x) = Value.ref r :: _
      rw [ih]
theorem s_h_set {sh : List kd} {σ τ : St} {i : Nat} {k : kd} {c : iC} (h : sh[i]? = some k) (hc : s_cell τ i k = c) (ho : ∀ j k', j ≠ i → s_cell τ j k' = s_cell σ j k') : (s_h sh σ).set i c = s_h sh τ := by
  have hi : i < sh.length := (List.getElem?_eq_some_iff.mp h).1
  apply List.ext_getElem?
  intro j
  by_cases hj : j = i
  · subst hj
    rw [List.getElem?_set_self (by unfold s_h; rw [List.length_mapIdx]; exact hi), s_h_at h, hc]
  · rw [List.getElem?_set_ne (Ne.symm hj)]
    unfold s_h
    rw [List.getElem?_mapIdx, List.getElem?_mapIdx]
    cases sh[j]? with
    | none => rfl
    | some k' => exact congrArg some (ho j k' hj).symm
theorem s_cell_F {σ : St} {i k j : Nat} {x : Int32} {k' : kd} (hj : j ≠ i) : s_cell (s_F σ i k x) j k' = s_cell σ j k' := by
  have e : (s_F σ i k x).1 j = σ.1 j := by
    funext q
    show (if j = i ∧ q = k then x else σ.1 j q) = _
    rw [if_neg (fun h => hj h.1)]
  obtain ⟨ty, n⟩ | ⟨ci, fs⟩ := k'
  · cases ty <;> rfl
  · show (.inr (ci, s_fs ((s_F σ i k x).1 j) 0 fs) : iC) = .inr (ci, s_fs (σ.1 j) 0 fs)
    rw [e]
theorem s_cell_A {σ : St} {i j : Nat} {g : Nat → Nat → Int32} {k' : kd} (hg : g j = σ.2.1 j) : s_cell ((σ.1, g, σ.2.2) : St) j k' = s_cell σ j k' := by
  obtain ⟨ty, n⟩ | ⟨ci, fs⟩ := k'
  · cases ty <;> first | rfl | exact congrArg (fun z => (.inl (_, n, .inl z) : iC)) hg
  · rfl
theorem s_cell_L {σ : St} {j : Nat} {g : Nat → Nat → Int64} {k' : kd} (hg : g j = σ.2.2.1 j) : s_cell ((σ.1, σ.2.1, g, σ.2.2.2) : St) j k' = s_cell σ j k' := by
  obtain ⟨ty, n⟩ | ⟨ci, fs⟩ := k'
  · cases ty <;> first | rfl | exact congrArg (fun z => (.inl (_, n, .inr (.inl z)) : iC)) hg
  · rfl
theorem s_cell_Q {σ : St} {j : Nat} {g : Nat → Nat → Option Nat} {k' : kd} (hg : g j = σ.2.2.2 j) : s_cell ((σ.1, σ.2.1, σ.2.2.1, g) : St) j k' = s_cell σ j k' := by
  obtain ⟨ty, n⟩ | ⟨ci, fs⟩ := k'
  · cases ty <;> first | rfl | exact congrArg (fun z => (.inl (_, n, .inr (.inr (.inr (.inr z)))) : iC)) hg
  · rfl
/-! runs over typed states -/
def g_R (sh : List kd) (d : Nat) (M : iM) (v : Option Value) (τ : St) (pc : Nat) (loc st : List Value) (σ : St) : Prop := ∃ n, i_P (i_X d) M 0 0 v (s_h sh τ) n pc loc st (s_h sh σ) 0 0
theorem i_P_mono {C C' : Nat → List Value → iH → Nat → Nat → Option Value → iH → Prop} (hC : ∀ y as h mc ms v h', C y as h mc ms v h' → C' y as h mc ms v h') {M : iM} {mc ms : Nat} {v : Option Value} {h' : iH} : ∀ (n pc : Nat) (loc st : List Value) (h : iH) (c s : Nat), i_P C M mc ms v h' n pc loc st h c s → i_P C' M mc ms v h' n pc loc st h c s := by
  intro n
  induction n with
  | zero => intro pc loc st h c s hP; exact hP
  | succ n ih =>
    intro pc loc st h c s hP
    obtain ⟨q, hq, hP⟩ := hP
    refine ⟨q, hq, ?_⟩
    rcases hP with ⟨pc', loc', st', h1, h2, h3⟩ | ⟨pc', loc', st', h1, dc, ds, h2, h4, h5, h3⟩ | h2 | ⟨As, rest, r, h2, kc, ks, h3, h4, h5, h6, h7⟩
    · exact Or.inl ⟨pc', loc', st', h1, h2, ih _ _ _ _ _ _ h3⟩
    · exact Or.inr (Or.inl ⟨pc', loc', st', h1, dc, ds, h2, h4, h5, ih _ _ _ _ _ _ h3⟩)
    · exact Or.inr (Or.inr (Or.inl h2))
    · exact Or.inr (Or.inr (Or.inr ⟨As, rest, r, h2, kc, ks, h3, hC _ _ _ _ _ _ _ h4, h5, h6, ih _ _ _ _ _ _ h7⟩))
theorem i_X_succ : ∀ (d y : Nat) (as : List Value) (h : iH) (mc ms : Nat) (v : Option Value) (h' : iH), i_X d y as h mc ms v h' → i_X (d + 1) y as h mc ms v h' := by
  intro d
  induction d with
  | zero => intro y as h mc ms v h' hX; exact hX.elim
  | succ d ih =>
    intro y as h mc ms v h' hX
    obtain ⟨M, n, h1, h2, h3⟩ := hX
    exact ⟨M, n, h1, h2, i_P_mono ih _ _ _ _ _ _ _ h3⟩
theorem i_X_mono {d d' y : Nat} {as : List Value} {h : iH} {mc ms : Nat} {v : Option Value} {h' : iH} (hd : d ≤ d') (hX : i_X d y as h mc ms v h') : i_X d' y as h mc ms v h' := by
  induction hd with
  | refl => exact hX
  | step _ ih => exact i_X_succ _ _ _ _ _ _ _ _ ih
theorem g_X {sh : List kd} {d y : Nat} {M : iM} {v : Option Value} {σ τ : St} {as loc : List Value} (hM : i_mT[y]? = some M) (hl : (i_sl as).length ≤ M.2.2.2.1) (he : i_ent M.2.2.2.1 as = loc) (h : g_R sh d M v τ 0 loc [] σ) : i_X (d + 1) y as (s_h sh σ) 0 0 v (s_h sh τ) := by
  subst he
  obtain ⟨n, h⟩ := h
  exact ⟨M, n, hM, hl, h⟩
/-! terms -/
theorem i_ifn {α : Type} {c : Prop} [Decidable c] {t : Option α} {r : α} (h : (if c then t else none) = some r) : c ∧ t = some r := by
  by_cases hc : c
  · rw [if_pos hc] at h; exact ⟨hc, h⟩
  · rw [if_neg hc] at h; cases h
theorem i_nif {α : Type} {c : Prop} [Decidable c] {t : Option α} {r : α} (h : (if c then none else t) = some r) : ¬ c ∧ t = some r := by
  by_cases hc : c
  · rw [if_pos hc] at h; cases h
  · rw [if_neg hc] at h; exact ⟨hc, h⟩
def i_bd {α β : Type} (x : Option (α × St)) (k : α → St → Option β) : Option β := match x with
  | some q => k q.1 q.2
  | none => none
theorem i_bd_some {α β : Type} {x : Option (α × St)} {k : α → St → Option β} {r : β} (h : i_bd x k = some r) : ∃ a σ, x = some (a, σ) ∧ k a σ = some r := by
  cases x with
  | none => cases h
  | some q => exact ⟨q.1, q.2, rfl, h⟩
def i_om {β : Type} (o : Option Nat) (k : Nat → Option β) : Option β := match o with
  | some x => k x
  | none => none
theorem i_om_some {β : Type} {o : Option Nat} {k : Nat → Option β} {r : β} (h : i_om o k = some r) : ∃ x, o = some x ∧ k x = some r := by
  cases o with
  | none => cases h
  | some x => exact ⟨x, rfl, h⟩
def i_oe {β : Type} (o : Option Nat) (k : Nat → Option β) (z : Option β) : Option β := match o with
  | some x => k x
  | none => z
theorem i_oe_some {β : Type} {o : Option Nat} {k : Nat → Option β} {z : Option β} {r : β} (h : i_oe o k z = some r) : (∃ x, o = some x ∧ k x = some r) ∨ (o = none ∧ z = some r) := by
  cases o with
  | none => exact Or.inr ⟨rfl, h⟩
  | some x => exact Or.inl ⟨x, rfl, h⟩
/-- the length of an array of that type -/
def i_al {β : Type} (sh : List kd) (ty : FieldType) (x : Nat) (k : Nat → Option β) : Option β := match sh[x]? with
  | some (.inl (t, n)) => if t = ty then k n else none
  | _ => none
theorem i_al_some {β : Type} {sh : List kd} {ty : FieldType} {x : Nat} {k : Nat → Option β} {r : β} (h : i_al sh ty x k = some r) : ∃ n, sh[x]? = some (.inl (ty, n)) ∧ k n = some r := by
  unfold i_al at h
  split at h
  · next t n he =>
    have h0 := i_ifn h
    rw [h0.1] at he
    exact ⟨n, he, h0.2⟩
  · cases h
def i_jp {α β : Type} (k : α) (f : α → β) : β := f k
/-- what must hold -/
noncomputable def i_ck {β : Type} (P : Prop) (t : Option β) : Option β := @ite _ P (Classical.propDecidable P) t none
theorem i_ck_some {β : Type} {P : Prop} {t : Option β} {r : β} (h : i_ck P t = some r) : P ∧ t = some r := by
  unfold i_ck at h
  exact @i_ifn _ _ (Classical.propDecidable P) _ _ h
theorem i_ck_pos {β : Type} {P : Prop} {t : Option β} (h : P) : i_ck P t = t := @if_pos _ (Classical.propDecidable P) h _ _ _
theorem i_jp_some {α β : Type} {k : α} {f : α → Option β} {r : β} (h : i_jp k f = some r) : ∃ x, x = k ∧ f x = some r := ⟨k, rfl, h⟩
abbrev i_ok (j : Int32) (n : Nat) : Prop := ¬ j < 0 ∧ j.toNatClampNeg < n
def i_F : Nat := 100000
section GR
variable {sh : List kd} {d : Nat} {M : iM} {v : Option Value} {τ σ : St} {pc : Nat} {loc loc2 st : List Value} {l a b w : Nat} {z : Int}
theorem g_step {q : iI} {pc2 : Nat} {st2 : List Value} {σ2 : St} (hat : i_at M.2.2.2.2.2 pc = some q) (hs : i_s q pc loc st (s_h sh σ) = some (pc2, loc2, st2, s_h sh σ2)) (k : g_R sh d M v τ pc2 loc2 st2 σ2) : g_R sh d M v τ pc loc st σ := by
  obtain ⟨n, k⟩ := k
  exact ⟨n + 1, q, hat, Or.inl ⟨_, _, _, _, hs, k⟩⟩
theorem g_null  (hat : i_at M.2.2.2.2.2 pc = some (.aconst_null, l, a, b, w, z))  (k : g_R sh d M v τ (pc + 1) loc (.null :: st) σ) : g_R sh d M v τ pc loc (st) σ := g_step hat (rfl) k
theorem g_iconst {n : Int} {x : Int32} (hat : i_at M.2.2.2.2.2 pc = some (.iconst n, l, a, b, w, z)) (hx : Int32.ofInt n = x) (k : g_R sh d M v τ (pc + 1) loc (.int x :: st) σ) : g_R sh d M v τ pc loc (st) σ := g_step hat (by subst hx; rfl) k
theorem g_bipush {n : Int} {x : Int32} (hat : i_at M.2.2.2.2.2 pc = some (.bipush n, l, a, b, w, z)) (hx : (Int8.ofInt n).toInt32 = x) (k : g_R sh d M v τ (pc + 2) loc (.int x :: st) σ) : g_R sh d M v τ pc loc (st) σ := g_step hat (by subst hx; rfl) k
theorem g_sipush {n : Int} {x : Int32} (hat : i_at M.2.2.2.2.2 pc = some (.sipush n, l, a, b, w, z)) (hx : (Int16.ofInt n).toInt32 = x) (k : g_R sh d M v τ (pc + 3) loc (.int x :: st) σ) : g_R sh d M v τ pc loc (st) σ := g_step hat (by subst hx; rfl) k
theorem g_lconst {n : Fin 2} {x : Int64} (hat : i_at M.2.2.2.2.2 pc = some (.lconst n, l, a, b, w, z)) (hx : Int64.ofNat n.val = x) (k : g_R sh d M v τ (pc + 1) loc (.long x :: st) σ) : g_R sh d M v τ pc loc (st) σ := g_step hat (by subst hx; rfl) k
theorem g_ldcI {k0 : Nat} {x : Int32} (hat : i_at M.2.2.2.2.2 pc = some (.ldc k0, l, a, b, w, z)) (ha : a = 0) (hx : Int32.ofInt z = x) (k : g_R sh d M v τ (pc + 2) loc (.int x :: st) σ) : g_R sh d M v τ pc loc (st) σ := g_step hat (by subst hx; subst ha; rfl) k
theorem g_ldcS {k0 : Nat} (hat : i_at M.2.2.2.2.2 pc = some (.ldc k0, l, a, b, w, z)) (ha : a = 1) (k : g_R sh d M v τ (pc + 2) loc (.ref (i_SB + b) :: st) σ) : g_R sh d M v τ pc loc (st) σ := g_step hat (by subst ha; rfl) k
theorem g_ldcwI {k0 : Nat} {x : Int32} (hat : i_at M.2.2.2.2.2 pc = some (.ldc_w k0, l, a, b, w, z)) (ha : a = 0) (hx : Int32.ofInt z = x) (k : g_R sh d M v τ (pc + 3) loc (.int x :: st) σ) : g_R sh d M v τ pc loc (st) σ := g_step hat (by subst hx; subst ha; rfl) k
theorem g_ldcwS {k0 : Nat} (hat : i_at M.2.2.2.2.2 pc = some (.ldc_w k0, l, a, b, w, z)) (ha : a = 1) (k : g_R sh d M v τ (pc + 3) loc (.ref (i_SB + b) :: st) σ) : g_R sh d M v τ pc loc (st) σ := g_step hat (by subst ha; rfl) k
theorem g_ldc2 {k0 : Nat} {x : Int64} (hat : i_at M.2.2.2.2.2 pc = some (.ldc2_w k0, l, a, b, w, z)) (hx : Int64.ofInt z = x) (k : g_R sh d M v τ (pc + 3) loc (.long x :: st) σ) : g_R sh d M v τ pc loc (st) σ := g_step hat (by subst hx; rfl) k
theorem g_ldi {i : Nat} {x : Int32} (hat : i_at M.2.2.2.2.2 pc = some (.iload i, l, a, b, w, z)) (hl : loc[i]? = some (.int x)) (k : g_R sh d M v τ (pc + 2) loc (.int x :: st) σ) : g_R sh d M v τ pc loc (st) σ := g_step hat (by simp only [i_s, i_ldi, hl]) k
theorem g_ldin {i : Fin 4} {x : Int32} (hat : i_at M.2.2.2.2.2 pc = some (.iload_n i, l, a, b, w, z)) (hl : loc[i.val]? = some (.int x)) (k : g_R sh d M v τ (pc + 1) loc (.int x :: st) σ) : g_R sh d M v τ pc loc (st) σ := g_step hat (by simp only [i_s, i_ldi, hl]) k
theorem g_ldl {i : Nat} {x : Int64} (hat : i_at M.2.2.2.2.2 pc = some (.lload i, l, a, b, w, z)) (hl : loc[i]? = some (.long x)) (k : g_R sh d M v τ (pc + 2) loc (.long x :: st) σ) : g_R sh d M v τ pc loc (st) σ := g_step hat (by simp only [i_s, i_ldl, hl]) k
theorem g_ldln {i : Fin 4} {x : Int64} (hat : i_at M.2.2.2.2.2 pc = some (.lload_n i, l, a, b, w, z)) (hl : loc[i.val]? = some (.long x)) (k : g_R sh d M v τ (pc + 1) loc (.long x :: st) σ) : g_R sh d M v τ pc loc (st) σ := g_step hat (by simp only [i_s, i_ldl, hl]) k
theorem g_lda {i : Nat} {x : Nat} (hat : i_at M.2.2.2.2.2 pc = some (.aload i, l, a, b, w, z)) (hl : loc[i]? = some (.ref x)) (k : g_R sh d M v τ (pc + 2) loc (.ref x :: st) σ) : g_R sh d M v τ pc loc (st) σ := g_step hat (by simp only [i_s, i_lda, hl]) k
theorem g_ldan {i : Fin 4} {x : Nat} (hat : i_at M.2.2.2.2.2 pc = some (.aload_n i, l, a, b, w, z)) (hl : loc[i.val]? = some (.ref x)) (k : g_R sh d M v τ (pc + 1) loc (.ref x :: st) σ) : g_R sh d M v τ pc loc (st) σ := g_step hat (by simp only [i_s, i_lda, hl]) k
theorem g_ldq {i : Nat} {o : Option Nat} (hat : i_at M.2.2.2.2.2 pc = some (.aload i, l, a, b, w, z)) (hl : loc[i]? = some (va_rf o)) (k : g_R sh d M v τ (pc + 2) loc (va_rf o :: st) σ) : g_R sh d M v τ pc loc (st) σ := g_step hat (by cases o <;> (simp only [va_rf] at hl; simp only [i_s, i_lda, hl, va_rf])) k
theorem g_ldqn {i : Fin 4} {o : Option Nat} (hat : i_at M.2.2.2.2.2 pc = some (.aload_n i, l, a, b, w, z)) (hl : loc[i.val]? = some (va_rf o)) (k : g_R sh d M v τ (pc + 1) loc (va_rf o :: st) σ) : g_R sh d M v τ pc loc (st) σ := g_step hat (by cases o <;> (simp only [va_rf] at hl; simp only [i_s, i_lda, hl, va_rf])) k
theorem g_sti {i : Nat} {x : Int32} (hat : i_at M.2.2.2.2.2 pc = some (.istore i, l, a, b, w, z)) (hi : i < loc.length) (hl : i_st1 loc (i) (.int x) = loc2) (k : g_R sh d M v τ (pc + 2) loc2 (st) σ) : g_R sh d M v τ pc loc (.int x :: st) σ := g_step hat (by subst hl; simp only [i_s, i_sti, if_pos hi]) k
theorem g_stin {i : Fin 4} {x : Int32} (hat : i_at M.2.2.2.2.2 pc = some (.istore_n i, l, a, b, w, z)) (hi : i.val < loc.length) (hl : i_st1 loc (i.val) (.int x) = loc2) (k : g_R sh d M v τ (pc + 1) loc2 (st) σ) : g_R sh d M v τ pc loc (.int x :: st) σ := g_step hat (by subst hl; simp only [i_s, i_sti, if_pos hi]) k
theorem g_sta {i : Nat} {x : Nat} (hat : i_at M.2.2.2.2.2 pc = some (.astore i, l, a, b, w, z)) (hi : i < loc.length) (hl : i_st1 loc (i) (.ref x) = loc2) (k : g_R sh d M v τ (pc + 2) loc2 (st) σ) : g_R sh d M v τ pc loc (.ref x :: st) σ := g_step hat (by subst hl; simp only [i_s, i_sta, if_pos hi]) k
theorem g_stan {i : Fin 4} {x : Nat} (hat : i_at M.2.2.2.2.2 pc = some (.astore_n i, l, a, b, w, z)) (hi : i.val < loc.length) (hl : i_st1 loc (i.val) (.ref x) = loc2) (k : g_R sh d M v τ (pc + 1) loc2 (st) σ) : g_R sh d M v τ pc loc (.ref x :: st) σ := g_step hat (by subst hl; simp only [i_s, i_sta, if_pos hi]) k
theorem g_stl {i : Nat} {x : Int64} (hat : i_at M.2.2.2.2.2 pc = some (.lstore i, l, a, b, w, z)) (hi : i + 1 < loc.length) (hl : i_st2 loc (i) (.long x) = loc2) (k : g_R sh d M v τ (pc + 2) loc2 (st) σ) : g_R sh d M v τ pc loc (.long x :: st) σ := g_step hat (by subst hl; simp only [i_s, i_stl, if_pos hi]) k
theorem g_stq {i : Nat} {o : Option Nat} (hat : i_at M.2.2.2.2.2 pc = some (.astore i, l, a, b, w, z)) (hi : i < loc.length) (hl : i_st1 loc (i) (va_rf o) = loc2) (k : g_R sh d M v τ (pc + 2) loc2 (st) σ) : g_R sh d M v τ pc loc (va_rf o :: st) σ := g_step hat (by subst hl; cases o <;> simp only [i_s, i_sta, va_rf, if_pos hi]) k
theorem g_stln {i : Fin 4} {x : Int64} (hat : i_at M.2.2.2.2.2 pc = some (.lstore_n i, l, a, b, w, z)) (hi : i.val + 1 < loc.length) (hl : i_st2 loc (i.val) (.long x) = loc2) (k : g_R sh d M v τ (pc + 1) loc2 (st) σ) : g_R sh d M v τ pc loc (.long x :: st) σ := g_step hat (by subst hl; simp only [i_s, i_stl, if_pos hi]) k
theorem g_stqn {i : Fin 4} {o : Option Nat} (hat : i_at M.2.2.2.2.2 pc = some (.astore_n i, l, a, b, w, z)) (hi : i.val < loc.length) (hl : i_st1 loc (i.val) (va_rf o) = loc2) (k : g_R sh d M v τ (pc + 1) loc2 (st) σ) : g_R sh d M v τ pc loc (va_rf o :: st) σ := g_step hat (by subst hl; cases o <;> simp only [i_s, i_sta, va_rf, if_pos hi]) k
theorem g_iinc {i : Nat} {n : Int} {x y : Int32} (hat : i_at M.2.2.2.2.2 pc = some (.iinc i n, l, a, b, w, z)) (hi : loc[i]? = some (.int x)) (hy : Int32.ofInt n = y) (hl : i_st1 loc i (.int (x + y)) = loc2) (k : g_R sh d M v τ (pc + 3) loc2 (st) σ) : g_R sh d M v τ pc loc (st) σ := g_step hat (by subst hl; subst hy; simp only [i_s, hi]) k
theorem g_iadd {x y : Int32} (hat : i_at M.2.2.2.2.2 pc = some (.iadd, l, a, b, w, z))  (k : g_R sh d M v τ (pc + 1) loc (.int (x + y) :: st) σ) : g_R sh d M v τ pc loc (.int y :: .int x :: st) σ := g_step hat (rfl) k
theorem g_isub {x y : Int32} (hat : i_at M.2.2.2.2.2 pc = some (.isub, l, a, b, w, z))  (k : g_R sh d M v τ (pc + 1) loc (.int (x - y) :: st) σ) : g_R sh d M v τ pc loc (.int y :: .int x :: st) σ := g_step hat (rfl) k
theorem g_imul {x y : Int32} (hat : i_at M.2.2.2.2.2 pc = some (.imul, l, a, b, w, z))  (k : g_R sh d M v τ (pc + 1) loc (.int (x * y) :: st) σ) : g_R sh d M v τ pc loc (.int y :: .int x :: st) σ := g_step hat (rfl) k
theorem g_iand {x y : Int32} (hat : i_at M.2.2.2.2.2 pc = some (.iand, l, a, b, w, z))  (k : g_R sh d M v τ (pc + 1) loc (.int (x &&& y) :: st) σ) : g_R sh d M v τ pc loc (.int y :: .int x :: st) σ := g_step hat (rfl) k
theorem g_ior {x y : Int32} (hat : i_at M.2.2.2.2.2 pc = some (.ior, l, a, b, w, z))  (k : g_R sh d M v τ (pc + 1) loc (.int (x ||| y) :: st) σ) : g_R sh d M v τ pc loc (.int y :: .int x :: st) σ := g_step hat (rfl) k
theorem g_ixor {x y : Int32} (hat : i_at M.2.2.2.2.2 pc = some (.ixor, l, a, b, w, z))  (k : g_R sh d M v τ (pc + 1) loc (.int (x ^^^ y) :: st) σ) : g_R sh d M v τ pc loc (.int y :: .int x :: st) σ := g_step hat (rfl) k
theorem g_ishl {x y : Int32} (hat : i_at M.2.2.2.2.2 pc = some (.ishl, l, a, b, w, z))  (k : g_R sh d M v τ (pc + 1) loc (.int (x <<< (y &&& 31)) :: st) σ) : g_R sh d M v τ pc loc (.int y :: .int x :: st) σ := g_step hat (rfl) k
theorem g_ishr {x y : Int32} (hat : i_at M.2.2.2.2.2 pc = some (.ishr, l, a, b, w, z))  (k : g_R sh d M v τ (pc + 1) loc (.int (x >>> (y &&& 31)) :: st) σ) : g_R sh d M v τ pc loc (.int y :: .int x :: st) σ := g_step hat (rfl) k
theorem g_iushr {x y : Int32} (hat : i_at M.2.2.2.2.2 pc = some (.iushr, l, a, b, w, z))  (k : g_R sh d M v τ (pc + 1) loc (.int ((x.toUInt32 >>> (y.toUInt32 &&& Int32.toUInt32 31)).toInt32) :: st) σ) : g_R sh d M v τ pc loc (.int y :: .int x :: st) σ := g_step hat (rfl) k
theorem g_idiv {x y : Int32} (hat : i_at M.2.2.2.2.2 pc = some (.idiv, l, a, b, w, z)) (hy : ¬ y = 0) (k : g_R sh d M v τ (pc + 1) loc (.int (x / y) :: st) σ) : g_R sh d M v τ pc loc (.int y :: .int x :: st) σ := g_step hat (by simp only [i_s, i_op2z, if_neg hy]) k
theorem g_irem {x y : Int32} (hat : i_at M.2.2.2.2.2 pc = some (.irem, l, a, b, w, z)) (hy : ¬ y = 0) (k : g_R sh d M v τ (pc + 1) loc (.int (x - x / y * y) :: st) σ) : g_R sh d M v τ pc loc (.int y :: .int x :: st) σ := g_step hat (by simp only [i_s, i_op2z, if_neg hy]) k
theorem g_ladd {x y : Int64} (hat : i_at M.2.2.2.2.2 pc = some (.ladd, l, a, b, w, z))  (k : g_R sh d M v τ (pc + 1) loc (.long (x + y) :: st) σ) : g_R sh d M v τ pc loc (.long y :: .long x :: st) σ := g_step hat (rfl) k
theorem g_lsub {x y : Int64} (hat : i_at M.2.2.2.2.2 pc = some (.lsub, l, a, b, w, z))  (k : g_R sh d M v τ (pc + 1) loc (.long (x - y) :: st) σ) : g_R sh d M v τ pc loc (.long y :: .long x :: st) σ := g_step hat (rfl) k
theorem g_lmul {x y : Int64} (hat : i_at M.2.2.2.2.2 pc = some (.lmul, l, a, b, w, z))  (k : g_R sh d M v τ (pc + 1) loc (.long (x * y) :: st) σ) : g_R sh d M v τ pc loc (.long y :: .long x :: st) σ := g_step hat (rfl) k
theorem g_land {x y : Int64} (hat : i_at M.2.2.2.2.2 pc = some (.land, l, a, b, w, z))  (k : g_R sh d M v τ (pc + 1) loc (.long (x &&& y) :: st) σ) : g_R sh d M v τ pc loc (.long y :: .long x :: st) σ := g_step hat (rfl) k
theorem g_lor {x y : Int64} (hat : i_at M.2.2.2.2.2 pc = some (.lor, l, a, b, w, z))  (k : g_R sh d M v τ (pc + 1) loc (.long (x ||| y) :: st) σ) : g_R sh d M v τ pc loc (.long y :: .long x :: st) σ := g_step hat (rfl) k
theorem g_ldiv {x y : Int64} (hat : i_at M.2.2.2.2.2 pc = some (.ldiv, l, a, b, w, z)) (hy : ¬ y = 0) (k : g_R sh d M v τ (pc + 1) loc (.long (x / y) :: st) σ) : g_R sh d M v τ pc loc (.long y :: .long x :: st) σ := g_step hat (by simp only [i_s, i_oplz, if_neg hy]) k
theorem g_lrem {x y : Int64} (hat : i_at M.2.2.2.2.2 pc = some (.lrem, l, a, b, w, z)) (hy : ¬ y = 0) (k : g_R sh d M v τ (pc + 1) loc (.long (x - x / y * y) :: st) σ) : g_R sh d M v τ pc loc (.long y :: .long x :: st) σ := g_step hat (by simp only [i_s, i_oplz, if_neg hy]) k
theorem g_lcmp {x y : Int64} (hat : i_at M.2.2.2.2.2 pc = some (.lcmp, l, a, b, w, z))  (k : g_R sh d M v τ (pc + 1) loc (.int (lg_cmp x y) :: st) σ) : g_R sh d M v τ pc loc (.long y :: .long x :: st) σ := g_step hat (rfl) k
theorem g_i2l {x : Int32} (hat : i_at M.2.2.2.2.2 pc = some (.i2l, l, a, b, w, z))  (k : g_R sh d M v τ (pc + 1) loc (.long x.toInt64 :: st) σ) : g_R sh d M v τ pc loc (.int x :: st) σ := g_step hat (rfl) k
theorem g_l2i {x : Int64} (hat : i_at M.2.2.2.2.2 pc = some (.l2i, l, a, b, w, z))  (k : g_R sh d M v τ (pc + 1) loc (.int x.toInt32 :: st) σ) : g_R sh d M v τ pc loc (.long x :: st) σ := g_step hat (rfl) k
theorem g_i2b {x : Int32} (hat : i_at M.2.2.2.2.2 pc = some (.i2b, l, a, b, w, z))  (k : g_R sh d M v τ (pc + 1) loc (.int x.toInt8.toInt32 :: st) σ) : g_R sh d M v τ pc loc (.int x :: st) σ := g_step hat (rfl) k
theorem g_dupi {x : Int32} (hat : i_at M.2.2.2.2.2 pc = some (.dup, l, a, b, w, z))  (k : g_R sh d M v τ (pc + 1) loc (.int x :: .int x :: st) σ) : g_R sh d M v τ pc loc (.int x :: st) σ := g_step hat (rfl) k
theorem g_dupa {x : Nat} (hat : i_at M.2.2.2.2.2 pc = some (.dup, l, a, b, w, z))  (k : g_R sh d M v τ (pc + 1) loc (.ref x :: .ref x :: st) σ) : g_R sh d M v τ pc loc (.ref x :: st) σ := g_step hat (rfl) k
theorem g_dup2 {x : Int32} {y : Nat} (hat : i_at M.2.2.2.2.2 pc = some (.dup2, l, a, b, w, z))  (k : g_R sh d M v τ (pc + 1) loc (.int x :: .ref y :: .int x :: .ref y :: st) σ) : g_R sh d M v τ pc loc (.int x :: .ref y :: st) σ := g_step hat (rfl) k
theorem g_popi {x : Int32} (hat : i_at M.2.2.2.2.2 pc = some (.pop, l, a, b, w, z))  (k : g_R sh d M v τ (pc + 1) loc (st) σ) : g_R sh d M v τ pc loc (.int x :: st) σ := g_step hat (rfl) k
theorem g_goto {o : Int} (hat : i_at M.2.2.2.2.2 pc = some (.goto o, l, a, b, w, z))  (k : g_R sh d M v τ (a) loc (st) σ) : g_R sh d M v τ pc loc (st) σ := g_step hat (rfl) k
theorem g_if_eq_t {x : Int32} {o : Int} (hat : i_at M.2.2.2.2.2 pc = some (.ifCond .eq o, l, a, b, w, z)) (hc : x = 0) (k : g_R sh d M v τ (a) loc (st) σ) : g_R sh d M v τ pc loc (.int x :: st) σ := g_step hat (by simp only [i_s, i_ifc, if_pos hc]) k
theorem g_if_eq_f {x : Int32} {o : Int} (hat : i_at M.2.2.2.2.2 pc = some (.ifCond .eq o, l, a, b, w, z)) (hc : ¬ (x = 0)) (k : g_R sh d M v τ (pc + 3) loc (st) σ) : g_R sh d M v τ pc loc (.int x :: st) σ := g_step hat (by simp only [i_s, i_ifc, if_neg hc]) k
theorem g_if_ne_t {x : Int32} {o : Int} (hat : i_at M.2.2.2.2.2 pc = some (.ifCond .ne o, l, a, b, w, z)) (hc : ¬ x = 0) (k : g_R sh d M v τ (a) loc (st) σ) : g_R sh d M v τ pc loc (.int x :: st) σ := g_step hat (by simp only [i_s, i_ifc, if_pos hc]) k
theorem g_if_ne_f {x : Int32} {o : Int} (hat : i_at M.2.2.2.2.2 pc = some (.ifCond .ne o, l, a, b, w, z)) (hc : ¬ (¬ x = 0)) (k : g_R sh d M v τ (pc + 3) loc (st) σ) : g_R sh d M v τ pc loc (.int x :: st) σ := g_step hat (by simp only [i_s, i_ifc, if_neg hc]) k
theorem g_if_lt_t {x : Int32} {o : Int} (hat : i_at M.2.2.2.2.2 pc = some (.ifCond .lt o, l, a, b, w, z)) (hc : x < 0) (k : g_R sh d M v τ (a) loc (st) σ) : g_R sh d M v τ pc loc (.int x :: st) σ := g_step hat (by simp only [i_s, i_ifc, if_pos hc]) k
theorem g_if_lt_f {x : Int32} {o : Int} (hat : i_at M.2.2.2.2.2 pc = some (.ifCond .lt o, l, a, b, w, z)) (hc : ¬ (x < 0)) (k : g_R sh d M v τ (pc + 3) loc (st) σ) : g_R sh d M v τ pc loc (.int x :: st) σ := g_step hat (by simp only [i_s, i_ifc, if_neg hc]) k
theorem g_if_ge_t {x : Int32} {o : Int} (hat : i_at M.2.2.2.2.2 pc = some (.ifCond .ge o, l, a, b, w, z)) (hc : 0 ≤ x) (k : g_R sh d M v τ (a) loc (st) σ) : g_R sh d M v τ pc loc (.int x :: st) σ := g_step hat (by simp only [i_s, i_ifc, if_pos hc]) k
theorem g_if_ge_f {x : Int32} {o : Int} (hat : i_at M.2.2.2.2.2 pc = some (.ifCond .ge o, l, a, b, w, z)) (hc : ¬ (0 ≤ x)) (k : g_R sh d M v τ (pc + 3) loc (st) σ) : g_R sh d M v τ pc loc (.int x :: st) σ := g_step hat (by simp only [i_s, i_ifc, if_neg hc]) k
theorem g_if_gt_t {x : Int32} {o : Int} (hat : i_at M.2.2.2.2.2 pc = some (.ifCond .gt o, l, a, b, w, z)) (hc : 0 < x) (k : g_R sh d M v τ (a) loc (st) σ) : g_R sh d M v τ pc loc (.int x :: st) σ := g_step hat (by simp only [i_s, i_ifc, if_pos hc]) k
theorem g_if_gt_f {x : Int32} {o : Int} (hat : i_at M.2.2.2.2.2 pc = some (.ifCond .gt o, l, a, b, w, z)) (hc : ¬ (0 < x)) (k : g_R sh d M v τ (pc + 3) loc (st) σ) : g_R sh d M v τ pc loc (.int x :: st) σ := g_step hat (by simp only [i_s, i_ifc, if_neg hc]) k
theorem g_if_le_t {x : Int32} {o : Int} (hat : i_at M.2.2.2.2.2 pc = some (.ifCond .le o, l, a, b, w, z)) (hc : x ≤ 0) (k : g_R sh d M v τ (a) loc (st) σ) : g_R sh d M v τ pc loc (.int x :: st) σ := g_step hat (by simp only [i_s, i_ifc, if_pos hc]) k
theorem g_if_le_f {x : Int32} {o : Int} (hat : i_at M.2.2.2.2.2 pc = some (.ifCond .le o, l, a, b, w, z)) (hc : ¬ (x ≤ 0)) (k : g_R sh d M v τ (pc + 3) loc (st) σ) : g_R sh d M v τ pc loc (.int x :: st) σ := g_step hat (by simp only [i_s, i_ifc, if_neg hc]) k
theorem g_ic_eq_t {x y : Int32} {o : Int} (hat : i_at M.2.2.2.2.2 pc = some (.if_icmp .eq o, l, a, b, w, z)) (hc : x = y) (k : g_R sh d M v τ (a) loc (st) σ) : g_R sh d M v τ pc loc (.int y :: .int x :: st) σ := g_step hat (by simp only [i_s, i_icm, if_pos hc]) k
theorem g_ic_eq_f {x y : Int32} {o : Int} (hat : i_at M.2.2.2.2.2 pc = some (.if_icmp .eq o, l, a, b, w, z)) (hc : ¬ (x = y)) (k : g_R sh d M v τ (pc + 3) loc (st) σ) : g_R sh d M v τ pc loc (.int y :: .int x :: st) σ := g_step hat (by simp only [i_s, i_icm, if_neg hc]) k
theorem g_ic_ne_t {x y : Int32} {o : Int} (hat : i_at M.2.2.2.2.2 pc = some (.if_icmp .ne o, l, a, b, w, z)) (hc : ¬ x = y) (k : g_R sh d M v τ (a) loc (st) σ) : g_R sh d M v τ pc loc (.int y :: .int x :: st) σ := g_step hat (by simp only [i_s, i_icm, if_pos hc]) k
theorem g_ic_ne_f {x y : Int32} {o : Int} (hat : i_at M.2.2.2.2.2 pc = some (.if_icmp .ne o, l, a, b, w, z)) (hc : ¬ (¬ x = y)) (k : g_R sh d M v τ (pc + 3) loc (st) σ) : g_R sh d M v τ pc loc (.int y :: .int x :: st) σ := g_step hat (by simp only [i_s, i_icm, if_neg hc]) k
theorem g_ic_lt_t {x y : Int32} {o : Int} (hat : i_at M.2.2.2.2.2 pc = some (.if_icmp .lt o, l, a, b, w, z)) (hc : x < y) (k : g_R sh d M v τ (a) loc (st) σ) : g_R sh d M v τ pc loc (.int y :: .int x :: st) σ := g_step hat (by simp only [i_s, i_icm, if_pos hc]) k
theorem g_ic_lt_f {x y : Int32} {o : Int} (hat : i_at M.2.2.2.2.2 pc = some (.if_icmp .lt o, l, a, b, w, z)) (hc : ¬ (x < y)) (k : g_R sh d M v τ (pc + 3) loc (st) σ) : g_R sh d M v τ pc loc (.int y :: .int x :: st) σ := g_step hat (by simp only [i_s, i_icm, if_neg hc]) k
theorem g_ic_ge_t {x y : Int32} {o : Int} (hat : i_at M.2.2.2.2.2 pc = some (.if_icmp .ge o, l, a, b, w, z)) (hc : y ≤ x) (k : g_R sh d M v τ (a) loc (st) σ) : g_R sh d M v τ pc loc (.int y :: .int x :: st) σ := g_step hat (by simp only [i_s, i_icm, if_pos hc]) k
theorem g_ic_ge_f {x y : Int32} {o : Int} (hat : i_at M.2.2.2.2.2 pc = some (.if_icmp .ge o, l, a, b, w, z)) (hc : ¬ (y ≤ x)) (k : g_R sh d M v τ (pc + 3) loc (st) σ) : g_R sh d M v τ pc loc (.int y :: .int x :: st) σ := g_step hat (by simp only [i_s, i_icm, if_neg hc]) k
theorem g_ic_gt_t {x y : Int32} {o : Int} (hat : i_at M.2.2.2.2.2 pc = some (.if_icmp .gt o, l, a, b, w, z)) (hc : y < x) (k : g_R sh d M v τ (a) loc (st) σ) : g_R sh d M v τ pc loc (.int y :: .int x :: st) σ := g_step hat (by simp only [i_s, i_icm, if_pos hc]) k
theorem g_ic_gt_f {x y : Int32} {o : Int} (hat : i_at M.2.2.2.2.2 pc = some (.if_icmp .gt o, l, a, b, w, z)) (hc : ¬ (y < x)) (k : g_R sh d M v τ (pc + 3) loc (st) σ) : g_R sh d M v τ pc loc (.int y :: .int x :: st) σ := g_step hat (by simp only [i_s, i_icm, if_neg hc]) k
theorem g_ic_le_t {x y : Int32} {o : Int} (hat : i_at M.2.2.2.2.2 pc = some (.if_icmp .le o, l, a, b, w, z)) (hc : x ≤ y) (k : g_R sh d M v τ (a) loc (st) σ) : g_R sh d M v τ pc loc (.int y :: .int x :: st) σ := g_step hat (by simp only [i_s, i_icm, if_pos hc]) k
theorem g_ic_le_f {x y : Int32} {o : Int} (hat : i_at M.2.2.2.2.2 pc = some (.if_icmp .le o, l, a, b, w, z)) (hc : ¬ (x ≤ y)) (k : g_R sh d M v τ (pc + 3) loc (st) σ) : g_R sh d M v τ pc loc (.int y :: .int x :: st) σ := g_step hat (by simp only [i_s, i_icm, if_neg hc]) k
theorem g_nn_t {x : Nat} {o : Int} (hat : i_at M.2.2.2.2.2 pc = some (.ifnonnull o, l, a, b, w, z))  (k : g_R sh d M v τ (a) loc (st) σ) : g_R sh d M v τ pc loc (.ref x :: st) σ := g_step hat (rfl) k
theorem g_nn_f {o : Int} (hat : i_at M.2.2.2.2.2 pc = some (.ifnonnull o, l, a, b, w, z))  (k : g_R sh d M v τ (pc + 3) loc (st) σ) : g_R sh d M v τ pc loc (.null :: st) σ := g_step hat (rfl) k
theorem g_tabIn {x : Int32} {i dd lo hi : Int} {offs : Array Int} {off : Int} {t : Nat} (hat : i_at M.2.2.2.2.2 pc = some (.tableswitch dd lo hi offs, l, a, b, w, z)) (hx : x.toInt = i) (h1 : ¬ (i < lo ∨ hi < i)) (ho : offs[(i - lo).toNat]? = some off) (hj : i_jmp pc off = some t) (k : g_R sh d M v τ t loc st σ) : g_R sh d M v τ pc loc (.int x :: st) σ := g_step hat (by simp only [i_s, hx, if_neg h1, ho, hj, Option.map_some]) k
theorem g_tabOut {x : Int32} {dd lo hi : Int} {offs : Array Int} {t : Nat} (hat : i_at M.2.2.2.2.2 pc = some (.tableswitch dd lo hi offs, l, a, b, w, z)) (h1 : x.toInt < lo ∨ hi < x.toInt) (hj : i_jmp pc dd = some t) (k : g_R sh d M v τ t loc st σ) : g_R sh d M v τ pc loc (.int x :: st) σ := g_step hat (by simp only [i_s, if_pos h1, hj, Option.map_some]) k
theorem g_lkp {x : Int32} {dd : Int} {ps : Array (Int × Int)} {off : Int} {t : Nat} (hat : i_at M.2.2.2.2.2 pc = some (.lookupswitch dd ps, l, a, b, w, z)) (hp : (ps.toList.zip (ps.toList.drop 1)).all (fun (a, next) => a.1 < next.1) = true) (ho : Op.lookupswitch.offset ps.toList dd x.toInt = off) (hj : i_jmp pc off = some t) (k : g_R sh d M v τ t loc st σ) : g_R sh d M v τ pc loc (.int x :: st) σ := g_step hat (by simp only [i_s, if_pos hp, ho, hj, Option.map_some]) k
theorem g_getI {i k0 : Nat} {ci : Nat} {sp : List (Option Nat)} (hat : i_at M.2.2.2.2.2 pc = some (.getfield k0, l, ci, b, w, z)) (h : sh[i]? = some (.inr (ci, sp))) (hk : sp[b]? = some none) (k : g_R sh d M v τ (pc + 3) loc (.int (σ.1 i b) :: st) σ) : g_R sh d M v τ pc loc (.ref i :: st) σ := by
  have h1 := s_h_at (σ := σ) h
  have h2 := s_fs_at (f := σ.1 i) (b := 0) hk
  rw [Nat.zero_add] at h2
  exact g_step hat (by simp only [i_s, i_getf, h1, s_cell, if_pos, h2]) k
theorem g_getR {i k0 r : Nat} {ci : Nat} {sp : List (Option Nat)} (hat : i_at M.2.2.2.2.2 pc = some (.getfield k0, l, ci, b, w, z)) (h : sh[i]? = some (.inr (ci, sp))) (hk : sp[b]? = some (some r)) (k : g_R sh d M v τ (pc + 3) loc (.ref r :: st) σ) : g_R sh d M v τ pc loc (.ref i :: st) σ := by
  have h1 := s_h_at (σ := σ) h
  have h2 := s_fs_at (f := σ.1 i) (b := 0) hk
  exact g_step hat (by simp only [i_s, i_getf, h1, s_cell, if_pos, h2]) k
theorem g_putI {i k0 : Nat} {ci : Nat} {sp : List (Option Nat)} {x : Int32} (hat : i_at M.2.2.2.2.2 pc = some (.putfield k0, l, ci, b, w, z)) (h : sh[i]? = some (.inr (ci, sp))) (hk : sp[b]? = some none) (hx : i_okf (i_ty ci b) (.int x) = true) (k : g_R sh d M v τ (pc + 3) loc st (s_F σ i b x)) : g_R sh d M v τ pc loc (.int x :: .ref i :: st) σ := by
  have h1 := s_h_at (σ := σ) h
  have hlt : b < (s_fs (σ.1 i) 0 sp).length := by rw [s_fs_len]; exact (List.getElem?_eq_some_iff.mp hk).1
  have hset : (s_h sh σ).set i (.inr (ci, (s_fs (σ.1 i) 0 sp).set b (.int x))) = s_h sh (s_F σ i b x) := by
    refine s_h_set h ?_ (fun j k' hj => s_cell_F hj)
    show (.inr (ci, s_fs ((s_F σ i b x).1 i) 0 sp) : iC) = _
    rw [s_fs_set hk, Nat.zero_add]
    have e : (s_F σ i b x).1 i = (fun j => if j = b then x else σ.1 i j) := by
      funext j
      show (if i = i ∧ j = b then x else σ.1 i j) = _
      by_cases hj : j = b
      · rw [if_pos ⟨rfl, hj⟩, if_pos hj]
      · rw [if_neg (fun q => hj q.2), if_neg hj]
    rw [e]
  exact g_step hat (by simp only [i_s, i_putf, h1, s_cell]; rw [if_pos ⟨trivial, hx, hlt⟩, hset]) k
theorem g_ild {i n : Nat} {j : Int32} (hat : i_at M.2.2.2.2.2 pc = some (.iaload, l, a, b, w, z)) (h : sh[i]? = some (.inl (.int, n))) (hj : i_ok j n) (k : g_R sh d M v τ (pc + 1) loc (.int (σ.2.1 i j.toNatClampNeg) :: st) σ) : g_R sh d M v τ pc loc (.int j :: .ref i :: st) σ := by
  have h1 := s_h_at (σ := σ) h
  exact g_step hat (by simp only [i_s, i_ald, h1, s_cell, i_isi]; rw [if_pos ⟨trivial, hj.1, hj.2⟩]) k
theorem g_bld {i n : Nat} {j : Int32} (hat : i_at M.2.2.2.2.2 pc = some (.baload, l, a, b, w, z)) (h : sh[i]? = some (.inl (.byte, n))) (hj : i_ok j n) (k : g_R sh d M v τ (pc + 1) loc (.int (σ.2.1 i j.toNatClampNeg) :: st) σ) : g_R sh d M v τ pc loc (.int j :: .ref i :: st) σ := by
  have h1 := s_h_at (σ := σ) h
  exact g_step hat (by simp only [i_s, i_ald, h1, s_cell, i_isp]; rw [if_pos ⟨trivial, hj.1, hj.2⟩]) k
theorem g_zld {i n : Nat} {j : Int32} (hat : i_at M.2.2.2.2.2 pc = some (.baload, l, a, b, w, z)) (h : sh[i]? = some (.inl (.boolean, n))) (hj : i_ok j n) (k : g_R sh d M v τ (pc + 1) loc (.int (σ.2.1 i j.toNatClampNeg) :: st) σ) : g_R sh d M v τ pc loc (.int j :: .ref i :: st) σ := by
  have h1 := s_h_at (σ := σ) h
  exact g_step hat (by simp only [i_s, i_ald, h1, s_cell, i_isp]; rw [if_pos ⟨trivial, hj.1, hj.2⟩]) k
theorem g_ist {i n : Nat} {j x : Int32} (hat : i_at M.2.2.2.2.2 pc = some (.iastore, l, a, b, w, z)) (h : sh[i]? = some (.inl (.int, n))) (hj : i_ok j n) (k : g_R sh d M v τ (pc + 1) loc st (s_A σ i j.toNatClampNeg (x))) : g_R sh d M v τ pc loc (.int x :: .int j :: .ref i :: st) σ := by
  have h1 := s_h_at (σ := σ) h
  have hset : (s_h sh σ).set i (.inl (.int, n, .inl (upd (σ.2.1 i) j.toNatClampNeg (vp_nar .int x)))) = s_h sh (s_A σ i j.toNatClampNeg (x)) := by
    refine s_h_set h ?_ (fun j2 k' hj2 => s_cell_A (i := i) (funext fun q => if_neg (fun e => hj2 e.1)))
    show (.inl (.int, n, .inl ((s_A σ i j.toNatClampNeg (x)).2.1 i)) : iC) = _
    congr 3
    refine congrArg Sum.inl (funext fun q => ?_)
    show (if i = i ∧ q = j.toNatClampNeg then x else σ.2.1 i q) = upd (σ.2.1 i) j.toNatClampNeg (vp_nar .int x) q
    unfold upd
    by_cases hq : q = j.toNatClampNeg
    · rw [if_pos ⟨rfl, hq⟩, if_pos hq]; rfl
    · rw [if_neg (fun e => hq e.2), if_neg hq]
  exact g_step hat (by simp only [i_s, i_ast, h1, s_cell, i_isi]; rw [if_pos ⟨trivial, hj.1, hj.2⟩, hset]) k
theorem g_bst {i n : Nat} {j x : Int32} (hat : i_at M.2.2.2.2.2 pc = some (.bastore, l, a, b, w, z)) (h : sh[i]? = some (.inl (.byte, n))) (hj : i_ok j n) (k : g_R sh d M v τ (pc + 1) loc st (s_A σ i j.toNatClampNeg (vp_nar .byte x))) : g_R sh d M v τ pc loc (.int x :: .int j :: .ref i :: st) σ := by
  have h1 := s_h_at (σ := σ) h
  have hset : (s_h sh σ).set i (.inl (.byte, n, .inl (upd (σ.2.1 i) j.toNatClampNeg (vp_nar .byte x)))) = s_h sh (s_A σ i j.toNatClampNeg (vp_nar .byte x)) := by
    refine s_h_set h ?_ (fun j2 k' hj2 => s_cell_A (i := i) (funext fun q => if_neg (fun e => hj2 e.1)))
    show (.inl (.byte, n, .inl ((s_A σ i j.toNatClampNeg (vp_nar .byte x)).2.1 i)) : iC) = _
    congr 3
    refine congrArg Sum.inl (funext fun q => ?_)
    show (if i = i ∧ q = j.toNatClampNeg then vp_nar .byte x else σ.2.1 i q) = upd (σ.2.1 i) j.toNatClampNeg (vp_nar .byte x) q
    unfold upd
    by_cases hq : q = j.toNatClampNeg
    · rw [if_pos ⟨rfl, hq⟩, if_pos hq]
    · rw [if_neg (fun e => hq e.2), if_neg hq]
  exact g_step hat (by simp only [i_s, i_ast, h1, s_cell, i_isp]; rw [if_pos ⟨trivial, hj.1, hj.2⟩, hset]) k
theorem g_zst {i n : Nat} {j x : Int32} (hat : i_at M.2.2.2.2.2 pc = some (.bastore, l, a, b, w, z)) (h : sh[i]? = some (.inl (.boolean, n))) (hj : i_ok j n) (k : g_R sh d M v τ (pc + 1) loc st (s_A σ i j.toNatClampNeg (vp_nar .boolean x))) : g_R sh d M v τ pc loc (.int x :: .int j :: .ref i :: st) σ := by
  have h1 := s_h_at (σ := σ) h
  have hset : (s_h sh σ).set i (.inl (.boolean, n, .inl (upd (σ.2.1 i) j.toNatClampNeg (vp_nar .boolean x)))) = s_h sh (s_A σ i j.toNatClampNeg (vp_nar .boolean x)) := by
    refine s_h_set h ?_ (fun j2 k' hj2 => s_cell_A (i := i) (funext fun q => if_neg (fun e => hj2 e.1)))
    show (.inl (.boolean, n, .inl ((s_A σ i j.toNatClampNeg (vp_nar .boolean x)).2.1 i)) : iC) = _
    congr 3
    refine congrArg Sum.inl (funext fun q => ?_)
    show (if i = i ∧ q = j.toNatClampNeg then vp_nar .boolean x else σ.2.1 i q) = upd (σ.2.1 i) j.toNatClampNeg (vp_nar .boolean x) q
    unfold upd
    by_cases hq : q = j.toNatClampNeg
    · rw [if_pos ⟨rfl, hq⟩, if_pos hq]
    · rw [if_neg (fun e => hq e.2), if_neg hq]
  exact g_step hat (by simp only [i_s, i_ast, h1, s_cell, i_isp]; rw [if_pos ⟨trivial, hj.1, hj.2⟩, hset]) k
theorem g_lld {i n : Nat} {j : Int32} (hat : i_at M.2.2.2.2.2 pc = some (.laload, l, a, b, w, z)) (h : sh[i]? = some (.inl (.long, n))) (hj : i_ok j n) (k : g_R sh d M v τ (pc + 1) loc (.long (σ.2.2.1 i j.toNatClampNeg) :: st) σ) : g_R sh d M v τ pc loc (.int j :: .ref i :: st) σ := by
  have h1 := s_h_at (σ := σ) h
  exact g_step hat (by simp only [i_s, i_lald, h1, s_cell]; rw [if_pos hj]) k
theorem g_lst {i n : Nat} {j : Int32} {x : Int64} (hat : i_at M.2.2.2.2.2 pc = some (.lastore, l, a, b, w, z)) (h : sh[i]? = some (.inl (.long, n))) (hj : i_ok j n) (k : g_R sh d M v τ (pc + 1) loc st (s_L σ i j.toNatClampNeg x)) : g_R sh d M v τ pc loc (.long x :: .int j :: .ref i :: st) σ := by
  have h1 := s_h_at (σ := σ) h
  have hset : (s_h sh σ).set i (.inl (.long, n, .inr (.inl (vp_updL (σ.2.2.1 i) j.toNatClampNeg x)))) = s_h sh (s_L σ i j.toNatClampNeg x) := by
    refine s_h_set h ?_ (fun j2 k' hj2 => s_cell_L (funext fun q => if_neg (fun e => hj2 e.1)))
    show (.inl (.long, n, .inr (.inl ((s_L σ i j.toNatClampNeg x).2.2.1 i))) : iC) = _
    congr 3
    refine congrArg (fun g => Sum.inr (Sum.inl g)) (funext fun q => ?_)
    show (if i = i ∧ q = j.toNatClampNeg then x else σ.2.2.1 i q) = vp_updL (σ.2.2.1 i) j.toNatClampNeg x q
    unfold vp_updL
    by_cases hq : q = j.toNatClampNeg
    · rw [if_pos ⟨rfl, hq⟩, if_pos hq]
    · rw [if_neg (fun e => hq e.2), if_neg hq]
  exact g_step hat (by simp only [i_s, i_last, h1, s_cell]; rw [if_pos hj, hset]) k
theorem g_ald {i n : Nat} {C : String} {j : Int32} (hat : i_at M.2.2.2.2.2 pc = some (.aaload, l, a, b, w, z)) (h : sh[i]? = some (.inl (.object C, n))) (hj : i_ok j n) (k : g_R sh d M v τ (pc + 1) loc (va_rf (σ.2.2.2 i j.toNatClampNeg) :: st) σ) : g_R sh d M v τ pc loc (.int j :: .ref i :: st) σ := by
  have h1 := s_h_at (σ := σ) h
  exact g_step hat (by simp only [i_s, i_aald, h1, s_cell, i_isq]; rw [if_pos ⟨trivial, hj.1, hj.2⟩]) k
theorem g_aldA {i n : Nat} {t : FieldType} {j : Int32} (hat : i_at M.2.2.2.2.2 pc = some (.aaload, l, a, b, w, z)) (h : sh[i]? = some (.inl (.array t, n))) (hj : i_ok j n) (k : g_R sh d M v τ (pc + 1) loc (va_rf (σ.2.2.2 i j.toNatClampNeg) :: st) σ) : g_R sh d M v τ pc loc (.int j :: .ref i :: st) σ := by
  have h1 := s_h_at (σ := σ) h
  exact g_step hat (by simp only [i_s, i_aald, h1, s_cell, i_isq]; rw [if_pos ⟨trivial, hj.1, hj.2⟩]) k
theorem g_len {i n : Nat} {ty : FieldType} (hat : i_at M.2.2.2.2.2 pc = some (.arraylength, l, a, b, w, z)) (h : sh[i]? = some (.inl (ty, n))) (k : g_R sh d M v τ (pc + 1) loc (.int (Int32.ofNat n) :: st) σ) : g_R sh d M v τ pc loc (.ref i :: st) σ := by
  have h1 := s_h_at (σ := σ) h
  exact g_step hat (by simp only [i_s, i_alen, h1]; cases ty <;> rfl) k
abbrev i_cok (sp dp n : Int32) (n0 n1 : Nat) : Prop := ¬ sp < 0 ∧ ¬ dp < 0 ∧ ¬ n < 0 ∧ sp.toNatClampNeg + n.toNatClampNeg ≤ n0 ∧ dp.toNatClampNeg + n.toNatClampNeg ≤ n1
theorem g_cpy {i j n0 n1 k0 : Nat} {sp dp n : Int32} (hat : i_at M.2.2.2.2.2 pc = some (.invokestatic k0, l, 1003, b, w, z)) (h : sh[i]? = some (.inl (.int, n0))) (h2 : sh[j]? = some (.inl (.int, n1))) (hj : i_cok sp dp n n0 n1) (hr : (st.map fun v => v.category).sum ≤ 8) (k : g_R sh d M v τ (pc + 3) loc st (s_C σ i j sp.toNatClampNeg dp.toNatClampNeg n.toNatClampNeg)) : g_R sh d M v τ pc loc (.int n :: .int dp :: .ref j :: .int sp :: .ref i :: st) σ := by
  have g1 := s_h_at (σ := σ) h
  have g2 := s_h_at (σ := σ) h2
  have hset : (s_h sh σ).set j (.inl (.int, n1, .inl (va_cpy (σ.2.1 i) (σ.2.1 j) sp.toNatClampNeg dp.toNatClampNeg n.toNatClampNeg))) = s_h sh (s_C σ i j sp.toNatClampNeg dp.toNatClampNeg n.toNatClampNeg) := by
    refine s_h_set h2 ?_ (fun j2 k' hj2 => s_cell_A (i := j) (funext fun q => if_neg (fun e => hj2 e)))
    show (.inl (.int, n1, .inl ((s_C σ i j sp.toNatClampNeg dp.toNatClampNeg n.toNatClampNeg).2.1 j)) : iC) = _
    congr 3
    refine congrArg Sum.inl (funext fun q => ?_)
    show (if j = j then va_cpy (σ.2.1 i) (σ.2.1 j) sp.toNatClampNeg dp.toNatClampNeg n.toNatClampNeg q else σ.2.1 j q) = _
    rw [if_pos rfl]
  exact g_step hat (by simp only [i_s, i_prim, i_cpy, g1, g2, s_cell]; rw [if_pos ⟨hj.1, hj.2.1, hj.2.2.1, hj.2.2.2.1, hj.2.2.2.2, hr⟩, hset]) k
theorem g_max {x y : Int32} {k0 : Nat} (hat : i_at M.2.2.2.2.2 pc = some (.invokestatic k0, l, 1001, b, w, z)) (hr : (st.map fun v => v.category).sum ≤ 8) (k : g_R sh d M v τ (pc + 3) loc (.int (if x < y then y else x) :: st) σ) : g_R sh d M v τ pc loc (.int y :: .int x :: st) σ := g_step hat (by simp only [i_s, i_prim]; rw [if_pos hr]) k
theorem g_min {x y : Int32} {k0 : Nat} (hat : i_at M.2.2.2.2.2 pc = some (.invokestatic k0, l, 1002, b, w, z)) (hr : (st.map fun v => v.category).sum ≤ 8) (k : g_R sh d M v τ (pc + 3) loc (.int (if y < x then y else x) :: st) σ) : g_R sh d M v τ pc loc (.int y :: .int x :: st) σ := g_step hat (by simp only [i_s, i_prim]; rw [if_pos hr]) k
theorem i_SBk {q : Nat} : i_SB + q - i_SB = q := by omega
theorem g_slen {q k0 : Nat} (hat : i_at M.2.2.2.2.2 pc = some (.invokevirtual k0, l, 1004, b, w, z)) (hq : q < 28) (hr : (st.map fun v => v.category).sum ≤ 8) (k : g_R sh d M v τ (pc + 3) loc (.int (Int32.ofNat (i_slen q)) :: st) σ) : g_R sh d M v τ pc loc (.ref (i_SB + q) :: st) σ := g_step hat (by
  have h1 : i_SB ≤ i_SB + q := Nat.le_add_right _ _
  have h2 : i_SB + q < i_SB + 28 := Nat.add_lt_add_left hq _
  simp only [i_s, i_prim]; rw [if_pos ⟨h1, h2, hr⟩, i_SBk]) k
theorem g_schr {q k0 : Nat} {j : Int32} (hat : i_at M.2.2.2.2.2 pc = some (.invokevirtual k0, l, 1005, b, w, z)) (hq : q < 28) (hj : i_ok j (i_slen q)) (hr : (st.map fun v => v.category).sum ≤ 8) (k : g_R sh d M v τ (pc + 3) loc (.int (i_schr q j.toNatClampNeg) :: st) σ) : g_R sh d M v τ pc loc (.int j :: .ref (i_SB + q) :: st) σ := g_step hat (by
  have h1 : i_SB ≤ i_SB + q := Nat.le_add_right _ _
  have h2 : i_SB + q < i_SB + 28 := Nat.add_lt_add_left hq _
  have h3 : j.toNatClampNeg < i_slen (i_SB + q - i_SB) := by rw [i_SBk]; exact hj.2
  simp only [i_s, i_prim]; rw [if_pos ⟨h1, h2, hr, hj.1, h3⟩, i_SBk]) k
theorem g_iret {x : Int32} {ty : FieldType} (hat : i_at M.2.2.2.2.2 pc = some (.ireturn, l, a, b, w, z)) (ht : M.2.2.2.2.1 = some ty) (hn : narrow ty (.int x) = .int x) : g_R sh d M (some (.int x)) σ pc loc [.int x] σ := ⟨1, _, hat, Or.inr (Or.inr (Or.inl ⟨⟨x, ty, rfl, ht, hn, rfl, rfl⟩, Nat.le_refl _, Nat.le_refl _⟩))⟩
theorem g_lret {x : Int64} (hat : i_at M.2.2.2.2.2 pc = some (.lreturn, l, a, b, w, z)) (ht : M.2.2.2.2.1 = some .long) : g_R sh d M (some (.long x)) σ pc loc [.long x] σ := ⟨1, _, hat, Or.inr (Or.inr (Or.inl ⟨⟨x, rfl, ht, rfl, rfl⟩, Nat.le_refl _, Nat.le_refl _⟩))⟩
theorem g_aret {x : Nat} {ty : FieldType} (hat : i_at M.2.2.2.2.2 pc = some (.areturn, l, a, b, w, z)) (ht : M.2.2.2.2.1 = some ty) (hn : i_isq ty = true) : g_R sh d M (some (.ref x)) σ pc loc [.ref x] σ := ⟨1, _, hat, Or.inr (Or.inr (Or.inl ⟨⟨.ref x, ty, rfl, ht, hn, Or.inr ⟨x, rfl⟩, rfl, rfl⟩, Nat.le_refl _, Nat.le_refl _⟩))⟩
theorem g_vret (hat : i_at M.2.2.2.2.2 pc = some (.return_, l, a, b, w, z)) (ht : M.2.2.2.2.1 = none) : g_R sh d M none σ pc loc [] σ := ⟨1, _, hat, Or.inr (Or.inr (Or.inl ⟨⟨rfl, ht, rfl, rfl⟩, Nat.le_refl _, Nat.le_refl _⟩))⟩
theorem g_calS {As rest st2 : List Value} {r : Option Value} {σ2 : St} {k0 : Nat} (hat : i_at M.2.2.2.2.2 pc = some (.invokestatic k0, l, a, b, w, z)) (hX : i_X d a As (s_h sh σ) 0 0 r (s_h sh σ2)) (hst : st = As.reverse ++ rest) (hA : As.length = b) (hr : (rest.map fun v => v.category).sum ≤ 8) (h2 : r.toList ++ rest = st2) (k : g_R sh d M v τ (pc + 3) loc st2 σ2) : g_R sh d M v τ pc loc st σ := by
  obtain ⟨n, k⟩ := k
  subst h2
  exact ⟨n + 1, _, hat, Or.inr (Or.inr (Or.inr ⟨As, rest, r, _, 0, 0, ⟨hr, hst, hA⟩, hX, Nat.le_refl _, Nat.le_refl _, k⟩))⟩
theorem g_calV {i ci : Nat} {sp : List (Option Nat)} {As rest st2 : List Value} {r : Option Value} {σ2 : St} {k0 : Nat} (hat : i_at M.2.2.2.2.2 pc = some (.invokevirtual k0, l, a, b, w, z)) (hX : i_X d a (.ref i :: As) (s_h sh σ) 0 0 r (s_h sh σ2)) (h : sh[i]? = some (.inr (ci, sp))) (hc : (vwCl[ci]?).map (fun z => z.1) = some (i_mc_ a)) (hst : st = As.reverse ++ .ref i :: rest) (hA : As.length = b) (hr : (rest.map fun v => v.category).sum ≤ 8) (h2 : r.toList ++ rest = st2) (k : g_R sh d M v τ (pc + 3) loc st2 σ2) : g_R sh d M v τ pc loc st σ := by
  obtain ⟨n, k⟩ := k
  subst h2
  exact ⟨n + 1, _, hat, Or.inr (Or.inr (Or.inr ⟨.ref i :: As, rest, r, _, 0, 0, ⟨hr, i, As, ci, _, rfl, hst, hA, s_h_at h, hc⟩, hX, Nat.le_refl _, Nat.le_refl _, k⟩))⟩
end GR
