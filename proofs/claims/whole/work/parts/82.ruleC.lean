/-! ===== SpoonCourt.rule ===== -/
theorem s_putI {sh : List kd} {σ : St} {i ci b : Nat} {sp : List (Option Nat)} {x : Int32} (h : sh[i]? = some (.inr (ci, sp))) (hk : sp[b]? = some none) : (s_h sh σ).set i (.inr (ci, (s_fs (σ.1 i) 0 sp).set b (.int x))) = s_h sh (s_F σ i b x) := by
  refine s_h_set h ?_ (fun j k' hj => s_cell_F hj)
  show (.inr (ci, s_fs ((s_F σ i b x).1 i) 0 sp) : iC) = _
  rw [s_fs_set hk, Nat.zero_add]
  have e : (s_F σ i b x).1 i = (fun j => if j = b then x else σ.1 i j) := by
    funext j
    show (if i = i ∧ j = b then x else σ.1 i j) = _
    by_cases hj : j = b
    · rw [if_pos ⟨rfl, hj⟩, if_pos hj]
    · rw [if_neg (fun q => hj q.2), if_neg hj]
  rw [e]
theorem s_putQ {sh : List kd} {σ : St} {i n j k : Nat} {C : String} (h : sh[i]? = some (.inl (.object C, n))) : (s_h sh σ).set i (.inl (.object C, n, .inr (.inr (.inr (.inr (va_up (σ.2.2.2 i) j (some k))))))) = s_h sh (s_Q σ i j (some k)) := by
  refine s_h_set h ?_ (fun j2 k' hj => s_cell_Q (funext fun q => if_neg (fun e => hj e.1)))
  show (.inl (.object C, n, .inr (.inr (.inr (.inr ((s_Q σ i j (some k)).2.2.2 i))))) : iC) = _
  have e : (s_Q σ i j (some k)).2.2.2 i = va_up (σ.2.2.2 i) j (some k) := by
    funext q
    show (if i = i ∧ q = j then some k else σ.2.2.2 i q) = va_up (σ.2.2.2 i) j (some k) q
    unfold va_up
    by_cases hq : q = j
    · rw [if_pos ⟨rfl, hq⟩, if_pos hq]
    · rw [if_neg (fun e => hq e.2), if_neg hq]
  rw [e]
theorem s_h_app {sh l : List kd} {σ : St} : s_h (sh ++ l) σ = s_h sh σ ++ l.mapIdx (fun i k => s_cell σ (i + sh.length) k) := by
  unfold s_h
  rw [List.mapIdx_append]
theorem s_h_ext {sh : List kd} {σ τ : St} (h : ∀ i k, i < sh.length → s_cell τ i k = s_cell σ i k) : s_h sh τ = s_h sh σ := by
  apply List.ext_getElem?
  intro j
  unfold s_h
  rw [List.getElem?_mapIdx, List.getElem?_mapIdx]
  cases hj : sh[j]? with
  | none => rfl
  | some k =>
    have hlt := (List.getElem?_eq_some_iff.mp hj).1
    show some (s_cell τ j k) = some (s_cell σ j k)
    rw [h j k hlt]
theorem s_h_len {sh : List kd} {σ : St} : (s_h sh σ).length = sh.length := by
  unfold s_h
  exact List.length_mapIdx
def ruT (τ : St) (q : Nat) (g1 g2 g3 g4 : Nat → Int32) : St := (τ.1, fun i j => if i = q + 1 then g1 j else if i = q + 2 then g2 j else if i = q + 3 then g3 j else if i = q + 4 then g4 j else τ.2.1 i j, τ.2.2)
def ruS (q n m : Nat) : List kd := [.inr (6, [some (q + 1), some (q + 2), some (q + 3), some (q + 4)]), .inl (.int, n), .inl (.int, n), .inl (.int, m), .inl (.int, m)]
theorem ru_heap {sh : List kd} {τ : St} {n m : Nat} {g1 g2 g3 g4 : Nat → Int32} : s_h sh τ ++ [.inr (6, [.ref ((s_h sh τ).length + 1), .ref ((s_h sh τ).length + 2), .ref ((s_h sh τ).length + 3), .ref ((s_h sh τ).length + 4)]), .inl (.int, n, .inl g1), .inl (.int, n, .inl g2), .inl (.int, m, .inl g3), .inl (.int, m, .inl g4)] = s_h (sh ++ ruS sh.length n m) (ruT τ sh.length g1 g2 g3 g4) := by
  have hx : ∀ i k, i < sh.length → s_cell (ruT τ sh.length g1 g2 g3 g4) i k = s_cell τ i k := fun i k hi => s_cell_A (i := 0) (σ := τ) (j := i) (g := (ruT τ sh.length g1 g2 g3 g4).2.1) (by
    funext j
    show (if i = sh.length + 1 then g1 j else if i = sh.length + 2 then g2 j else if i = sh.length + 3 then g3 j else if i = sh.length + 4 then g4 j else τ.2.1 i j) = _
    rw [if_neg (by omega), if_neg (by omega), if_neg (by omega), if_neg (by omega)])
  rw [s_h_app, s_h_len, s_h_ext hx]
  · congr 1
    have r1 : (ruT τ sh.length g1 g2 g3 g4).2.1 (1 + sh.length) = g1 := by
      funext j
      show (if 1 + sh.length = sh.length + 1 then g1 j else _) = _
      rw [if_pos (by omega)]
    have r2 : (ruT τ sh.length g1 g2 g3 g4).2.1 (2 + sh.length) = g2 := by
      funext j
      show (if 2 + sh.length = sh.length + 1 then g1 j else if 2 + sh.length = sh.length + 2 then g2 j else _) = _
      rw [if_neg (by omega), if_pos (by omega)]
    have r3 : (ruT τ sh.length g1 g2 g3 g4).2.1 (3 + sh.length) = g3 := by
      funext j
      show (if 3 + sh.length = sh.length + 1 then g1 j else if 3 + sh.length = sh.length + 2 then g2 j else if 3 + sh.length = sh.length + 3 then g3 j else _) = _
      rw [if_neg (by omega), if_neg (by omega), if_pos (by omega)]
    have r4 : (ruT τ sh.length g1 g2 g3 g4).2.1 (4 + sh.length) = g4 := by
      funext j
      show (if 4 + sh.length = sh.length + 1 then g1 j else if 4 + sh.length = sh.length + 2 then g2 j else if 4 + sh.length = sh.length + 3 then g3 j else if 4 + sh.length = sh.length + 4 then g4 j else _) = _
      rw [if_neg (by omega), if_neg (by omega), if_neg (by omega), if_pos (by omega)]
    show _ = [_, (.inl (.int, n, .inl ((ruT τ sh.length g1 g2 g3 g4).2.1 (1 + sh.length))) : iC), (.inl (.int, n, .inl ((ruT τ sh.length g1 g2 g3 g4).2.1 (2 + sh.length))) : iC), (.inl (.int, m, .inl ((ruT τ sh.length g1 g2 g3 g4).2.1 (3 + sh.length))) : iC), (.inl (.int, m, .inl ((ruT τ sh.length g1 g2 g3 g4).2.1 (4 + sh.length))) : iC)]
    rw [r1, r2, r3, r4]
    rfl
