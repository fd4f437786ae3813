/-! ===== the abstract heap: cells by their number, references are numbers of cells (from i_SB on: String constants) ===== -/
abbrev iC : Type := (FieldType × vp_A) ⊕ (Nat × List Value)
abbrev iH : Type := List iC
abbrev iA : Type := List (Nat × ClassId)
def i_SB : Nat := 1000000
def i_ad (sa : Nat → Nat) (ad : iA) (i : Nat) : Nat := if i < i_SB then (ad.getD i (0, 0)).1 else sa (i - i_SB)
def i_mv (sa : Nat → Nat) (ad : iA) (v : Value) : Value := match v with
  | .ref i => .ref (i_ad sa ad i)
  | .int x => .int x
  | .long x => .long x
  | .float x => .float x
  | .double x => .double x
  | .null => .null
  | .retAddr x => .retAddr x
def i_ma (sa : Nat → Nat) (ad : iA) (x : vp_A) : vp_A := match x with
  | (n, .inl f) => (n, .inl f)
  | (n, .inr (.inl f)) => (n, .inr (.inl f))
  | (n, .inr (.inr (.inl f))) => (n, .inr (.inr (.inl f)))
  | (n, .inr (.inr (.inr (.inl f)))) => (n, .inr (.inr (.inr (.inl f))))
  | (n, .inr (.inr (.inr (.inr f)))) => (n, .inr (.inr (.inr (.inr (fun k => (f k).map (i_ad sa ad))))))
def i_mc (sa : Nat → Nat) (ad : iA) (cid : ClassId) (c : iC) : va_E := match c with
  | .inl q => .inl (cid, i_ma sa ad q.2)
  | .inr q => .inr (q.1, q.2.map (i_mv sa ad))
def i_w (sa : Nat → Nat) (ad : iA) (h : iH) : va_W := List.zipWith (fun a c => (a.1, i_mc sa ad a.2 c)) ad h
/-- a reference that there is, of n cells -/
def i_okr (n i : Nat) : Prop := i < n ∨ i_SB ≤ i
def i_okv (n : Nat) (v : Value) : Prop := match v with
  | .ref i => i_okr n i
  | _ => True
def i_oka (n : Nat) (x : vp_A) : Prop := match x with
  | (_, .inr (.inr (.inr (.inr f)))) => ∀ k i, f k = some i → i_okr n i
  | _ => True
def i_okc (n : Nat) (c : iC) : Prop := match c with
  | .inl q => i_oka n q.2
  | .inr q => ∀ v ∈ q.2, i_okv n v
def i_okl (n : Nat) (l : List Value) : Prop := ∀ v ∈ l, i_okv n v
def i_okh (h : iH) : Prop := h.length ≤ i_SB ∧ ∀ c ∈ h, i_okc h.length c
theorem i_okr.mono {n m i : Nat} (h : i_okr n i) (hn : n ≤ m) : i_okr m i := h.elim (fun h => Or.inl (Nat.lt_of_lt_of_le h hn)) Or.inr
theorem i_okv.mono {n m : Nat} {v : Value} (h : i_okv n v) (hn : n ≤ m) : i_okv m v := by
  cases v <;> first | trivial | exact i_okr.mono h hn
theorem i_okl.mono {n m : Nat} {l : List Value} (h : i_okl n l) (hn : n ≤ m) : i_okl m l := fun v hv => (h v hv).mono hn
theorem i_oka.mono {n m : Nat} {x : vp_A} (h : i_oka n x) (hn : n ≤ m) : i_oka m x := by
  obtain ⟨k, f | f | f | f | f⟩ := x
  · trivial
  · trivial
  · trivial
  · trivial
  · exact fun k i hk => (h k i hk).mono hn
theorem i_okc.mono {n m : Nat} {c : iC} (h : i_okc n c) (hn : n ≤ m) : i_okc m c := by
  cases c with
  | inl q => exact i_oka.mono h hn
  | inr q => exact fun v hv => (h v hv).mono hn
theorem i_okl.cons {n : Nat} {v : Value} {l : List Value} (hv : i_okv n v) (hl : i_okl n l) : i_okl n (v :: l) := by
  intro w hw
  rcases List.mem_cons.mp hw with rfl | h
  · exact hv
  · exact hl w h
theorem i_okl.head {n : Nat} {v : Value} {l : List Value} (h : i_okl n (v :: l)) : i_okv n v := h v List.mem_cons_self
theorem i_okl.tail {n : Nat} {v : Value} {l : List Value} (h : i_okl n (v :: l)) : i_okl n l := fun w hw => h w (List.mem_cons_of_mem _ hw)
theorem i_okl.app {n : Nat} {l l2 : List Value} (h : i_okl n l) (h2 : i_okl n l2) : i_okl n (l ++ l2) := fun w hw => (List.mem_append.mp hw).elim (h w) (h2 w)
theorem i_ad_ext {sa : Nat → Nat} {ad ex : iA} {i : Nat} (h : i_okr ad.length i) : i_ad sa (ad ++ ex) i = i_ad sa ad i := by
  unfold i_ad
  by_cases hi : i < i_SB
  · rw [if_pos hi, if_pos hi]
    rcases h with h | h
    · rw [List.getD_eq_getElem?_getD, List.getD_eq_getElem?_getD, List.getElem?_append_left h]
    · omega
  · rw [if_neg hi, if_neg hi]
theorem i_mv_ext {sa : Nat → Nat} {ad ex : iA} {v : Value} (h : i_okv ad.length v) : i_mv sa (ad ++ ex) v = i_mv sa ad v := by
  cases v with
  | ref i => exact congrArg Value.ref (i_ad_ext h)
  | _ => rfl
theorem i_mvl_ext {sa : Nat → Nat} {ad ex : iA} {l : List Value} (h : i_okl ad.length l) : l.map (i_mv sa (ad ++ ex)) = l.map (i_mv sa ad) := List.map_congr_left fun v hv => i_mv_ext (h v hv)
theorem i_ma_ext {sa : Nat → Nat} {ad ex : iA} {x : vp_A} (h : i_oka ad.length x) : i_ma sa (ad ++ ex) x = i_ma sa ad x := by
  obtain ⟨k, f | f | f | f | f⟩ := x
  · rfl
  · rfl
  · rfl
  · rfl
  · have e : (fun k => (f k).map (i_ad sa (ad ++ ex))) = (fun k => (f k).map (i_ad sa ad)) := by
      funext k
      cases hf : f k with
      | none => rfl
      | some i => exact congrArg some (i_ad_ext (h k i hf))
    show ((k, _) : vp_A) = (k, _)
    rw [e]
theorem i_mc_ext {sa : Nat → Nat} {ad ex : iA} {cid : ClassId} {c : iC} (h : i_okc ad.length c) : i_mc sa (ad ++ ex) cid c = i_mc sa ad cid c := by
  cases c with
  | inl q => exact congrArg (fun z => (Sum.inl (cid, z) : va_E)) (i_ma_ext h)
  | inr q => exact congrArg (fun z => (Sum.inr (q.1, z) : va_E)) (i_mvl_ext h)
theorem i_w_len {sa : Nat → Nat} {ad : iA} {h : iH} (e : ad.length = h.length) : (i_w sa ad h).length = h.length := by
  unfold i_w
  rw [List.length_zipWith, e, Nat.min_self]
theorem i_w_at {sa : Nat → Nat} {ad : iA} {h : iH} {i : Nat} {c : iC} (e : ad.length = h.length) (hl : h.length ≤ i_SB) (hc : h[i]? = some c) : (i_w sa ad h)[i]? = some (i_ad sa ad i, i_mc sa ad (ad.getD i (0, 0)).2 c) := by
  have hi : i < h.length := (List.getElem?_eq_some_iff.mp hc).1
  have ha : ad[i]? = some (ad.getD i (0, 0)) := by
    rw [List.getD_eq_getElem?_getD, List.getElem?_eq_getElem (e ▸ hi)]
    rfl
  unfold i_w
  rw [List.getElem?_zipWith, ha, hc]
  show some ((ad.getD i (0, 0)).1, _) = _
  unfold i_ad
  rw [if_pos (Nat.lt_of_lt_of_le hi hl)]
theorem i_w_set {sa : Nat → Nat} {ad : iA} {h : iH} {i : Nat} {c : iC} (e : ad.length = h.length) (hl : h.length ≤ i_SB) (hi : i < h.length) : (i_w sa ad h).set i (i_ad sa ad i, i_mc sa ad (ad.getD i (0, 0)).2 c) = i_w sa ad (h.set i c) := by
  apply List.ext_getElem?
  intro j
  by_cases hj : j = i
  · subst hj
    rw [List.getElem?_set_self (by rw [i_w_len e]; exact hi)]
    exact (i_w_at (by rw [List.length_set]; exact e) (by rw [List.length_set]; exact hl) (List.getElem?_set_self hi)).symm
  · rw [List.getElem?_set_ne (Ne.symm hj)]
    unfold i_w
    rw [List.getElem?_zipWith, List.getElem?_zipWith, List.getElem?_set_ne (Ne.symm hj)]
theorem i_w_push {sa : Nat → Nat} {ad : iA} {h : iH} {q : Nat} {cid : ClassId} {c : iC} (e : ad.length = h.length) (hk : ∀ c ∈ h, i_okc h.length c) (hc : i_okc h.length c) : i_w sa ad h ++ [(q, i_mc sa ad cid c)] = i_w sa (ad ++ [(q, cid)]) (h ++ [c]) := by
  have e2 : i_w sa (ad ++ [(q, cid)]) (h ++ [c]) = List.zipWith (fun a c => (a.1, i_mc sa (ad ++ [(q, cid)]) a.2 c)) ad h ++ [(q, i_mc sa (ad ++ [(q, cid)]) cid c)] := by
    unfold i_w
    rw [List.zipWith_append e]
    rfl
  rw [e2, i_mc_ext (by rw [e]; exact hc)]
  congr 1
  unfold i_w
  apply List.ext_getElem?
  intro j
  rw [List.getElem?_zipWith, List.getElem?_zipWith]
  cases ha : ad[j]? with
  | none => rfl
  | some a =>
    cases hb : h[j]? with
    | none => rfl
    | some b => exact congrArg (fun z => some (a.1, z)) (i_mc_ext (by rw [e]; exact hk b (List.mem_of_getElem? hb))).symm
theorem i_mv_cat (sa : Nat → Nat) (ad : iA) (v : Value) : (i_mv sa ad v).category = v.category := by cases v <;> rfl
theorem i_mv_rf (sa : Nat → Nat) (ad : iA) (r : Option Nat) : i_mv sa ad (va_rf r) = va_rf (r.map (i_ad sa ad)) := by cases r <;> rfl
theorem i_okh.set {h : iH} {i : Nat} {c : iC} (hh : i_okh h) (hc : i_okc h.length c) : i_okh (h.set i c) := by
  refine ⟨by rw [List.length_set]; exact hh.1, fun x hx => ?_⟩
  rw [List.length_set]
  rcases List.mem_or_eq_of_mem_set hx with hx | rfl
  · exact hh.2 x hx
  · exact hc
theorem i_okh.push {h : iH} {c : iC} (hh : i_okh h) (hl : h.length < i_SB) (hc : i_okc h.length c) : i_okh (h ++ [c]) := by
  refine ⟨by rw [List.length_append]; exact hl, fun x hx => ?_⟩
  rw [List.length_append]
  rcases List.mem_append.mp hx with hx | hx
  · exact (hh.2 x hx).mono (Nat.le_add_right _ _)
  · rw [List.mem_singleton.mp hx]
    exact hc.mono (Nat.le_add_right _ _)
/-! ===== locals by their places; .retAddr 0: none ===== -/
def i_L (sa : Nat → Nat) (ad : iA) (ls : Array Slot) (loc : List Value) : Prop := ls.size = loc.length ∧ lv_wf ls ∧ ∀ (k : Nat) (v : Value), loc[k]? = some v → v ≠ .retAddr 0 → ls[k]? = some (.val (i_mv sa ad v))
def i_asc (sa : Nat → Nat) (ad : iA) (loc : List Value) : List (Nat × Value) := (List.range loc.length).filterMap (fun k => match loc[k]? with
  | some v => if v = .retAddr 0 then none else some (k, i_mv sa ad v)
  | none => none)
theorem i_asc_mem {sa : Nat → Nat} {ad : iA} {loc : List Value} {q : Nat × Value} : q ∈ i_asc sa ad loc ↔ ∃ v, loc[q.1]? = some v ∧ v ≠ .retAddr 0 ∧ q.2 = i_mv sa ad v := by
  unfold i_asc
  rw [List.mem_filterMap]
  constructor
  · rintro ⟨k, hk, he⟩
    cases hv : loc[k]? with
    | none => rw [hv] at he; cases he
    | some v =>
      rw [hv] at he
      dsimp only at he
      by_cases hz : v = .retAddr 0
      · rw [if_pos hz] at he; cases he
      · rw [if_neg hz] at he
        cases he
        exact ⟨v, hv, hz, rfl⟩
  · rintro ⟨v, hv, hz, he⟩
    refine ⟨q.1, List.mem_range.mpr (List.getElem?_eq_some_iff.mp hv).1, ?_⟩
    rw [hv]
    dsimp only
    rw [if_neg hz, ← he]
theorem i_L.has {sa : Nat → Nat} {ad : iA} {ls : Array Slot} {loc : List Value} (h : i_L sa ad ls loc) : lv_has ls loc.length (i_asc sa ad loc) := by
  refine ⟨h.1, h.2.1, fun q hq => ?_⟩
  obtain ⟨v, h1, h2, h3⟩ := i_asc_mem.mp hq
  rw [h3]
  exact h.2.2 q.1 v h1 h2
def i_cl (loc : List Value) (i : Nat) : List Value := match i with
  | 0 => loc
  | i + 1 => match loc[i]? with
    | some (.long _) => loc.set i (.retAddr 0)
    | some (.double _) => loc.set i (.retAddr 0)
    | _ => loc
def i_st1 (loc : List Value) (i : Nat) (v : Value) : List Value := (i_cl loc i).set i v
def i_st2 (loc : List Value) (i : Nat) (v : Value) : List Value := ((i_cl loc i).set i v).set (i + 1) (.retAddr 0)
theorem i_cl_len (loc : List Value) (i : Nat) : (i_cl loc i).length = loc.length := by
  unfold i_cl
  cases i with
  | zero => rfl
  | succ i =>
    dsimp only
    split <;> first | rfl | exact List.length_set
theorem i_cl_at {loc : List Value} {i k : Nat} {w : Value} (h : (i_cl loc i)[k]? = some w) (hw : w ≠ .retAddr 0) : loc[k]? = some w ∧ ¬ (k + 1 = i ∧ w.category = 2) := by
  unfold i_cl at h
  cases i with
  | zero => exact ⟨h, by omega⟩
  | succ i =>
    dsimp only at h
    have set_case : ∀ u : Value, loc[i]? = some u → (loc.set i (Value.retAddr 0))[k]? = some w → loc[k]? = some w ∧ ¬ (k + 1 = i + 1 ∧ w.category = 2) := by
      intro u hu h
      by_cases hk : k = i
      · subst hk
        rw [List.getElem?_set_self (List.getElem?_eq_some_iff.mp hu).1] at h
        exact absurd (Option.some.inj h).symm hw
      · rw [List.getElem?_set_ne (Ne.symm hk)] at h
        exact ⟨h, by omega⟩
    split at h
    · next u hu => exact set_case _ hu h
    · next u hu => exact set_case _ hu h
    · next n1 n2 =>
      refine ⟨h, ?_⟩
      rintro ⟨hk, hc⟩
      have hk : k = i := by omega
      subst hk
      cases w <;> first | exact n1 _ h | exact n2 _ h | (simp [Value.category] at hc)
theorem i_st1_len (loc : List Value) (i : Nat) (v : Value) : (i_st1 loc i v).length = loc.length := by
  unfold i_st1
  rw [List.length_set, i_cl_len]
theorem i_st2_len (loc : List Value) (i : Nat) (v : Value) : (i_st2 loc i v).length = loc.length := by
  unfold i_st2
  rw [List.length_set, List.length_set, i_cl_len]
theorem i_L.of1 {sa : Nat → Nat} {ad : iA} {ls' : Array Slot} {loc : List Value} {i : Nat} {v : Value} (hi : i < loc.length) (h : lv_has ls' loc.length ((i, i_mv sa ad v) :: (i_asc sa ad loc).filter (fun q => !(q.1 == i) && !(q.1 + 1 == i && q.2.category == 2)))) : i_L sa ad ls' (i_st1 loc i v) := by
  refine ⟨by rw [i_st1_len]; exact h.1, h.2.1, fun k w hk hw => ?_⟩
  unfold i_st1 at hk
  by_cases hki : k = i
  · subst hki
    rw [List.getElem?_set_self (by rw [i_cl_len]; exact hi)] at hk
    cases hk
    exact h.2.2 (k, _) List.mem_cons_self
  · rw [List.getElem?_set_ne (Ne.symm hki)] at hk
    obtain ⟨h1, h2⟩ := i_cl_at hk hw
    refine h.2.2 (k, _) (List.mem_cons_of_mem _ (List.mem_filter.mpr ⟨i_asc_mem.mpr ⟨w, h1, hw, rfl⟩, ?_⟩))
    simp only [i_mv_cat, Bool.and_eq_true, Bool.not_eq_true', beq_eq_false_iff_ne, Bool.and_eq_false_iff]
    refine ⟨hki, ?_⟩
    by_cases hq : k + 1 = i
    · exact Or.inr (fun z => h2 ⟨hq, (i_mv_cat sa ad w).symm.trans z⟩)
    · exact Or.inl hq
theorem i_L.of2 {sa : Nat → Nat} {ad : iA} {ls' : Array Slot} {loc : List Value} {i : Nat} {v : Value} (hi : i + 1 < loc.length) (h : lv_has ls' loc.length ((i, i_mv sa ad v) :: (i_asc sa ad loc).filter (fun q => !(q.1 == i) && (!(q.1 == i + 1) && !(q.1 + 1 == i && q.2.category == 2))))) : i_L sa ad ls' (i_st2 loc i v) := by
  refine ⟨by rw [i_st2_len]; exact h.1, h.2.1, fun k w hk hw => ?_⟩
  unfold i_st2 at hk
  by_cases hk2 : k = i + 1
  · subst hk2
    rw [List.getElem?_set_self (by rw [List.length_set, i_cl_len]; exact hi)] at hk
    exact absurd (Option.some.inj hk).symm hw
  · rw [List.getElem?_set_ne (Ne.symm hk2)] at hk
    by_cases hki : k = i
    · subst hki
      rw [List.getElem?_set_self (by rw [i_cl_len]; omega)] at hk
      cases hk
      exact h.2.2 (k, _) List.mem_cons_self
    · rw [List.getElem?_set_ne (Ne.symm hki)] at hk
      obtain ⟨h1, h2⟩ := i_cl_at hk hw
      refine h.2.2 (k, _) (List.mem_cons_of_mem _ (List.mem_filter.mpr ⟨i_asc_mem.mpr ⟨w, h1, hw, rfl⟩, ?_⟩))
      simp only [i_mv_cat, Bool.and_eq_true, Bool.not_eq_true', beq_eq_false_iff_ne, Bool.and_eq_false_iff]
      refine ⟨hki, hk2, ?_⟩
      by_cases hq : k + 1 = i
      · exact Or.inr (fun z => h2 ⟨hq, (i_mv_cat sa ad w).symm.trans z⟩)
      · exact Or.inl hq
theorem i_okl.set {n i : Nat} {l : List Value} {v : Value} (h : i_okl n l) (hv : i_okv n v) : i_okl n (l.set i v) := by
  intro w hw
  rcases List.mem_or_eq_of_mem_set hw with hw | rfl
  · exact h w hw
  · exact hv
theorem i_okl.cl {n i : Nat} {l : List Value} (h : i_okl n l) : i_okl n (i_cl l i) := by
  unfold i_cl
  cases i with
  | zero => exact h
  | succ i =>
    dsimp only
    split <;> first | exact h | exact i_okl.set h trivial
theorem i_okl.st1 {n i : Nat} {l : List Value} {v : Value} (h : i_okl n l) (hv : i_okv n v) : i_okl n (i_st1 l i v) := i_okl.set (i_okl.cl h) hv
theorem i_okl.st2 {n i : Nat} {l : List Value} {v : Value} (h : i_okl n l) (hv : i_okv n v) : i_okl n (i_st2 l i v) := i_okl.set (i_okl.set (i_okl.cl h) hv) trivial
theorem i_L.ext {sa : Nat → Nat} {ad ex : iA} {ls : Array Slot} {loc : List Value} (h : i_L sa ad ls loc) (hl : i_okl ad.length loc) : i_L sa (ad ++ ex) ls loc :=
  ⟨h.1, h.2.1, fun k v hk hv => by rw [i_mv_ext (hl v (List.mem_of_getElem? hk))]; exact h.2.2 k v hk hv⟩
/-! the locals with which a method begins -/
def i_sl : List Value → List Value
  | [] => []
  | v :: vs => match v with
    | .long x => .long x :: .retAddr 0 :: i_sl vs
    | .double x => .double x :: .retAddr 0 :: i_sl vs
    | v => v :: i_sl vs
def i_ent (n : Nat) (vs : List Value) : List Value := i_sl vs ++ List.replicate (n - (i_sl vs).length) (.retAddr 0)
theorem i_sl_at {sa : Nat → Nat} {ad : iA} : ∀ (vs : List Value) (b k : Nat) (w : Value), (i_sl vs)[k]? = some w → w ≠ .retAddr 0 → (b + k, i_mv sa ad w) ∈ lv_args b (vs.map (i_mv sa ad))
  | [], _, _, _, h, _ => by simp [i_sl] at h
  | v :: vs, b, k, w, h, hw => by
    rw [List.map_cons, lv_args]
    have two : ∀ u : Value, u.category = 2 → (u :: Value.retAddr 0 :: i_sl vs)[k]? = some w → (b + k, i_mv sa ad w) ∈ (b, i_mv sa ad u) :: lv_args (if (i_mv sa ad u).category = 2 then b + 2 else b + 1) (vs.map (i_mv sa ad)) := by
      intro u hu h
      rw [if_pos (by rw [i_mv_cat]; exact hu)]
      cases k with
      | zero => rw [List.getElem?_cons_zero] at h; cases h; exact List.mem_cons_self
      | succ k =>
        rw [List.getElem?_cons_succ] at h
        cases k with
        | zero => rw [List.getElem?_cons_zero] at h; exact absurd (Option.some.inj h).symm hw
        | succ k =>
          rw [List.getElem?_cons_succ] at h
          have := i_sl_at (sa := sa) (ad := ad) vs (b + 2) k w h hw
          rw [show b + (k + 1 + 1) = b + 2 + k by omega]
          exact List.mem_cons_of_mem _ this
    have one : ∀ u : Value, u.category ≠ 2 → (u :: i_sl vs)[k]? = some w → (b + k, i_mv sa ad w) ∈ (b, i_mv sa ad u) :: lv_args (if (i_mv sa ad u).category = 2 then b + 2 else b + 1) (vs.map (i_mv sa ad)) := by
      intro u hu h
      rw [if_neg (by rw [i_mv_cat]; exact hu)]
      cases k with
      | zero => rw [List.getElem?_cons_zero] at h; cases h; exact List.mem_cons_self
      | succ k =>
        rw [List.getElem?_cons_succ] at h
        have := i_sl_at (sa := sa) (ad := ad) vs (b + 1) k w h hw
        rw [show b + (k + 1) = b + 1 + k by omega]
        exact List.mem_cons_of_mem _ this
    cases v with
    | long x => exact two _ rfl h
    | double x => exact two _ rfl h
    | int x => exact one _ (by simp [Value.category]) h
    | float x => exact one _ (by simp [Value.category]) h
    | null => exact one _ (by simp [Value.category]) h
    | ref x => exact one _ (by simp [Value.category]) h
    | retAddr x => exact one _ (by simp [Value.category]) h
theorem i_sl_len (sa : Nat → Nat) (ad : iA) : ∀ vs : List Value, (lg_sl (vs.map (i_mv sa ad))).length = (i_sl vs).length
  | [] => rfl
  | v :: vs => by
    have ih := i_sl_len sa ad vs
    unfold lg_sl at ih ⊢
    rw [List.map_cons, List.flatMap_cons, List.length_append, ih]
    cases v <;> simp [i_sl, i_mv, Value.category] <;> omega
theorem i_ent_L {sa : Nat → Nat} {ad : iA} {n : Nat} {vs : List Value} (h : (i_sl vs).length ≤ n) : i_L sa ad ((lg_sl (vs.map (i_mv sa ad)) ++ List.replicate (n - (lg_sl (vs.map (i_mv sa ad))).length) Slot.unset).toArray) (i_ent n vs) := by
  have h0 := lv_entry (vs.map (i_mv sa ad)) (n := n) (by rw [i_sl_len]; exact h)
  refine ⟨?_, h0.2.1, fun k w hk hw => ?_⟩
  · rw [h0.1]
    unfold i_ent
    rw [List.length_append, List.length_replicate]
    omega
  · unfold i_ent at hk
    by_cases hl : k < (i_sl vs).length
    · rw [List.getElem?_append_left hl] at hk
      have := i_sl_at (sa := sa) (ad := ad) vs 0 k w hk hw
      rw [Nat.zero_add] at this
      exact h0.2.2 _ this
    · rw [List.getElem?_append_right (by omega), List.getElem?_replicate] at hk
      split at hk
      · exact absurd (Option.some.inj hk).symm hw
      · cases hk
theorem i_okl_sl {n : Nat} : ∀ {vs : List Value}, i_okl n vs → i_okl n (i_sl vs)
  | [], _ => fun v hv => by simp [i_sl] at hv
  | v :: vs, h => by
    have ih := i_okl_sl h.tail
    cases v <;> first | exact i_okl.cons trivial (i_okl.cons trivial ih) | exact i_okl.cons h.head ih
theorem i_okl_ent {n m : Nat} {vs : List Value} (h : i_okl n vs) : i_okl n (i_ent m vs) := i_okl.app (i_okl_sl h) fun v hv => by rw [(List.mem_replicate.mp hv).2]; trivial
