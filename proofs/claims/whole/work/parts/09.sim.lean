/-! ===== one step of the interpreter is a step of the machine ===== -/
theorem i_dec {M : iM} {pc : Nat} {ins : Instr} {len a b w : Nat} {z : Int} (h : i_ckb M (pc, ins, len, a, b, w, z) = true) : decode M.2.2.1 pc = .ok (ins, len) ∧ (i_isw ins = false → len = i_len ins) := by
  obtain ⟨own, y, cc, ml, rt, tb⟩ := M
  unfold i_ckb at h
  dsimp only at h
  rw [Bool.and_eq_true, Bool.and_eq_true, decide_eq_true_eq, Bool.or_eq_true, decide_eq_true_eq] at h
  exact ⟨h.1.1, fun hz => h.1.2.elim (fun q => by rw [hz] at q; cases q) id⟩
theorem i_ck2 {M : iM} {pc : Nat} {ins : Instr} {len a b w : Nat} {z : Int} {B : Bool} (h : i_ckb M (pc, ins, len, a, b, w, z) = true) (e : i_ckb M (pc, ins, len, a, b, w, z) = (decide (decode M.2.2.1 pc = .ok (ins, len)) && (i_isw ins || decide (len = i_len ins)) && B)) : B = true := by
  rw [e, Bool.and_eq_true] at h
  exact h.2
theorem i_in {j : Int32} {n : Nat} (h1 : ¬ j < 0) (h2 : j.toNatClampNeg < n) : vp_in j n := fun h => h.elim h1 (fun q => Nat.not_le.mpr h2 q)
theorem i_okf_ok {sa : Nat → Nat} {ad : iA} {ty : FieldType} {v : Value} (h : i_okf ty v = true) : narrow ty (i_mv sa ad v) = i_mv sa ad v ∧ fits ty (i_mv sa ad v) = true := by
  cases ty <;> cases v <;> first
    | exact ⟨rfl, rfl⟩
    | (simp [i_okf] at h; done)
    | (simp only [i_okf, Bool.or_eq_true, beq_iff_eq] at h
       rcases h with rfl | rfl <;> exact ⟨rfl, rfl⟩)
theorem i_catsum (sa : Nat → Nat) (ad : iA) (r : List Value) : ((r.map (i_mv sa ad)).map fun v => v.category).sum = (r.map fun v => v.category).sum := by
  rw [List.map_map]
  congr 1
  apply List.map_congr_left
  intro v _
  exact i_mv_cat sa ad v
theorem i_jmp_ok {pc t : Nat} {off : Int} (h : i_jmp pc off = some t) : (pc : Int) + off = (t : Int) := by
  unfold i_jmp at h
  split at h
  · next h0 => cases h; omega
  · cases h
theorem i_cell_ok {h : iH} {i : Nat} {c : iC} (hh : i_okh h) (hc : h[i]? = some c) : i_okc h.length c := hh.2 c (List.mem_of_getElem? hc)
section IS
variable {p : Program} {l : Launch} {e : Env} {R : Room} {s : State} {m : MethodId} {args : Array Value} {below : List Frame} {meth : Method} {c : Code} {H : Heap} {locs : List Loc} {cells slots : Nat} {Q : State → Prop}
variable {cc : ByteArray} {pc : Nat} {ls : Array Slot} {rest : List Value} {D : va_G} {cl : List vw_C} {A : Nat → Prop} {a : Nat} {tys : List (ClassId × FieldType)} {ws : va_W} {H0 : Heap}
theorem i_ldcSw (hexec : p.tables.exec = Jvm.exec) (hb : c.code = cc) {own tx : String} {index q : Nat} (hown : s.vm.findClass own = some m.cls) (hZ : vk_R own index tx q s) (hdg : decode cc pc = .ok (.ldc_w index, 3))
    (k : W p l e R s m args below meth c H locs cells slots Q (F0 m (pc + 3) ls (.ref q :: rest))) : W p l e R s m args below meth c H locs cells slots Q (F0 m pc ls rest) := by
  intro T hT X
  obtain ⟨t, a1, b1⟩ := k T hT X
  exact ⟨t, X.ldcStringW hexec hown (text := tx) (a := q) hZ.1 hZ.2 (g := F0 m pc ls rest) rfl (by rw [hb]; exact hdg) t a1, b1⟩
theorem i_aldq (hexec : p.tables.exec = Jvm.exec) (hb : c.code = cc) (hK : va_K D cl tys s) (hP : va_P D cl ws H) (q0 t0 : Nat) {cA : ClassId} {ty : FieldType} (hq : i_isq ty = true) {n : Nat} {f : Nat → Option Nat} (ha : ws[q0]? = some (a, .inl (cA, n, .inr (.inr (.inr (.inr f)))))) (ht : tys[t0]? = some (cA, ty)) {i : Int32} (hin : vp_in i n) (hdg : decode cc pc = .ok (.aaload, 1))
    (kk : W p l e R s m args below meth c H locs cells slots Q (F0 m (pc + 1) ls (va_rf (f i.toNatClampNeg) :: rest))) : W p l e R s m args below meth c H locs cells slots Q (F0 m pc ls (.int i :: .ref a :: rest)) := by
  have hlt : i.toNatClampNeg < n := Nat.not_le.mp fun q => hin (Or.inr q)
  exact W.aald (v := va_rf (f i.toNatClampNeg)) (ty := ty) hexec hb (hP q0 _ ha) ((hK.2 t0 _ ht).1 n (fun j => va_rf (f j))) (by cases ty <;> first | rfl | (simp [i_isq] at hq)) (fun q => by cases q) (by show ¬ (i < 0 ∨ (arrV _ _ _).slots.size ≤ _); rw [arrV_size]; exact hin) (by show (arrV _ _ _).slots[_]? = _; rw [arrV_read _ _ hlt]) rfl rfl hdg kk
end IS
section IT
variable {p : Program} {l : Launch} {e : Env} {s : State} {m : MethodId} {args : Array Value} {below : List Frame} {meth : Method} {c : Code} {H : Heap} {locs : List Loc} {cells slots : Nat} {Q : State → Prop}
variable {D : va_G} {sa sv : Nat → Nat} {A : Nat → Prop} {ad : iA} {h h1 : iH} {loc st loc' st' : List Value} {pc pc' : Nat} {ls : Array Slot} {R : Room}
/-- what stays through a method's body -/
def i_B (p : Program) (s : State) (m : MethodId) (args : Array Value) (meth : Method) (c : Code) (D : va_G) (sa sv : Nat → Nat) (A : Nat → Prop) (M : iM) (R : Room) : Prop :=
  p.tables.exec = Jvm.exec ∧ c.code = M.2.2.1 ∧ c.maxLocals = M.2.2.2.1 ∧ meth.sig.returnType = M.2.2.2.2.1 ∧ s.vm.findClass M.1 = some m.cls ∧ (∀ w ∈ i_tb, w.before args s = true) ∧ meth.locks = false ∧ meth.name = M.2.1.name ∧ i_E D sa sv A s s.heap ∧ (∀ q, s.heap.size ≤ q → A q) ∧ 6 ≤ R.frames ∧ 300 ≤ R.locals
/-- the goal behind a step -/
def i_K (p : Program) (l : Launch) (e : Env) (R : Room) (s : State) (m : MethodId) (args : Array Value) (below : List Frame) (meth : Method) (c : Code) (cells slots : Nat) (Q : State → Prop) (D : va_G) (sa : Nat → Nat) (A : Nat → Prop) (ad : iA) (n : Nat) (pc : Nat) (loc st : List Value) (h : iH) : Prop :=
  ∀ (H : Heap) (locs : List Loc) (ls : Array Slot), i_Wd sa D A ad h s H → va_S A s.heap H locs → i_L sa ad ls loc → i_okl h.length loc → i_okl h.length st → loc.length = n → W p l e R s m args below meth c H locs cells slots Q (F0 m pc ls (st.map (i_mv sa ad)))
theorem i_s_aconst_null {M : iM} {_u : Unit} {len a b w : Nat} {z : Int} (hB : i_B p s m args meth c D sa sv A M R) (hq : i_ckb M (pc, .aconst_null, len, a, b, w, z) = true) (hs : i_s (.aconst_null, len, a, b, w, z) pc loc st h = some (pc', loc', st', h1)) (hw : i_Wd sa D A ad h s H) (hS : va_S A s.heap H locs) (hl : i_L sa ad ls loc) (hol : i_okl h.length loc) (hos : i_okl h.length st) (hlen : loc.length = M.2.2.2.1) (hcm : cells ≤ R.cells) (hsm : slots ≤ R.slots) (kk : i_K p l e R s m args below meth c cells slots Q D sa A ad loc.length pc' loc' st' h1) : W p l e R s m args below meth c H locs cells slots Q (F0 m pc ls (st.map (i_mv sa ad))) := by
  obtain ⟨hx, hb, hml, hr, hown, hts, hlk, hnm, hE, hA, hRf, hRl⟩ := hB
  obtain ⟨hd, hn⟩ := i_dec hq
  obtain rfl := hn rfl
  simp only [i_s] at hs
  cases hs
  exact lv_null hx hb hd (kk _ _ _ hw hS hl hol (i_okl.cons trivial hos) rfl)
theorem i_s_iconst {M : iM} {k : Int} {len a b w : Nat} {z : Int} (hB : i_B p s m args meth c D sa sv A M R) (hq : i_ckb M (pc, .iconst k, len, a, b, w, z) = true) (hs : i_s (.iconst k, len, a, b, w, z) pc loc st h = some (pc', loc', st', h1)) (hw : i_Wd sa D A ad h s H) (hS : va_S A s.heap H locs) (hl : i_L sa ad ls loc) (hol : i_okl h.length loc) (hos : i_okl h.length st) (hlen : loc.length = M.2.2.2.1) (hcm : cells ≤ R.cells) (hsm : slots ≤ R.slots) (kk : i_K p l e R s m args below meth c cells slots Q D sa A ad loc.length pc' loc' st' h1) : W p l e R s m args below meth c H locs cells slots Q (F0 m pc ls (st.map (i_mv sa ad))) := by
  obtain ⟨hx, hb, hml, hr, hown, hts, hlk, hnm, hE, hA, hRf, hRl⟩ := hB
  obtain ⟨hd, hn⟩ := i_dec hq
  obtain rfl := hn rfl
  simp only [i_s] at hs
  cases hs
  exact lv_iconst hx hb hd rfl (kk _ _ _ hw hS hl hol (i_okl.cons trivial hos) rfl)
theorem i_s_bipush {M : iM} {k : Int} {len a b w : Nat} {z : Int} (hB : i_B p s m args meth c D sa sv A M R) (hq : i_ckb M (pc, .bipush k, len, a, b, w, z) = true) (hs : i_s (.bipush k, len, a, b, w, z) pc loc st h = some (pc', loc', st', h1)) (hw : i_Wd sa D A ad h s H) (hS : va_S A s.heap H locs) (hl : i_L sa ad ls loc) (hol : i_okl h.length loc) (hos : i_okl h.length st) (hlen : loc.length = M.2.2.2.1) (hcm : cells ≤ R.cells) (hsm : slots ≤ R.slots) (kk : i_K p l e R s m args below meth c cells slots Q D sa A ad loc.length pc' loc' st' h1) : W p l e R s m args below meth c H locs cells slots Q (F0 m pc ls (st.map (i_mv sa ad))) := by
  obtain ⟨hx, hb, hml, hr, hown, hts, hlk, hnm, hE, hA, hRf, hRl⟩ := hB
  obtain ⟨hd, hn⟩ := i_dec hq
  obtain rfl := hn rfl
  simp only [i_s] at hs
  cases hs
  exact lv_bipush hx hb hd rfl (kk _ _ _ hw hS hl hol (i_okl.cons trivial hos) rfl)
theorem i_s_sipush {M : iM} {k : Int} {len a b w : Nat} {z : Int} (hB : i_B p s m args meth c D sa sv A M R) (hq : i_ckb M (pc, .sipush k, len, a, b, w, z) = true) (hs : i_s (.sipush k, len, a, b, w, z) pc loc st h = some (pc', loc', st', h1)) (hw : i_Wd sa D A ad h s H) (hS : va_S A s.heap H locs) (hl : i_L sa ad ls loc) (hol : i_okl h.length loc) (hos : i_okl h.length st) (hlen : loc.length = M.2.2.2.1) (hcm : cells ≤ R.cells) (hsm : slots ≤ R.slots) (kk : i_K p l e R s m args below meth c cells slots Q D sa A ad loc.length pc' loc' st' h1) : W p l e R s m args below meth c H locs cells slots Q (F0 m pc ls (st.map (i_mv sa ad))) := by
  obtain ⟨hx, hb, hml, hr, hown, hts, hlk, hnm, hE, hA, hRf, hRl⟩ := hB
  obtain ⟨hd, hn⟩ := i_dec hq
  obtain rfl := hn rfl
  simp only [i_s] at hs
  cases hs
  exact lv_sipush hx hb hd rfl (kk _ _ _ hw hS hl hol (i_okl.cons trivial hos) rfl)
theorem i_s_lconst {M : iM} {k : Fin 2} {len a b w : Nat} {z : Int} (hB : i_B p s m args meth c D sa sv A M R) (hq : i_ckb M (pc, .lconst k, len, a, b, w, z) = true) (hs : i_s (.lconst k, len, a, b, w, z) pc loc st h = some (pc', loc', st', h1)) (hw : i_Wd sa D A ad h s H) (hS : va_S A s.heap H locs) (hl : i_L sa ad ls loc) (hol : i_okl h.length loc) (hos : i_okl h.length st) (hlen : loc.length = M.2.2.2.1) (hcm : cells ≤ R.cells) (hsm : slots ≤ R.slots) (kk : i_K p l e R s m args below meth c cells slots Q D sa A ad loc.length pc' loc' st' h1) : W p l e R s m args below meth c H locs cells slots Q (F0 m pc ls (st.map (i_mv sa ad))) := by
  obtain ⟨hx, hb, hml, hr, hown, hts, hlk, hnm, hE, hA, hRf, hRl⟩ := hB
  obtain ⟨hd, hn⟩ := i_dec hq
  obtain rfl := hn rfl
  simp only [i_s] at hs
  cases hs
  exact lv_lconst hx hb hd rfl (kk _ _ _ hw hS hl hol (i_okl.cons trivial hos) rfl)
theorem i_s_ldc2_w {M : iM} {k : Nat} {len a b w : Nat} {z : Int} (hB : i_B p s m args meth c D sa sv A M R) (hq : i_ckb M (pc, .ldc2_w k, len, a, b, w, z) = true) (hs : i_s (.ldc2_w k, len, a, b, w, z) pc loc st h = some (pc', loc', st', h1)) (hw : i_Wd sa D A ad h s H) (hS : va_S A s.heap H locs) (hl : i_L sa ad ls loc) (hol : i_okl h.length loc) (hos : i_okl h.length st) (hlen : loc.length = M.2.2.2.1) (hcm : cells ≤ R.cells) (hsm : slots ≤ R.slots) (kk : i_K p l e R s m args below meth c cells slots Q D sa A ad loc.length pc' loc' st' h1) : W p l e R s m args below meth c H locs cells slots Q (F0 m pc ls (st.map (i_mv sa ad))) := by
  obtain ⟨hx, hb, hml, hr, hown, hts, hlk, hnm, hE, hA, hRf, hRl⟩ := hB
  obtain ⟨hd, hn⟩ := i_dec hq
  obtain rfl := hn rfl
  simp only [i_s] at hs
  cases hs
  have hk := i_ck2 hq rfl
  exact lv_ldc2 hx hb hown (hts _ (i_tb_in hk)) hd (kk _ _ _ hw hS hl hol (i_okl.cons trivial hos) rfl)
theorem i_s_ldc {M : iM} {k : Nat} {len a b w : Nat} {z : Int} (hB : i_B p s m args meth c D sa sv A M R) (hq : i_ckb M (pc, .ldc k, len, a, b, w, z) = true) (hs : i_s (.ldc k, len, a, b, w, z) pc loc st h = some (pc', loc', st', h1)) (hw : i_Wd sa D A ad h s H) (hS : va_S A s.heap H locs) (hl : i_L sa ad ls loc) (hol : i_okl h.length loc) (hos : i_okl h.length st) (hlen : loc.length = M.2.2.2.1) (hcm : cells ≤ R.cells) (hsm : slots ≤ R.slots) (kk : i_K p l e R s m args below meth c cells slots Q D sa A ad loc.length pc' loc' st' h1) : W p l e R s m args below meth c H locs cells slots Q (F0 m pc ls (st.map (i_mv sa ad))) := by
  obtain ⟨hx, hb, hml, hr, hown, hts, hlk, hnm, hE, hA, hRf, hRl⟩ := hB
  obtain ⟨hd, hn⟩ := i_dec hq
  obtain rfl := hn rfl
  simp only [i_s] at hs
  have hk := i_ck2 hq rfl
  dsimp only at hk
  by_cases ha : a = 1
  · rw [if_pos ha] at hs hk
    cases hs
    cases hg : i_strs[b]? with
    | none => rw [hg] at hk; cases hk
    | some g =>
      obtain ⟨o, k2, tx, sg⟩ := g
      rw [hg] at hk
      simp only [Bool.and_eq_true, decide_eq_true_eq] at hk
      obtain ⟨rfl, rfl⟩ := hk
      have hb28 : b < 28 := (List.getElem?_eq_some_iff.mp hg).1
      have hstr : i_str b = (M.1, k2, tx, sg) := by unfold i_str; rw [List.getD_eq_getElem?_getD, hg]; rfl
      have hZ := (hE.2.2.1 b hb28).1
      rw [hstr] at hZ
      have hadr : i_ad sa ad (i_SB + b) = sa b := by unfold i_ad; rw [if_neg (by omega), show i_SB + b - i_SB = b by omega]
      have h9 := kk _ _ _ hw hS hl hol (i_okl.cons (Or.inr (by omega)) hos) rfl
      rw [List.map_cons, show i_mv sa ad (.ref (i_SB + b)) = .ref (sa b) from congrArg Value.ref hadr] at h9
      exact va_ldcS hx hb hown hZ hd h9
  · rw [if_neg ha] at hs hk
    cases hs
    exact lv_ldc hx hb hown (hts _ (i_tb_in hk)) hd (kk _ _ _ hw hS hl hol (i_okl.cons trivial hos) rfl)
theorem i_s_ldc_w {M : iM} {k : Nat} {len a b w : Nat} {z : Int} (hB : i_B p s m args meth c D sa sv A M R) (hq : i_ckb M (pc, .ldc_w k, len, a, b, w, z) = true) (hs : i_s (.ldc_w k, len, a, b, w, z) pc loc st h = some (pc', loc', st', h1)) (hw : i_Wd sa D A ad h s H) (hS : va_S A s.heap H locs) (hl : i_L sa ad ls loc) (hol : i_okl h.length loc) (hos : i_okl h.length st) (hlen : loc.length = M.2.2.2.1) (hcm : cells ≤ R.cells) (hsm : slots ≤ R.slots) (kk : i_K p l e R s m args below meth c cells slots Q D sa A ad loc.length pc' loc' st' h1) : W p l e R s m args below meth c H locs cells slots Q (F0 m pc ls (st.map (i_mv sa ad))) := by
  obtain ⟨hx, hb, hml, hr, hown, hts, hlk, hnm, hE, hA, hRf, hRl⟩ := hB
  obtain ⟨hd, hn⟩ := i_dec hq
  obtain rfl := hn rfl
  simp only [i_s] at hs
  have hk := i_ck2 hq rfl
  dsimp only at hk
  by_cases ha : a = 1
  · rw [if_pos ha] at hs hk
    cases hs
    cases hg : i_strs[b]? with
    | none => rw [hg] at hk; cases hk
    | some g =>
      obtain ⟨o, k2, tx, sg⟩ := g
      rw [hg] at hk
      simp only [Bool.and_eq_true, decide_eq_true_eq] at hk
      obtain ⟨rfl, rfl⟩ := hk
      have hb28 : b < 28 := (List.getElem?_eq_some_iff.mp hg).1
      have hstr : i_str b = (M.1, k2, tx, sg) := by unfold i_str; rw [List.getD_eq_getElem?_getD, hg]; rfl
      have hZ := (hE.2.2.1 b hb28).1
      rw [hstr] at hZ
      have hadr : i_ad sa ad (i_SB + b) = sa b := by unfold i_ad; rw [if_neg (by omega), show i_SB + b - i_SB = b by omega]
      have h9 := kk _ _ _ hw hS hl hol (i_okl.cons (Or.inr (by omega)) hos) rfl
      rw [List.map_cons, show i_mv sa ad (.ref (i_SB + b)) = .ref (sa b) from congrArg Value.ref hadr] at h9
      exact i_ldcSw hx hb hown hZ hd h9
  · rw [if_neg ha] at hs hk
    cases hs
    exact lv_ldcw hx hb hown (hts _ (i_tb_in hk)) hd (kk _ _ _ hw hS hl hol (i_okl.cons trivial hos) rfl)
theorem i_s_iload {M : iM} {k : Nat} {len a b w : Nat} {z : Int} (hB : i_B p s m args meth c D sa sv A M R) (hq : i_ckb M (pc, .iload k, len, a, b, w, z) = true) (hs : i_s (.iload k, len, a, b, w, z) pc loc st h = some (pc', loc', st', h1)) (hw : i_Wd sa D A ad h s H) (hS : va_S A s.heap H locs) (hl : i_L sa ad ls loc) (hol : i_okl h.length loc) (hos : i_okl h.length st) (hlen : loc.length = M.2.2.2.1) (hcm : cells ≤ R.cells) (hsm : slots ≤ R.slots) (kk : i_K p l e R s m args below meth c cells slots Q D sa A ad loc.length pc' loc' st' h1) : W p l e R s m args below meth c H locs cells slots Q (F0 m pc ls (st.map (i_mv sa ad))) := by
  obtain ⟨hx, hb, hml, hr, hown, hts, hlk, hnm, hE, hA, hRf, hRl⟩ := hB
  obtain ⟨hd, hn⟩ := i_dec hq
  obtain rfl := hn rfl
  simp only [i_s, i_ldi] at hs
  split at hs
  · next x hx0 =>
    cases hs
    exact lv_iload hx hb hd (hl.2.2 _ _ hx0 (by simp)) (kk _ _ _ hw hS hl hol (i_okl.cons trivial hos) rfl)
  · cases hs
theorem i_s_iload_n {M : iM} {k : Fin 4} {len a b w : Nat} {z : Int} (hB : i_B p s m args meth c D sa sv A M R) (hq : i_ckb M (pc, .iload_n k, len, a, b, w, z) = true) (hs : i_s (.iload_n k, len, a, b, w, z) pc loc st h = some (pc', loc', st', h1)) (hw : i_Wd sa D A ad h s H) (hS : va_S A s.heap H locs) (hl : i_L sa ad ls loc) (hol : i_okl h.length loc) (hos : i_okl h.length st) (hlen : loc.length = M.2.2.2.1) (hcm : cells ≤ R.cells) (hsm : slots ≤ R.slots) (kk : i_K p l e R s m args below meth c cells slots Q D sa A ad loc.length pc' loc' st' h1) : W p l e R s m args below meth c H locs cells slots Q (F0 m pc ls (st.map (i_mv sa ad))) := by
  obtain ⟨hx, hb, hml, hr, hown, hts, hlk, hnm, hE, hA, hRf, hRl⟩ := hB
  obtain ⟨hd, hn⟩ := i_dec hq
  obtain rfl := hn rfl
  simp only [i_s, i_ldi] at hs
  split at hs
  · next x hx0 =>
    cases hs
    exact lv_iload_n hx hb hd rfl (hl.2.2 _ _ hx0 (by simp)) (kk _ _ _ hw hS hl hol (i_okl.cons trivial hos) rfl)
  · cases hs
theorem i_s_lload {M : iM} {k : Nat} {len a b w : Nat} {z : Int} (hB : i_B p s m args meth c D sa sv A M R) (hq : i_ckb M (pc, .lload k, len, a, b, w, z) = true) (hs : i_s (.lload k, len, a, b, w, z) pc loc st h = some (pc', loc', st', h1)) (hw : i_Wd sa D A ad h s H) (hS : va_S A s.heap H locs) (hl : i_L sa ad ls loc) (hol : i_okl h.length loc) (hos : i_okl h.length st) (hlen : loc.length = M.2.2.2.1) (hcm : cells ≤ R.cells) (hsm : slots ≤ R.slots) (kk : i_K p l e R s m args below meth c cells slots Q D sa A ad loc.length pc' loc' st' h1) : W p l e R s m args below meth c H locs cells slots Q (F0 m pc ls (st.map (i_mv sa ad))) := by
  obtain ⟨hx, hb, hml, hr, hown, hts, hlk, hnm, hE, hA, hRf, hRl⟩ := hB
  obtain ⟨hd, hn⟩ := i_dec hq
  obtain rfl := hn rfl
  simp only [i_s, i_ldl] at hs
  split at hs
  · next x hx0 =>
    cases hs
    exact lv_lload hx hb hd (hl.2.2 _ _ hx0 (by simp)) (kk _ _ _ hw hS hl hol (i_okl.cons trivial hos) rfl)
  · cases hs
theorem i_s_lload_n {M : iM} {k : Fin 4} {len a b w : Nat} {z : Int} (hB : i_B p s m args meth c D sa sv A M R) (hq : i_ckb M (pc, .lload_n k, len, a, b, w, z) = true) (hs : i_s (.lload_n k, len, a, b, w, z) pc loc st h = some (pc', loc', st', h1)) (hw : i_Wd sa D A ad h s H) (hS : va_S A s.heap H locs) (hl : i_L sa ad ls loc) (hol : i_okl h.length loc) (hos : i_okl h.length st) (hlen : loc.length = M.2.2.2.1) (hcm : cells ≤ R.cells) (hsm : slots ≤ R.slots) (kk : i_K p l e R s m args below meth c cells slots Q D sa A ad loc.length pc' loc' st' h1) : W p l e R s m args below meth c H locs cells slots Q (F0 m pc ls (st.map (i_mv sa ad))) := by
  obtain ⟨hx, hb, hml, hr, hown, hts, hlk, hnm, hE, hA, hRf, hRl⟩ := hB
  obtain ⟨hd, hn⟩ := i_dec hq
  obtain rfl := hn rfl
  simp only [i_s, i_ldl] at hs
  split at hs
  · next x hx0 =>
    cases hs
    exact lv_lload_n hx hb hd rfl (hl.2.2 _ _ hx0 (by simp)) (kk _ _ _ hw hS hl hol (i_okl.cons trivial hos) rfl)
  · cases hs
theorem i_s_aload {M : iM} {k : Nat} {len a b w : Nat} {z : Int} (hB : i_B p s m args meth c D sa sv A M R) (hq : i_ckb M (pc, .aload k, len, a, b, w, z) = true) (hs : i_s (.aload k, len, a, b, w, z) pc loc st h = some (pc', loc', st', h1)) (hw : i_Wd sa D A ad h s H) (hS : va_S A s.heap H locs) (hl : i_L sa ad ls loc) (hol : i_okl h.length loc) (hos : i_okl h.length st) (hlen : loc.length = M.2.2.2.1) (hcm : cells ≤ R.cells) (hsm : slots ≤ R.slots) (kk : i_K p l e R s m args below meth c cells slots Q D sa A ad loc.length pc' loc' st' h1) : W p l e R s m args below meth c H locs cells slots Q (F0 m pc ls (st.map (i_mv sa ad))) := by
  obtain ⟨hx, hb, hml, hr, hown, hts, hlk, hnm, hE, hA, hRf, hRl⟩ := hB
  obtain ⟨hd, hn⟩ := i_dec hq
  obtain rfl := hn rfl
  simp only [i_s, i_lda] at hs
  split at hs
  · next x hx0 =>
    cases hs
    exact lv_aload hx hb hd (hl.2.2 _ _ hx0 (by simp)) (kk _ _ _ hw hS hl hol (i_okl.cons (hol _ (List.mem_of_getElem? hx0)) hos) rfl)
  · next hx0 =>
    cases hs
    exact lv_aloadN hx hb hd (hl.2.2 _ _ hx0 (by simp)) (kk _ _ _ hw hS hl hol (i_okl.cons trivial hos) rfl)
  · cases hs
theorem i_s_aload_n {M : iM} {k : Fin 4} {len a b w : Nat} {z : Int} (hB : i_B p s m args meth c D sa sv A M R) (hq : i_ckb M (pc, .aload_n k, len, a, b, w, z) = true) (hs : i_s (.aload_n k, len, a, b, w, z) pc loc st h = some (pc', loc', st', h1)) (hw : i_Wd sa D A ad h s H) (hS : va_S A s.heap H locs) (hl : i_L sa ad ls loc) (hol : i_okl h.length loc) (hos : i_okl h.length st) (hlen : loc.length = M.2.2.2.1) (hcm : cells ≤ R.cells) (hsm : slots ≤ R.slots) (kk : i_K p l e R s m args below meth c cells slots Q D sa A ad loc.length pc' loc' st' h1) : W p l e R s m args below meth c H locs cells slots Q (F0 m pc ls (st.map (i_mv sa ad))) := by
  obtain ⟨hx, hb, hml, hr, hown, hts, hlk, hnm, hE, hA, hRf, hRl⟩ := hB
  obtain ⟨hd, hn⟩ := i_dec hq
  obtain rfl := hn rfl
  simp only [i_s, i_lda] at hs
  split at hs
  · next x hx0 =>
    cases hs
    exact lv_aload_n hx hb hd rfl (hl.2.2 _ _ hx0 (by simp)) (kk _ _ _ hw hS hl hol (i_okl.cons (hol _ (List.mem_of_getElem? hx0)) hos) rfl)
  · next hx0 =>
    cases hs
    exact lv_aload_nN hx hb hd rfl (hl.2.2 _ _ hx0 (by simp)) (kk _ _ _ hw hS hl hol (i_okl.cons trivial hos) rfl)
  · cases hs
theorem i_s_istore {M : iM} {k : Nat} {len a b w : Nat} {z : Int} (hB : i_B p s m args meth c D sa sv A M R) (hq : i_ckb M (pc, .istore k, len, a, b, w, z) = true) (hs : i_s (.istore k, len, a, b, w, z) pc loc st h = some (pc', loc', st', h1)) (hw : i_Wd sa D A ad h s H) (hS : va_S A s.heap H locs) (hl : i_L sa ad ls loc) (hol : i_okl h.length loc) (hos : i_okl h.length st) (hlen : loc.length = M.2.2.2.1) (hcm : cells ≤ R.cells) (hsm : slots ≤ R.slots) (kk : i_K p l e R s m args below meth c cells slots Q D sa A ad loc.length pc' loc' st' h1) : W p l e R s m args below meth c H locs cells slots Q (F0 m pc ls (st.map (i_mv sa ad))) := by
  obtain ⟨hx, hb, hml, hr, hown, hts, hlk, hnm, hE, hA, hRf, hRl⟩ := hB
  obtain ⟨hd, hn⟩ := i_dec hq
  obtain rfl := hn rfl
  simp only [i_s, i_sti] at hs
  split at hs
  · next x r =>
    split at hs
    · next hlt =>
      cases hs
      exact lv_istore hx hb hd hl.has hlt rfl (fun ls' h' => kk _ _ _ hw hS (i_L.of1 hlt h') (i_okl.st1 hol trivial) hos.tail (i_st1_len _ _ _))
    · cases hs
  · cases hs
theorem i_s_istore_n {M : iM} {k : Fin 4} {len a b w : Nat} {z : Int} (hB : i_B p s m args meth c D sa sv A M R) (hq : i_ckb M (pc, .istore_n k, len, a, b, w, z) = true) (hs : i_s (.istore_n k, len, a, b, w, z) pc loc st h = some (pc', loc', st', h1)) (hw : i_Wd sa D A ad h s H) (hS : va_S A s.heap H locs) (hl : i_L sa ad ls loc) (hol : i_okl h.length loc) (hos : i_okl h.length st) (hlen : loc.length = M.2.2.2.1) (hcm : cells ≤ R.cells) (hsm : slots ≤ R.slots) (kk : i_K p l e R s m args below meth c cells slots Q D sa A ad loc.length pc' loc' st' h1) : W p l e R s m args below meth c H locs cells slots Q (F0 m pc ls (st.map (i_mv sa ad))) := by
  obtain ⟨hx, hb, hml, hr, hown, hts, hlk, hnm, hE, hA, hRf, hRl⟩ := hB
  obtain ⟨hd, hn⟩ := i_dec hq
  obtain rfl := hn rfl
  simp only [i_s, i_sti] at hs
  split at hs
  · next x r =>
    split at hs
    · next hlt =>
      cases hs
      exact lv_istore_n hx hb hd rfl hl.has hlt rfl (fun ls' h' => kk _ _ _ hw hS (i_L.of1 hlt h') (i_okl.st1 hol trivial) hos.tail (i_st1_len _ _ _))
    · cases hs
  · cases hs
theorem i_s_lstore {M : iM} {k : Nat} {len a b w : Nat} {z : Int} (hB : i_B p s m args meth c D sa sv A M R) (hq : i_ckb M (pc, .lstore k, len, a, b, w, z) = true) (hs : i_s (.lstore k, len, a, b, w, z) pc loc st h = some (pc', loc', st', h1)) (hw : i_Wd sa D A ad h s H) (hS : va_S A s.heap H locs) (hl : i_L sa ad ls loc) (hol : i_okl h.length loc) (hos : i_okl h.length st) (hlen : loc.length = M.2.2.2.1) (hcm : cells ≤ R.cells) (hsm : slots ≤ R.slots) (kk : i_K p l e R s m args below meth c cells slots Q D sa A ad loc.length pc' loc' st' h1) : W p l e R s m args below meth c H locs cells slots Q (F0 m pc ls (st.map (i_mv sa ad))) := by
  obtain ⟨hx, hb, hml, hr, hown, hts, hlk, hnm, hE, hA, hRf, hRl⟩ := hB
  obtain ⟨hd, hn⟩ := i_dec hq
  obtain rfl := hn rfl
  simp only [i_s, i_stl] at hs
  split at hs
  · next x r =>
    split at hs
    · next hlt =>
      cases hs
      exact lv_lstore hx hb hd hl.has hlt rfl (fun ls' h' => kk _ _ _ hw hS (i_L.of2 hlt h') (i_okl.st2 hol trivial) hos.tail (i_st2_len _ _ _))
    · cases hs
  · cases hs
theorem i_s_lstore_n {M : iM} {k : Fin 4} {len a b w : Nat} {z : Int} (hB : i_B p s m args meth c D sa sv A M R) (hq : i_ckb M (pc, .lstore_n k, len, a, b, w, z) = true) (hs : i_s (.lstore_n k, len, a, b, w, z) pc loc st h = some (pc', loc', st', h1)) (hw : i_Wd sa D A ad h s H) (hS : va_S A s.heap H locs) (hl : i_L sa ad ls loc) (hol : i_okl h.length loc) (hos : i_okl h.length st) (hlen : loc.length = M.2.2.2.1) (hcm : cells ≤ R.cells) (hsm : slots ≤ R.slots) (kk : i_K p l e R s m args below meth c cells slots Q D sa A ad loc.length pc' loc' st' h1) : W p l e R s m args below meth c H locs cells slots Q (F0 m pc ls (st.map (i_mv sa ad))) := by
  obtain ⟨hx, hb, hml, hr, hown, hts, hlk, hnm, hE, hA, hRf, hRl⟩ := hB
  obtain ⟨hd, hn⟩ := i_dec hq
  obtain rfl := hn rfl
  simp only [i_s, i_stl] at hs
  split at hs
  · next x r =>
    split at hs
    · next hlt =>
      cases hs
      exact lv_lstore_n hx hb hd rfl hl.has hlt rfl (fun ls' h' => kk _ _ _ hw hS (i_L.of2 hlt h') (i_okl.st2 hol trivial) hos.tail (i_st2_len _ _ _))
    · cases hs
  · cases hs
theorem i_s_astore {M : iM} {k : Nat} {len a b w : Nat} {z : Int} (hB : i_B p s m args meth c D sa sv A M R) (hq : i_ckb M (pc, .astore k, len, a, b, w, z) = true) (hs : i_s (.astore k, len, a, b, w, z) pc loc st h = some (pc', loc', st', h1)) (hw : i_Wd sa D A ad h s H) (hS : va_S A s.heap H locs) (hl : i_L sa ad ls loc) (hol : i_okl h.length loc) (hos : i_okl h.length st) (hlen : loc.length = M.2.2.2.1) (hcm : cells ≤ R.cells) (hsm : slots ≤ R.slots) (kk : i_K p l e R s m args below meth c cells slots Q D sa A ad loc.length pc' loc' st' h1) : W p l e R s m args below meth c H locs cells slots Q (F0 m pc ls (st.map (i_mv sa ad))) := by
  obtain ⟨hx, hb, hml, hr, hown, hts, hlk, hnm, hE, hA, hRf, hRl⟩ := hB
  obtain ⟨hd, hn⟩ := i_dec hq
  obtain rfl := hn rfl
  simp only [i_s, i_sta] at hs
  split at hs
  · next x r =>
    split at hs
    · next hlt =>
      cases hs
      exact lv_astore hx hb hd hl.has hlt rfl (fun ls' h' => kk _ _ _ hw hS (i_L.of1 (v := .ref x) hlt h') (i_okl.st1 hol hos.head) hos.tail (i_st1_len _ _ _))
    · cases hs
  · next r =>
    split at hs
    · next hlt =>
      cases hs
      exact lv_astoreN hx hb hd hl.has hlt rfl (fun ls' h' => kk _ _ _ hw hS (i_L.of1 (v := .null) hlt h') (i_okl.st1 hol trivial) hos.tail (i_st1_len _ _ _))
    · cases hs
  · cases hs
theorem i_s_astore_n {M : iM} {k : Fin 4} {len a b w : Nat} {z : Int} (hB : i_B p s m args meth c D sa sv A M R) (hq : i_ckb M (pc, .astore_n k, len, a, b, w, z) = true) (hs : i_s (.astore_n k, len, a, b, w, z) pc loc st h = some (pc', loc', st', h1)) (hw : i_Wd sa D A ad h s H) (hS : va_S A s.heap H locs) (hl : i_L sa ad ls loc) (hol : i_okl h.length loc) (hos : i_okl h.length st) (hlen : loc.length = M.2.2.2.1) (hcm : cells ≤ R.cells) (hsm : slots ≤ R.slots) (kk : i_K p l e R s m args below meth c cells slots Q D sa A ad loc.length pc' loc' st' h1) : W p l e R s m args below meth c H locs cells slots Q (F0 m pc ls (st.map (i_mv sa ad))) := by
  obtain ⟨hx, hb, hml, hr, hown, hts, hlk, hnm, hE, hA, hRf, hRl⟩ := hB
  obtain ⟨hd, hn⟩ := i_dec hq
  obtain rfl := hn rfl
  simp only [i_s, i_sta] at hs
  split at hs
  · next x r =>
    split at hs
    · next hlt =>
      cases hs
      exact lv_astore_n hx hb hd rfl hl.has hlt rfl (fun ls' h' => kk _ _ _ hw hS (i_L.of1 (v := .ref x) hlt h') (i_okl.st1 hol hos.head) hos.tail (i_st1_len _ _ _))
    · cases hs
  · next r =>
    split at hs
    · next hlt =>
      cases hs
      exact lv_astore_nN hx hb hd rfl hl.has hlt rfl (fun ls' h' => kk _ _ _ hw hS (i_L.of1 (v := .null) hlt h') (i_okl.st1 hol trivial) hos.tail (i_st1_len _ _ _))
    · cases hs
  · cases hs
theorem i_s_iinc {M : iM} {k : Nat} {n : Int} {len a b w : Nat} {z : Int} (hB : i_B p s m args meth c D sa sv A M R) (hq : i_ckb M (pc, .iinc k n, len, a, b, w, z) = true) (hs : i_s (.iinc k n, len, a, b, w, z) pc loc st h = some (pc', loc', st', h1)) (hw : i_Wd sa D A ad h s H) (hS : va_S A s.heap H locs) (hl : i_L sa ad ls loc) (hol : i_okl h.length loc) (hos : i_okl h.length st) (hlen : loc.length = M.2.2.2.1) (hcm : cells ≤ R.cells) (hsm : slots ≤ R.slots) (kk : i_K p l e R s m args below meth c cells slots Q D sa A ad loc.length pc' loc' st' h1) : W p l e R s m args below meth c H locs cells slots Q (F0 m pc ls (st.map (i_mv sa ad))) := by
  obtain ⟨hx, hb, hml, hr, hown, hts, hlk, hnm, hE, hA, hRf, hRl⟩ := hB
  obtain ⟨hd, hn⟩ := i_dec hq
  obtain rfl := hn rfl
  simp only [i_s] at hs
  split at hs
  · next x hx0 =>
    cases hs
    have hlt : k < loc.length := (List.getElem?_eq_some_iff.mp hx0).1
    obtain ⟨j, hj⟩ := List.getElem?_of_mem (i_asc_mem (sa := sa) (ad := ad) (q := (k, .int x)).mpr ⟨.int x, hx0, by simp, rfl⟩)
    exact lv_iinc hx hb hd hl.has hj rfl hlt rfl (fun ls' h' => kk _ _ _ hw hS (i_L.of1 (v := .int (x + Int32.ofInt n)) hlt h') (i_okl.st1 hol trivial) hos (i_st1_len _ _ _))
  · cases hs
theorem i_s_iadd {M : iM} {_u : Unit} {len a b w : Nat} {z : Int} (hB : i_B p s m args meth c D sa sv A M R) (hq : i_ckb M (pc, .iadd, len, a, b, w, z) = true) (hs : i_s (.iadd, len, a, b, w, z) pc loc st h = some (pc', loc', st', h1)) (hw : i_Wd sa D A ad h s H) (hS : va_S A s.heap H locs) (hl : i_L sa ad ls loc) (hol : i_okl h.length loc) (hos : i_okl h.length st) (hlen : loc.length = M.2.2.2.1) (hcm : cells ≤ R.cells) (hsm : slots ≤ R.slots) (kk : i_K p l e R s m args below meth c cells slots Q D sa A ad loc.length pc' loc' st' h1) : W p l e R s m args below meth c H locs cells slots Q (F0 m pc ls (st.map (i_mv sa ad))) := by
  obtain ⟨hx, hb, hml, hr, hown, hts, hlk, hnm, hE, hA, hRf, hRl⟩ := hB
  obtain ⟨hd, hn⟩ := i_dec hq
  obtain rfl := hn rfl
  simp only [i_s] at hs
  unfold i_op2 at hs
  split at hs
  · cases hs
    exact lv_iadd hx hb hd (kk _ _ _ hw hS hl hol (i_okl.cons trivial hos.tail.tail) rfl)
  · cases hs
theorem i_s_isub {M : iM} {_u : Unit} {len a b w : Nat} {z : Int} (hB : i_B p s m args meth c D sa sv A M R) (hq : i_ckb M (pc, .isub, len, a, b, w, z) = true) (hs : i_s (.isub, len, a, b, w, z) pc loc st h = some (pc', loc', st', h1)) (hw : i_Wd sa D A ad h s H) (hS : va_S A s.heap H locs) (hl : i_L sa ad ls loc) (hol : i_okl h.length loc) (hos : i_okl h.length st) (hlen : loc.length = M.2.2.2.1) (hcm : cells ≤ R.cells) (hsm : slots ≤ R.slots) (kk : i_K p l e R s m args below meth c cells slots Q D sa A ad loc.length pc' loc' st' h1) : W p l e R s m args below meth c H locs cells slots Q (F0 m pc ls (st.map (i_mv sa ad))) := by
  obtain ⟨hx, hb, hml, hr, hown, hts, hlk, hnm, hE, hA, hRf, hRl⟩ := hB
  obtain ⟨hd, hn⟩ := i_dec hq
  obtain rfl := hn rfl
  simp only [i_s] at hs
  unfold i_op2 at hs
  split at hs
  · cases hs
    exact lv_isub hx hb hd (kk _ _ _ hw hS hl hol (i_okl.cons trivial hos.tail.tail) rfl)
  · cases hs
theorem i_s_imul {M : iM} {_u : Unit} {len a b w : Nat} {z : Int} (hB : i_B p s m args meth c D sa sv A M R) (hq : i_ckb M (pc, .imul, len, a, b, w, z) = true) (hs : i_s (.imul, len, a, b, w, z) pc loc st h = some (pc', loc', st', h1)) (hw : i_Wd sa D A ad h s H) (hS : va_S A s.heap H locs) (hl : i_L sa ad ls loc) (hol : i_okl h.length loc) (hos : i_okl h.length st) (hlen : loc.length = M.2.2.2.1) (hcm : cells ≤ R.cells) (hsm : slots ≤ R.slots) (kk : i_K p l e R s m args below meth c cells slots Q D sa A ad loc.length pc' loc' st' h1) : W p l e R s m args below meth c H locs cells slots Q (F0 m pc ls (st.map (i_mv sa ad))) := by
  obtain ⟨hx, hb, hml, hr, hown, hts, hlk, hnm, hE, hA, hRf, hRl⟩ := hB
  obtain ⟨hd, hn⟩ := i_dec hq
  obtain rfl := hn rfl
  simp only [i_s] at hs
  unfold i_op2 at hs
  split at hs
  · cases hs
    exact lv_imul hx hb hd (kk _ _ _ hw hS hl hol (i_okl.cons trivial hos.tail.tail) rfl)
  · cases hs
theorem i_s_iand {M : iM} {_u : Unit} {len a b w : Nat} {z : Int} (hB : i_B p s m args meth c D sa sv A M R) (hq : i_ckb M (pc, .iand, len, a, b, w, z) = true) (hs : i_s (.iand, len, a, b, w, z) pc loc st h = some (pc', loc', st', h1)) (hw : i_Wd sa D A ad h s H) (hS : va_S A s.heap H locs) (hl : i_L sa ad ls loc) (hol : i_okl h.length loc) (hos : i_okl h.length st) (hlen : loc.length = M.2.2.2.1) (hcm : cells ≤ R.cells) (hsm : slots ≤ R.slots) (kk : i_K p l e R s m args below meth c cells slots Q D sa A ad loc.length pc' loc' st' h1) : W p l e R s m args below meth c H locs cells slots Q (F0 m pc ls (st.map (i_mv sa ad))) := by
  obtain ⟨hx, hb, hml, hr, hown, hts, hlk, hnm, hE, hA, hRf, hRl⟩ := hB
  obtain ⟨hd, hn⟩ := i_dec hq
  obtain rfl := hn rfl
  simp only [i_s] at hs
  unfold i_op2 at hs
  split at hs
  · cases hs
    exact lv_iand hx hb hd (kk _ _ _ hw hS hl hol (i_okl.cons trivial hos.tail.tail) rfl)
  · cases hs
theorem i_s_ior {M : iM} {_u : Unit} {len a b w : Nat} {z : Int} (hB : i_B p s m args meth c D sa sv A M R) (hq : i_ckb M (pc, .ior, len, a, b, w, z) = true) (hs : i_s (.ior, len, a, b, w, z) pc loc st h = some (pc', loc', st', h1)) (hw : i_Wd sa D A ad h s H) (hS : va_S A s.heap H locs) (hl : i_L sa ad ls loc) (hol : i_okl h.length loc) (hos : i_okl h.length st) (hlen : loc.length = M.2.2.2.1) (hcm : cells ≤ R.cells) (hsm : slots ≤ R.slots) (kk : i_K p l e R s m args below meth c cells slots Q D sa A ad loc.length pc' loc' st' h1) : W p l e R s m args below meth c H locs cells slots Q (F0 m pc ls (st.map (i_mv sa ad))) := by
  obtain ⟨hx, hb, hml, hr, hown, hts, hlk, hnm, hE, hA, hRf, hRl⟩ := hB
  obtain ⟨hd, hn⟩ := i_dec hq
  obtain rfl := hn rfl
  simp only [i_s] at hs
  unfold i_op2 at hs
  split at hs
  · cases hs
    exact lv_ior hx hb hd (kk _ _ _ hw hS hl hol (i_okl.cons trivial hos.tail.tail) rfl)
  · cases hs
theorem i_s_ixor {M : iM} {_u : Unit} {len a b w : Nat} {z : Int} (hB : i_B p s m args meth c D sa sv A M R) (hq : i_ckb M (pc, .ixor, len, a, b, w, z) = true) (hs : i_s (.ixor, len, a, b, w, z) pc loc st h = some (pc', loc', st', h1)) (hw : i_Wd sa D A ad h s H) (hS : va_S A s.heap H locs) (hl : i_L sa ad ls loc) (hol : i_okl h.length loc) (hos : i_okl h.length st) (hlen : loc.length = M.2.2.2.1) (hcm : cells ≤ R.cells) (hsm : slots ≤ R.slots) (kk : i_K p l e R s m args below meth c cells slots Q D sa A ad loc.length pc' loc' st' h1) : W p l e R s m args below meth c H locs cells slots Q (F0 m pc ls (st.map (i_mv sa ad))) := by
  obtain ⟨hx, hb, hml, hr, hown, hts, hlk, hnm, hE, hA, hRf, hRl⟩ := hB
  obtain ⟨hd, hn⟩ := i_dec hq
  obtain rfl := hn rfl
  simp only [i_s] at hs
  unfold i_op2 at hs
  split at hs
  · cases hs
    exact lv_ixor hx hb hd (kk _ _ _ hw hS hl hol (i_okl.cons trivial hos.tail.tail) rfl)
  · cases hs
theorem i_s_ishl {M : iM} {_u : Unit} {len a b w : Nat} {z : Int} (hB : i_B p s m args meth c D sa sv A M R) (hq : i_ckb M (pc, .ishl, len, a, b, w, z) = true) (hs : i_s (.ishl, len, a, b, w, z) pc loc st h = some (pc', loc', st', h1)) (hw : i_Wd sa D A ad h s H) (hS : va_S A s.heap H locs) (hl : i_L sa ad ls loc) (hol : i_okl h.length loc) (hos : i_okl h.length st) (hlen : loc.length = M.2.2.2.1) (hcm : cells ≤ R.cells) (hsm : slots ≤ R.slots) (kk : i_K p l e R s m args below meth c cells slots Q D sa A ad loc.length pc' loc' st' h1) : W p l e R s m args below meth c H locs cells slots Q (F0 m pc ls (st.map (i_mv sa ad))) := by
  obtain ⟨hx, hb, hml, hr, hown, hts, hlk, hnm, hE, hA, hRf, hRl⟩ := hB
  obtain ⟨hd, hn⟩ := i_dec hq
  obtain rfl := hn rfl
  simp only [i_s] at hs
  unfold i_op2 at hs
  split at hs
  · cases hs
    exact lv_ishl hx hb hd (kk _ _ _ hw hS hl hol (i_okl.cons trivial hos.tail.tail) rfl)
  · cases hs
theorem i_s_ishr {M : iM} {_u : Unit} {len a b w : Nat} {z : Int} (hB : i_B p s m args meth c D sa sv A M R) (hq : i_ckb M (pc, .ishr, len, a, b, w, z) = true) (hs : i_s (.ishr, len, a, b, w, z) pc loc st h = some (pc', loc', st', h1)) (hw : i_Wd sa D A ad h s H) (hS : va_S A s.heap H locs) (hl : i_L sa ad ls loc) (hol : i_okl h.length loc) (hos : i_okl h.length st) (hlen : loc.length = M.2.2.2.1) (hcm : cells ≤ R.cells) (hsm : slots ≤ R.slots) (kk : i_K p l e R s m args below meth c cells slots Q D sa A ad loc.length pc' loc' st' h1) : W p l e R s m args below meth c H locs cells slots Q (F0 m pc ls (st.map (i_mv sa ad))) := by
  obtain ⟨hx, hb, hml, hr, hown, hts, hlk, hnm, hE, hA, hRf, hRl⟩ := hB
  obtain ⟨hd, hn⟩ := i_dec hq
  obtain rfl := hn rfl
  simp only [i_s] at hs
  unfold i_op2 at hs
  split at hs
  · cases hs
    exact lv_ishr hx hb hd (kk _ _ _ hw hS hl hol (i_okl.cons trivial hos.tail.tail) rfl)
  · cases hs
theorem i_s_iushr {M : iM} {_u : Unit} {len a b w : Nat} {z : Int} (hB : i_B p s m args meth c D sa sv A M R) (hq : i_ckb M (pc, .iushr, len, a, b, w, z) = true) (hs : i_s (.iushr, len, a, b, w, z) pc loc st h = some (pc', loc', st', h1)) (hw : i_Wd sa D A ad h s H) (hS : va_S A s.heap H locs) (hl : i_L sa ad ls loc) (hol : i_okl h.length loc) (hos : i_okl h.length st) (hlen : loc.length = M.2.2.2.1) (hcm : cells ≤ R.cells) (hsm : slots ≤ R.slots) (kk : i_K p l e R s m args below meth c cells slots Q D sa A ad loc.length pc' loc' st' h1) : W p l e R s m args below meth c H locs cells slots Q (F0 m pc ls (st.map (i_mv sa ad))) := by
  obtain ⟨hx, hb, hml, hr, hown, hts, hlk, hnm, hE, hA, hRf, hRl⟩ := hB
  obtain ⟨hd, hn⟩ := i_dec hq
  obtain rfl := hn rfl
  simp only [i_s] at hs
  unfold i_op2 at hs
  split at hs
  · cases hs
    exact lv_iushr hx hb hd rfl (kk _ _ _ hw hS hl hol (i_okl.cons trivial hos.tail.tail) rfl)
  · cases hs
theorem i_s_ladd {M : iM} {_u : Unit} {len a b w : Nat} {z : Int} (hB : i_B p s m args meth c D sa sv A M R) (hq : i_ckb M (pc, .ladd, len, a, b, w, z) = true) (hs : i_s (.ladd, len, a, b, w, z) pc loc st h = some (pc', loc', st', h1)) (hw : i_Wd sa D A ad h s H) (hS : va_S A s.heap H locs) (hl : i_L sa ad ls loc) (hol : i_okl h.length loc) (hos : i_okl h.length st) (hlen : loc.length = M.2.2.2.1) (hcm : cells ≤ R.cells) (hsm : slots ≤ R.slots) (kk : i_K p l e R s m args below meth c cells slots Q D sa A ad loc.length pc' loc' st' h1) : W p l e R s m args below meth c H locs cells slots Q (F0 m pc ls (st.map (i_mv sa ad))) := by
  obtain ⟨hx, hb, hml, hr, hown, hts, hlk, hnm, hE, hA, hRf, hRl⟩ := hB
  obtain ⟨hd, hn⟩ := i_dec hq
  obtain rfl := hn rfl
  simp only [i_s] at hs
  unfold i_opl at hs
  split at hs
  · cases hs
    exact lv_ladd hx hb hd (kk _ _ _ hw hS hl hol (i_okl.cons trivial hos.tail.tail) rfl)
  · cases hs
theorem i_s_lsub {M : iM} {_u : Unit} {len a b w : Nat} {z : Int} (hB : i_B p s m args meth c D sa sv A M R) (hq : i_ckb M (pc, .lsub, len, a, b, w, z) = true) (hs : i_s (.lsub, len, a, b, w, z) pc loc st h = some (pc', loc', st', h1)) (hw : i_Wd sa D A ad h s H) (hS : va_S A s.heap H locs) (hl : i_L sa ad ls loc) (hol : i_okl h.length loc) (hos : i_okl h.length st) (hlen : loc.length = M.2.2.2.1) (hcm : cells ≤ R.cells) (hsm : slots ≤ R.slots) (kk : i_K p l e R s m args below meth c cells slots Q D sa A ad loc.length pc' loc' st' h1) : W p l e R s m args below meth c H locs cells slots Q (F0 m pc ls (st.map (i_mv sa ad))) := by
  obtain ⟨hx, hb, hml, hr, hown, hts, hlk, hnm, hE, hA, hRf, hRl⟩ := hB
  obtain ⟨hd, hn⟩ := i_dec hq
  obtain rfl := hn rfl
  simp only [i_s] at hs
  unfold i_opl at hs
  split at hs
  · cases hs
    exact lv_lsub hx hb hd (kk _ _ _ hw hS hl hol (i_okl.cons trivial hos.tail.tail) rfl)
  · cases hs
theorem i_s_lmul {M : iM} {_u : Unit} {len a b w : Nat} {z : Int} (hB : i_B p s m args meth c D sa sv A M R) (hq : i_ckb M (pc, .lmul, len, a, b, w, z) = true) (hs : i_s (.lmul, len, a, b, w, z) pc loc st h = some (pc', loc', st', h1)) (hw : i_Wd sa D A ad h s H) (hS : va_S A s.heap H locs) (hl : i_L sa ad ls loc) (hol : i_okl h.length loc) (hos : i_okl h.length st) (hlen : loc.length = M.2.2.2.1) (hcm : cells ≤ R.cells) (hsm : slots ≤ R.slots) (kk : i_K p l e R s m args below meth c cells slots Q D sa A ad loc.length pc' loc' st' h1) : W p l e R s m args below meth c H locs cells slots Q (F0 m pc ls (st.map (i_mv sa ad))) := by
  obtain ⟨hx, hb, hml, hr, hown, hts, hlk, hnm, hE, hA, hRf, hRl⟩ := hB
  obtain ⟨hd, hn⟩ := i_dec hq
  obtain rfl := hn rfl
  simp only [i_s] at hs
  unfold i_opl at hs
  split at hs
  · cases hs
    exact lv_lmul hx hb hd (kk _ _ _ hw hS hl hol (i_okl.cons trivial hos.tail.tail) rfl)
  · cases hs
theorem i_s_land {M : iM} {_u : Unit} {len a b w : Nat} {z : Int} (hB : i_B p s m args meth c D sa sv A M R) (hq : i_ckb M (pc, .land, len, a, b, w, z) = true) (hs : i_s (.land, len, a, b, w, z) pc loc st h = some (pc', loc', st', h1)) (hw : i_Wd sa D A ad h s H) (hS : va_S A s.heap H locs) (hl : i_L sa ad ls loc) (hol : i_okl h.length loc) (hos : i_okl h.length st) (hlen : loc.length = M.2.2.2.1) (hcm : cells ≤ R.cells) (hsm : slots ≤ R.slots) (kk : i_K p l e R s m args below meth c cells slots Q D sa A ad loc.length pc' loc' st' h1) : W p l e R s m args below meth c H locs cells slots Q (F0 m pc ls (st.map (i_mv sa ad))) := by
  obtain ⟨hx, hb, hml, hr, hown, hts, hlk, hnm, hE, hA, hRf, hRl⟩ := hB
  obtain ⟨hd, hn⟩ := i_dec hq
  obtain rfl := hn rfl
  simp only [i_s] at hs
  unfold i_opl at hs
  split at hs
  · cases hs
    exact lv_land hx hb hd (kk _ _ _ hw hS hl hol (i_okl.cons trivial hos.tail.tail) rfl)
  · cases hs
theorem i_s_lor {M : iM} {_u : Unit} {len a b w : Nat} {z : Int} (hB : i_B p s m args meth c D sa sv A M R) (hq : i_ckb M (pc, .lor, len, a, b, w, z) = true) (hs : i_s (.lor, len, a, b, w, z) pc loc st h = some (pc', loc', st', h1)) (hw : i_Wd sa D A ad h s H) (hS : va_S A s.heap H locs) (hl : i_L sa ad ls loc) (hol : i_okl h.length loc) (hos : i_okl h.length st) (hlen : loc.length = M.2.2.2.1) (hcm : cells ≤ R.cells) (hsm : slots ≤ R.slots) (kk : i_K p l e R s m args below meth c cells slots Q D sa A ad loc.length pc' loc' st' h1) : W p l e R s m args below meth c H locs cells slots Q (F0 m pc ls (st.map (i_mv sa ad))) := by
  obtain ⟨hx, hb, hml, hr, hown, hts, hlk, hnm, hE, hA, hRf, hRl⟩ := hB
  obtain ⟨hd, hn⟩ := i_dec hq
  obtain rfl := hn rfl
  simp only [i_s] at hs
  unfold i_opl at hs
  split at hs
  · cases hs
    exact lv_lor hx hb hd (kk _ _ _ hw hS hl hol (i_okl.cons trivial hos.tail.tail) rfl)
  · cases hs
theorem i_s_idiv {M : iM} {_u : Unit} {len a b w : Nat} {z : Int} (hB : i_B p s m args meth c D sa sv A M R) (hq : i_ckb M (pc, .idiv, len, a, b, w, z) = true) (hs : i_s (.idiv, len, a, b, w, z) pc loc st h = some (pc', loc', st', h1)) (hw : i_Wd sa D A ad h s H) (hS : va_S A s.heap H locs) (hl : i_L sa ad ls loc) (hol : i_okl h.length loc) (hos : i_okl h.length st) (hlen : loc.length = M.2.2.2.1) (hcm : cells ≤ R.cells) (hsm : slots ≤ R.slots) (kk : i_K p l e R s m args below meth c cells slots Q D sa A ad loc.length pc' loc' st' h1) : W p l e R s m args below meth c H locs cells slots Q (F0 m pc ls (st.map (i_mv sa ad))) := by
  obtain ⟨hx, hb, hml, hr, hown, hts, hlk, hnm, hE, hA, hRf, hRl⟩ := hB
  obtain ⟨hd, hn⟩ := i_dec hq
  obtain rfl := hn rfl
  simp only [i_s, i_op2z] at hs
  split at hs
  · split at hs
    · cases hs
    · next hz =>
      cases hs
      exact lv_idiv hx hb hd hz (kk _ _ _ hw hS hl hol (i_okl.cons trivial hos.tail.tail) rfl)
  · cases hs
theorem i_s_irem {M : iM} {_u : Unit} {len a b w : Nat} {z : Int} (hB : i_B p s m args meth c D sa sv A M R) (hq : i_ckb M (pc, .irem, len, a, b, w, z) = true) (hs : i_s (.irem, len, a, b, w, z) pc loc st h = some (pc', loc', st', h1)) (hw : i_Wd sa D A ad h s H) (hS : va_S A s.heap H locs) (hl : i_L sa ad ls loc) (hol : i_okl h.length loc) (hos : i_okl h.length st) (hlen : loc.length = M.2.2.2.1) (hcm : cells ≤ R.cells) (hsm : slots ≤ R.slots) (kk : i_K p l e R s m args below meth c cells slots Q D sa A ad loc.length pc' loc' st' h1) : W p l e R s m args below meth c H locs cells slots Q (F0 m pc ls (st.map (i_mv sa ad))) := by
  obtain ⟨hx, hb, hml, hr, hown, hts, hlk, hnm, hE, hA, hRf, hRl⟩ := hB
  obtain ⟨hd, hn⟩ := i_dec hq
  obtain rfl := hn rfl
  simp only [i_s, i_op2z] at hs
  split at hs
  · split at hs
    · cases hs
    · next hz =>
      cases hs
      exact lv_irem hx hb hd hz (kk _ _ _ hw hS hl hol (i_okl.cons trivial hos.tail.tail) rfl)
  · cases hs
theorem i_s_ldiv {M : iM} {_u : Unit} {len a b w : Nat} {z : Int} (hB : i_B p s m args meth c D sa sv A M R) (hq : i_ckb M (pc, .ldiv, len, a, b, w, z) = true) (hs : i_s (.ldiv, len, a, b, w, z) pc loc st h = some (pc', loc', st', h1)) (hw : i_Wd sa D A ad h s H) (hS : va_S A s.heap H locs) (hl : i_L sa ad ls loc) (hol : i_okl h.length loc) (hos : i_okl h.length st) (hlen : loc.length = M.2.2.2.1) (hcm : cells ≤ R.cells) (hsm : slots ≤ R.slots) (kk : i_K p l e R s m args below meth c cells slots Q D sa A ad loc.length pc' loc' st' h1) : W p l e R s m args below meth c H locs cells slots Q (F0 m pc ls (st.map (i_mv sa ad))) := by
  obtain ⟨hx, hb, hml, hr, hown, hts, hlk, hnm, hE, hA, hRf, hRl⟩ := hB
  obtain ⟨hd, hn⟩ := i_dec hq
  obtain rfl := hn rfl
  simp only [i_s, i_oplz] at hs
  split at hs
  · split at hs
    · cases hs
    · next hz =>
      cases hs
      exact lv_ldiv hx hb hd hz (kk _ _ _ hw hS hl hol (i_okl.cons trivial hos.tail.tail) rfl)
  · cases hs
theorem i_s_lrem {M : iM} {_u : Unit} {len a b w : Nat} {z : Int} (hB : i_B p s m args meth c D sa sv A M R) (hq : i_ckb M (pc, .lrem, len, a, b, w, z) = true) (hs : i_s (.lrem, len, a, b, w, z) pc loc st h = some (pc', loc', st', h1)) (hw : i_Wd sa D A ad h s H) (hS : va_S A s.heap H locs) (hl : i_L sa ad ls loc) (hol : i_okl h.length loc) (hos : i_okl h.length st) (hlen : loc.length = M.2.2.2.1) (hcm : cells ≤ R.cells) (hsm : slots ≤ R.slots) (kk : i_K p l e R s m args below meth c cells slots Q D sa A ad loc.length pc' loc' st' h1) : W p l e R s m args below meth c H locs cells slots Q (F0 m pc ls (st.map (i_mv sa ad))) := by
  obtain ⟨hx, hb, hml, hr, hown, hts, hlk, hnm, hE, hA, hRf, hRl⟩ := hB
  obtain ⟨hd, hn⟩ := i_dec hq
  obtain rfl := hn rfl
  simp only [i_s, i_oplz] at hs
  split at hs
  · split at hs
    · cases hs
    · next hz =>
      cases hs
      exact lv_lrem hx hb hd hz (kk _ _ _ hw hS hl hol (i_okl.cons trivial hos.tail.tail) rfl)
  · cases hs
theorem i_s_lcmp {M : iM} {_u : Unit} {len a b w : Nat} {z : Int} (hB : i_B p s m args meth c D sa sv A M R) (hq : i_ckb M (pc, .lcmp, len, a, b, w, z) = true) (hs : i_s (.lcmp, len, a, b, w, z) pc loc st h = some (pc', loc', st', h1)) (hw : i_Wd sa D A ad h s H) (hS : va_S A s.heap H locs) (hl : i_L sa ad ls loc) (hol : i_okl h.length loc) (hos : i_okl h.length st) (hlen : loc.length = M.2.2.2.1) (hcm : cells ≤ R.cells) (hsm : slots ≤ R.slots) (kk : i_K p l e R s m args below meth c cells slots Q D sa A ad loc.length pc' loc' st' h1) : W p l e R s m args below meth c H locs cells slots Q (F0 m pc ls (st.map (i_mv sa ad))) := by
  obtain ⟨hx, hb, hml, hr, hown, hts, hlk, hnm, hE, hA, hRf, hRl⟩ := hB
  obtain ⟨hd, hn⟩ := i_dec hq
  obtain rfl := hn rfl
  simp only [i_s] at hs
  split at hs
  · cases hs
    exact W.lcmp hx hb hd (kk _ _ _ hw hS hl hol (i_okl.cons trivial hos.tail.tail) rfl)
  · cases hs
theorem i_s_i2l {M : iM} {_u : Unit} {len a b w : Nat} {z : Int} (hB : i_B p s m args meth c D sa sv A M R) (hq : i_ckb M (pc, .i2l, len, a, b, w, z) = true) (hs : i_s (.i2l, len, a, b, w, z) pc loc st h = some (pc', loc', st', h1)) (hw : i_Wd sa D A ad h s H) (hS : va_S A s.heap H locs) (hl : i_L sa ad ls loc) (hol : i_okl h.length loc) (hos : i_okl h.length st) (hlen : loc.length = M.2.2.2.1) (hcm : cells ≤ R.cells) (hsm : slots ≤ R.slots) (kk : i_K p l e R s m args below meth c cells slots Q D sa A ad loc.length pc' loc' st' h1) : W p l e R s m args below meth c H locs cells slots Q (F0 m pc ls (st.map (i_mv sa ad))) := by
  obtain ⟨hx, hb, hml, hr, hown, hts, hlk, hnm, hE, hA, hRf, hRl⟩ := hB
  obtain ⟨hd, hn⟩ := i_dec hq
  obtain rfl := hn rfl
  simp only [i_s] at hs
  split at hs
  · cases hs
    exact lv_i2l hx hb hd rfl (kk _ _ _ hw hS hl hol (i_okl.cons trivial hos.tail) rfl)
  · cases hs
theorem i_s_l2i {M : iM} {_u : Unit} {len a b w : Nat} {z : Int} (hB : i_B p s m args meth c D sa sv A M R) (hq : i_ckb M (pc, .l2i, len, a, b, w, z) = true) (hs : i_s (.l2i, len, a, b, w, z) pc loc st h = some (pc', loc', st', h1)) (hw : i_Wd sa D A ad h s H) (hS : va_S A s.heap H locs) (hl : i_L sa ad ls loc) (hol : i_okl h.length loc) (hos : i_okl h.length st) (hlen : loc.length = M.2.2.2.1) (hcm : cells ≤ R.cells) (hsm : slots ≤ R.slots) (kk : i_K p l e R s m args below meth c cells slots Q D sa A ad loc.length pc' loc' st' h1) : W p l e R s m args below meth c H locs cells slots Q (F0 m pc ls (st.map (i_mv sa ad))) := by
  obtain ⟨hx, hb, hml, hr, hown, hts, hlk, hnm, hE, hA, hRf, hRl⟩ := hB
  obtain ⟨hd, hn⟩ := i_dec hq
  obtain rfl := hn rfl
  simp only [i_s] at hs
  split at hs
  · cases hs
    exact lv_l2i hx hb hd rfl (kk _ _ _ hw hS hl hol (i_okl.cons trivial hos.tail) rfl)
  · cases hs
theorem i_s_i2b {M : iM} {_u : Unit} {len a b w : Nat} {z : Int} (hB : i_B p s m args meth c D sa sv A M R) (hq : i_ckb M (pc, .i2b, len, a, b, w, z) = true) (hs : i_s (.i2b, len, a, b, w, z) pc loc st h = some (pc', loc', st', h1)) (hw : i_Wd sa D A ad h s H) (hS : va_S A s.heap H locs) (hl : i_L sa ad ls loc) (hol : i_okl h.length loc) (hos : i_okl h.length st) (hlen : loc.length = M.2.2.2.1) (hcm : cells ≤ R.cells) (hsm : slots ≤ R.slots) (kk : i_K p l e R s m args below meth c cells slots Q D sa A ad loc.length pc' loc' st' h1) : W p l e R s m args below meth c H locs cells slots Q (F0 m pc ls (st.map (i_mv sa ad))) := by
  obtain ⟨hx, hb, hml, hr, hown, hts, hlk, hnm, hE, hA, hRf, hRl⟩ := hB
  obtain ⟨hd, hn⟩ := i_dec hq
  obtain rfl := hn rfl
  simp only [i_s] at hs
  split at hs
  · cases hs
    exact lv_i2b hx hb hd rfl (kk _ _ _ hw hS hl hol (i_okl.cons trivial hos.tail) rfl)
  · cases hs
theorem i_s_dup {M : iM} {_u : Unit} {len a b w : Nat} {z : Int} (hB : i_B p s m args meth c D sa sv A M R) (hq : i_ckb M (pc, .dup, len, a, b, w, z) = true) (hs : i_s (.dup, len, a, b, w, z) pc loc st h = some (pc', loc', st', h1)) (hw : i_Wd sa D A ad h s H) (hS : va_S A s.heap H locs) (hl : i_L sa ad ls loc) (hol : i_okl h.length loc) (hos : i_okl h.length st) (hlen : loc.length = M.2.2.2.1) (hcm : cells ≤ R.cells) (hsm : slots ≤ R.slots) (kk : i_K p l e R s m args below meth c cells slots Q D sa A ad loc.length pc' loc' st' h1) : W p l e R s m args below meth c H locs cells slots Q (F0 m pc ls (st.map (i_mv sa ad))) := by
  obtain ⟨hx, hb, hml, hr, hown, hts, hlk, hnm, hE, hA, hRf, hRl⟩ := hB
  obtain ⟨hd, hn⟩ := i_dec hq
  obtain rfl := hn rfl
  simp only [i_s, i_dup] at hs
  split at hs
  · cases hs
    exact lv_dup hx hb hd rfl (kk _ _ _ hw hS hl hol (i_okl.cons hos.head hos) rfl)
  · cases hs
    exact lv_dup hx hb hd rfl (kk _ _ _ hw hS hl hol (i_okl.cons hos.head hos) rfl)
  · cases hs
    exact lv_dup hx hb hd rfl (kk _ _ _ hw hS hl hol (i_okl.cons hos.head hos) rfl)
  · cases hs
theorem i_s_dup2 {M : iM} {_u : Unit} {len a b w : Nat} {z : Int} (hB : i_B p s m args meth c D sa sv A M R) (hq : i_ckb M (pc, .dup2, len, a, b, w, z) = true) (hs : i_s (.dup2, len, a, b, w, z) pc loc st h = some (pc', loc', st', h1)) (hw : i_Wd sa D A ad h s H) (hS : va_S A s.heap H locs) (hl : i_L sa ad ls loc) (hol : i_okl h.length loc) (hos : i_okl h.length st) (hlen : loc.length = M.2.2.2.1) (hcm : cells ≤ R.cells) (hsm : slots ≤ R.slots) (kk : i_K p l e R s m args below meth c cells slots Q D sa A ad loc.length pc' loc' st' h1) : W p l e R s m args below meth c H locs cells slots Q (F0 m pc ls (st.map (i_mv sa ad))) := by
  obtain ⟨hx, hb, hml, hr, hown, hts, hlk, hnm, hE, hA, hRf, hRl⟩ := hB
  obtain ⟨hd, hn⟩ := i_dec hq
  obtain rfl := hn rfl
  simp only [i_s, i_dup2] at hs
  split at hs
  · cases hs
    exact lv_dup2_11 hx hb hd rfl rfl (kk _ _ _ hw hS hl hol (i_okl.cons trivial (i_okl.cons hos.tail.head hos)) rfl)
  · cases hs
theorem i_s_pop {M : iM} {_u : Unit} {len a b w : Nat} {z : Int} (hB : i_B p s m args meth c D sa sv A M R) (hq : i_ckb M (pc, .pop, len, a, b, w, z) = true) (hs : i_s (.pop, len, a, b, w, z) pc loc st h = some (pc', loc', st', h1)) (hw : i_Wd sa D A ad h s H) (hS : va_S A s.heap H locs) (hl : i_L sa ad ls loc) (hol : i_okl h.length loc) (hos : i_okl h.length st) (hlen : loc.length = M.2.2.2.1) (hcm : cells ≤ R.cells) (hsm : slots ≤ R.slots) (kk : i_K p l e R s m args below meth c cells slots Q D sa A ad loc.length pc' loc' st' h1) : W p l e R s m args below meth c H locs cells slots Q (F0 m pc ls (st.map (i_mv sa ad))) := by
  obtain ⟨hx, hb, hml, hr, hown, hts, hlk, hnm, hE, hA, hRf, hRl⟩ := hB
  obtain ⟨hd, hn⟩ := i_dec hq
  obtain rfl := hn rfl
  simp only [i_s, i_pop] at hs
  split at hs
  · cases hs
    exact lv_pop hx hb hd rfl (kk _ _ _ hw hS hl hol hos.tail rfl)
  · cases hs
    exact lv_pop hx hb hd rfl (kk _ _ _ hw hS hl hol hos.tail rfl)
  · cases hs
    exact lv_pop hx hb hd rfl (kk _ _ _ hw hS hl hol hos.tail rfl)
  · cases hs
theorem i_s_goto {M : iM} {o : Int} {len a b w : Nat} {z : Int} (hB : i_B p s m args meth c D sa sv A M R) (hq : i_ckb M (pc, .goto o, len, a, b, w, z) = true) (hs : i_s (.goto o, len, a, b, w, z) pc loc st h = some (pc', loc', st', h1)) (hw : i_Wd sa D A ad h s H) (hS : va_S A s.heap H locs) (hl : i_L sa ad ls loc) (hol : i_okl h.length loc) (hos : i_okl h.length st) (hlen : loc.length = M.2.2.2.1) (hcm : cells ≤ R.cells) (hsm : slots ≤ R.slots) (kk : i_K p l e R s m args below meth c cells slots Q D sa A ad loc.length pc' loc' st' h1) : W p l e R s m args below meth c H locs cells slots Q (F0 m pc ls (st.map (i_mv sa ad))) := by
  obtain ⟨hx, hb, hml, hr, hown, hts, hlk, hnm, hE, hA, hRf, hRl⟩ := hB
  obtain ⟨hd, hn⟩ := i_dec hq
  obtain rfl := hn rfl
  simp only [i_s] at hs
  cases hs
  have hk := i_ck2 hq rfl
  exact lv_goto hx hb hd (of_decide_eq_true hk) (kk _ _ _ hw hS hl hol hos rfl)
theorem i_s_if_eq {M : iM} {o : Int} {len a b w : Nat} {z : Int} (hB : i_B p s m args meth c D sa sv A M R) (hq : i_ckb M (pc, .ifCond .eq o, len, a, b, w, z) = true) (hs : i_s (.ifCond .eq o, len, a, b, w, z) pc loc st h = some (pc', loc', st', h1)) (hw : i_Wd sa D A ad h s H) (hS : va_S A s.heap H locs) (hl : i_L sa ad ls loc) (hol : i_okl h.length loc) (hos : i_okl h.length st) (hlen : loc.length = M.2.2.2.1) (hcm : cells ≤ R.cells) (hsm : slots ≤ R.slots) (kk : i_K p l e R s m args below meth c cells slots Q D sa A ad loc.length pc' loc' st' h1) : W p l e R s m args below meth c H locs cells slots Q (F0 m pc ls (st.map (i_mv sa ad))) := by
  obtain ⟨hx, hb, hml, hr, hown, hts, hlk, hnm, hE, hA, hRf, hRl⟩ := hB
  obtain ⟨hd, hn⟩ := i_dec hq
  obtain rfl := hn rfl
  simp only [i_s, i_ifc] at hs
  have hk := i_ck2 hq rfl
  split at hs
  · refine lv_if_eq hx hb hd (of_decide_eq_true hk) (fun hc => ?_) (fun hc => ?_)
    · rw [if_pos hc] at hs
      cases hs
      exact kk _ _ _ hw hS hl hol hos.tail rfl
    · rw [if_neg hc] at hs
      cases hs
      exact kk _ _ _ hw hS hl hol hos.tail rfl
  · cases hs
theorem i_s_icmp_eq {M : iM} {o : Int} {len a b w : Nat} {z : Int} (hB : i_B p s m args meth c D sa sv A M R) (hq : i_ckb M (pc, .if_icmp .eq o, len, a, b, w, z) = true) (hs : i_s (.if_icmp .eq o, len, a, b, w, z) pc loc st h = some (pc', loc', st', h1)) (hw : i_Wd sa D A ad h s H) (hS : va_S A s.heap H locs) (hl : i_L sa ad ls loc) (hol : i_okl h.length loc) (hos : i_okl h.length st) (hlen : loc.length = M.2.2.2.1) (hcm : cells ≤ R.cells) (hsm : slots ≤ R.slots) (kk : i_K p l e R s m args below meth c cells slots Q D sa A ad loc.length pc' loc' st' h1) : W p l e R s m args below meth c H locs cells slots Q (F0 m pc ls (st.map (i_mv sa ad))) := by
  obtain ⟨hx, hb, hml, hr, hown, hts, hlk, hnm, hE, hA, hRf, hRl⟩ := hB
  obtain ⟨hd, hn⟩ := i_dec hq
  obtain rfl := hn rfl
  simp only [i_s, i_icm] at hs
  have hk := i_ck2 hq rfl
  split at hs
  · refine lv_icmp_eq hx hb hd (of_decide_eq_true hk) (fun hc => ?_) (fun hc => ?_)
    · rw [if_pos hc] at hs
      cases hs
      exact kk _ _ _ hw hS hl hol hos.tail.tail rfl
    · rw [if_neg hc] at hs
      cases hs
      exact kk _ _ _ hw hS hl hol hos.tail.tail rfl
  · cases hs
theorem i_s_if_ne {M : iM} {o : Int} {len a b w : Nat} {z : Int} (hB : i_B p s m args meth c D sa sv A M R) (hq : i_ckb M (pc, .ifCond .ne o, len, a, b, w, z) = true) (hs : i_s (.ifCond .ne o, len, a, b, w, z) pc loc st h = some (pc', loc', st', h1)) (hw : i_Wd sa D A ad h s H) (hS : va_S A s.heap H locs) (hl : i_L sa ad ls loc) (hol : i_okl h.length loc) (hos : i_okl h.length st) (hlen : loc.length = M.2.2.2.1) (hcm : cells ≤ R.cells) (hsm : slots ≤ R.slots) (kk : i_K p l e R s m args below meth c cells slots Q D sa A ad loc.length pc' loc' st' h1) : W p l e R s m args below meth c H locs cells slots Q (F0 m pc ls (st.map (i_mv sa ad))) := by
  obtain ⟨hx, hb, hml, hr, hown, hts, hlk, hnm, hE, hA, hRf, hRl⟩ := hB
  obtain ⟨hd, hn⟩ := i_dec hq
  obtain rfl := hn rfl
  simp only [i_s, i_ifc] at hs
  have hk := i_ck2 hq rfl
  split at hs
  · refine lv_if_ne hx hb hd (of_decide_eq_true hk) (fun hc => ?_) (fun hc => ?_)
    · rw [if_pos hc] at hs
      cases hs
      exact kk _ _ _ hw hS hl hol hos.tail rfl
    · rw [if_neg (fun q => q hc)] at hs
      cases hs
      exact kk _ _ _ hw hS hl hol hos.tail rfl
  · cases hs
theorem i_s_icmp_ne {M : iM} {o : Int} {len a b w : Nat} {z : Int} (hB : i_B p s m args meth c D sa sv A M R) (hq : i_ckb M (pc, .if_icmp .ne o, len, a, b, w, z) = true) (hs : i_s (.if_icmp .ne o, len, a, b, w, z) pc loc st h = some (pc', loc', st', h1)) (hw : i_Wd sa D A ad h s H) (hS : va_S A s.heap H locs) (hl : i_L sa ad ls loc) (hol : i_okl h.length loc) (hos : i_okl h.length st) (hlen : loc.length = M.2.2.2.1) (hcm : cells ≤ R.cells) (hsm : slots ≤ R.slots) (kk : i_K p l e R s m args below meth c cells slots Q D sa A ad loc.length pc' loc' st' h1) : W p l e R s m args below meth c H locs cells slots Q (F0 m pc ls (st.map (i_mv sa ad))) := by
  obtain ⟨hx, hb, hml, hr, hown, hts, hlk, hnm, hE, hA, hRf, hRl⟩ := hB
  obtain ⟨hd, hn⟩ := i_dec hq
  obtain rfl := hn rfl
  simp only [i_s, i_icm] at hs
  have hk := i_ck2 hq rfl
  split at hs
  · refine lv_icmp_ne hx hb hd (of_decide_eq_true hk) (fun hc => ?_) (fun hc => ?_)
    · rw [if_pos hc] at hs
      cases hs
      exact kk _ _ _ hw hS hl hol hos.tail.tail rfl
    · rw [if_neg (fun q => q hc)] at hs
      cases hs
      exact kk _ _ _ hw hS hl hol hos.tail.tail rfl
  · cases hs
theorem i_s_if_lt {M : iM} {o : Int} {len a b w : Nat} {z : Int} (hB : i_B p s m args meth c D sa sv A M R) (hq : i_ckb M (pc, .ifCond .lt o, len, a, b, w, z) = true) (hs : i_s (.ifCond .lt o, len, a, b, w, z) pc loc st h = some (pc', loc', st', h1)) (hw : i_Wd sa D A ad h s H) (hS : va_S A s.heap H locs) (hl : i_L sa ad ls loc) (hol : i_okl h.length loc) (hos : i_okl h.length st) (hlen : loc.length = M.2.2.2.1) (hcm : cells ≤ R.cells) (hsm : slots ≤ R.slots) (kk : i_K p l e R s m args below meth c cells slots Q D sa A ad loc.length pc' loc' st' h1) : W p l e R s m args below meth c H locs cells slots Q (F0 m pc ls (st.map (i_mv sa ad))) := by
  obtain ⟨hx, hb, hml, hr, hown, hts, hlk, hnm, hE, hA, hRf, hRl⟩ := hB
  obtain ⟨hd, hn⟩ := i_dec hq
  obtain rfl := hn rfl
  simp only [i_s, i_ifc] at hs
  have hk := i_ck2 hq rfl
  split at hs
  · refine lv_if_lt hx hb hd (of_decide_eq_true hk) (fun hc => ?_) (fun hc => ?_)
    · rw [if_pos hc] at hs
      cases hs
      exact kk _ _ _ hw hS hl hol hos.tail rfl
    · rw [if_neg hc] at hs
      cases hs
      exact kk _ _ _ hw hS hl hol hos.tail rfl
  · cases hs
theorem i_s_icmp_lt {M : iM} {o : Int} {len a b w : Nat} {z : Int} (hB : i_B p s m args meth c D sa sv A M R) (hq : i_ckb M (pc, .if_icmp .lt o, len, a, b, w, z) = true) (hs : i_s (.if_icmp .lt o, len, a, b, w, z) pc loc st h = some (pc', loc', st', h1)) (hw : i_Wd sa D A ad h s H) (hS : va_S A s.heap H locs) (hl : i_L sa ad ls loc) (hol : i_okl h.length loc) (hos : i_okl h.length st) (hlen : loc.length = M.2.2.2.1) (hcm : cells ≤ R.cells) (hsm : slots ≤ R.slots) (kk : i_K p l e R s m args below meth c cells slots Q D sa A ad loc.length pc' loc' st' h1) : W p l e R s m args below meth c H locs cells slots Q (F0 m pc ls (st.map (i_mv sa ad))) := by
  obtain ⟨hx, hb, hml, hr, hown, hts, hlk, hnm, hE, hA, hRf, hRl⟩ := hB
  obtain ⟨hd, hn⟩ := i_dec hq
  obtain rfl := hn rfl
  simp only [i_s, i_icm] at hs
  have hk := i_ck2 hq rfl
  split at hs
  · refine lv_icmp_lt hx hb hd (of_decide_eq_true hk) (fun hc => ?_) (fun hc => ?_)
    · rw [if_pos hc] at hs
      cases hs
      exact kk _ _ _ hw hS hl hol hos.tail.tail rfl
    · rw [if_neg hc] at hs
      cases hs
      exact kk _ _ _ hw hS hl hol hos.tail.tail rfl
  · cases hs
theorem i_s_if_ge {M : iM} {o : Int} {len a b w : Nat} {z : Int} (hB : i_B p s m args meth c D sa sv A M R) (hq : i_ckb M (pc, .ifCond .ge o, len, a, b, w, z) = true) (hs : i_s (.ifCond .ge o, len, a, b, w, z) pc loc st h = some (pc', loc', st', h1)) (hw : i_Wd sa D A ad h s H) (hS : va_S A s.heap H locs) (hl : i_L sa ad ls loc) (hol : i_okl h.length loc) (hos : i_okl h.length st) (hlen : loc.length = M.2.2.2.1) (hcm : cells ≤ R.cells) (hsm : slots ≤ R.slots) (kk : i_K p l e R s m args below meth c cells slots Q D sa A ad loc.length pc' loc' st' h1) : W p l e R s m args below meth c H locs cells slots Q (F0 m pc ls (st.map (i_mv sa ad))) := by
  obtain ⟨hx, hb, hml, hr, hown, hts, hlk, hnm, hE, hA, hRf, hRl⟩ := hB
  obtain ⟨hd, hn⟩ := i_dec hq
  obtain rfl := hn rfl
  simp only [i_s, i_ifc] at hs
  have hk := i_ck2 hq rfl
  split at hs
  · refine lv_if_ge hx hb hd (of_decide_eq_true hk) (fun hc => ?_) (fun hc => ?_)
    · rw [if_pos hc] at hs
      cases hs
      exact kk _ _ _ hw hS hl hol hos.tail rfl
    · rw [if_neg hc] at hs
      cases hs
      exact kk _ _ _ hw hS hl hol hos.tail rfl
  · cases hs
theorem i_s_icmp_ge {M : iM} {o : Int} {len a b w : Nat} {z : Int} (hB : i_B p s m args meth c D sa sv A M R) (hq : i_ckb M (pc, .if_icmp .ge o, len, a, b, w, z) = true) (hs : i_s (.if_icmp .ge o, len, a, b, w, z) pc loc st h = some (pc', loc', st', h1)) (hw : i_Wd sa D A ad h s H) (hS : va_S A s.heap H locs) (hl : i_L sa ad ls loc) (hol : i_okl h.length loc) (hos : i_okl h.length st) (hlen : loc.length = M.2.2.2.1) (hcm : cells ≤ R.cells) (hsm : slots ≤ R.slots) (kk : i_K p l e R s m args below meth c cells slots Q D sa A ad loc.length pc' loc' st' h1) : W p l e R s m args below meth c H locs cells slots Q (F0 m pc ls (st.map (i_mv sa ad))) := by
  obtain ⟨hx, hb, hml, hr, hown, hts, hlk, hnm, hE, hA, hRf, hRl⟩ := hB
  obtain ⟨hd, hn⟩ := i_dec hq
  obtain rfl := hn rfl
  simp only [i_s, i_icm] at hs
  have hk := i_ck2 hq rfl
  split at hs
  · refine lv_icmp_ge hx hb hd (of_decide_eq_true hk) (fun hc => ?_) (fun hc => ?_)
    · rw [if_pos hc] at hs
      cases hs
      exact kk _ _ _ hw hS hl hol hos.tail.tail rfl
    · rw [if_neg hc] at hs
      cases hs
      exact kk _ _ _ hw hS hl hol hos.tail.tail rfl
  · cases hs
theorem i_s_if_gt {M : iM} {o : Int} {len a b w : Nat} {z : Int} (hB : i_B p s m args meth c D sa sv A M R) (hq : i_ckb M (pc, .ifCond .gt o, len, a, b, w, z) = true) (hs : i_s (.ifCond .gt o, len, a, b, w, z) pc loc st h = some (pc', loc', st', h1)) (hw : i_Wd sa D A ad h s H) (hS : va_S A s.heap H locs) (hl : i_L sa ad ls loc) (hol : i_okl h.length loc) (hos : i_okl h.length st) (hlen : loc.length = M.2.2.2.1) (hcm : cells ≤ R.cells) (hsm : slots ≤ R.slots) (kk : i_K p l e R s m args below meth c cells slots Q D sa A ad loc.length pc' loc' st' h1) : W p l e R s m args below meth c H locs cells slots Q (F0 m pc ls (st.map (i_mv sa ad))) := by
  obtain ⟨hx, hb, hml, hr, hown, hts, hlk, hnm, hE, hA, hRf, hRl⟩ := hB
  obtain ⟨hd, hn⟩ := i_dec hq
  obtain rfl := hn rfl
  simp only [i_s, i_ifc] at hs
  have hk := i_ck2 hq rfl
  split at hs
  · refine lv_if_gt hx hb hd (of_decide_eq_true hk) (fun hc => ?_) (fun hc => ?_)
    · rw [if_pos hc] at hs
      cases hs
      exact kk _ _ _ hw hS hl hol hos.tail rfl
    · rw [if_neg hc] at hs
      cases hs
      exact kk _ _ _ hw hS hl hol hos.tail rfl
  · cases hs
theorem i_s_icmp_gt {M : iM} {o : Int} {len a b w : Nat} {z : Int} (hB : i_B p s m args meth c D sa sv A M R) (hq : i_ckb M (pc, .if_icmp .gt o, len, a, b, w, z) = true) (hs : i_s (.if_icmp .gt o, len, a, b, w, z) pc loc st h = some (pc', loc', st', h1)) (hw : i_Wd sa D A ad h s H) (hS : va_S A s.heap H locs) (hl : i_L sa ad ls loc) (hol : i_okl h.length loc) (hos : i_okl h.length st) (hlen : loc.length = M.2.2.2.1) (hcm : cells ≤ R.cells) (hsm : slots ≤ R.slots) (kk : i_K p l e R s m args below meth c cells slots Q D sa A ad loc.length pc' loc' st' h1) : W p l e R s m args below meth c H locs cells slots Q (F0 m pc ls (st.map (i_mv sa ad))) := by
  obtain ⟨hx, hb, hml, hr, hown, hts, hlk, hnm, hE, hA, hRf, hRl⟩ := hB
  obtain ⟨hd, hn⟩ := i_dec hq
  obtain rfl := hn rfl
  simp only [i_s, i_icm] at hs
  have hk := i_ck2 hq rfl
  split at hs
  · refine lv_icmp_gt hx hb hd (of_decide_eq_true hk) (fun hc => ?_) (fun hc => ?_)
    · rw [if_pos hc] at hs
      cases hs
      exact kk _ _ _ hw hS hl hol hos.tail.tail rfl
    · rw [if_neg hc] at hs
      cases hs
      exact kk _ _ _ hw hS hl hol hos.tail.tail rfl
  · cases hs
theorem i_s_if_le {M : iM} {o : Int} {len a b w : Nat} {z : Int} (hB : i_B p s m args meth c D sa sv A M R) (hq : i_ckb M (pc, .ifCond .le o, len, a, b, w, z) = true) (hs : i_s (.ifCond .le o, len, a, b, w, z) pc loc st h = some (pc', loc', st', h1)) (hw : i_Wd sa D A ad h s H) (hS : va_S A s.heap H locs) (hl : i_L sa ad ls loc) (hol : i_okl h.length loc) (hos : i_okl h.length st) (hlen : loc.length = M.2.2.2.1) (hcm : cells ≤ R.cells) (hsm : slots ≤ R.slots) (kk : i_K p l e R s m args below meth c cells slots Q D sa A ad loc.length pc' loc' st' h1) : W p l e R s m args below meth c H locs cells slots Q (F0 m pc ls (st.map (i_mv sa ad))) := by
  obtain ⟨hx, hb, hml, hr, hown, hts, hlk, hnm, hE, hA, hRf, hRl⟩ := hB
  obtain ⟨hd, hn⟩ := i_dec hq
  obtain rfl := hn rfl
  simp only [i_s, i_ifc] at hs
  have hk := i_ck2 hq rfl
  split at hs
  · refine lv_if_le hx hb hd (of_decide_eq_true hk) (fun hc => ?_) (fun hc => ?_)
    · rw [if_pos hc] at hs
      cases hs
      exact kk _ _ _ hw hS hl hol hos.tail rfl
    · rw [if_neg hc] at hs
      cases hs
      exact kk _ _ _ hw hS hl hol hos.tail rfl
  · cases hs
theorem i_s_icmp_le {M : iM} {o : Int} {len a b w : Nat} {z : Int} (hB : i_B p s m args meth c D sa sv A M R) (hq : i_ckb M (pc, .if_icmp .le o, len, a, b, w, z) = true) (hs : i_s (.if_icmp .le o, len, a, b, w, z) pc loc st h = some (pc', loc', st', h1)) (hw : i_Wd sa D A ad h s H) (hS : va_S A s.heap H locs) (hl : i_L sa ad ls loc) (hol : i_okl h.length loc) (hos : i_okl h.length st) (hlen : loc.length = M.2.2.2.1) (hcm : cells ≤ R.cells) (hsm : slots ≤ R.slots) (kk : i_K p l e R s m args below meth c cells slots Q D sa A ad loc.length pc' loc' st' h1) : W p l e R s m args below meth c H locs cells slots Q (F0 m pc ls (st.map (i_mv sa ad))) := by
  obtain ⟨hx, hb, hml, hr, hown, hts, hlk, hnm, hE, hA, hRf, hRl⟩ := hB
  obtain ⟨hd, hn⟩ := i_dec hq
  obtain rfl := hn rfl
  simp only [i_s, i_icm] at hs
  have hk := i_ck2 hq rfl
  split at hs
  · refine lv_icmp_le hx hb hd (of_decide_eq_true hk) (fun hc => ?_) (fun hc => ?_)
    · rw [if_pos hc] at hs
      cases hs
      exact kk _ _ _ hw hS hl hol hos.tail.tail rfl
    · rw [if_neg hc] at hs
      cases hs
      exact kk _ _ _ hw hS hl hol hos.tail.tail rfl
  · cases hs
theorem i_s_ifnonnull {M : iM} {o : Int} {len a b w : Nat} {z : Int} (hB : i_B p s m args meth c D sa sv A M R) (hq : i_ckb M (pc, .ifnonnull o, len, a, b, w, z) = true) (hs : i_s (.ifnonnull o, len, a, b, w, z) pc loc st h = some (pc', loc', st', h1)) (hw : i_Wd sa D A ad h s H) (hS : va_S A s.heap H locs) (hl : i_L sa ad ls loc) (hol : i_okl h.length loc) (hos : i_okl h.length st) (hlen : loc.length = M.2.2.2.1) (hcm : cells ≤ R.cells) (hsm : slots ≤ R.slots) (kk : i_K p l e R s m args below meth c cells slots Q D sa A ad loc.length pc' loc' st' h1) : W p l e R s m args below meth c H locs cells slots Q (F0 m pc ls (st.map (i_mv sa ad))) := by
  obtain ⟨hx, hb, hml, hr, hown, hts, hlk, hnm, hE, hA, hRf, hRl⟩ := hB
  obtain ⟨hd, hn⟩ := i_dec hq
  obtain rfl := hn rfl
  simp only [i_s] at hs
  have hk := i_ck2 hq rfl
  split at hs
  · cases hs
    exact lv_ifnonnull hx hb hd (of_decide_eq_true hk) (kk _ _ _ hw hS hl hol hos.tail rfl)
  · cases hs
    exact lv_ifnonnullN hx hb hd (kk _ _ _ hw hS hl hol hos.tail rfl)
  · cases hs
theorem i_s_tableswitch {M : iM} {d lo hi : Int} {offs : Array Int} {len a b w : Nat} {z : Int} (hB : i_B p s m args meth c D sa sv A M R) (hq : i_ckb M (pc, .tableswitch d lo hi offs, len, a, b, w, z) = true) (hs : i_s (.tableswitch d lo hi offs, len, a, b, w, z) pc loc st h = some (pc', loc', st', h1)) (hw : i_Wd sa D A ad h s H) (hS : va_S A s.heap H locs) (hl : i_L sa ad ls loc) (hol : i_okl h.length loc) (hos : i_okl h.length st) (hlen : loc.length = M.2.2.2.1) (hcm : cells ≤ R.cells) (hsm : slots ≤ R.slots) (kk : i_K p l e R s m args below meth c cells slots Q D sa A ad loc.length pc' loc' st' h1) : W p l e R s m args below meth c H locs cells slots Q (F0 m pc ls (st.map (i_mv sa ad))) := by
  obtain ⟨hx, hb, hml, hr, hown, hts, hlk, hnm, hE, hA, hRf, hRl⟩ := hB
  obtain ⟨hd, hn⟩ := i_dec hq
  simp only [i_s] at hs
  split at hs
  · split at hs
    · next hc =>
      obtain ⟨t, ht, he⟩ := Option.map_eq_some_iff.mp hs
      cases he
      exact lv_tableOut hx hb hd hc (i_jmp_ok ht) (kk _ _ _ hw hS hl hol hos.tail rfl)
    · next hc =>
      split at hs
      · next off ho =>
        obtain ⟨t, ht, he⟩ := Option.map_eq_some_iff.mp hs
        cases he
        exact lv_tableIn hx hb hd (fun q => hc (Or.inl q)) (fun q => hc (Or.inr q)) ho (i_jmp_ok ht) (kk _ _ _ hw hS hl hol hos.tail rfl)
      · cases hs
  · cases hs
theorem i_s_lookupswitch {M : iM} {d : Int} {ps : Array (Int × Int)} {len a b w : Nat} {z : Int} (hB : i_B p s m args meth c D sa sv A M R) (hq : i_ckb M (pc, .lookupswitch d ps, len, a, b, w, z) = true) (hs : i_s (.lookupswitch d ps, len, a, b, w, z) pc loc st h = some (pc', loc', st', h1)) (hw : i_Wd sa D A ad h s H) (hS : va_S A s.heap H locs) (hl : i_L sa ad ls loc) (hol : i_okl h.length loc) (hos : i_okl h.length st) (hlen : loc.length = M.2.2.2.1) (hcm : cells ≤ R.cells) (hsm : slots ≤ R.slots) (kk : i_K p l e R s m args below meth c cells slots Q D sa A ad loc.length pc' loc' st' h1) : W p l e R s m args below meth c H locs cells slots Q (F0 m pc ls (st.map (i_mv sa ad))) := by
  obtain ⟨hx, hb, hml, hr, hown, hts, hlk, hnm, hE, hA, hRf, hRl⟩ := hB
  obtain ⟨hd, hn⟩ := i_dec hq
  simp only [i_s] at hs
  split at hs
  · split at hs
    · next hc =>
      obtain ⟨t, ht, he⟩ := Option.map_eq_some_iff.mp hs
      cases he
      exact lv_lookup hx hb hd hc rfl (i_jmp_ok ht) (kk _ _ _ hw hS hl hol hos.tail rfl)
    · cases hs
  · cases hs
theorem i_s_getfield {M : iM} {k : Nat} {len a b w : Nat} {z : Int} (hB : i_B p s m args meth c D sa sv A M R) (hq : i_ckb M (pc, .getfield k, len, a, b, w, z) = true) (hs : i_s (.getfield k, len, a, b, w, z) pc loc st h = some (pc', loc', st', h1)) (hw : i_Wd sa D A ad h s H) (hS : va_S A s.heap H locs) (hl : i_L sa ad ls loc) (hol : i_okl h.length loc) (hos : i_okl h.length st) (hlen : loc.length = M.2.2.2.1) (hcm : cells ≤ R.cells) (hsm : slots ≤ R.slots) (kk : i_K p l e R s m args below meth c cells slots Q D sa A ad loc.length pc' loc' st' h1) : W p l e R s m args below meth c H locs cells slots Q (F0 m pc ls (st.map (i_mv sa ad))) := by
  obtain ⟨hx, hb, hml, hr, hown, hts, hlk, hnm, hE, hA, hRf, hRl⟩ := hB
  obtain ⟨hd, hn⟩ := i_dec hq
  obtain rfl := hn rfl
  simp only [i_s, i_getf] at hs
  split at hs
  · next i r =>
    split at hs
    · next q hh =>
      split at hs
      · next hqa =>
        split at hs
        · next v hv =>
          cases hs
          have hk := i_ck2 hq rfl
          cases hg : vwCl[a]? with
          | none => rw [hg] at hk; cases hk
          | some g =>
            obtain ⟨C, T, N⟩ := g
            rw [hg] at hk
            simp only [Bool.and_eq_true, decide_eq_true_eq] at hk
            obtain ⟨ci, fs⟩ := q
            dsimp only at hqa hv
            subst hqa
            have he := i_w_at (sa := sa) hw.1 hw.2.1.1 hh
            refine va_get (D := D) (ci := ci) (v := i_mv sa ad v) (C := C) (T := T) (N := N) hx hb hts (i_cls hg).1 hown hE.1 hw.2.2.1 i he hg b hk.1 (hts _ (i_tb_in hk.2)) (fun _ h9 => h9) (by rw [List.getElem?_map, hv]; rfl) hd (kk _ _ _ hw hS hl hol (i_okl.cons (i_cell_ok hw.2.1 hh v (List.mem_of_getElem? hv)) hos.tail) rfl)
        · cases hs
      · cases hs
    · cases hs
  · cases hs
theorem i_s_putfield {M : iM} {k : Nat} {len a b w : Nat} {z : Int} (hB : i_B p s m args meth c D sa sv A M R) (hq : i_ckb M (pc, .putfield k, len, a, b, w, z) = true) (hs : i_s (.putfield k, len, a, b, w, z) pc loc st h = some (pc', loc', st', h1)) (hw : i_Wd sa D A ad h s H) (hS : va_S A s.heap H locs) (hl : i_L sa ad ls loc) (hol : i_okl h.length loc) (hos : i_okl h.length st) (hlen : loc.length = M.2.2.2.1) (hcm : cells ≤ R.cells) (hsm : slots ≤ R.slots) (kk : i_K p l e R s m args below meth c cells slots Q D sa A ad loc.length pc' loc' st' h1) : W p l e R s m args below meth c H locs cells slots Q (F0 m pc ls (st.map (i_mv sa ad))) := by
  obtain ⟨hx, hb, hml, hr, hown, hts, hlk, hnm, hE, hA, hRf, hRl⟩ := hB
  obtain ⟨hd, hn⟩ := i_dec hq
  obtain rfl := hn rfl
  simp only [i_s, i_putf] at hs
  split at hs
  · next v i r =>
    split at hs
    · next q hh =>
      split at hs
      · next hc =>
        cases hs
        have hk := i_ck2 hq rfl
        cases hg : vwCl[a]? with
        | none => rw [hg] at hk; cases hk
        | some g =>
          obtain ⟨C, T, N⟩ := g
          rw [hg] at hk
          simp only [Bool.and_eq_true, decide_eq_true_eq, Bool.or_eq_true, Bool.not_eq_true'] at hk
          obtain ⟨ci, fs⟩ := q
          dsimp only at hc
          obtain ⟨hqa, hok, hbl⟩ := hc
          subst hqa
          have he := i_w_at (sa := sa) hw.1 hw.2.1.1 hh
          have hi : i < h.length := (List.getElem?_eq_some_iff.mp hh).1
          obtain ⟨hn1, hn2⟩ := i_okf_ok (sa := sa) (ad := ad) hok
          have hset : (i_w sa ad h).set i (i_ad sa ad i, .inr (ci, (fs.map (i_mv sa ad)).set b (i_mv sa ad v))) = i_w sa ad (h.set i (.inr (ci, fs.set b v))) := by
            rw [← i_w_set hw.1 hw.2.1.1 hi]
            show _ = (i_w sa ad h).set i (i_ad sa ad i, .inr (ci, (fs.set b v).map (i_mv sa ad)))
            rw [List.map_set]
          have hokc : i_okc h.length (.inr (ci, fs.set b v)) := fun x hx9 => by
            rcases List.mem_or_eq_of_mem_set hx9 with h9 | rfl
            · exact i_cell_ok hw.2.1 hh x h9
            · exact hos.head
          have kk2 : ∀ (H1 : Heap) (locs1 : List Loc), va_P D vwCl ((i_w sa ad h).set i (i_ad sa ad i, .inr (ci, (fs.map (i_mv sa ad)).set b (i_mv sa ad v)))) H1 → va_D A ((i_w sa ad h).set i (i_ad sa ad i, .inr (ci, (fs.map (i_mv sa ad)).set b (i_mv sa ad v)))) → va_S A s.heap H1 locs1 → W p l e R s m args below meth c H1 locs1 cells slots Q (F0 m (pc + 3) ls (st'.map (i_mv sa ad))) := by
            intro H1 locs1 g1 g2 g3
            rw [hset] at g1 g2
            exact kk _ _ _ ⟨by rw [List.length_set]; exact hw.1, hw.2.1.set hokc, g1, g2, hw.2.2.2.2.set (fun ty x hx9 => by cases hx9)⟩ g3 hl (by rw [List.length_set]; exact hol) (by rw [List.length_set]; exact hos.tail.tail) rfl
          by_cases hf : (T b).2.2.2 = false
          · exact va_put (D := D) (ci := ci) (C := C) (T := T) (N := N) hx hb hts (i_cls hg).1 (i_ty ci) (i_cls hg).2.1 (i_cls hg).2.2.1 hown hE.1 hw.2.2.1 hw.2.2.2.1 hS i he hg b hk.1.1 (hts _ (i_tb_in hk.1.2)) (fun _ h9 => h9) hf ((i_cls hg).2.1 b hk.1.1) hn1 hn2 (by rw [List.length_map]; exact hbl) hd kk2
          · have hf2 := hk.2.resolve_left hf
            exact va_putF (D := D) (ci := ci) (C := C) (T := T) (N := N) hx hb hts (i_cls hg).1 (i_ty ci) (i_cls hg).2.1 (i_cls hg).2.2.1 hown hE.1 hw.2.2.1 hw.2.2.2.1 hS i he hg b hk.1.1 (hts _ (i_tb_in hk.1.2)) (fun _ h9 => h9) (by cases hz : (T b).2.2.2 <;> first | exact absurd hz hf | rfl) (hnm.trans hf2.1) hf2.2 ((i_cls hg).2.1 b hk.1.1) hn1 hn2 (by rw [List.length_map]; exact hbl) hd kk2
      · cases hs
    · cases hs
  · cases hs
theorem i_s_iaload {M : iM} {_u : Unit} {len a b w : Nat} {z : Int} (hB : i_B p s m args meth c D sa sv A M R) (hq : i_ckb M (pc, .iaload, len, a, b, w, z) = true) (hs : i_s (.iaload, len, a, b, w, z) pc loc st h = some (pc', loc', st', h1)) (hw : i_Wd sa D A ad h s H) (hS : va_S A s.heap H locs) (hl : i_L sa ad ls loc) (hol : i_okl h.length loc) (hos : i_okl h.length st) (hlen : loc.length = M.2.2.2.1) (hcm : cells ≤ R.cells) (hsm : slots ≤ R.slots) (kk : i_K p l e R s m args below meth c cells slots Q D sa A ad loc.length pc' loc' st' h1) : W p l e R s m args below meth c H locs cells slots Q (F0 m pc ls (st.map (i_mv sa ad))) := by
  obtain ⟨hx, hb, hml, hr, hown, hts, hlk, hnm, hE, hA, hRf, hRl⟩ := hB
  obtain ⟨hd, hn⟩ := i_dec hq
  obtain rfl := hn rfl
  simp only [i_s, i_ald] at hs
  split at hs
  · next j i r =>
    split at hs
    · next ty n f hh =>
      split at hs
      · next hc =>
        cases hs
        have he := i_w_at (sa := sa) hw.1 hw.2.1.1 hh
        have hK1 := hw.K hE.1 hh
        have hin := i_in hc.2.1 hc.2.2
        have k9 := (kk _ _ _ hw hS hl hol (i_okl.cons trivial hos.tail.tail) rfl)
        have hty := hc.1
        cases ty <;> first
          | exact va_iald hx hb hK1 hw.2.2.1 i 0 he rfl hin hd k9
          | (simp [i_isi] at hty; done)
      · cases hs
    · cases hs
  · cases hs
theorem i_s_baload {M : iM} {_u : Unit} {len a b w : Nat} {z : Int} (hB : i_B p s m args meth c D sa sv A M R) (hq : i_ckb M (pc, .baload, len, a, b, w, z) = true) (hs : i_s (.baload, len, a, b, w, z) pc loc st h = some (pc', loc', st', h1)) (hw : i_Wd sa D A ad h s H) (hS : va_S A s.heap H locs) (hl : i_L sa ad ls loc) (hol : i_okl h.length loc) (hos : i_okl h.length st) (hlen : loc.length = M.2.2.2.1) (hcm : cells ≤ R.cells) (hsm : slots ≤ R.slots) (kk : i_K p l e R s m args below meth c cells slots Q D sa A ad loc.length pc' loc' st' h1) : W p l e R s m args below meth c H locs cells slots Q (F0 m pc ls (st.map (i_mv sa ad))) := by
  obtain ⟨hx, hb, hml, hr, hown, hts, hlk, hnm, hE, hA, hRf, hRl⟩ := hB
  obtain ⟨hd, hn⟩ := i_dec hq
  obtain rfl := hn rfl
  simp only [i_s, i_ald] at hs
  split at hs
  · next j i r =>
    split at hs
    · next ty n f hh =>
      split at hs
      · next hc =>
        cases hs
        have he := i_w_at (sa := sa) hw.1 hw.2.1.1 hh
        have hK1 := hw.K hE.1 hh
        have hin := i_in hc.2.1 hc.2.2
        have k9 := (kk _ _ _ hw hS hl hol (i_okl.cons trivial hos.tail.tail) rfl)
        have hty := hc.1
        cases ty <;> first
          | exact va_bald hx hb hK1 hw.2.2.1 i 0 he rfl hin hd k9
          | exact va_zald hx hb hK1 hw.2.2.1 i 0 he rfl hin hd k9
          | (simp [i_isp] at hty; done)
      · cases hs
    · cases hs
  · cases hs
theorem i_s_iastore {M : iM} {_u : Unit} {len a b w : Nat} {z : Int} (hB : i_B p s m args meth c D sa sv A M R) (hq : i_ckb M (pc, .iastore, len, a, b, w, z) = true) (hs : i_s (.iastore, len, a, b, w, z) pc loc st h = some (pc', loc', st', h1)) (hw : i_Wd sa D A ad h s H) (hS : va_S A s.heap H locs) (hl : i_L sa ad ls loc) (hol : i_okl h.length loc) (hos : i_okl h.length st) (hlen : loc.length = M.2.2.2.1) (hcm : cells ≤ R.cells) (hsm : slots ≤ R.slots) (kk : i_K p l e R s m args below meth c cells slots Q D sa A ad loc.length pc' loc' st' h1) : W p l e R s m args below meth c H locs cells slots Q (F0 m pc ls (st.map (i_mv sa ad))) := by
  obtain ⟨hx, hb, hml, hr, hown, hts, hlk, hnm, hE, hA, hRf, hRl⟩ := hB
  obtain ⟨hd, hn⟩ := i_dec hq
  obtain rfl := hn rfl
  simp only [i_s, i_ast] at hs
  split at hs
  · next x j i r =>
    split at hs
    · next ty n f hh =>
      split at hs
      · next hc =>
        cases hs
        have he := i_w_at (sa := sa) hw.1 hw.2.1.1 hh
        have hi : i < h.length := (List.getElem?_eq_some_iff.mp hh).1
        have hK1 := hw.K hE.1 hh
        have hin := i_in hc.2.1 hc.2.2
        have hset : (i_w sa ad h).set i (i_ad sa ad i, .inl ((ad.getD i (0, 0)).2, n, .inl (upd f j.toNatClampNeg (vp_nar ty x)))) = i_w sa ad (h.set i (.inl (ty, n, .inl (upd f j.toNatClampNeg (vp_nar ty x))))) := i_w_set (sa := sa) (c := .inl (ty, n, .inl (upd f j.toNatClampNeg (vp_nar ty x)))) hw.1 hw.2.1.1 hi
        have kk2 : ∀ (H1 : Heap) (locs1 : List Loc), va_P D vwCl ((i_w sa ad h).set i (i_ad sa ad i, .inl ((ad.getD i (0, 0)).2, n, .inl (upd f j.toNatClampNeg (vp_nar ty x))))) H1 → va_D A ((i_w sa ad h).set i (i_ad sa ad i, .inl ((ad.getD i (0, 0)).2, n, .inl (upd f j.toNatClampNeg (vp_nar ty x))))) → va_S A s.heap H1 locs1 → W p l e R s m args below meth c H1 locs1 cells slots Q (F0 m (pc + 1) ls (st'.map (i_mv sa ad))) := by
          intro H1 locs1 g1 g2 g3
          rw [hset] at g1 g2
          exact kk _ _ _ ⟨by rw [List.length_set]; exact hw.1, hw.2.1.set trivial, g1, g2, hw.2.2.2.2.set (fun ty2 x2 hx9 => by cases hx9; exact ⟨_, hh⟩)⟩ g3 hl (by rw [List.length_set]; exact hol) (by rw [List.length_set]; exact hos.tail.tail.tail) rfl
        have hty := hc.1
        cases ty <;> first
          | exact va_iast hx hb hK1 hw.2.2.1 hw.2.2.2.1 hS i 0 he rfl hin hd kk2
          | (simp [i_isi] at hty; done)
      · cases hs
    · cases hs
  · cases hs
theorem i_s_bastore {M : iM} {_u : Unit} {len a b w : Nat} {z : Int} (hB : i_B p s m args meth c D sa sv A M R) (hq : i_ckb M (pc, .bastore, len, a, b, w, z) = true) (hs : i_s (.bastore, len, a, b, w, z) pc loc st h = some (pc', loc', st', h1)) (hw : i_Wd sa D A ad h s H) (hS : va_S A s.heap H locs) (hl : i_L sa ad ls loc) (hol : i_okl h.length loc) (hos : i_okl h.length st) (hlen : loc.length = M.2.2.2.1) (hcm : cells ≤ R.cells) (hsm : slots ≤ R.slots) (kk : i_K p l e R s m args below meth c cells slots Q D sa A ad loc.length pc' loc' st' h1) : W p l e R s m args below meth c H locs cells slots Q (F0 m pc ls (st.map (i_mv sa ad))) := by
  obtain ⟨hx, hb, hml, hr, hown, hts, hlk, hnm, hE, hA, hRf, hRl⟩ := hB
  obtain ⟨hd, hn⟩ := i_dec hq
  obtain rfl := hn rfl
  simp only [i_s, i_ast] at hs
  split at hs
  · next x j i r =>
    split at hs
    · next ty n f hh =>
      split at hs
      · next hc =>
        cases hs
        have he := i_w_at (sa := sa) hw.1 hw.2.1.1 hh
        have hi : i < h.length := (List.getElem?_eq_some_iff.mp hh).1
        have hK1 := hw.K hE.1 hh
        have hin := i_in hc.2.1 hc.2.2
        have hset : (i_w sa ad h).set i (i_ad sa ad i, .inl ((ad.getD i (0, 0)).2, n, .inl (upd f j.toNatClampNeg (vp_nar ty x)))) = i_w sa ad (h.set i (.inl (ty, n, .inl (upd f j.toNatClampNeg (vp_nar ty x))))) := i_w_set (sa := sa) (c := .inl (ty, n, .inl (upd f j.toNatClampNeg (vp_nar ty x)))) hw.1 hw.2.1.1 hi
        have kk2 : ∀ (H1 : Heap) (locs1 : List Loc), va_P D vwCl ((i_w sa ad h).set i (i_ad sa ad i, .inl ((ad.getD i (0, 0)).2, n, .inl (upd f j.toNatClampNeg (vp_nar ty x))))) H1 → va_D A ((i_w sa ad h).set i (i_ad sa ad i, .inl ((ad.getD i (0, 0)).2, n, .inl (upd f j.toNatClampNeg (vp_nar ty x))))) → va_S A s.heap H1 locs1 → W p l e R s m args below meth c H1 locs1 cells slots Q (F0 m (pc + 1) ls (st'.map (i_mv sa ad))) := by
          intro H1 locs1 g1 g2 g3
          rw [hset] at g1 g2
          exact kk _ _ _ ⟨by rw [List.length_set]; exact hw.1, hw.2.1.set trivial, g1, g2, hw.2.2.2.2.set (fun ty2 x2 hx9 => by cases hx9; exact ⟨_, hh⟩)⟩ g3 hl (by rw [List.length_set]; exact hol) (by rw [List.length_set]; exact hos.tail.tail.tail) rfl
        have hty := hc.1
        cases ty <;> first
          | exact va_bast hx hb hK1 hw.2.2.1 hw.2.2.2.1 hS i 0 he rfl hin hd kk2
          | exact va_zast hx hb hK1 hw.2.2.1 hw.2.2.2.1 hS i 0 he rfl hin hd kk2
          | (simp [i_isp] at hty; done)
      · cases hs
    · cases hs
  · cases hs
theorem i_s_laload {M : iM} {_u : Unit} {len a b w : Nat} {z : Int} (hB : i_B p s m args meth c D sa sv A M R) (hq : i_ckb M (pc, .laload, len, a, b, w, z) = true) (hs : i_s (.laload, len, a, b, w, z) pc loc st h = some (pc', loc', st', h1)) (hw : i_Wd sa D A ad h s H) (hS : va_S A s.heap H locs) (hl : i_L sa ad ls loc) (hol : i_okl h.length loc) (hos : i_okl h.length st) (hlen : loc.length = M.2.2.2.1) (hcm : cells ≤ R.cells) (hsm : slots ≤ R.slots) (kk : i_K p l e R s m args below meth c cells slots Q D sa A ad loc.length pc' loc' st' h1) : W p l e R s m args below meth c H locs cells slots Q (F0 m pc ls (st.map (i_mv sa ad))) := by
  obtain ⟨hx, hb, hml, hr, hown, hts, hlk, hnm, hE, hA, hRf, hRl⟩ := hB
  obtain ⟨hd, hn⟩ := i_dec hq
  obtain rfl := hn rfl
  simp only [i_s, i_lald] at hs
  split at hs
  · next j i r =>
    split at hs
    · next n f hh =>
      split at hs
      · next hc =>
        cases hs
        have he := i_w_at (sa := sa) hw.1 hw.2.1.1 hh
        exact va_lald hx hb (hw.K hE.1 hh) hw.2.2.1 i 0 he rfl (i_in hc.1 hc.2) hd (kk _ _ _ hw hS hl hol (i_okl.cons trivial hos.tail.tail) rfl)
      · cases hs
    · cases hs
  · cases hs
theorem i_s_lastore {M : iM} {_u : Unit} {len a b w : Nat} {z : Int} (hB : i_B p s m args meth c D sa sv A M R) (hq : i_ckb M (pc, .lastore, len, a, b, w, z) = true) (hs : i_s (.lastore, len, a, b, w, z) pc loc st h = some (pc', loc', st', h1)) (hw : i_Wd sa D A ad h s H) (hS : va_S A s.heap H locs) (hl : i_L sa ad ls loc) (hol : i_okl h.length loc) (hos : i_okl h.length st) (hlen : loc.length = M.2.2.2.1) (hcm : cells ≤ R.cells) (hsm : slots ≤ R.slots) (kk : i_K p l e R s m args below meth c cells slots Q D sa A ad loc.length pc' loc' st' h1) : W p l e R s m args below meth c H locs cells slots Q (F0 m pc ls (st.map (i_mv sa ad))) := by
  obtain ⟨hx, hb, hml, hr, hown, hts, hlk, hnm, hE, hA, hRf, hRl⟩ := hB
  obtain ⟨hd, hn⟩ := i_dec hq
  obtain rfl := hn rfl
  simp only [i_s, i_last] at hs
  split at hs
  · next x j i r =>
    split at hs
    · next n f hh =>
      split at hs
      · next hc =>
        cases hs
        have he := i_w_at (sa := sa) hw.1 hw.2.1.1 hh
        have hi : i < h.length := (List.getElem?_eq_some_iff.mp hh).1
        have hset : (i_w sa ad h).set i (i_ad sa ad i, .inl ((ad.getD i (0, 0)).2, n, .inr (.inl (vp_updL f j.toNatClampNeg x)))) = i_w sa ad (h.set i (.inl (.long, n, .inr (.inl (vp_updL f j.toNatClampNeg x))))) := i_w_set (sa := sa) (c := .inl (.long, n, .inr (.inl (vp_updL f j.toNatClampNeg x)))) hw.1 hw.2.1.1 hi
        refine va_last hx hb (hw.K hE.1 hh) hw.2.2.1 hw.2.2.2.1 hS i 0 he rfl (i_in hc.1 hc.2) hd (fun H1 locs1 g1 g2 g3 => ?_)
        rw [hset] at g1 g2
        exact kk _ _ _ ⟨by rw [List.length_set]; exact hw.1, hw.2.1.set trivial, g1, g2, hw.2.2.2.2.set (fun ty2 x2 hx9 => by cases hx9; exact ⟨_, hh⟩)⟩ g3 hl (by rw [List.length_set]; exact hol) (by rw [List.length_set]; exact hos.tail.tail.tail) rfl
      · cases hs
    · cases hs
  · cases hs
theorem i_s_aaload {M : iM} {_u : Unit} {len a b w : Nat} {z : Int} (hB : i_B p s m args meth c D sa sv A M R) (hq : i_ckb M (pc, .aaload, len, a, b, w, z) = true) (hs : i_s (.aaload, len, a, b, w, z) pc loc st h = some (pc', loc', st', h1)) (hw : i_Wd sa D A ad h s H) (hS : va_S A s.heap H locs) (hl : i_L sa ad ls loc) (hol : i_okl h.length loc) (hos : i_okl h.length st) (hlen : loc.length = M.2.2.2.1) (hcm : cells ≤ R.cells) (hsm : slots ≤ R.slots) (kk : i_K p l e R s m args below meth c cells slots Q D sa A ad loc.length pc' loc' st' h1) : W p l e R s m args below meth c H locs cells slots Q (F0 m pc ls (st.map (i_mv sa ad))) := by
  obtain ⟨hx, hb, hml, hr, hown, hts, hlk, hnm, hE, hA, hRf, hRl⟩ := hB
  obtain ⟨hd, hn⟩ := i_dec hq
  obtain rfl := hn rfl
  simp only [i_s, i_aald] at hs
  split at hs
  · next j i r =>
    split at hs
    · next ty n f hh =>
      split at hs
      · next hc =>
        cases hs
        have he := i_w_at (sa := sa) hw.1 hw.2.1.1 hh
        have hok : i_okv h.length (va_rf (f j.toNatClampNeg)) := by
          have h0 : ∀ k i, f k = some i → i_okr h.length i := i_cell_ok hw.2.1 hh
          cases hf : f j.toNatClampNeg with
          | none => trivial
          | some y => exact h0 _ _ hf
        have k9 := kk _ _ _ hw hS hl hol (i_okl.cons hok hos.tail.tail) rfl
        rw [List.map_cons, i_mv_rf] at k9
        exact i_aldq hx hb (hw.K hE.1 hh) hw.2.2.1 i 0 hc.1 he rfl (i_in hc.2.1 hc.2.2) hd k9
      · cases hs
    · cases hs
  · cases hs
theorem i_s_aastore {M : iM} {_u : Unit} {len a b w : Nat} {z : Int} (hB : i_B p s m args meth c D sa sv A M R) (hq : i_ckb M (pc, .aastore, len, a, b, w, z) = true) (hs : i_s (.aastore, len, a, b, w, z) pc loc st h = some (pc', loc', st', h1)) (hw : i_Wd sa D A ad h s H) (hS : va_S A s.heap H locs) (hl : i_L sa ad ls loc) (hol : i_okl h.length loc) (hos : i_okl h.length st) (hlen : loc.length = M.2.2.2.1) (hcm : cells ≤ R.cells) (hsm : slots ≤ R.slots) (kk : i_K p l e R s m args below meth c cells slots Q D sa A ad loc.length pc' loc' st' h1) : W p l e R s m args below meth c H locs cells slots Q (F0 m pc ls (st.map (i_mv sa ad))) := by
  obtain ⟨hx, hb, hml, hr, hown, hts, hlk, hnm, hE, hA, hRf, hRl⟩ := hB
  obtain ⟨hd, hn⟩ := i_dec hq
  obtain rfl := hn rfl
  simp only [i_s, i_aast] at hs
  split at hs
  · next k j i r =>
    split at hs
    · next C n f q hh hh2 =>
      split at hs
      · next hc =>
        cases hs
        obtain ⟨ci, fs⟩ := q
        have he := i_w_at (sa := sa) hw.1 hw.2.1.1 hh
        have he2 := i_w_at (sa := sa) hw.1 hw.2.1.1 hh2
        have hi : i < h.length := (List.getElem?_eq_some_iff.mp hh).1
        obtain ⟨g, hg, hgC⟩ := Option.map_eq_some_iff.mp hc.1
        have hup : (fun k2 => (va_up f j.toNatClampNeg (some k) k2).map (i_ad sa ad)) = va_up (fun k2 => (f k2).map (i_ad sa ad)) j.toNatClampNeg (some (i_ad sa ad k)) := by
          funext k2
          unfold va_up
          split <;> rfl
        have hset : (i_w sa ad h).set i (i_ad sa ad i, .inl ((ad.getD i (0, 0)).2, n, .inr (.inr (.inr (.inr (va_up (fun k2 => (f k2).map (i_ad sa ad)) j.toNatClampNeg (some (i_ad sa ad k)))))))) = i_w sa ad (h.set i (.inl (.object C, n, .inr (.inr (.inr (.inr (va_up f j.toNatClampNeg (some k)))))))) := by
          rw [← i_w_set hw.1 hw.2.1.1 hi, ← hup]
          rfl
        have hokc : i_okc h.length (.inl (.object C, n, .inr (.inr (.inr (.inr (va_up f j.toNatClampNeg (some k))))))) := by
          intro k2 y hy
          have h0 : ∀ k i, f k = some i → i_okr h.length i := i_cell_ok hw.2.1 hh
          unfold va_up at hy
          split at hy
          · cases hy
            exact hos.head
          · exact h0 _ _ hy
        subst hgC
        refine va_astq hx hb (hw.K hE.1 hh) hw.2.2.1 hw.2.2.2.1 hS i 0 k ci he rfl he2 hg (i_in hc.2.1 hc.2.2) hd (fun H1 locs1 g1 g2 g3 => ?_)
        rw [hset] at g1 g2
        exact kk _ _ _ ⟨by rw [List.length_set]; exact hw.1, hw.2.1.set hokc, g1, g2, hw.2.2.2.2.set (fun ty2 x2 hx9 => by cases hx9; exact ⟨_, hh⟩)⟩ g3 hl (by rw [List.length_set]; exact hol) (by rw [List.length_set]; exact hos.tail.tail.tail) rfl
      · cases hs
    · cases hs
  · cases hs
theorem i_s_arraylength {M : iM} {_u : Unit} {len a b w : Nat} {z : Int} (hB : i_B p s m args meth c D sa sv A M R) (hq : i_ckb M (pc, .arraylength, len, a, b, w, z) = true) (hs : i_s (.arraylength, len, a, b, w, z) pc loc st h = some (pc', loc', st', h1)) (hw : i_Wd sa D A ad h s H) (hS : va_S A s.heap H locs) (hl : i_L sa ad ls loc) (hol : i_okl h.length loc) (hos : i_okl h.length st) (hlen : loc.length = M.2.2.2.1) (hcm : cells ≤ R.cells) (hsm : slots ≤ R.slots) (kk : i_K p l e R s m args below meth c cells slots Q D sa A ad loc.length pc' loc' st' h1) : W p l e R s m args below meth c H locs cells slots Q (F0 m pc ls (st.map (i_mv sa ad))) := by
  obtain ⟨hx, hb, hml, hr, hown, hts, hlk, hnm, hE, hA, hRf, hRl⟩ := hB
  obtain ⟨hd, hn⟩ := i_dec hq
  obtain rfl := hn rfl
  simp only [i_s, i_alen] at hs
  split at hs
  · next i r =>
    split at hs
    · next q hh =>
      cases hs
      obtain ⟨ty, n, x⟩ := q
      have he := i_w_at (sa := sa) hw.1 hw.2.1.1 hh
      exact va_alen hx hb (hw.K hE.1 hh) hw.2.2.1 i 0 he rfl (v := Int32.ofNat n) (by obtain f | f | f | f | f := x <;> rfl) hd (kk _ _ _ hw hS hl hol (i_okl.cons trivial hos.tail) rfl)
    · cases hs
  · cases hs
theorem i_prim_cases {a : Nat} {x : i_cfg} (h0 : i_prim a pc loc st h = some x) : a = 1000 ∨ a = 1001 ∨ a = 1002 ∨ a = 1003 ∨ a = 1004 ∨ a = 1005 := by
  unfold i_prim at h0
  split at h0
  · exact Or.inl rfl
  · exact Or.inr (Or.inl rfl)
  · exact Or.inr (Or.inr (Or.inl rfl))
  · exact Or.inr (Or.inr (Or.inr (Or.inl rfl)))
  · exact Or.inr (Or.inr (Or.inr (Or.inr (Or.inl rfl))))
  · exact Or.inr (Or.inr (Or.inr (Or.inr (Or.inr rfl))))
  · cases h0
theorem i_mT_none : i_mT[1000]? = none ∧ i_mT[1001]? = none ∧ i_mT[1002]? = none ∧ i_mT[1003]? = none ∧ i_mT[1004]? = none ∧ i_mT[1005]? = none := ⟨rfl, rfl, rfl, rfl, rfl, rfl⟩
theorem i_cpy_ok {M : iM} {k len b w : Nat} {z : Int} (hB : i_B p s m args meth c D sa sv A M R) (hd : decode M.2.2.1 pc = .ok (.invokestatic k, 3)) (hk : i_wd w (.methodLink M.1 k arraycopyName) = true) (hs : i_cpy pc loc st h = some (pc', loc', st', h1)) (hw : i_Wd sa D A ad h s H) (hS : va_S A s.heap H locs) (hl : i_L sa ad ls loc) (hol : i_okl h.length loc) (hos : i_okl h.length st) (hlen : loc.length = M.2.2.2.1) (kk : i_K p l e R s m args below meth c cells slots Q D sa A ad loc.length pc' loc' st' h1) : W p l e R s m args below meth c H locs cells slots Q (F0 m pc ls (st.map (i_mv sa ad))) := by
  obtain ⟨hx, hb, hml, hr, hown, hts, hlk, hnm, hE, hA, hRf, hRl⟩ := hB
  unfold i_cpy at hs
  split at hs
  · next n dp j sp i r =>
    split at hs
    · next n0 f n1 g hh hh2 =>
      split at hs
      · next hc =>
        cases hs
        obtain ⟨c1, c2, c3, c4, c5, c6⟩ := hc
        have he := i_w_at (sa := sa) hw.1 hw.2.1.1 hh
        have he2 := i_w_at (sa := sa) hw.1 hw.2.1.1 hh2
        have hj : j < h.length := (List.getElem?_eq_some_iff.mp hh2).1
        have hset : (i_w sa ad h).set j (i_ad sa ad j, .inl ((ad.getD j (0, 0)).2, n1, .inl (va_cpy f g sp.toNatClampNeg dp.toNatClampNeg n.toNatClampNeg))) = i_w sa ad (h.set j (.inl (.int, n1, .inl (va_cpy f g sp.toNatClampNeg dp.toNatClampNeg n.toNatClampNeg)))) := i_w_set (sa := sa) (c := .inl (.int, n1, .inl (va_cpy f g sp.toNatClampNeg dp.toNatClampNeg n.toNatClampNeg))) hw.1 hw.2.1.1 hj
        have hK2 := (hw.K hE.1 hh).app (hw.K hE.1 hh2)
        have h9 : nativeFrameWords "java/lang/System" "arraycopy" 5 ≤ 100 := by decide +kernel
        have hrl : ((st'.map (i_mv sa ad)).map fun v => v.category).sum + (nativeFrameWords "java/lang/System" "arraycopy" 5 + 11) ≤ R.locals := by rw [i_catsum]; omega
        refine va_copyi (q0 := i) (q1 := j) (t0 := 0) (t1 := 1) (ty := .int) hx hb (by rw [hml, hl.1, hlen]) hown (hts _ (i_tb_in hk)) (hts _ i_w_cpn) (hts _ i_w_cps) (hts _ i_w_sys) hK2 hw.2.2.1 hw.2.2.2.1 hS (ha0 := he) (ha1 := he2) (ht0 := rfl) (ht1 := rfl) rfl c1 c2 c3 c4 c5 (fun _ _ => rfl) (by omega) hrl hd (fun H1 locs1 g1 g2 g3 => ?_)
        rw [hset] at g1 g2
        exact kk _ _ _ ⟨by rw [List.length_set]; exact hw.1, hw.2.1.set trivial, g1, g2, hw.2.2.2.2.set (fun ty2 x2 hx9 => by cases hx9; exact ⟨_, hh2⟩)⟩ g3 hl (by rw [List.length_set]; exact hol) (by rw [List.length_set]; exact hos.tail.tail.tail.tail.tail) rfl
      · cases hs
    · cases hs
  · cases hs
theorem i_s_invokestatic {M : iM} {k : Nat} {len a b w : Nat} {z : Int} (hB : i_B p s m args meth c D sa sv A M R) (hq : i_ckb M (pc, .invokestatic k, len, a, b, w, z) = true) (hs : i_s (.invokestatic k, len, a, b, w, z) pc loc st h = some (pc', loc', st', h1)) (hw : i_Wd sa D A ad h s H) (hS : va_S A s.heap H locs) (hl : i_L sa ad ls loc) (hol : i_okl h.length loc) (hos : i_okl h.length st) (hlen : loc.length = M.2.2.2.1) (hcm : cells ≤ R.cells) (hsm : slots ≤ R.slots) (kk : i_K p l e R s m args below meth c cells slots Q D sa A ad loc.length pc' loc' st' h1) : W p l e R s m args below meth c H locs cells slots Q (F0 m pc ls (st.map (i_mv sa ad))) := by
  obtain ⟨hx, hb, hml, hr, hown, hts, hlk, hnm, hE, hA, hRf, hRl⟩ := hB
  obtain ⟨hd, hn⟩ := i_dec hq
  obtain rfl := hn rfl
  simp only [i_s] at hs
  rcases i_prim_cases hs with rfl | rfl | rfl | rfl | rfl | rfl
  · exact absurd (i_ck2 (B := false) hq rfl) Bool.false_ne_true
  · have hk := i_ck2 hq rfl
    dsimp only at hk
    simp only [i_prim] at hs
    split at hs
    · split at hs
      · next hc =>
        cases hs
        exact va_mmax hx hb (by rw [hml, hl.1, hlen]) hown (hts _ (i_tb_in hk)) (hts _ i_w_max_s) (hts _ i_w_math) (hts _ i_w_max_c) (by omega) (by rw [i_catsum]; omega) hcm hsm hd (kk _ _ _ hw hS hl hol (i_okl.cons trivial hos.tail.tail) rfl)
      · cases hs
    · cases hs
  · have hk := i_ck2 hq rfl
    dsimp only at hk
    simp only [i_prim] at hs
    split at hs
    · split at hs
      · next hc =>
        cases hs
        exact va_mmin hx hb (by rw [hml, hl.1, hlen]) hown (hts _ (i_tb_in hk)) (hts _ i_w_min_s) (hts _ i_w_math) (hts _ i_w_min_c) (by omega) (by rw [i_catsum]; omega) hcm hsm hd (kk _ _ _ hw hS hl hol (i_okl.cons trivial hos.tail.tail) rfl)
      · cases hs
    · cases hs
  · have hk := i_ck2 hq rfl
    dsimp only at hk
    simp only [i_prim] at hs
    exact i_cpy_ok ⟨hx, hb, hml, hr, hown, hts, hlk, hnm, hE, hA, hRf, hRl⟩ (len := 3) (b := b) (z := z) hd hk hs hw hS hl hol hos hlen kk
  · exact absurd (i_ck2 (B := false) hq rfl) Bool.false_ne_true
  · exact absurd (i_ck2 (B := false) hq rfl) Bool.false_ne_true

theorem i_s_invokespecial {M : iM} {k : Nat} {len a b w : Nat} {z : Int} (hB : i_B p s m args meth c D sa sv A M R) (hq : i_ckb M (pc, .invokespecial k, len, a, b, w, z) = true) (hs : i_s (.invokespecial k, len, a, b, w, z) pc loc st h = some (pc', loc', st', h1)) (hw : i_Wd sa D A ad h s H) (hS : va_S A s.heap H locs) (hl : i_L sa ad ls loc) (hol : i_okl h.length loc) (hos : i_okl h.length st) (hlen : loc.length = M.2.2.2.1) (hcm : cells ≤ R.cells) (hsm : slots ≤ R.slots) (kk : i_K p l e R s m args below meth c cells slots Q D sa A ad loc.length pc' loc' st' h1) : W p l e R s m args below meth c H locs cells slots Q (F0 m pc ls (st.map (i_mv sa ad))) := by
  obtain ⟨hx, hb, hml, hr, hown, hts, hlk, hnm, hE, hA, hRf, hRl⟩ := hB
  obtain ⟨hd, hn⟩ := i_dec hq
  obtain rfl := hn rfl
  simp only [i_s] at hs
  rcases i_prim_cases hs with rfl | rfl | rfl | rfl | rfl | rfl
  · have hk := i_ck2 hq rfl
    dsimp only at hk
    simp only [i_prim] at hs
    split at hs
    · split at hs
      · next hc =>
        cases hs
        exact W.objInit hx hb hown (hts _ (i_tb_in hk)) (hts _ i_w_oi) (hts _ i_w_oc) rfl (by rw [hml, ← hlen]; exact hl.1) rfl hd (by omega) (by show 2 * 0 + _ + 12 ≤ _; rw [i_catsum]; omega) (W.eq (g2 := F0 m (pc + 3) ls (st'.map (i_mv sa ad))) rfl (kk _ _ _ hw hS hl hol hos.tail rfl))
      · cases hs
    · cases hs
  · exact absurd (i_ck2 (B := false) hq rfl) Bool.false_ne_true
  · exact absurd (i_ck2 (B := false) hq rfl) Bool.false_ne_true
  · exact absurd (i_ck2 (B := false) hq rfl) Bool.false_ne_true
  · exact absurd (i_ck2 (B := false) hq rfl) Bool.false_ne_true
  · exact absurd (i_ck2 (B := false) hq rfl) Bool.false_ne_true

end IT
