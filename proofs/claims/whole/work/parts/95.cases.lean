/-! ===== the law: its cases ===== -/
theorem i_tb_law : ∀ w : Cond, (w ∈ lw_tbl ∧ goodWord w = true) → w ∈ i_tb := fun w hw => List.mem_filter.mpr hw
theorem r0 {sh : List kd} (h : rmSh sh) : sh[0]? = some (.inr (11, [none, some 1, some 2, some 3, some 4, some 5, some 6, some 7, some 8, some 9, some 10, some 11, some 12, some 13, some 14, some 15, some 16, some 17, some 18, none, none, none, none, none, none, none, none, none, none, some 19, some 20, some 21, some 22, some 23, some 24, some 25, some 26, some 27, some 28, some 29, some 30, none, none, none, some 31, some 32, some 33, some 34, some 35, some 36, some 37, none, none])) := (h 0 (by decide)).trans (by decide +kernel)
set_option maxHeartbeats 4000000 in
theorem k_force {p : Program} {l : Launch} {e : Env} {s : State} {m : MethodId} {below : List Frame} {meth : Method} {c : Code} {H : Heap} {locs : List Loc} {cells slots : Nat} {Q : State → Prop} {D : va_G} {sa sv : Nat → Nat} {b L i : Nat} {xs : Nat → Int32} {ls : Array Slot} {adC adR : iA} {sh sR : List kd} {σC σR : St} {W0 : Wd} {rl : List Cl} {im : Im} {tp : List Nat}
    (hx : p.tables.exec = Jvm.exec) (hb : c.code = code) (hml : c.maxLocals = 4) (hown : s.vm.findClass RL = some m.cls) (hts : ∀ w ∈ i_tb, w.before #[Value.ref b] s = true) (hE : i_E D sa sv (fun q : Nat => s.heap.size ≤ q) s s.heap) (hX : va_X b L xs s s.heap) (hbl : b < s.heap.size)
    (h : IV sh sR σC σR W0 rl im tp) (hbd : sh.length + 120 < i_SB) (wC : i_Wd sa D (fun q : Nat => s.heap.size ≤ q) adC (s_h sh σC) s H) (wR : i_Wd sa D (fun q : Nat => s.heap.size ≤ q) adR (s_h sR σR) s H) (dj : i_apart (i_w sa adC (s_h sh σC)) (i_w sa adR (s_h sR σR))) (hS : va_S (fun q : Nat => s.heap.size ≤ q) s.heap H locs) (hl : lv_has ls 4 [(0, .ref b), (1, i_mv sa adC (.ref 0)), (2, i_mv sa adR (.ref 0)), (3, .int (nI i))]) (hi : i + 6 ≤ L) (hL : L ≤ 3072) (hc : cells + 300 ≤ 633637) (hs : slots + 3000 ≤ 7201338)
    (kk : ∀ (sh' : List kd) (τC τR : St) (W1 : Wd) (rl1 : List Cl) (im1 : Im) (tp1 : List Nat) (exC exR : iA) (H1 : Heap) (locs1 : List Loc) (mc ms : Nat), mc ≤ 300 → ms ≤ 3000 → IV sh' sR τC τR W1 rl1 im1 tp1 → sh'.length ≤ sh.length + 115 → i_Wd sa D (fun q : Nat => s.heap.size ≤ q) (adC ++ exC) (s_h sh' τC) s H1 → i_Wd sa D (fun q : Nat => s.heap.size ≤ q) (adR ++ exR) (s_h sR τR) s H1 → i_apart (i_w sa (adC ++ exC) (s_h sh' τC)) (i_w sa (adR ++ exR) (s_h sR τR)) → va_S (fun q : Nat => s.heap.size ≤ q) s.heap H1 locs1 → W p l e room_1 s m #[Value.ref b] below meth c H1 locs1 (cells + mc) (slots + ms) Q (F0 m 1196 ls [])) :
    W p l e room_1 s m #[Value.ref b] below meth c H locs cells slots Q (F0 m 296 ls []) := by
  have hA : ∀ q : Nat, s.heap.size ≤ q → (fun q : Nat => s.heap.size ≤ q) q := fun _ h => h
  have hbA : ¬ (fun q : Nat => s.heap.size ≤ q) b := Nat.not_le.mpr hbl
  have ix : ∀ j : Nat, j < 6 → vp_in (nI i + nI j) L := fun j hj => by rw [nI_add]; exact vp_in_nI (by omega) (by omega)
  obtain ⟨v, mc, ms, sh', τC, τR, W1, rl1, im1, tp1, o1, o2, o3, o4, o5, o6, o7⟩ := o_force h hbd (xs (nI i + nI 1).toNatClampNeg)
  refine lv_aload_n hx hb dL_law_296 rfl (lv_at hl 1 rfl) ?_
  refine lv_aload_n hx hb dL_law_297 rfl (lv_at hl 0 rfl) ?_
  refine lv_iload_n hx hb dL_law_298 rfl (lv_at hl 3 rfl) ?_
  refine lv_iconst (v := nI 1) hx hb dL_law_299 (by decide) ?_
  refine lv_iadd hx hb dL_law_300 ?_
  refine va_sld hx hb hX hbl hbA hS (ix 1 (by omega)) dL_law_301 ?_
  refine law_V (y := 95) (n := 1) (As := [.int (xs (nI i + nI 1).toNatClampNeg)]) (rest := []) hx hb hml hown hts hE hA rfl (i_tb_law _ (by decide +kernel)) (by decide +kernel) (by decide +kernel) (by decide +kernel) o3 (fun x hx9 => by
    rcases List.mem_cons.mp hx9 with rfl | hx9
    · exact Or.inl (by rw [s_h_len]; have := cSh_len h.1.1; omega)
    · simp at hx9
      subst hx9; trivial) rfl (c0 h.1.1) (by decide +kernel) rfl wC wR dj hS hl.1 (Nat.le_of_ble_eq_true rfl) (by omega) (by omega) dL_law_302 (fun exC H1 locs1 wC wR dj hS => ?_)
  refine lv_aload_n hx hb dL_law_305 rfl (lv_at hl 2 rfl) ?_
  refine lv_aload_n hx hb dL_law_306 rfl (lv_at hl 0 rfl) ?_
  refine lv_iload_n hx hb dL_law_307 rfl (lv_at hl 3 rfl) ?_
  refine lv_iconst (v := nI 1) hx hb dL_law_308 (by decide) ?_
  refine lv_iadd hx hb dL_law_309 ?_
  refine va_sld hx hb hX hbl hbA hS (ix 1 (by omega)) dL_law_310 ?_
  refine law_V (y := 169) (n := 1) (As := [.int (xs (nI i + nI 1).toNatClampNeg)]) (rest := [.int v]) hx hb hml hown hts hE hA rfl (i_tb_law _ (by decide +kernel)) (by decide +kernel) (by decide +kernel) (by decide +kernel) o4 (fun x hx9 => by
    rcases List.mem_cons.mp hx9 with rfl | hx9
    · exact Or.inl (by rw [s_h_len]; have := (List.getElem?_eq_some_iff.mp (r0 h.1.2.1)).1; omega)
    · simp at hx9
      subst hx9; trivial) rfl (s_h_at (r0 h.1.2.1)) (by decide +kernel) rfl wR wC (fun a b p q h1 h2 e => dj b a q p h2 h1 e.symm) hS hl.1 (Nat.le_of_ble_eq_true rfl) (by omega) (by omega) dL_law_311 (fun exR H2 locs2 wR wC dj hS => ?_)
  refine lv_icmp_eq (tgt := 1196) hx hb dL_law_314 (by decide) (fun _ => ?_) (fun hne => absurd rfl hne)
  exact kk sh' τC τR W1 rl1 im1 tp1 exC exR H2 locs2 mc ms o1 o2 o5 o7 wC wR (fun a b p q h1 h2 e => dj b a q p h2 h1 e.symm) hS
set_option maxHeartbeats 4000000 in
theorem k_hour {p : Program} {l : Launch} {e : Env} {s : State} {m : MethodId} {below : List Frame} {meth : Method} {c : Code} {H : Heap} {locs : List Loc} {cells slots : Nat} {Q : State → Prop} {D : va_G} {sa sv : Nat → Nat} {b L i : Nat} {xs : Nat → Int32} {ls : Array Slot} {adC adR : iA} {sh sR : List kd} {σC σR : St} {W0 : Wd} {rl : List Cl} {im : Im} {tp : List Nat}
    (hx : p.tables.exec = Jvm.exec) (hb : c.code = code) (hml : c.maxLocals = 4) (hown : s.vm.findClass RL = some m.cls) (hts : ∀ w ∈ i_tb, w.before #[Value.ref b] s = true) (hE : i_E D sa sv (fun q : Nat => s.heap.size ≤ q) s s.heap) (hX : va_X b L xs s s.heap) (hbl : b < s.heap.size)
    (h : IV sh sR σC σR W0 rl im tp) (hbd : sh.length + 120 < i_SB) (wC : i_Wd sa D (fun q : Nat => s.heap.size ≤ q) adC (s_h sh σC) s H) (wR : i_Wd sa D (fun q : Nat => s.heap.size ≤ q) adR (s_h sR σR) s H) (dj : i_apart (i_w sa adC (s_h sh σC)) (i_w sa adR (s_h sR σR))) (hS : va_S (fun q : Nat => s.heap.size ≤ q) s.heap H locs) (hl : lv_has ls 4 [(0, .ref b), (1, i_mv sa adC (.ref 0)), (2, i_mv sa adR (.ref 0)), (3, .int (nI i))]) (hi : i + 6 ≤ L) (hL : L ≤ 3072) (hc : cells + 300 ≤ 633637) (hs : slots + 3000 ≤ 7201338)
    (kk : ∀ (sh' : List kd) (τC τR : St) (W1 : Wd) (rl1 : List Cl) (im1 : Im) (tp1 : List Nat) (exC exR : iA) (H1 : Heap) (locs1 : List Loc) (mc ms : Nat), mc ≤ 300 → ms ≤ 3000 → IV sh' sR τC τR W1 rl1 im1 tp1 → sh'.length ≤ sh.length + 115 → i_Wd sa D (fun q : Nat => s.heap.size ≤ q) (adC ++ exC) (s_h sh' τC) s H1 → i_Wd sa D (fun q : Nat => s.heap.size ≤ q) (adR ++ exR) (s_h sR τR) s H1 → i_apart (i_w sa (adC ++ exC) (s_h sh' τC)) (i_w sa (adR ++ exR) (s_h sR τR)) → va_S (fun q : Nat => s.heap.size ≤ q) s.heap H1 locs1 → W p l e room_1 s m #[Value.ref b] below meth c H1 locs1 (cells + mc) (slots + ms) Q (F0 m 1196 ls [])) :
    W p l e room_1 s m #[Value.ref b] below meth c H locs cells slots Q (F0 m 408 ls []) := by
  have hA : ∀ q : Nat, s.heap.size ≤ q → (fun q : Nat => s.heap.size ≤ q) q := fun _ h => h
  have hbA : ¬ (fun q : Nat => s.heap.size ≤ q) b := Nat.not_le.mpr hbl
  have ix : ∀ j : Nat, j < 6 → vp_in (nI i + nI j) L := fun j hj => by rw [nI_add]; exact vp_in_nI (by omega) (by omega)
  obtain ⟨v, mc, ms, sh', τC, τR, W1, rl1, im1, tp1, o1, o2, o3, o4, o5, o6, o7⟩ := o_hour h hbd
  refine lv_aload_n hx hb dL_law_408 rfl (lv_at hl 1 rfl) ?_
  refine law_V (y := 99) (n := 0) (As := []) (rest := []) hx hb hml hown hts hE hA rfl (i_tb_law _ (by decide +kernel)) (by decide +kernel) (by decide +kernel) (by decide +kernel) o3 (fun x hx9 => by
    rw [List.mem_singleton.mp hx9]
    exact Or.inl (by rw [s_h_len]; have := cSh_len h.1.1; omega)) rfl (c0 h.1.1) (by decide +kernel) rfl wC wR dj hS hl.1 (Nat.le_of_ble_eq_true rfl) (by omega) (by omega) dL_law_409 (fun exC H1 locs1 wC wR dj hS => ?_)
  refine lv_aload_n hx hb dL_law_412 rfl (lv_at hl 2 rfl) ?_
  refine law_V (y := 190) (n := 0) (As := []) (rest := [.int v]) hx hb hml hown hts hE hA rfl (i_tb_law _ (by decide +kernel)) (by decide +kernel) (by decide +kernel) (by decide +kernel) o4 (fun x hx9 => by
    rw [List.mem_singleton.mp hx9]
    exact Or.inl (by rw [s_h_len]; have := (List.getElem?_eq_some_iff.mp (r0 h.1.2.1)).1; omega)) rfl (s_h_at (r0 h.1.2.1)) (by decide +kernel) rfl wR wC (fun a b p q h1 h2 e => dj b a q p h2 h1 e.symm) hS hl.1 (Nat.le_of_ble_eq_true rfl) (by omega) (by omega) dL_law_413 (fun exR H2 locs2 wR wC dj hS => ?_)
  refine lv_icmp_eq (tgt := 1196) hx hb dL_law_416 (by decide) (fun _ => ?_) (fun hne => absurd rfl hne)
  exact kk sh' τC τR W1 rl1 im1 tp1 exC exR H2 locs2 mc ms o1 o2 o5 o7 wC wR (fun a b p q h1 h2 e => dj b a q p h2 h1 e.symm) hS
