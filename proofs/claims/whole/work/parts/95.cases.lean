/-! ===== the law: its cases ===== -/
theorem i_tb_law : ∀ w : Cond, (w ∈ lw_tbl ∧ goodWord w = true) → w ∈ i_tb := fun w hw => List.mem_filter.mpr hw
theorem r0 {sh : List kd} (h : rmSh sh) : sh[0]? = some (.inr (11, [none, some 1, some 2, some 3, some 4, some 5, some 6, some 7, some 8, some 9, some 10, some 11, some 12, some 13, some 14, some 15, some 16, some 17, some 18, none, none, none, none, none, none, none, none, none, none, some 19, some 20, some 21, some 22, some 23, some 24, some 25, some 26, some 27, some 28, some 29, some 30, none, none, none, some 31, some 32, some 33, some 34, some 35, some 36, some 37, none, none])) := (h 0 (by decide)).trans (by decide +kernel)
set_option maxHeartbeats 4000000 in
theorem k_feed {p : Program} {l : Launch} {e : Env} {s : State} {m : MethodId} {below : List Frame} {meth : Method} {c : Code} {H : Heap} {locs : List Loc} {cells slots : Nat} {Q : State → Prop} {D : va_G} {sa sv : Nat → Nat} {b L i : Nat} {xs : Nat → Int32} {ls : Array Slot} {adC adR : iA} {sh sR : List kd} {σC σR : St} {W0 : Wd} {rl : List Cl} {im : Im} {tp : List Nat}
    (hx : p.tables.exec = Jvm.exec) (hb : c.code = code) (hml : c.maxLocals = 4) (hown : s.vm.findClass RL = some m.cls) (hts : ∀ w ∈ i_tb, w.before #[Value.ref b] s = true) (hE : i_E D sa sv (fun q : Nat => s.heap.size ≤ q) s s.heap) (hX : va_X b L xs s s.heap) (hbl : b < s.heap.size)
    (h : IV sh sR σC σR W0 rl im tp) (hbd : sh.length + 120 < i_SB) (wC : i_Wd sa D (fun q : Nat => s.heap.size ≤ q) adC (s_h sh σC) s H) (wR : i_Wd sa D (fun q : Nat => s.heap.size ≤ q) adR (s_h sR σR) s H) (dj : i_apart (i_w sa adC (s_h sh σC)) (i_w sa adR (s_h sR σR))) (hS : va_S (fun q : Nat => s.heap.size ≤ q) s.heap H locs) (hl : lv_has ls 4 [(0, .ref b), (1, i_mv sa adC (.ref 0)), (2, i_mv sa adR (.ref 0)), (3, .int (nI i))]) (hi : i + 6 ≤ L) (hL : L ≤ 3072) (hc : cells + 300 ≤ 633637) (hs : slots + 3000 ≤ 7201338)
    (kk : ∀ (sh' : List kd) (τC τR : St) (W1 : Wd) (rl1 : List Cl) (im1 : Im) (tp1 : List Nat) (exC exR : iA) (H1 : Heap) (locs1 : List Loc) (mc ms : Nat), mc ≤ 300 → ms ≤ 3000 → IV sh' sR τC τR W1 rl1 im1 tp1 → sh'.length ≤ sh.length + 115 → i_Wd sa D (fun q : Nat => s.heap.size ≤ q) (adC ++ exC) (s_h sh' τC) s H1 → i_Wd sa D (fun q : Nat => s.heap.size ≤ q) (adR ++ exR) (s_h sR τR) s H1 → i_apart (i_w sa (adC ++ exC) (s_h sh' τC)) (i_w sa (adR ++ exR) (s_h sR τR)) → va_S (fun q : Nat => s.heap.size ≤ q) s.heap H1 locs1 → W p l e room_1 s m #[Value.ref b] below meth c H1 locs1 (cells + mc) (slots + ms) Q (F0 m 1196 ls [])) :
    W p l e room_1 s m #[Value.ref b] below meth c H locs cells slots Q (F0 m 184 ls []) := by
  have hA : ∀ q : Nat, s.heap.size ≤ q → (fun q : Nat => s.heap.size ≤ q) q := fun _ h => h
  have hbA : ¬ (fun q : Nat => s.heap.size ≤ q) b := Nat.not_le.mpr hbl
  have ix : ∀ j : Nat, j < 6 → vp_in (nI i + nI j) L := fun j hj => by rw [nI_add]; exact vp_in_nI (by omega) (by omega)
  obtain ⟨v, mc, ms, sh', τC, τR, W1, rl1, im1, tp1, o1, o2, o3, o4, o5, o6, o7⟩ := o_feed h hbd (xs (nI i + nI 1).toNatClampNeg) (xs (nI i + nI 2).toNatClampNeg) (xs (nI i + nI 3).toNatClampNeg) (xs (nI i + nI 4).toNatClampNeg) (xs (nI i + nI 5).toNatClampNeg)
  refine lv_aload_n hx hb dL_law_184 rfl (lv_at hl 1 rfl) ?_
  refine lv_aload_n hx hb dL_law_185 rfl (lv_at hl 0 rfl) ?_
  refine lv_iload_n hx hb dL_law_186 rfl (lv_at hl 3 rfl) ?_
  refine lv_iconst (v := nI 1) hx hb dL_law_187 (by decide) ?_
  refine lv_iadd hx hb dL_law_188 ?_
  refine va_sld hx hb hX hbl hbA hS (ix 1 (by omega)) dL_law_189 ?_
  refine lv_aload_n hx hb dL_law_190 rfl (lv_at hl 0 rfl) ?_
  refine lv_iload_n hx hb dL_law_191 rfl (lv_at hl 3 rfl) ?_
  refine lv_iconst (v := nI 2) hx hb dL_law_192 (by decide) ?_
  refine lv_iadd hx hb dL_law_193 ?_
  refine va_sld hx hb hX hbl hbA hS (ix 2 (by omega)) dL_law_194 ?_
  refine lv_aload_n hx hb dL_law_195 rfl (lv_at hl 0 rfl) ?_
  refine lv_iload_n hx hb dL_law_196 rfl (lv_at hl 3 rfl) ?_
  refine lv_iconst (v := nI 3) hx hb dL_law_197 (by decide) ?_
  refine lv_iadd hx hb dL_law_198 ?_
  refine va_sld hx hb hX hbl hbA hS (ix 3 (by omega)) dL_law_199 ?_
  refine lv_aload_n hx hb dL_law_200 rfl (lv_at hl 0 rfl) ?_
  refine lv_iload_n hx hb dL_law_201 rfl (lv_at hl 3 rfl) ?_
  refine lv_iconst (v := nI 4) hx hb dL_law_202 (by decide) ?_
  refine lv_iadd hx hb dL_law_203 ?_
  refine va_sld hx hb hX hbl hbA hS (ix 4 (by omega)) dL_law_204 ?_
  refine lv_aload_n hx hb dL_law_205 rfl (lv_at hl 0 rfl) ?_
  refine lv_iload_n hx hb dL_law_206 rfl (lv_at hl 3 rfl) ?_
  refine lv_iconst (v := nI 5) hx hb dL_law_207 (by decide) ?_
  refine lv_iadd hx hb dL_law_208 ?_
  refine va_sld hx hb hX hbl hbA hS (ix 5 (by omega)) dL_law_209 ?_
  refine law_V (y := 91) (n := 5) (As := [.int (xs (nI i + nI 1).toNatClampNeg), .int (xs (nI i + nI 2).toNatClampNeg), .int (xs (nI i + nI 3).toNatClampNeg), .int (xs (nI i + nI 4).toNatClampNeg), .int (xs (nI i + nI 5).toNatClampNeg)]) (rest := []) hx hb hml hown hts hE hA rfl (i_tb_law _ (by decide +kernel)) (by decide +kernel) (by decide +kernel) (by decide +kernel) o3 (fun x hx9 => by
    rcases List.mem_cons.mp hx9 with rfl | hx9
    · exact Or.inl (by rw [s_h_len]; have := cSh_len h.1.1; omega)
    · simp at hx9
      rcases hx9 with rfl | rfl | rfl | rfl | rfl <;> trivial) rfl (c0 h.1.1) (by decide +kernel) rfl wC wR dj hS hl.1 (Nat.le_of_ble_eq_true rfl) (by omega) (by omega) dL_law_210 (fun exC H1 locs1 wC wR dj hS => ?_)
  refine lv_aload_n hx hb dL_law_213 rfl (lv_at hl 2 rfl) ?_
  refine lv_aload_n hx hb dL_law_214 rfl (lv_at hl 0 rfl) ?_
  refine lv_iload_n hx hb dL_law_215 rfl (lv_at hl 3 rfl) ?_
  refine lv_iconst (v := nI 1) hx hb dL_law_216 (by decide) ?_
  refine lv_iadd hx hb dL_law_217 ?_
  refine va_sld hx hb hX hbl hbA hS (ix 1 (by omega)) dL_law_218 ?_
  refine lv_aload_n hx hb dL_law_219 rfl (lv_at hl 0 rfl) ?_
  refine lv_iload_n hx hb dL_law_220 rfl (lv_at hl 3 rfl) ?_
  refine lv_iconst (v := nI 2) hx hb dL_law_221 (by decide) ?_
  refine lv_iadd hx hb dL_law_222 ?_
  refine va_sld hx hb hX hbl hbA hS (ix 2 (by omega)) dL_law_223 ?_
  refine lv_aload_n hx hb dL_law_224 rfl (lv_at hl 0 rfl) ?_
  refine lv_iload_n hx hb dL_law_225 rfl (lv_at hl 3 rfl) ?_
  refine lv_iconst (v := nI 3) hx hb dL_law_226 (by decide) ?_
  refine lv_iadd hx hb dL_law_227 ?_
  refine va_sld hx hb hX hbl hbA hS (ix 3 (by omega)) dL_law_228 ?_
  refine lv_aload_n hx hb dL_law_229 rfl (lv_at hl 0 rfl) ?_
  refine lv_iload_n hx hb dL_law_230 rfl (lv_at hl 3 rfl) ?_
  refine lv_iconst (v := nI 4) hx hb dL_law_231 (by decide) ?_
  refine lv_iadd hx hb dL_law_232 ?_
  refine va_sld hx hb hX hbl hbA hS (ix 4 (by omega)) dL_law_233 ?_
  refine lv_aload_n hx hb dL_law_234 rfl (lv_at hl 0 rfl) ?_
  refine lv_iload_n hx hb dL_law_235 rfl (lv_at hl 3 rfl) ?_
  refine lv_iconst (v := nI 5) hx hb dL_law_236 (by decide) ?_
  refine lv_iadd hx hb dL_law_237 ?_
  refine va_sld hx hb hX hbl hbA hS (ix 5 (by omega)) dL_law_238 ?_
  refine law_V (y := 133) (n := 5) (As := [.int (xs (nI i + nI 1).toNatClampNeg), .int (xs (nI i + nI 2).toNatClampNeg), .int (xs (nI i + nI 3).toNatClampNeg), .int (xs (nI i + nI 4).toNatClampNeg), .int (xs (nI i + nI 5).toNatClampNeg)]) (rest := [.int v]) hx hb hml hown hts hE hA rfl (i_tb_law _ (by decide +kernel)) (by decide +kernel) (by decide +kernel) (by decide +kernel) o4 (fun x hx9 => by
    rcases List.mem_cons.mp hx9 with rfl | hx9
    · exact Or.inl (by rw [s_h_len]; have := (List.getElem?_eq_some_iff.mp (r0 h.1.2.1)).1; omega)
    · simp at hx9
      rcases hx9 with rfl | rfl | rfl | rfl | rfl <;> trivial) rfl (s_h_at (r0 h.1.2.1)) (by decide +kernel) rfl wR wC (fun a b p q h1 h2 e => dj b a q p h2 h1 e.symm) hS hl.1 (Nat.le_of_ble_eq_true rfl) (by omega) (by omega) dL_law_239 (fun exR H2 locs2 wR wC dj hS => ?_)
  refine lv_icmp_eq (tgt := 1196) hx hb dL_law_242 (by decide) (fun _ => ?_) (fun hne => absurd rfl hne)
  exact kk sh' τC τR W1 rl1 im1 tp1 exC exR H2 locs2 mc ms o1 o2 o5 o7 wC wR (fun a b p q h1 h2 e => dj b a q p h2 h1 e.symm) hS
set_option maxHeartbeats 4000000 in
theorem k_end {p : Program} {l : Launch} {e : Env} {s : State} {m : MethodId} {below : List Frame} {meth : Method} {c : Code} {H : Heap} {locs : List Loc} {cells slots : Nat} {Q : State → Prop} {D : va_G} {sa sv : Nat → Nat} {b L i : Nat} {xs : Nat → Int32} {ls : Array Slot} {adC adR : iA} {sh sR : List kd} {σC σR : St} {W0 : Wd} {rl : List Cl} {im : Im} {tp : List Nat}
    (hx : p.tables.exec = Jvm.exec) (hb : c.code = code) (hml : c.maxLocals = 4) (hown : s.vm.findClass RL = some m.cls) (hts : ∀ w ∈ i_tb, w.before #[Value.ref b] s = true) (hE : i_E D sa sv (fun q : Nat => s.heap.size ≤ q) s s.heap) (hX : va_X b L xs s s.heap) (hbl : b < s.heap.size)
    (h : IV sh sR σC σR W0 rl im tp) (hbd : sh.length + 120 < i_SB) (wC : i_Wd sa D (fun q : Nat => s.heap.size ≤ q) adC (s_h sh σC) s H) (wR : i_Wd sa D (fun q : Nat => s.heap.size ≤ q) adR (s_h sR σR) s H) (dj : i_apart (i_w sa adC (s_h sh σC)) (i_w sa adR (s_h sR σR))) (hS : va_S (fun q : Nat => s.heap.size ≤ q) s.heap H locs) (hl : lv_has ls 4 [(0, .ref b), (1, i_mv sa adC (.ref 0)), (2, i_mv sa adR (.ref 0)), (3, .int (nI i))]) (hi : i + 6 ≤ L) (hL : L ≤ 3072) (hc : cells + 300 ≤ 633637) (hs : slots + 3000 ≤ 7201338)
    (kk : ∀ (sh' : List kd) (τC τR : St) (W1 : Wd) (rl1 : List Cl) (im1 : Im) (tp1 : List Nat) (exC exR : iA) (H1 : Heap) (locs1 : List Loc) (mc ms : Nat), mc ≤ 300 → ms ≤ 3000 → IV sh' sR τC τR W1 rl1 im1 tp1 → sh'.length ≤ sh.length + 115 → i_Wd sa D (fun q : Nat => s.heap.size ≤ q) (adC ++ exC) (s_h sh' τC) s H1 → i_Wd sa D (fun q : Nat => s.heap.size ≤ q) (adR ++ exR) (s_h sR τR) s H1 → i_apart (i_w sa (adC ++ exC) (s_h sh' τC)) (i_w sa (adR ++ exR) (s_h sR τR)) → va_S (fun q : Nat => s.heap.size ≤ q) s.heap H1 locs1 → W p l e room_1 s m #[Value.ref b] below meth c H1 locs1 (cells + mc) (slots + ms) Q (F0 m 1196 ls [])) :
    W p l e room_1 s m #[Value.ref b] below meth c H locs cells slots Q (F0 m 247 ls []) := by
  have hA : ∀ q : Nat, s.heap.size ≤ q → (fun q : Nat => s.heap.size ≤ q) q := fun _ h => h
  have hbA : ¬ (fun q : Nat => s.heap.size ≤ q) b := Nat.not_le.mpr hbl
  have ix : ∀ j : Nat, j < 6 → vp_in (nI i + nI j) L := fun j hj => by rw [nI_add]; exact vp_in_nI (by omega) (by omega)
  obtain ⟨v, mc, ms, sh', τC, τR, W1, rl1, im1, tp1, o1, o2, o3, o4, o5, o6, o7⟩ := o_end h hbd (xs (nI i + nI 1).toNatClampNeg)
  refine lv_aload_n hx hb dL_law_247 rfl (lv_at hl 1 rfl) ?_
  refine lv_aload_n hx hb dL_law_248 rfl (lv_at hl 0 rfl) ?_
  refine lv_iload_n hx hb dL_law_249 rfl (lv_at hl 3 rfl) ?_
  refine lv_iconst (v := nI 1) hx hb dL_law_250 (by decide) ?_
  refine lv_iadd hx hb dL_law_251 ?_
  refine va_sld hx hb hX hbl hbA hS (ix 1 (by omega)) dL_law_252 ?_
  refine law_V (y := 92) (n := 1) (As := [.int (xs (nI i + nI 1).toNatClampNeg)]) (rest := []) hx hb hml hown hts hE hA rfl (i_tb_law _ (by decide +kernel)) (by decide +kernel) (by decide +kernel) (by decide +kernel) o3 (fun x hx9 => by
    rcases List.mem_cons.mp hx9 with rfl | hx9
    · exact Or.inl (by rw [s_h_len]; have := cSh_len h.1.1; omega)
    · simp at hx9
      subst hx9; trivial) rfl (c0 h.1.1) (by decide +kernel) rfl wC wR dj hS hl.1 (Nat.le_of_ble_eq_true rfl) (by omega) (by omega) dL_law_253 (fun exC H1 locs1 wC wR dj hS => ?_)
  refine lv_aload_n hx hb dL_law_256 rfl (lv_at hl 2 rfl) ?_
  refine lv_aload_n hx hb dL_law_257 rfl (lv_at hl 0 rfl) ?_
  refine lv_iload_n hx hb dL_law_258 rfl (lv_at hl 3 rfl) ?_
  refine lv_iconst (v := nI 1) hx hb dL_law_259 (by decide) ?_
  refine lv_iadd hx hb dL_law_260 ?_
  refine va_sld hx hb hX hbl hbA hS (ix 1 (by omega)) dL_law_261 ?_
  refine law_V (y := 135) (n := 1) (As := [.int (xs (nI i + nI 1).toNatClampNeg)]) (rest := [.int v]) hx hb hml hown hts hE hA rfl (i_tb_law _ (by decide +kernel)) (by decide +kernel) (by decide +kernel) (by decide +kernel) o4 (fun x hx9 => by
    rcases List.mem_cons.mp hx9 with rfl | hx9
    · exact Or.inl (by rw [s_h_len]; have := (List.getElem?_eq_some_iff.mp (r0 h.1.2.1)).1; omega)
    · simp at hx9
      subst hx9; trivial) rfl (s_h_at (r0 h.1.2.1)) (by decide +kernel) rfl wR wC (fun a b p q h1 h2 e => dj b a q p h2 h1 e.symm) hS hl.1 (Nat.le_of_ble_eq_true rfl) (by omega) (by omega) dL_law_262 (fun exR H2 locs2 wR wC dj hS => ?_)
  refine lv_icmp_eq (tgt := 1196) hx hb dL_law_265 (by decide) (fun _ => ?_) (fun hne => absurd rfl hne)
  exact kk sh' τC τR W1 rl1 im1 tp1 exC exR H2 locs2 mc ms o1 o2 o5 o7 wC wR (fun a b p q h1 h2 e => dj b a q p h2 h1 e.symm) hS
set_option maxHeartbeats 4000000 in
theorem k_court {p : Program} {l : Launch} {e : Env} {s : State} {m : MethodId} {below : List Frame} {meth : Method} {c : Code} {H : Heap} {locs : List Loc} {cells slots : Nat} {Q : State → Prop} {D : va_G} {sa sv : Nat → Nat} {b L i : Nat} {xs : Nat → Int32} {ls : Array Slot} {adC adR : iA} {sh sR : List kd} {σC σR : St} {W0 : Wd} {rl : List Cl} {im : Im} {tp : List Nat}
    (hx : p.tables.exec = Jvm.exec) (hb : c.code = code) (hml : c.maxLocals = 4) (hown : s.vm.findClass RL = some m.cls) (hts : ∀ w ∈ i_tb, w.before #[Value.ref b] s = true) (hE : i_E D sa sv (fun q : Nat => s.heap.size ≤ q) s s.heap) (hX : va_X b L xs s s.heap) (hbl : b < s.heap.size)
    (h : IV sh sR σC σR W0 rl im tp) (hbd : sh.length + 120 < i_SB) (wC : i_Wd sa D (fun q : Nat => s.heap.size ≤ q) adC (s_h sh σC) s H) (wR : i_Wd sa D (fun q : Nat => s.heap.size ≤ q) adR (s_h sR σR) s H) (dj : i_apart (i_w sa adC (s_h sh σC)) (i_w sa adR (s_h sR σR))) (hS : va_S (fun q : Nat => s.heap.size ≤ q) s.heap H locs) (hl : lv_has ls 4 [(0, .ref b), (1, i_mv sa adC (.ref 0)), (2, i_mv sa adR (.ref 0)), (3, .int (nI i))]) (hi : i + 6 ≤ L) (hL : L ≤ 3072) (hc : cells + 300 ≤ 633637) (hs : slots + 3000 ≤ 7201338)
    (kk : ∀ (sh' : List kd) (τC τR : St) (W1 : Wd) (rl1 : List Cl) (im1 : Im) (tp1 : List Nat) (exC exR : iA) (H1 : Heap) (locs1 : List Loc) (mc ms : Nat), mc ≤ 300 → ms ≤ 3000 → IV sh' sR τC τR W1 rl1 im1 tp1 → sh'.length ≤ sh.length + 115 → i_Wd sa D (fun q : Nat => s.heap.size ≤ q) (adC ++ exC) (s_h sh' τC) s H1 → i_Wd sa D (fun q : Nat => s.heap.size ≤ q) (adR ++ exR) (s_h sR τR) s H1 → i_apart (i_w sa (adC ++ exC) (s_h sh' τC)) (i_w sa (adR ++ exR) (s_h sR τR)) → va_S (fun q : Nat => s.heap.size ≤ q) s.heap H1 locs1 → W p l e room_1 s m #[Value.ref b] below meth c H1 locs1 (cells + mc) (slots + ms) Q (F0 m 1196 ls [])) :
    W p l e room_1 s m #[Value.ref b] below meth c H locs cells slots Q (F0 m 270 ls []) := by
  have hA : ∀ q : Nat, s.heap.size ≤ q → (fun q : Nat => s.heap.size ≤ q) q := fun _ h => h
  have hbA : ¬ (fun q : Nat => s.heap.size ≤ q) b := Nat.not_le.mpr hbl
  have ix : ∀ j : Nat, j < 6 → vp_in (nI i + nI j) L := fun j hj => by rw [nI_add]; exact vp_in_nI (by omega) (by omega)
  obtain ⟨v, mc, ms, sh', τC, τR, W1, rl1, im1, tp1, o1, o2, o3, o4, o5, o6, o7⟩ := o_court h hbd
  refine lv_aload_n hx hb dL_law_270 rfl (lv_at hl 1 rfl) ?_
  refine law_V (y := 93) (n := 0) (As := []) (rest := []) hx hb hml hown hts hE hA rfl (i_tb_law _ (by decide +kernel)) (by decide +kernel) (by decide +kernel) (by decide +kernel) o3 (fun x hx9 => by
    rw [List.mem_singleton.mp hx9]
    exact Or.inl (by rw [s_h_len]; have := cSh_len h.1.1; omega)) rfl (c0 h.1.1) (by decide +kernel) rfl wC wR dj hS hl.1 (Nat.le_of_ble_eq_true rfl) (by omega) (by omega) dL_law_271 (fun exC H1 locs1 wC wR dj hS => ?_)
  refine lv_aload_n hx hb dL_law_274 rfl (lv_at hl 2 rfl) ?_
  refine law_V (y := 166) (n := 0) (As := []) (rest := [.int v]) hx hb hml hown hts hE hA rfl (i_tb_law _ (by decide +kernel)) (by decide +kernel) (by decide +kernel) (by decide +kernel) o4 (fun x hx9 => by
    rw [List.mem_singleton.mp hx9]
    exact Or.inl (by rw [s_h_len]; have := (List.getElem?_eq_some_iff.mp (r0 h.1.2.1)).1; omega)) rfl (s_h_at (r0 h.1.2.1)) (by decide +kernel) rfl wR wC (fun a b p q h1 h2 e => dj b a q p h2 h1 e.symm) hS hl.1 (Nat.le_of_ble_eq_true rfl) (by omega) (by omega) dL_law_275 (fun exR H2 locs2 wR wC dj hS => ?_)
  refine lv_icmp_eq (tgt := 1196) hx hb dL_law_278 (by decide) (fun _ => ?_) (fun hne => absurd rfl hne)
  exact kk sh' τC τR W1 rl1 im1 tp1 exC exR H2 locs2 mc ms o1 o2 o5 o7 wC wR (fun a b p q h1 h2 e => dj b a q p h2 h1 e.symm) hS
set_option maxHeartbeats 4000000 in
theorem k_rule {p : Program} {l : Launch} {e : Env} {s : State} {m : MethodId} {below : List Frame} {meth : Method} {c : Code} {H : Heap} {locs : List Loc} {cells slots : Nat} {Q : State → Prop} {D : va_G} {sa sv : Nat → Nat} {b L i : Nat} {xs : Nat → Int32} {ls : Array Slot} {adC adR : iA} {sh sR : List kd} {σC σR : St} {W0 : Wd} {rl : List Cl} {im : Im} {tp : List Nat}
    (hx : p.tables.exec = Jvm.exec) (hb : c.code = code) (hml : c.maxLocals = 4) (hown : s.vm.findClass RL = some m.cls) (hts : ∀ w ∈ i_tb, w.before #[Value.ref b] s = true) (hE : i_E D sa sv (fun q : Nat => s.heap.size ≤ q) s s.heap) (hX : va_X b L xs s s.heap) (hbl : b < s.heap.size)
    (h : IV sh sR σC σR W0 rl im tp) (hbd : sh.length + 120 < i_SB) (wC : i_Wd sa D (fun q : Nat => s.heap.size ≤ q) adC (s_h sh σC) s H) (wR : i_Wd sa D (fun q : Nat => s.heap.size ≤ q) adR (s_h sR σR) s H) (dj : i_apart (i_w sa adC (s_h sh σC)) (i_w sa adR (s_h sR σR))) (hS : va_S (fun q : Nat => s.heap.size ≤ q) s.heap H locs) (hl : lv_has ls 4 [(0, .ref b), (1, i_mv sa adC (.ref 0)), (2, i_mv sa adR (.ref 0)), (3, .int (nI i))]) (hi : i + 6 ≤ L) (hL : L ≤ 3072) (hc : cells + 300 ≤ 633637) (hs : slots + 3000 ≤ 7201338)
    (kk : ∀ (sh' : List kd) (τC τR : St) (W1 : Wd) (rl1 : List Cl) (im1 : Im) (tp1 : List Nat) (exC exR : iA) (H1 : Heap) (locs1 : List Loc) (mc ms : Nat), mc ≤ 300 → ms ≤ 3000 → IV sh' sR τC τR W1 rl1 im1 tp1 → sh'.length ≤ sh.length + 115 → i_Wd sa D (fun q : Nat => s.heap.size ≤ q) (adC ++ exC) (s_h sh' τC) s H1 → i_Wd sa D (fun q : Nat => s.heap.size ≤ q) (adR ++ exR) (s_h sR τR) s H1 → i_apart (i_w sa (adC ++ exC) (s_h sh' τC)) (i_w sa (adR ++ exR) (s_h sR τR)) → va_S (fun q : Nat => s.heap.size ≤ q) s.heap H1 locs1 → W p l e room_1 s m #[Value.ref b] below meth c H1 locs1 (cells + mc) (slots + ms) Q (F0 m 1196 ls [])) :
    W p l e room_1 s m #[Value.ref b] below meth c H locs cells slots Q (F0 m 283 ls []) := by
  have hA : ∀ q : Nat, s.heap.size ≤ q → (fun q : Nat => s.heap.size ≤ q) q := fun _ h => h
  have hbA : ¬ (fun q : Nat => s.heap.size ≤ q) b := Nat.not_le.mpr hbl
  have ix : ∀ j : Nat, j < 6 → vp_in (nI i + nI j) L := fun j hj => by rw [nI_add]; exact vp_in_nI (by omega) (by omega)
  obtain ⟨v, mc, ms, sh', τC, τR, W1, rl1, im1, tp1, o1, o2, o3, o4, o5, o6, o7⟩ := o_rule h hbd
  refine lv_aload_n hx hb dL_law_283 rfl (lv_at hl 1 rfl) ?_
  refine law_V (y := 94) (n := 0) (As := []) (rest := []) hx hb hml hown hts hE hA rfl (i_tb_law _ (by decide +kernel)) (by decide +kernel) (by decide +kernel) (by decide +kernel) o3 (fun x hx9 => by
    rw [List.mem_singleton.mp hx9]
    exact Or.inl (by rw [s_h_len]; have := cSh_len h.1.1; omega)) rfl (c0 h.1.1) (by decide +kernel) rfl wC wR dj hS hl.1 (Nat.le_of_ble_eq_true rfl) (by omega) (by omega) dL_law_284 (fun exC H1 locs1 wC wR dj hS => ?_)
  refine lv_aload_n hx hb dL_law_287 rfl (lv_at hl 2 rfl) ?_
  refine law_V (y := 168) (n := 0) (As := []) (rest := [.int v]) hx hb hml hown hts hE hA rfl (i_tb_law _ (by decide +kernel)) (by decide +kernel) (by decide +kernel) (by decide +kernel) o4 (fun x hx9 => by
    rw [List.mem_singleton.mp hx9]
    exact Or.inl (by rw [s_h_len]; have := (List.getElem?_eq_some_iff.mp (r0 h.1.2.1)).1; omega)) rfl (s_h_at (r0 h.1.2.1)) (by decide +kernel) rfl wR wC (fun a b p q h1 h2 e => dj b a q p h2 h1 e.symm) hS hl.1 (Nat.le_of_ble_eq_true rfl) (by omega) (by omega) dL_law_288 (fun exR H2 locs2 wR wC dj hS => ?_)
  refine lv_icmp_eq (tgt := 1196) hx hb dL_law_291 (by decide) (fun _ => ?_) (fun hne => absurd rfl hne)
  exact kk sh' τC τR W1 rl1 im1 tp1 exC exR H2 locs2 mc ms o1 o2 o5 o7 wC wR (fun a b p q h1 h2 e => dj b a q p h2 h1 e.symm) hS
set_option maxHeartbeats 4000000 in
theorem k_force {p : Program} {l : Launch} {e : Env} {s : State} {m : MethodId} {below : List Frame} {meth : Method} {c : Code} {H : Heap} {locs : List Loc} {cells slots : Nat} {Q : State → Prop} {D : va_G} {sa sv : Nat → Nat} {b L i : Nat} {xs : Nat → Int32} {ls : Array Slot} {adC adR : iA} {sh sR : List kd} {σC σR : St} {W0 : Wd} {rl : List Cl} {im : Im} {tp : List Nat}
    (hx : p.tables.exec = Jvm.exec) (hb : c.code = code) (hml : c.maxLocals = 4) (hown : s.vm.findClass RL = some m.cls) (hts : ∀ w ∈ i_tb, w.before #[Value.ref b] s = true) (hE : i_E D sa sv (fun q : Nat => s.heap.size ≤ q) s s.heap) (hX : va_X b L xs s s.heap) (hbl : b < s.heap.size)
    (h : IV sh sR σC σR W0 rl im tp) (hbd : sh.length + 120 < i_SB) (wC : i_Wd sa D (fun q : Nat => s.heap.size ≤ q) adC (s_h sh σC) s H) (wR : i_Wd sa D (fun q : Nat => s.heap.size ≤ q) adR (s_h sR σR) s H) (dj : i_apart (i_w sa adC (s_h sh σC)) (i_w sa adR (s_h sR σR))) (hS : va_S (fun q : Nat => s.heap.size ≤ q) s.heap H locs) (hl : lv_has ls 4 [(0, .ref b), (1, i_mv sa adC (.ref 0)), (2, i_mv sa adR (.ref 0)), (3, .int (nI i))]) (hi : i + 6 ≤ L) (hL : L ≤ 3072) (hc : cells + 300 ≤ 633637) (hs : slots + 3000 ≤ 7201338)
    (kk : ∀ (sh' : List kd) (τC τR : St) (W1 : Wd) (rl1 : List Cl) (im1 : Im) (tp1 : List Nat) (exC exR : iA) (H1 : Heap) (locs1 : List Loc) (mc ms : Nat), mc ≤ 300 → ms ≤ 3000 → IV sh' sR τC τR W1 rl1 im1 tp1 → sh'.length ≤ sh.length + 115 → i_Wd sa D (fun q : Nat => s.heap.size ≤ q) (adC ++ exC) (s_h sh' τC) s H1 → i_Wd sa D (fun q : Nat => s.heap.size ≤ q) (adR ++ exR) (s_h sR τR) s H1 → i_apart (i_w sa (adC ++ exC) (s_h sh' τC)) (i_w sa (adR ++ exR) (s_h sR τR)) → va_S (fun q : Nat => s.heap.size ≤ q) s.heap H1 locs1 → W p l e room_1 s m #[Value.ref b] below meth c H1 locs1 (cells + mc) (slots + ms) Q (F0 m 1196 ls [])) :
    W p l e room_1 s m #[Value.ref b] below meth c H locs cells slots Q (F0 m 296 ls []) := by
  have hA : ∀ q : Nat, s.heap.size ≤ q → (fun q : Nat => s.heap.size ≤ q) q := fun _ h => h
  have hbA : ¬ (fun q : Nat => s.heap.size ≤ q) b := Nat.not_le.mpr hbl
  have ix : ∀ j : Nat, j < 6 → vp_in (nI i + nI j) L := fun j hj => by rw [nI_add]; exact vp_in_nI (by omega) (by omega)
  obtain ⟨v, mc, ms, sh', τC, τR, W1, rl1, im1, tp1, o1, o2, o3, o4, o5, o6, o7⟩ := o_force h hbd (xs (nI i + nI 1).toNatClampNeg)
  refine lv_aload_n hx hb dL_law_296 rfl (lv_at hl 1 rfl) ?_
  refine lv_aload_n hx hb dL_law_297 rfl (lv_at hl 0 rfl) ?_
  refine lv_iload_n hx hb dL_law_298 rfl (lv_at hl 3 rfl) ?_
  refine lv_iconst (v := nI 1) hx hb dL_law_299 (by decide) ?_
  refine lv_iadd hx hb dL_law_300 ?_
  refine va_sld hx hb hX hbl hbA hS (ix 1 (by omega)) dL_law_301 ?_
  refine law_V (y := 95) (n := 1) (As := [.int (xs (nI i + nI 1).toNatClampNeg)]) (rest := []) hx hb hml hown hts hE hA rfl (i_tb_law _ (by decide +kernel)) (by decide +kernel) (by decide +kernel) (by decide +kernel) o3 (fun x hx9 => by
    rcases List.mem_cons.mp hx9 with rfl | hx9
    · exact Or.inl (by rw [s_h_len]; have := cSh_len h.1.1; omega)
    · simp at hx9
      subst hx9; trivial) rfl (c0 h.1.1) (by decide +kernel) rfl wC wR dj hS hl.1 (Nat.le_of_ble_eq_true rfl) (by omega) (by omega) dL_law_302 (fun exC H1 locs1 wC wR dj hS => ?_)
  refine lv_aload_n hx hb dL_law_305 rfl (lv_at hl 2 rfl) ?_
  refine lv_aload_n hx hb dL_law_306 rfl (lv_at hl 0 rfl) ?_
  refine lv_iload_n hx hb dL_law_307 rfl (lv_at hl 3 rfl) ?_
  refine lv_iconst (v := nI 1) hx hb dL_law_308 (by decide) ?_
  refine lv_iadd hx hb dL_law_309 ?_
  refine va_sld hx hb hX hbl hbA hS (ix 1 (by omega)) dL_law_310 ?_
  refine law_V (y := 169) (n := 1) (As := [.int (xs (nI i + nI 1).toNatClampNeg)]) (rest := [.int v]) hx hb hml hown hts hE hA rfl (i_tb_law _ (by decide +kernel)) (by decide +kernel) (by decide +kernel) (by decide +kernel) o4 (fun x hx9 => by
    rcases List.mem_cons.mp hx9 with rfl | hx9
    · exact Or.inl (by rw [s_h_len]; have := (List.getElem?_eq_some_iff.mp (r0 h.1.2.1)).1; omega)
    · simp at hx9
      subst hx9; trivial) rfl (s_h_at (r0 h.1.2.1)) (by decide +kernel) rfl wR wC (fun a b p q h1 h2 e => dj b a q p h2 h1 e.symm) hS hl.1 (Nat.le_of_ble_eq_true rfl) (by omega) (by omega) dL_law_311 (fun exR H2 locs2 wR wC dj hS => ?_)
  refine lv_icmp_eq (tgt := 1196) hx hb dL_law_314 (by decide) (fun _ => ?_) (fun hne => absurd rfl hne)
  exact kk sh' τC τR W1 rl1 im1 tp1 exC exR H2 locs2 mc ms o1 o2 o5 o7 wC wR (fun a b p q h1 h2 e => dj b a q p h2 h1 e.symm) hS
set_option maxHeartbeats 4000000 in
theorem k_thing {p : Program} {l : Launch} {e : Env} {s : State} {m : MethodId} {below : List Frame} {meth : Method} {c : Code} {H : Heap} {locs : List Loc} {cells slots : Nat} {Q : State → Prop} {D : va_G} {sa sv : Nat → Nat} {b L i : Nat} {xs : Nat → Int32} {ls : Array Slot} {adC adR : iA} {sh sR : List kd} {σC σR : St} {W0 : Wd} {rl : List Cl} {im : Im} {tp : List Nat}
    (hx : p.tables.exec = Jvm.exec) (hb : c.code = code) (hml : c.maxLocals = 4) (hown : s.vm.findClass RL = some m.cls) (hts : ∀ w ∈ i_tb, w.before #[Value.ref b] s = true) (hE : i_E D sa sv (fun q : Nat => s.heap.size ≤ q) s s.heap) (hX : va_X b L xs s s.heap) (hbl : b < s.heap.size)
    (h : IV sh sR σC σR W0 rl im tp) (hbd : sh.length + 120 < i_SB) (wC : i_Wd sa D (fun q : Nat => s.heap.size ≤ q) adC (s_h sh σC) s H) (wR : i_Wd sa D (fun q : Nat => s.heap.size ≤ q) adR (s_h sR σR) s H) (dj : i_apart (i_w sa adC (s_h sh σC)) (i_w sa adR (s_h sR σR))) (hS : va_S (fun q : Nat => s.heap.size ≤ q) s.heap H locs) (hl : lv_has ls 4 [(0, .ref b), (1, i_mv sa adC (.ref 0)), (2, i_mv sa adR (.ref 0)), (3, .int (nI i))]) (hi : i + 6 ≤ L) (hL : L ≤ 3072) (hc : cells + 300 ≤ 633637) (hs : slots + 3000 ≤ 7201338)
    (kk : ∀ (sh' : List kd) (τC τR : St) (W1 : Wd) (rl1 : List Cl) (im1 : Im) (tp1 : List Nat) (exC exR : iA) (H1 : Heap) (locs1 : List Loc) (mc ms : Nat), mc ≤ 300 → ms ≤ 3000 → IV sh' sR τC τR W1 rl1 im1 tp1 → sh'.length ≤ sh.length + 115 → i_Wd sa D (fun q : Nat => s.heap.size ≤ q) (adC ++ exC) (s_h sh' τC) s H1 → i_Wd sa D (fun q : Nat => s.heap.size ≤ q) (adR ++ exR) (s_h sR τR) s H1 → i_apart (i_w sa (adC ++ exC) (s_h sh' τC)) (i_w sa (adR ++ exR) (s_h sR τR)) → va_S (fun q : Nat => s.heap.size ≤ q) s.heap H1 locs1 → W p l e room_1 s m #[Value.ref b] below meth c H1 locs1 (cells + mc) (slots + ms) Q (F0 m 1196 ls [])) :
    W p l e room_1 s m #[Value.ref b] below meth c H locs cells slots Q (F0 m 319 ls []) := by
  have hA : ∀ q : Nat, s.heap.size ≤ q → (fun q : Nat => s.heap.size ≤ q) q := fun _ h => h
  have hbA : ¬ (fun q : Nat => s.heap.size ≤ q) b := Nat.not_le.mpr hbl
  have ix : ∀ j : Nat, j < 6 → vp_in (nI i + nI j) L := fun j hj => by rw [nI_add]; exact vp_in_nI (by omega) (by omega)
  obtain ⟨v, mc, ms, sh', τC, τR, W1, rl1, im1, tp1, o1, o2, o3, o4, o5, o6, o7⟩ := o_thing h hbd (xs (nI i + nI 1).toNatClampNeg) (xs (nI i + nI 2).toNatClampNeg)
  refine lv_aload_n hx hb dL_law_319 rfl (lv_at hl 1 rfl) ?_
  refine lv_aload_n hx hb dL_law_320 rfl (lv_at hl 0 rfl) ?_
  refine lv_iload_n hx hb dL_law_321 rfl (lv_at hl 3 rfl) ?_
  refine lv_iconst (v := nI 1) hx hb dL_law_322 (by decide) ?_
  refine lv_iadd hx hb dL_law_323 ?_
  refine va_sld hx hb hX hbl hbA hS (ix 1 (by omega)) dL_law_324 ?_
  refine lv_aload_n hx hb dL_law_325 rfl (lv_at hl 0 rfl) ?_
  refine lv_iload_n hx hb dL_law_326 rfl (lv_at hl 3 rfl) ?_
  refine lv_iconst (v := nI 2) hx hb dL_law_327 (by decide) ?_
  refine lv_iadd hx hb dL_law_328 ?_
  refine va_sld hx hb hX hbl hbA hS (ix 2 (by omega)) dL_law_329 ?_
  refine law_V (y := 96) (n := 2) (As := [.int (xs (nI i + nI 1).toNatClampNeg), .int (xs (nI i + nI 2).toNatClampNeg)]) (rest := []) hx hb hml hown hts hE hA rfl (i_tb_law _ (by decide +kernel)) (by decide +kernel) (by decide +kernel) (by decide +kernel) o3 (fun x hx9 => by
    rcases List.mem_cons.mp hx9 with rfl | hx9
    · exact Or.inl (by rw [s_h_len]; have := cSh_len h.1.1; omega)
    · simp at hx9
      rcases hx9 with rfl | rfl <;> trivial) rfl (c0 h.1.1) (by decide +kernel) rfl wC wR dj hS hl.1 (Nat.le_of_ble_eq_true rfl) (by omega) (by omega) dL_law_330 (fun exC H1 locs1 wC wR dj hS => ?_)
  refine lv_aload_n hx hb dL_law_333 rfl (lv_at hl 2 rfl) ?_
  refine lv_aload_n hx hb dL_law_334 rfl (lv_at hl 0 rfl) ?_
  refine lv_iload_n hx hb dL_law_335 rfl (lv_at hl 3 rfl) ?_
  refine lv_iconst (v := nI 1) hx hb dL_law_336 (by decide) ?_
  refine lv_iadd hx hb dL_law_337 ?_
  refine va_sld hx hb hX hbl hbA hS (ix 1 (by omega)) dL_law_338 ?_
  refine lv_aload_n hx hb dL_law_339 rfl (lv_at hl 0 rfl) ?_
  refine lv_iload_n hx hb dL_law_340 rfl (lv_at hl 3 rfl) ?_
  refine lv_iconst (v := nI 2) hx hb dL_law_341 (by decide) ?_
  refine lv_iadd hx hb dL_law_342 ?_
  refine va_sld hx hb hX hbl hbA hS (ix 2 (by omega)) dL_law_343 ?_
  refine law_V (y := 175) (n := 2) (As := [.int (xs (nI i + nI 1).toNatClampNeg), .int (xs (nI i + nI 2).toNatClampNeg)]) (rest := [.int v]) hx hb hml hown hts hE hA rfl (i_tb_law _ (by decide +kernel)) (by decide +kernel) (by decide +kernel) (by decide +kernel) o4 (fun x hx9 => by
    rcases List.mem_cons.mp hx9 with rfl | hx9
    · exact Or.inl (by rw [s_h_len]; have := (List.getElem?_eq_some_iff.mp (r0 h.1.2.1)).1; omega)
    · simp at hx9
      rcases hx9 with rfl | rfl <;> trivial) rfl (s_h_at (r0 h.1.2.1)) (by decide +kernel) rfl wR wC (fun a b p q h1 h2 e => dj b a q p h2 h1 e.symm) hS hl.1 (Nat.le_of_ble_eq_true rfl) (by omega) (by omega) dL_law_344 (fun exR H2 locs2 wR wC dj hS => ?_)
  refine lv_icmp_eq (tgt := 1196) hx hb dL_law_347 (by decide) (fun _ => ?_) (fun hne => absurd rfl hne)
  exact kk sh' τC τR W1 rl1 im1 tp1 exC exR H2 locs2 mc ms o1 o2 o5 o7 wC wR (fun a b p q h1 h2 e => dj b a q p h2 h1 e.symm) hS
set_option maxHeartbeats 4000000 in
theorem k_usual {p : Program} {l : Launch} {e : Env} {s : State} {m : MethodId} {below : List Frame} {meth : Method} {c : Code} {H : Heap} {locs : List Loc} {cells slots : Nat} {Q : State → Prop} {D : va_G} {sa sv : Nat → Nat} {b L i : Nat} {xs : Nat → Int32} {ls : Array Slot} {adC adR : iA} {sh sR : List kd} {σC σR : St} {W0 : Wd} {rl : List Cl} {im : Im} {tp : List Nat}
    (hx : p.tables.exec = Jvm.exec) (hb : c.code = code) (hml : c.maxLocals = 4) (hown : s.vm.findClass RL = some m.cls) (hts : ∀ w ∈ i_tb, w.before #[Value.ref b] s = true) (hE : i_E D sa sv (fun q : Nat => s.heap.size ≤ q) s s.heap) (hX : va_X b L xs s s.heap) (hbl : b < s.heap.size)
    (h : IV sh sR σC σR W0 rl im tp) (hbd : sh.length + 120 < i_SB) (wC : i_Wd sa D (fun q : Nat => s.heap.size ≤ q) adC (s_h sh σC) s H) (wR : i_Wd sa D (fun q : Nat => s.heap.size ≤ q) adR (s_h sR σR) s H) (dj : i_apart (i_w sa adC (s_h sh σC)) (i_w sa adR (s_h sR σR))) (hS : va_S (fun q : Nat => s.heap.size ≤ q) s.heap H locs) (hl : lv_has ls 4 [(0, .ref b), (1, i_mv sa adC (.ref 0)), (2, i_mv sa adR (.ref 0)), (3, .int (nI i))]) (hi : i + 6 ≤ L) (hL : L ≤ 3072) (hc : cells + 300 ≤ 633637) (hs : slots + 3000 ≤ 7201338)
    (kk : ∀ (sh' : List kd) (τC τR : St) (W1 : Wd) (rl1 : List Cl) (im1 : Im) (tp1 : List Nat) (exC exR : iA) (H1 : Heap) (locs1 : List Loc) (mc ms : Nat), mc ≤ 300 → ms ≤ 3000 → IV sh' sR τC τR W1 rl1 im1 tp1 → sh'.length ≤ sh.length + 115 → i_Wd sa D (fun q : Nat => s.heap.size ≤ q) (adC ++ exC) (s_h sh' τC) s H1 → i_Wd sa D (fun q : Nat => s.heap.size ≤ q) (adR ++ exR) (s_h sR τR) s H1 → i_apart (i_w sa (adC ++ exC) (s_h sh' τC)) (i_w sa (adR ++ exR) (s_h sR τR)) → va_S (fun q : Nat => s.heap.size ≤ q) s.heap H1 locs1 → W p l e room_1 s m #[Value.ref b] below meth c H1 locs1 (cells + mc) (slots + ms) Q (F0 m 1196 ls [])) :
    W p l e room_1 s m #[Value.ref b] below meth c H locs cells slots Q (F0 m 352 ls []) := by
  have hA : ∀ q : Nat, s.heap.size ≤ q → (fun q : Nat => s.heap.size ≤ q) q := fun _ h => h
  have hbA : ¬ (fun q : Nat => s.heap.size ≤ q) b := Nat.not_le.mpr hbl
  have ix : ∀ j : Nat, j < 6 → vp_in (nI i + nI j) L := fun j hj => by rw [nI_add]; exact vp_in_nI (by omega) (by omega)
  obtain ⟨v, mc, ms, sh', τC, τR, W1, rl1, im1, tp1, o1, o2, o3, o4, o5, o6, o7⟩ := o_usual h hbd (xs (nI i + nI 1).toNatClampNeg)
  refine lv_aload_n hx hb dL_law_352 rfl (lv_at hl 1 rfl) ?_
  refine lv_aload_n hx hb dL_law_353 rfl (lv_at hl 0 rfl) ?_
  refine lv_iload_n hx hb dL_law_354 rfl (lv_at hl 3 rfl) ?_
  refine lv_iconst (v := nI 1) hx hb dL_law_355 (by decide) ?_
  refine lv_iadd hx hb dL_law_356 ?_
  refine va_sld hx hb hX hbl hbA hS (ix 1 (by omega)) dL_law_357 ?_
  refine law_V (y := 97) (n := 1) (As := [.int (xs (nI i + nI 1).toNatClampNeg)]) (rest := []) hx hb hml hown hts hE hA rfl (i_tb_law _ (by decide +kernel)) (by decide +kernel) (by decide +kernel) (by decide +kernel) o3 (fun x hx9 => by
    rcases List.mem_cons.mp hx9 with rfl | hx9
    · exact Or.inl (by rw [s_h_len]; have := cSh_len h.1.1; omega)
    · simp at hx9
      subst hx9; trivial) rfl (c0 h.1.1) (by decide +kernel) rfl wC wR dj hS hl.1 (Nat.le_of_ble_eq_true rfl) (by omega) (by omega) dL_law_358 (fun exC H1 locs1 wC wR dj hS => ?_)
  refine lv_aload_n hx hb dL_law_361 rfl (lv_at hl 2 rfl) ?_
  refine lv_aload_n hx hb dL_law_362 rfl (lv_at hl 0 rfl) ?_
  refine lv_iload_n hx hb dL_law_363 rfl (lv_at hl 3 rfl) ?_
  refine lv_iconst (v := nI 1) hx hb dL_law_364 (by decide) ?_
  refine lv_iadd hx hb dL_law_365 ?_
  refine va_sld hx hb hX hbl hbA hS (ix 1 (by omega)) dL_law_366 ?_
  refine law_V (y := 176) (n := 1) (As := [.int (xs (nI i + nI 1).toNatClampNeg)]) (rest := [.int v]) hx hb hml hown hts hE hA rfl (i_tb_law _ (by decide +kernel)) (by decide +kernel) (by decide +kernel) (by decide +kernel) o4 (fun x hx9 => by
    rcases List.mem_cons.mp hx9 with rfl | hx9
    · exact Or.inl (by rw [s_h_len]; have := (List.getElem?_eq_some_iff.mp (r0 h.1.2.1)).1; omega)
    · simp at hx9
      subst hx9; trivial) rfl (s_h_at (r0 h.1.2.1)) (by decide +kernel) rfl wR wC (fun a b p q h1 h2 e => dj b a q p h2 h1 e.symm) hS hl.1 (Nat.le_of_ble_eq_true rfl) (by omega) (by omega) dL_law_367 (fun exR H2 locs2 wR wC dj hS => ?_)
  refine lv_icmp_eq (tgt := 1196) hx hb dL_law_370 (by decide) (fun _ => ?_) (fun hne => absurd rfl hne)
  exact kk sh' τC τR W1 rl1 im1 tp1 exC exR H2 locs2 mc ms o1 o2 o5 o7 wC wR (fun a b p q h1 h2 e => dj b a q p h2 h1 e.symm) hS
set_option maxHeartbeats 4000000 in
theorem k_person {p : Program} {l : Launch} {e : Env} {s : State} {m : MethodId} {below : List Frame} {meth : Method} {c : Code} {H : Heap} {locs : List Loc} {cells slots : Nat} {Q : State → Prop} {D : va_G} {sa sv : Nat → Nat} {b L i : Nat} {xs : Nat → Int32} {ls : Array Slot} {adC adR : iA} {sh sR : List kd} {σC σR : St} {W0 : Wd} {rl : List Cl} {im : Im} {tp : List Nat}
    (hx : p.tables.exec = Jvm.exec) (hb : c.code = code) (hml : c.maxLocals = 4) (hown : s.vm.findClass RL = some m.cls) (hts : ∀ w ∈ i_tb, w.before #[Value.ref b] s = true) (hE : i_E D sa sv (fun q : Nat => s.heap.size ≤ q) s s.heap) (hX : va_X b L xs s s.heap) (hbl : b < s.heap.size)
    (h : IV sh sR σC σR W0 rl im tp) (hbd : sh.length + 120 < i_SB) (wC : i_Wd sa D (fun q : Nat => s.heap.size ≤ q) adC (s_h sh σC) s H) (wR : i_Wd sa D (fun q : Nat => s.heap.size ≤ q) adR (s_h sR σR) s H) (dj : i_apart (i_w sa adC (s_h sh σC)) (i_w sa adR (s_h sR σR))) (hS : va_S (fun q : Nat => s.heap.size ≤ q) s.heap H locs) (hl : lv_has ls 4 [(0, .ref b), (1, i_mv sa adC (.ref 0)), (2, i_mv sa adR (.ref 0)), (3, .int (nI i))]) (hi : i + 6 ≤ L) (hL : L ≤ 3072) (hc : cells + 300 ≤ 633637) (hs : slots + 3000 ≤ 7201338)
    (kk : ∀ (sh' : List kd) (τC τR : St) (W1 : Wd) (rl1 : List Cl) (im1 : Im) (tp1 : List Nat) (exC exR : iA) (H1 : Heap) (locs1 : List Loc) (mc ms : Nat), mc ≤ 300 → ms ≤ 3000 → IV sh' sR τC τR W1 rl1 im1 tp1 → sh'.length ≤ sh.length + 115 → i_Wd sa D (fun q : Nat => s.heap.size ≤ q) (adC ++ exC) (s_h sh' τC) s H1 → i_Wd sa D (fun q : Nat => s.heap.size ≤ q) (adR ++ exR) (s_h sR τR) s H1 → i_apart (i_w sa (adC ++ exC) (s_h sh' τC)) (i_w sa (adR ++ exR) (s_h sR τR)) → va_S (fun q : Nat => s.heap.size ≤ q) s.heap H1 locs1 → W p l e room_1 s m #[Value.ref b] below meth c H1 locs1 (cells + mc) (slots + ms) Q (F0 m 1196 ls [])) :
    W p l e room_1 s m #[Value.ref b] below meth c H locs cells slots Q (F0 m 375 ls []) := by
  have hA : ∀ q : Nat, s.heap.size ≤ q → (fun q : Nat => s.heap.size ≤ q) q := fun _ h => h
  have hbA : ¬ (fun q : Nat => s.heap.size ≤ q) b := Nat.not_le.mpr hbl
  have ix : ∀ j : Nat, j < 6 → vp_in (nI i + nI j) L := fun j hj => by rw [nI_add]; exact vp_in_nI (by omega) (by omega)
  obtain ⟨v, mc, ms, sh', τC, τR, W1, rl1, im1, tp1, o1, o2, o3, o4, o5, o6, o7⟩ := o_person h hbd (xs (nI i + nI 1).toNatClampNeg) (xs (nI i + nI 2).toNatClampNeg)
  refine lv_aload_n hx hb dL_law_375 rfl (lv_at hl 1 rfl) ?_
  refine lv_aload_n hx hb dL_law_376 rfl (lv_at hl 0 rfl) ?_
  refine lv_iload_n hx hb dL_law_377 rfl (lv_at hl 3 rfl) ?_
  refine lv_iconst (v := nI 1) hx hb dL_law_378 (by decide) ?_
  refine lv_iadd hx hb dL_law_379 ?_
  refine va_sld hx hb hX hbl hbA hS (ix 1 (by omega)) dL_law_380 ?_
  refine lv_aload_n hx hb dL_law_381 rfl (lv_at hl 0 rfl) ?_
  refine lv_iload_n hx hb dL_law_382 rfl (lv_at hl 3 rfl) ?_
  refine lv_iconst (v := nI 2) hx hb dL_law_383 (by decide) ?_
  refine lv_iadd hx hb dL_law_384 ?_
  refine va_sld hx hb hX hbl hbA hS (ix 2 (by omega)) dL_law_385 ?_
  refine law_V (y := 98) (n := 2) (As := [.int (xs (nI i + nI 1).toNatClampNeg), .int (xs (nI i + nI 2).toNatClampNeg)]) (rest := []) hx hb hml hown hts hE hA rfl (i_tb_law _ (by decide +kernel)) (by decide +kernel) (by decide +kernel) (by decide +kernel) o3 (fun x hx9 => by
    rcases List.mem_cons.mp hx9 with rfl | hx9
    · exact Or.inl (by rw [s_h_len]; have := cSh_len h.1.1; omega)
    · simp at hx9
      rcases hx9 with rfl | rfl <;> trivial) rfl (c0 h.1.1) (by decide +kernel) rfl wC wR dj hS hl.1 (Nat.le_of_ble_eq_true rfl) (by omega) (by omega) dL_law_386 (fun exC H1 locs1 wC wR dj hS => ?_)
  refine lv_aload_n hx hb dL_law_389 rfl (lv_at hl 2 rfl) ?_
  refine lv_aload_n hx hb dL_law_390 rfl (lv_at hl 0 rfl) ?_
  refine lv_iload_n hx hb dL_law_391 rfl (lv_at hl 3 rfl) ?_
  refine lv_iconst (v := nI 1) hx hb dL_law_392 (by decide) ?_
  refine lv_iadd hx hb dL_law_393 ?_
  refine va_sld hx hb hX hbl hbA hS (ix 1 (by omega)) dL_law_394 ?_
  refine lv_aload_n hx hb dL_law_395 rfl (lv_at hl 0 rfl) ?_
  refine lv_iload_n hx hb dL_law_396 rfl (lv_at hl 3 rfl) ?_
  refine lv_iconst (v := nI 2) hx hb dL_law_397 (by decide) ?_
  refine lv_iadd hx hb dL_law_398 ?_
  refine va_sld hx hb hX hbl hbA hS (ix 2 (by omega)) dL_law_399 ?_
  refine law_V (y := 178) (n := 2) (As := [.int (xs (nI i + nI 1).toNatClampNeg), .int (xs (nI i + nI 2).toNatClampNeg)]) (rest := [.int v]) hx hb hml hown hts hE hA rfl (i_tb_law _ (by decide +kernel)) (by decide +kernel) (by decide +kernel) (by decide +kernel) o4 (fun x hx9 => by
    rcases List.mem_cons.mp hx9 with rfl | hx9
    · exact Or.inl (by rw [s_h_len]; have := (List.getElem?_eq_some_iff.mp (r0 h.1.2.1)).1; omega)
    · simp at hx9
      rcases hx9 with rfl | rfl <;> trivial) rfl (s_h_at (r0 h.1.2.1)) (by decide +kernel) rfl wR wC (fun a b p q h1 h2 e => dj b a q p h2 h1 e.symm) hS hl.1 (Nat.le_of_ble_eq_true rfl) (by omega) (by omega) dL_law_400 (fun exR H2 locs2 wR wC dj hS => ?_)
  refine lv_icmp_eq (tgt := 1196) hx hb dL_law_403 (by decide) (fun _ => ?_) (fun hne => absurd rfl hne)
  exact kk sh' τC τR W1 rl1 im1 tp1 exC exR H2 locs2 mc ms o1 o2 o5 o7 wC wR (fun a b p q h1 h2 e => dj b a q p h2 h1 e.symm) hS
set_option maxHeartbeats 4000000 in
theorem k_hour {p : Program} {l : Launch} {e : Env} {s : State} {m : MethodId} {below : List Frame} {meth : Method} {c : Code} {H : Heap} {locs : List Loc} {cells slots : Nat} {Q : State → Prop} {D : va_G} {sa sv : Nat → Nat} {b L i : Nat} {xs : Nat → Int32} {ls : Array Slot} {adC adR : iA} {sh sR : List kd} {σC σR : St} {W0 : Wd} {rl : List Cl} {im : Im} {tp : List Nat}
    (hx : p.tables.exec = Jvm.exec) (hb : c.code = code) (hml : c.maxLocals = 4) (hown : s.vm.findClass RL = some m.cls) (hts : ∀ w ∈ i_tb, w.before #[Value.ref b] s = true) (hE : i_E D sa sv (fun q : Nat => s.heap.size ≤ q) s s.heap) (hX : va_X b L xs s s.heap) (hbl : b < s.heap.size)
    (h : IV sh sR σC σR W0 rl im tp) (hbd : sh.length + 120 < i_SB) (wC : i_Wd sa D (fun q : Nat => s.heap.size ≤ q) adC (s_h sh σC) s H) (wR : i_Wd sa D (fun q : Nat => s.heap.size ≤ q) adR (s_h sR σR) s H) (dj : i_apart (i_w sa adC (s_h sh σC)) (i_w sa adR (s_h sR σR))) (hS : va_S (fun q : Nat => s.heap.size ≤ q) s.heap H locs) (hl : lv_has ls 4 [(0, .ref b), (1, i_mv sa adC (.ref 0)), (2, i_mv sa adR (.ref 0)), (3, .int (nI i))]) (hi : i + 6 ≤ L) (hL : L ≤ 3072) (hc : cells + 300 ≤ 633637) (hs : slots + 3000 ≤ 7201338)
    (kk : ∀ (sh' : List kd) (τC τR : St) (W1 : Wd) (rl1 : List Cl) (im1 : Im) (tp1 : List Nat) (exC exR : iA) (H1 : Heap) (locs1 : List Loc) (mc ms : Nat), mc ≤ 300 → ms ≤ 3000 → IV sh' sR τC τR W1 rl1 im1 tp1 → sh'.length ≤ sh.length + 115 → i_Wd sa D (fun q : Nat => s.heap.size ≤ q) (adC ++ exC) (s_h sh' τC) s H1 → i_Wd sa D (fun q : Nat => s.heap.size ≤ q) (adR ++ exR) (s_h sR τR) s H1 → i_apart (i_w sa (adC ++ exC) (s_h sh' τC)) (i_w sa (adR ++ exR) (s_h sR τR)) → va_S (fun q : Nat => s.heap.size ≤ q) s.heap H1 locs1 → W p l e room_1 s m #[Value.ref b] below meth c H1 locs1 (cells + mc) (slots + ms) Q (F0 m 1196 ls [])) :
    W p l e room_1 s m #[Value.ref b] below meth c H locs cells slots Q (F0 m 408 ls []) := by
  have hA : ∀ q : Nat, s.heap.size ≤ q → (fun q : Nat => s.heap.size ≤ q) q := fun _ h => h
  have hbA : ¬ (fun q : Nat => s.heap.size ≤ q) b := Nat.not_le.mpr hbl
  have ix : ∀ j : Nat, j < 6 → vp_in (nI i + nI j) L := fun j hj => by rw [nI_add]; exact vp_in_nI (by omega) (by omega)
  obtain ⟨v, mc, ms, sh', τC, τR, W1, rl1, im1, tp1, o1, o2, o3, o4, o5, o6, o7⟩ := o_hour h hbd
  refine lv_aload_n hx hb dL_law_408 rfl (lv_at hl 1 rfl) ?_
  refine law_V (y := 99) (n := 0) (As := []) (rest := []) hx hb hml hown hts hE hA rfl (i_tb_law _ (by decide +kernel)) (by decide +kernel) (by decide +kernel) (by decide +kernel) o3 (fun x hx9 => by
    rw [List.mem_singleton.mp hx9]
    exact Or.inl (by rw [s_h_len]; have := cSh_len h.1.1; omega)) rfl (c0 h.1.1) (by decide +kernel) rfl wC wR dj hS hl.1 (Nat.le_of_ble_eq_true rfl) (by omega) (by omega) dL_law_409 (fun exC H1 locs1 wC wR dj hS => ?_)
  refine lv_aload_n hx hb dL_law_412 rfl (lv_at hl 2 rfl) ?_
  refine law_V (y := 190) (n := 0) (As := []) (rest := [.int v]) hx hb hml hown hts hE hA rfl (i_tb_law _ (by decide +kernel)) (by decide +kernel) (by decide +kernel) (by decide +kernel) o4 (fun x hx9 => by
    rw [List.mem_singleton.mp hx9]
    exact Or.inl (by rw [s_h_len]; have := (List.getElem?_eq_some_iff.mp (r0 h.1.2.1)).1; omega)) rfl (s_h_at (r0 h.1.2.1)) (by decide +kernel) rfl wR wC (fun a b p q h1 h2 e => dj b a q p h2 h1 e.symm) hS hl.1 (Nat.le_of_ble_eq_true rfl) (by omega) (by omega) dL_law_413 (fun exR H2 locs2 wR wC dj hS => ?_)
  refine lv_icmp_eq (tgt := 1196) hx hb dL_law_416 (by decide) (fun _ => ?_) (fun hne => absurd rfl hne)
  exact kk sh' τC τR W1 rl1 im1 tp1 exC exR H2 locs2 mc ms o1 o2 o5 o7 wC wR (fun a b p q h1 h2 e => dj b a q p h2 h1 e.symm) hS
set_option maxHeartbeats 4000000 in
theorem k_deed {p : Program} {l : Launch} {e : Env} {s : State} {m : MethodId} {below : List Frame} {meth : Method} {c : Code} {H : Heap} {locs : List Loc} {cells slots : Nat} {Q : State → Prop} {D : va_G} {sa sv : Nat → Nat} {b L i : Nat} {xs : Nat → Int32} {ls : Array Slot} {adC adR : iA} {sh sR : List kd} {σC σR : St} {W0 : Wd} {rl : List Cl} {im : Im} {tp : List Nat}
    (hx : p.tables.exec = Jvm.exec) (hb : c.code = code) (hml : c.maxLocals = 4) (hown : s.vm.findClass RL = some m.cls) (hts : ∀ w ∈ i_tb, w.before #[Value.ref b] s = true) (hE : i_E D sa sv (fun q : Nat => s.heap.size ≤ q) s s.heap) (hX : va_X b L xs s s.heap) (hbl : b < s.heap.size)
    (h : IV sh sR σC σR W0 rl im tp) (hbd : sh.length + 120 < i_SB) (wC : i_Wd sa D (fun q : Nat => s.heap.size ≤ q) adC (s_h sh σC) s H) (wR : i_Wd sa D (fun q : Nat => s.heap.size ≤ q) adR (s_h sR σR) s H) (dj : i_apart (i_w sa adC (s_h sh σC)) (i_w sa adR (s_h sR σR))) (hS : va_S (fun q : Nat => s.heap.size ≤ q) s.heap H locs) (hl : lv_has ls 4 [(0, .ref b), (1, i_mv sa adC (.ref 0)), (2, i_mv sa adR (.ref 0)), (3, .int (nI i))]) (hi : i + 6 ≤ L) (hL : L ≤ 3072) (hc : cells + 300 ≤ 633637) (hs : slots + 3000 ≤ 7201338)
    (kk : ∀ (sh' : List kd) (τC τR : St) (W1 : Wd) (rl1 : List Cl) (im1 : Im) (tp1 : List Nat) (exC exR : iA) (H1 : Heap) (locs1 : List Loc) (mc ms : Nat), mc ≤ 300 → ms ≤ 3000 → IV sh' sR τC τR W1 rl1 im1 tp1 → sh'.length ≤ sh.length + 115 → i_Wd sa D (fun q : Nat => s.heap.size ≤ q) (adC ++ exC) (s_h sh' τC) s H1 → i_Wd sa D (fun q : Nat => s.heap.size ≤ q) (adR ++ exR) (s_h sR τR) s H1 → i_apart (i_w sa (adC ++ exC) (s_h sh' τC)) (i_w sa (adR ++ exR) (s_h sR τR)) → va_S (fun q : Nat => s.heap.size ≤ q) s.heap H1 locs1 → W p l e room_1 s m #[Value.ref b] below meth c H1 locs1 (cells + mc) (slots + ms) Q (F0 m 1196 ls [])) :
    W p l e room_1 s m #[Value.ref b] below meth c H locs cells slots Q (F0 m 421 ls []) := by
  have hA : ∀ q : Nat, s.heap.size ≤ q → (fun q : Nat => s.heap.size ≤ q) q := fun _ h => h
  have hbA : ¬ (fun q : Nat => s.heap.size ≤ q) b := Nat.not_le.mpr hbl
  have ix : ∀ j : Nat, j < 6 → vp_in (nI i + nI j) L := fun j hj => by rw [nI_add]; exact vp_in_nI (by omega) (by omega)
  obtain ⟨v, mc, ms, sh', τC, τR, W1, rl1, im1, tp1, o1, o2, o3, o4, o5, o6, o7⟩ := o_deed h hbd (xs (nI i + nI 1).toNatClampNeg) (xs (nI i + nI 2).toNatClampNeg)
  refine lv_aload_n hx hb dL_law_421 rfl (lv_at hl 1 rfl) ?_
  refine lv_aload_n hx hb dL_law_422 rfl (lv_at hl 0 rfl) ?_
  refine lv_iload_n hx hb dL_law_423 rfl (lv_at hl 3 rfl) ?_
  refine lv_iconst (v := nI 1) hx hb dL_law_424 (by decide) ?_
  refine lv_iadd hx hb dL_law_425 ?_
  refine va_sld hx hb hX hbl hbA hS (ix 1 (by omega)) dL_law_426 ?_
  refine lv_aload_n hx hb dL_law_427 rfl (lv_at hl 0 rfl) ?_
  refine lv_iload_n hx hb dL_law_428 rfl (lv_at hl 3 rfl) ?_
  refine lv_iconst (v := nI 2) hx hb dL_law_429 (by decide) ?_
  refine lv_iadd hx hb dL_law_430 ?_
  refine va_sld hx hb hX hbl hbA hS (ix 2 (by omega)) dL_law_431 ?_
  refine law_V (y := 100) (n := 2) (As := [.int (xs (nI i + nI 1).toNatClampNeg), .int (xs (nI i + nI 2).toNatClampNeg)]) (rest := []) hx hb hml hown hts hE hA rfl (i_tb_law _ (by decide +kernel)) (by decide +kernel) (by decide +kernel) (by decide +kernel) o3 (fun x hx9 => by
    rcases List.mem_cons.mp hx9 with rfl | hx9
    · exact Or.inl (by rw [s_h_len]; have := cSh_len h.1.1; omega)
    · simp at hx9
      rcases hx9 with rfl | rfl <;> trivial) rfl (c0 h.1.1) (by decide +kernel) rfl wC wR dj hS hl.1 (Nat.le_of_ble_eq_true rfl) (by omega) (by omega) dL_law_432 (fun exC H1 locs1 wC wR dj hS => ?_)
  refine lv_aload_n hx hb dL_law_435 rfl (lv_at hl 2 rfl) ?_
  refine lv_aload_n hx hb dL_law_436 rfl (lv_at hl 0 rfl) ?_
  refine lv_iload_n hx hb dL_law_437 rfl (lv_at hl 3 rfl) ?_
  refine lv_iconst (v := nI 1) hx hb dL_law_438 (by decide) ?_
  refine lv_iadd hx hb dL_law_439 ?_
  refine va_sld hx hb hX hbl hbA hS (ix 1 (by omega)) dL_law_440 ?_
  refine lv_aload_n hx hb dL_law_441 rfl (lv_at hl 0 rfl) ?_
  refine lv_iload_n hx hb dL_law_442 rfl (lv_at hl 3 rfl) ?_
  refine lv_iconst (v := nI 2) hx hb dL_law_443 (by decide) ?_
  refine lv_iadd hx hb dL_law_444 ?_
  refine va_sld hx hb hX hbl hbA hS (ix 2 (by omega)) dL_law_445 ?_
  refine law_V (y := 191) (n := 2) (As := [.int (xs (nI i + nI 1).toNatClampNeg), .int (xs (nI i + nI 2).toNatClampNeg)]) (rest := [.int v]) hx hb hml hown hts hE hA rfl (i_tb_law _ (by decide +kernel)) (by decide +kernel) (by decide +kernel) (by decide +kernel) o4 (fun x hx9 => by
    rcases List.mem_cons.mp hx9 with rfl | hx9
    · exact Or.inl (by rw [s_h_len]; have := (List.getElem?_eq_some_iff.mp (r0 h.1.2.1)).1; omega)
    · simp at hx9
      rcases hx9 with rfl | rfl <;> trivial) rfl (s_h_at (r0 h.1.2.1)) (by decide +kernel) rfl wR wC (fun a b p q h1 h2 e => dj b a q p h2 h1 e.symm) hS hl.1 (Nat.le_of_ble_eq_true rfl) (by omega) (by omega) dL_law_446 (fun exR H2 locs2 wR wC dj hS => ?_)
  refine lv_icmp_eq (tgt := 1196) hx hb dL_law_449 (by decide) (fun _ => ?_) (fun hne => absurd rfl hne)
  exact kk sh' τC τR W1 rl1 im1 tp1 exC exR H2 locs2 mc ms o1 o2 o5 o7 wC wR (fun a b p q h1 h2 e => dj b a q p h2 h1 e.symm) hS
set_option maxHeartbeats 4000000 in
theorem k_slight {p : Program} {l : Launch} {e : Env} {s : State} {m : MethodId} {below : List Frame} {meth : Method} {c : Code} {H : Heap} {locs : List Loc} {cells slots : Nat} {Q : State → Prop} {D : va_G} {sa sv : Nat → Nat} {b L i : Nat} {xs : Nat → Int32} {ls : Array Slot} {adC adR : iA} {sh sR : List kd} {σC σR : St} {W0 : Wd} {rl : List Cl} {im : Im} {tp : List Nat}
    (hx : p.tables.exec = Jvm.exec) (hb : c.code = code) (hml : c.maxLocals = 4) (hown : s.vm.findClass RL = some m.cls) (hts : ∀ w ∈ i_tb, w.before #[Value.ref b] s = true) (hE : i_E D sa sv (fun q : Nat => s.heap.size ≤ q) s s.heap) (hX : va_X b L xs s s.heap) (hbl : b < s.heap.size)
    (h : IV sh sR σC σR W0 rl im tp) (hbd : sh.length + 120 < i_SB) (wC : i_Wd sa D (fun q : Nat => s.heap.size ≤ q) adC (s_h sh σC) s H) (wR : i_Wd sa D (fun q : Nat => s.heap.size ≤ q) adR (s_h sR σR) s H) (dj : i_apart (i_w sa adC (s_h sh σC)) (i_w sa adR (s_h sR σR))) (hS : va_S (fun q : Nat => s.heap.size ≤ q) s.heap H locs) (hl : lv_has ls 4 [(0, .ref b), (1, i_mv sa adC (.ref 0)), (2, i_mv sa adR (.ref 0)), (3, .int (nI i))]) (hi : i + 6 ≤ L) (hL : L ≤ 3072) (hc : cells + 300 ≤ 633637) (hs : slots + 3000 ≤ 7201338)
    (kk : ∀ (sh' : List kd) (τC τR : St) (W1 : Wd) (rl1 : List Cl) (im1 : Im) (tp1 : List Nat) (exC exR : iA) (H1 : Heap) (locs1 : List Loc) (mc ms : Nat), mc ≤ 300 → ms ≤ 3000 → IV sh' sR τC τR W1 rl1 im1 tp1 → sh'.length ≤ sh.length + 115 → i_Wd sa D (fun q : Nat => s.heap.size ≤ q) (adC ++ exC) (s_h sh' τC) s H1 → i_Wd sa D (fun q : Nat => s.heap.size ≤ q) (adR ++ exR) (s_h sR τR) s H1 → i_apart (i_w sa (adC ++ exC) (s_h sh' τC)) (i_w sa (adR ++ exR) (s_h sR τR)) → va_S (fun q : Nat => s.heap.size ≤ q) s.heap H1 locs1 → W p l e room_1 s m #[Value.ref b] below meth c H1 locs1 (cells + mc) (slots + ms) Q (F0 m 1196 ls [])) :
    W p l e room_1 s m #[Value.ref b] below meth c H locs cells slots Q (F0 m 454 ls []) := by
  have hA : ∀ q : Nat, s.heap.size ≤ q → (fun q : Nat => s.heap.size ≤ q) q := fun _ h => h
  have hbA : ¬ (fun q : Nat => s.heap.size ≤ q) b := Nat.not_le.mpr hbl
  have ix : ∀ j : Nat, j < 6 → vp_in (nI i + nI j) L := fun j hj => by rw [nI_add]; exact vp_in_nI (by omega) (by omega)
  obtain ⟨v, mc, ms, sh', τC, τR, W1, rl1, im1, tp1, o1, o2, o3, o4, o5, o6, o7⟩ := o_slight h hbd (xs (nI i + nI 1).toNatClampNeg) (xs (nI i + nI 2).toNatClampNeg)
  refine lv_aload_n hx hb dL_law_454 rfl (lv_at hl 1 rfl) ?_
  refine lv_aload_n hx hb dL_law_455 rfl (lv_at hl 0 rfl) ?_
  refine lv_iload_n hx hb dL_law_456 rfl (lv_at hl 3 rfl) ?_
  refine lv_iconst (v := nI 1) hx hb dL_law_457 (by decide) ?_
  refine lv_iadd hx hb dL_law_458 ?_
  refine va_sld hx hb hX hbl hbA hS (ix 1 (by omega)) dL_law_459 ?_
  refine lv_aload_n hx hb dL_law_460 rfl (lv_at hl 0 rfl) ?_
  refine lv_iload_n hx hb dL_law_461 rfl (lv_at hl 3 rfl) ?_
  refine lv_iconst (v := nI 2) hx hb dL_law_462 (by decide) ?_
  refine lv_iadd hx hb dL_law_463 ?_
  refine va_sld hx hb hX hbl hbA hS (ix 2 (by omega)) dL_law_464 ?_
  refine law_V (y := 101) (n := 2) (As := [.int (xs (nI i + nI 1).toNatClampNeg), .int (xs (nI i + nI 2).toNatClampNeg)]) (rest := []) hx hb hml hown hts hE hA rfl (i_tb_law _ (by decide +kernel)) (by decide +kernel) (by decide +kernel) (by decide +kernel) o3 (fun x hx9 => by
    rcases List.mem_cons.mp hx9 with rfl | hx9
    · exact Or.inl (by rw [s_h_len]; have := cSh_len h.1.1; omega)
    · simp at hx9
      rcases hx9 with rfl | rfl <;> trivial) rfl (c0 h.1.1) (by decide +kernel) rfl wC wR dj hS hl.1 (Nat.le_of_ble_eq_true rfl) (by omega) (by omega) dL_law_465 (fun exC H1 locs1 wC wR dj hS => ?_)
  refine lv_aload_n hx hb dL_law_468 rfl (lv_at hl 2 rfl) ?_
  refine lv_aload_n hx hb dL_law_469 rfl (lv_at hl 0 rfl) ?_
  refine lv_iload_n hx hb dL_law_470 rfl (lv_at hl 3 rfl) ?_
  refine lv_iconst (v := nI 1) hx hb dL_law_471 (by decide) ?_
  refine lv_iadd hx hb dL_law_472 ?_
  refine va_sld hx hb hX hbl hbA hS (ix 1 (by omega)) dL_law_473 ?_
  refine lv_aload_n hx hb dL_law_474 rfl (lv_at hl 0 rfl) ?_
  refine lv_iload_n hx hb dL_law_475 rfl (lv_at hl 3 rfl) ?_
  refine lv_iconst (v := nI 2) hx hb dL_law_476 (by decide) ?_
  refine lv_iadd hx hb dL_law_477 ?_
  refine va_sld hx hb hX hbl hbA hS (ix 2 (by omega)) dL_law_478 ?_
  refine law_V (y := 192) (n := 2) (As := [.int (xs (nI i + nI 1).toNatClampNeg), .int (xs (nI i + nI 2).toNatClampNeg)]) (rest := [.int v]) hx hb hml hown hts hE hA rfl (i_tb_law _ (by decide +kernel)) (by decide +kernel) (by decide +kernel) (by decide +kernel) o4 (fun x hx9 => by
    rcases List.mem_cons.mp hx9 with rfl | hx9
    · exact Or.inl (by rw [s_h_len]; have := (List.getElem?_eq_some_iff.mp (r0 h.1.2.1)).1; omega)
    · simp at hx9
      rcases hx9 with rfl | rfl <;> trivial) rfl (s_h_at (r0 h.1.2.1)) (by decide +kernel) rfl wR wC (fun a b p q h1 h2 e => dj b a q p h2 h1 e.symm) hS hl.1 (Nat.le_of_ble_eq_true rfl) (by omega) (by omega) dL_law_479 (fun exR H2 locs2 wR wC dj hS => ?_)
  refine lv_icmp_eq (tgt := 1196) hx hb dL_law_482 (by decide) (fun _ => ?_) (fun hne => absurd rfl hne)
  exact kk sh' τC τR W1 rl1 im1 tp1 exC exR H2 locs2 mc ms o1 o2 o5 o7 wC wR (fun a b p q h1 h2 e => dj b a q p h2 h1 e.symm) hS
set_option maxHeartbeats 4000000 in
theorem k_tray {p : Program} {l : Launch} {e : Env} {s : State} {m : MethodId} {below : List Frame} {meth : Method} {c : Code} {H : Heap} {locs : List Loc} {cells slots : Nat} {Q : State → Prop} {D : va_G} {sa sv : Nat → Nat} {b L i : Nat} {xs : Nat → Int32} {ls : Array Slot} {adC adR : iA} {sh sR : List kd} {σC σR : St} {W0 : Wd} {rl : List Cl} {im : Im} {tp : List Nat}
    (hx : p.tables.exec = Jvm.exec) (hb : c.code = code) (hml : c.maxLocals = 4) (hown : s.vm.findClass RL = some m.cls) (hts : ∀ w ∈ i_tb, w.before #[Value.ref b] s = true) (hE : i_E D sa sv (fun q : Nat => s.heap.size ≤ q) s s.heap) (hX : va_X b L xs s s.heap) (hbl : b < s.heap.size)
    (h : IV sh sR σC σR W0 rl im tp) (hbd : sh.length + 120 < i_SB) (wC : i_Wd sa D (fun q : Nat => s.heap.size ≤ q) adC (s_h sh σC) s H) (wR : i_Wd sa D (fun q : Nat => s.heap.size ≤ q) adR (s_h sR σR) s H) (dj : i_apart (i_w sa adC (s_h sh σC)) (i_w sa adR (s_h sR σR))) (hS : va_S (fun q : Nat => s.heap.size ≤ q) s.heap H locs) (hl : lv_has ls 4 [(0, .ref b), (1, i_mv sa adC (.ref 0)), (2, i_mv sa adR (.ref 0)), (3, .int (nI i))]) (hi : i + 6 ≤ L) (hL : L ≤ 3072) (hc : cells + 300 ≤ 633637) (hs : slots + 3000 ≤ 7201338)
    (kk : ∀ (sh' : List kd) (τC τR : St) (W1 : Wd) (rl1 : List Cl) (im1 : Im) (tp1 : List Nat) (exC exR : iA) (H1 : Heap) (locs1 : List Loc) (mc ms : Nat), mc ≤ 300 → ms ≤ 3000 → IV sh' sR τC τR W1 rl1 im1 tp1 → sh'.length ≤ sh.length + 115 → i_Wd sa D (fun q : Nat => s.heap.size ≤ q) (adC ++ exC) (s_h sh' τC) s H1 → i_Wd sa D (fun q : Nat => s.heap.size ≤ q) (adR ++ exR) (s_h sR τR) s H1 → i_apart (i_w sa (adC ++ exC) (s_h sh' τC)) (i_w sa (adR ++ exR) (s_h sR τR)) → va_S (fun q : Nat => s.heap.size ≤ q) s.heap H1 locs1 → W p l e room_1 s m #[Value.ref b] below meth c H1 locs1 (cells + mc) (slots + ms) Q (F0 m 1196 ls [])) :
    W p l e room_1 s m #[Value.ref b] below meth c H locs cells slots Q (F0 m 487 ls []) := by
  have hA : ∀ q : Nat, s.heap.size ≤ q → (fun q : Nat => s.heap.size ≤ q) q := fun _ h => h
  have hbA : ¬ (fun q : Nat => s.heap.size ≤ q) b := Nat.not_le.mpr hbl
  have ix : ∀ j : Nat, j < 6 → vp_in (nI i + nI j) L := fun j hj => by rw [nI_add]; exact vp_in_nI (by omega) (by omega)
  obtain ⟨v, mc, ms, sh', τC, τR, W1, rl1, im1, tp1, o1, o2, o3, o4, o5, o6, o7⟩ := o_tray h hbd (xs (nI i + nI 1).toNatClampNeg)
  refine lv_aload_n hx hb dL_law_487 rfl (lv_at hl 1 rfl) ?_
  refine lv_aload_n hx hb dL_law_488 rfl (lv_at hl 0 rfl) ?_
  refine lv_iload_n hx hb dL_law_489 rfl (lv_at hl 3 rfl) ?_
  refine lv_iconst (v := nI 1) hx hb dL_law_490 (by decide) ?_
  refine lv_iadd hx hb dL_law_491 ?_
  refine va_sld hx hb hX hbl hbA hS (ix 1 (by omega)) dL_law_492 ?_
  refine law_V (y := 102) (n := 1) (As := [.int (xs (nI i + nI 1).toNatClampNeg)]) (rest := []) hx hb hml hown hts hE hA rfl (i_tb_law _ (by decide +kernel)) (by decide +kernel) (by decide +kernel) (by decide +kernel) o3 (fun x hx9 => by
    rcases List.mem_cons.mp hx9 with rfl | hx9
    · exact Or.inl (by rw [s_h_len]; have := cSh_len h.1.1; omega)
    · simp at hx9
      subst hx9; trivial) rfl (c0 h.1.1) (by decide +kernel) rfl wC wR dj hS hl.1 (Nat.le_of_ble_eq_true rfl) (by omega) (by omega) dL_law_493 (fun exC H1 locs1 wC wR dj hS => ?_)
  refine lv_aload_n hx hb dL_law_496 rfl (lv_at hl 2 rfl) ?_
  refine lv_aload_n hx hb dL_law_497 rfl (lv_at hl 0 rfl) ?_
  refine lv_iload_n hx hb dL_law_498 rfl (lv_at hl 3 rfl) ?_
  refine lv_iconst (v := nI 1) hx hb dL_law_499 (by decide) ?_
  refine lv_iadd hx hb dL_law_500 ?_
  refine va_sld hx hb hX hbl hbA hS (ix 1 (by omega)) dL_law_501 ?_
  refine law_V (y := 193) (n := 1) (As := [.int (xs (nI i + nI 1).toNatClampNeg)]) (rest := [.int v]) hx hb hml hown hts hE hA rfl (i_tb_law _ (by decide +kernel)) (by decide +kernel) (by decide +kernel) (by decide +kernel) o4 (fun x hx9 => by
    rcases List.mem_cons.mp hx9 with rfl | hx9
    · exact Or.inl (by rw [s_h_len]; have := (List.getElem?_eq_some_iff.mp (r0 h.1.2.1)).1; omega)
    · simp at hx9
      subst hx9; trivial) rfl (s_h_at (r0 h.1.2.1)) (by decide +kernel) rfl wR wC (fun a b p q h1 h2 e => dj b a q p h2 h1 e.symm) hS hl.1 (Nat.le_of_ble_eq_true rfl) (by omega) (by omega) dL_law_502 (fun exR H2 locs2 wR wC dj hS => ?_)
  refine lv_icmp_eq (tgt := 1196) hx hb dL_law_505 (by decide) (fun _ => ?_) (fun hne => absurd rfl hne)
  exact kk sh' τC τR W1 rl1 im1 tp1 exC exR H2 locs2 mc ms o1 o2 o5 o7 wC wR (fun a b p q h1 h2 e => dj b a q p h2 h1 e.symm) hS
set_option maxHeartbeats 4000000 in
theorem k_gloves {p : Program} {l : Launch} {e : Env} {s : State} {m : MethodId} {below : List Frame} {meth : Method} {c : Code} {H : Heap} {locs : List Loc} {cells slots : Nat} {Q : State → Prop} {D : va_G} {sa sv : Nat → Nat} {b L i : Nat} {xs : Nat → Int32} {ls : Array Slot} {adC adR : iA} {sh sR : List kd} {σC σR : St} {W0 : Wd} {rl : List Cl} {im : Im} {tp : List Nat}
    (hx : p.tables.exec = Jvm.exec) (hb : c.code = code) (hml : c.maxLocals = 4) (hown : s.vm.findClass RL = some m.cls) (hts : ∀ w ∈ i_tb, w.before #[Value.ref b] s = true) (hE : i_E D sa sv (fun q : Nat => s.heap.size ≤ q) s s.heap) (hX : va_X b L xs s s.heap) (hbl : b < s.heap.size)
    (h : IV sh sR σC σR W0 rl im tp) (hbd : sh.length + 120 < i_SB) (wC : i_Wd sa D (fun q : Nat => s.heap.size ≤ q) adC (s_h sh σC) s H) (wR : i_Wd sa D (fun q : Nat => s.heap.size ≤ q) adR (s_h sR σR) s H) (dj : i_apart (i_w sa adC (s_h sh σC)) (i_w sa adR (s_h sR σR))) (hS : va_S (fun q : Nat => s.heap.size ≤ q) s.heap H locs) (hl : lv_has ls 4 [(0, .ref b), (1, i_mv sa adC (.ref 0)), (2, i_mv sa adR (.ref 0)), (3, .int (nI i))]) (hi : i + 6 ≤ L) (hL : L ≤ 3072) (hc : cells + 300 ≤ 633637) (hs : slots + 3000 ≤ 7201338)
    (kk : ∀ (sh' : List kd) (τC τR : St) (W1 : Wd) (rl1 : List Cl) (im1 : Im) (tp1 : List Nat) (exC exR : iA) (H1 : Heap) (locs1 : List Loc) (mc ms : Nat), mc ≤ 300 → ms ≤ 3000 → IV sh' sR τC τR W1 rl1 im1 tp1 → sh'.length ≤ sh.length + 115 → i_Wd sa D (fun q : Nat => s.heap.size ≤ q) (adC ++ exC) (s_h sh' τC) s H1 → i_Wd sa D (fun q : Nat => s.heap.size ≤ q) (adR ++ exR) (s_h sR τR) s H1 → i_apart (i_w sa (adC ++ exC) (s_h sh' τC)) (i_w sa (adR ++ exR) (s_h sR τR)) → va_S (fun q : Nat => s.heap.size ≤ q) s.heap H1 locs1 → W p l e room_1 s m #[Value.ref b] below meth c H1 locs1 (cells + mc) (slots + ms) Q (F0 m 1196 ls [])) :
    W p l e room_1 s m #[Value.ref b] below meth c H locs cells slots Q (F0 m 510 ls []) := by
  have hA : ∀ q : Nat, s.heap.size ≤ q → (fun q : Nat => s.heap.size ≤ q) q := fun _ h => h
  have hbA : ¬ (fun q : Nat => s.heap.size ≤ q) b := Nat.not_le.mpr hbl
  have ix : ∀ j : Nat, j < 6 → vp_in (nI i + nI j) L := fun j hj => by rw [nI_add]; exact vp_in_nI (by omega) (by omega)
  obtain ⟨v, mc, ms, sh', τC, τR, W1, rl1, im1, tp1, o1, o2, o3, o4, o5, o6, o7⟩ := o_gloves h hbd (xs (nI i + nI 1).toNatClampNeg)
  refine lv_aload_n hx hb dL_law_510 rfl (lv_at hl 1 rfl) ?_
  refine lv_aload_n hx hb dL_law_511 rfl (lv_at hl 0 rfl) ?_
  refine lv_iload_n hx hb dL_law_512 rfl (lv_at hl 3 rfl) ?_
  refine lv_iconst (v := nI 1) hx hb dL_law_513 (by decide) ?_
  refine lv_iadd hx hb dL_law_514 ?_
  refine va_sld hx hb hX hbl hbA hS (ix 1 (by omega)) dL_law_515 ?_
  refine law_V (y := 103) (n := 1) (As := [.int (xs (nI i + nI 1).toNatClampNeg)]) (rest := []) hx hb hml hown hts hE hA rfl (i_tb_law _ (by decide +kernel)) (by decide +kernel) (by decide +kernel) (by decide +kernel) o3 (fun x hx9 => by
    rcases List.mem_cons.mp hx9 with rfl | hx9
    · exact Or.inl (by rw [s_h_len]; have := cSh_len h.1.1; omega)
    · simp at hx9
      subst hx9; trivial) rfl (c0 h.1.1) (by decide +kernel) rfl wC wR dj hS hl.1 (Nat.le_of_ble_eq_true rfl) (by omega) (by omega) dL_law_516 (fun exC H1 locs1 wC wR dj hS => ?_)
  refine lv_aload_n hx hb dL_law_519 rfl (lv_at hl 2 rfl) ?_
  refine lv_aload_n hx hb dL_law_520 rfl (lv_at hl 0 rfl) ?_
  refine lv_iload_n hx hb dL_law_521 rfl (lv_at hl 3 rfl) ?_
  refine lv_iconst (v := nI 1) hx hb dL_law_522 (by decide) ?_
  refine lv_iadd hx hb dL_law_523 ?_
  refine va_sld hx hb hX hbl hbA hS (ix 1 (by omega)) dL_law_524 ?_
  refine law_V (y := 194) (n := 1) (As := [.int (xs (nI i + nI 1).toNatClampNeg)]) (rest := [.int v]) hx hb hml hown hts hE hA rfl (i_tb_law _ (by decide +kernel)) (by decide +kernel) (by decide +kernel) (by decide +kernel) o4 (fun x hx9 => by
    rcases List.mem_cons.mp hx9 with rfl | hx9
    · exact Or.inl (by rw [s_h_len]; have := (List.getElem?_eq_some_iff.mp (r0 h.1.2.1)).1; omega)
    · simp at hx9
      subst hx9; trivial) rfl (s_h_at (r0 h.1.2.1)) (by decide +kernel) rfl wR wC (fun a b p q h1 h2 e => dj b a q p h2 h1 e.symm) hS hl.1 (Nat.le_of_ble_eq_true rfl) (by omega) (by omega) dL_law_525 (fun exR H2 locs2 wR wC dj hS => ?_)
  refine lv_icmp_eq (tgt := 1196) hx hb dL_law_528 (by decide) (fun _ => ?_) (fun hne => absurd rfl hne)
  exact kk sh' τC τR W1 rl1 im1 tp1 exC exR H2 locs2 mc ms o1 o2 o5 o7 wC wR (fun a b p q h1 h2 e => dj b a q p h2 h1 e.symm) hS
set_option maxHeartbeats 4000000 in
theorem k_strip {p : Program} {l : Launch} {e : Env} {s : State} {m : MethodId} {below : List Frame} {meth : Method} {c : Code} {H : Heap} {locs : List Loc} {cells slots : Nat} {Q : State → Prop} {D : va_G} {sa sv : Nat → Nat} {b L i : Nat} {xs : Nat → Int32} {ls : Array Slot} {adC adR : iA} {sh sR : List kd} {σC σR : St} {W0 : Wd} {rl : List Cl} {im : Im} {tp : List Nat}
    (hx : p.tables.exec = Jvm.exec) (hb : c.code = code) (hml : c.maxLocals = 4) (hown : s.vm.findClass RL = some m.cls) (hts : ∀ w ∈ i_tb, w.before #[Value.ref b] s = true) (hE : i_E D sa sv (fun q : Nat => s.heap.size ≤ q) s s.heap) (hX : va_X b L xs s s.heap) (hbl : b < s.heap.size)
    (h : IV sh sR σC σR W0 rl im tp) (hbd : sh.length + 120 < i_SB) (wC : i_Wd sa D (fun q : Nat => s.heap.size ≤ q) adC (s_h sh σC) s H) (wR : i_Wd sa D (fun q : Nat => s.heap.size ≤ q) adR (s_h sR σR) s H) (dj : i_apart (i_w sa adC (s_h sh σC)) (i_w sa adR (s_h sR σR))) (hS : va_S (fun q : Nat => s.heap.size ≤ q) s.heap H locs) (hl : lv_has ls 4 [(0, .ref b), (1, i_mv sa adC (.ref 0)), (2, i_mv sa adR (.ref 0)), (3, .int (nI i))]) (hi : i + 6 ≤ L) (hL : L ≤ 3072) (hc : cells + 300 ≤ 633637) (hs : slots + 3000 ≤ 7201338)
    (kk : ∀ (sh' : List kd) (τC τR : St) (W1 : Wd) (rl1 : List Cl) (im1 : Im) (tp1 : List Nat) (exC exR : iA) (H1 : Heap) (locs1 : List Loc) (mc ms : Nat), mc ≤ 300 → ms ≤ 3000 → IV sh' sR τC τR W1 rl1 im1 tp1 → sh'.length ≤ sh.length + 115 → i_Wd sa D (fun q : Nat => s.heap.size ≤ q) (adC ++ exC) (s_h sh' τC) s H1 → i_Wd sa D (fun q : Nat => s.heap.size ≤ q) (adR ++ exR) (s_h sR τR) s H1 → i_apart (i_w sa (adC ++ exC) (s_h sh' τC)) (i_w sa (adR ++ exR) (s_h sR τR)) → va_S (fun q : Nat => s.heap.size ≤ q) s.heap H1 locs1 → W p l e room_1 s m #[Value.ref b] below meth c H1 locs1 (cells + mc) (slots + ms) Q (F0 m 1196 ls [])) :
    W p l e room_1 s m #[Value.ref b] below meth c H locs cells slots Q (F0 m 533 ls []) := by
  have hA : ∀ q : Nat, s.heap.size ≤ q → (fun q : Nat => s.heap.size ≤ q) q := fun _ h => h
  have hbA : ¬ (fun q : Nat => s.heap.size ≤ q) b := Nat.not_le.mpr hbl
  have ix : ∀ j : Nat, j < 6 → vp_in (nI i + nI j) L := fun j hj => by rw [nI_add]; exact vp_in_nI (by omega) (by omega)
  obtain ⟨v, mc, ms, sh', τC, τR, W1, rl1, im1, tp1, o1, o2, o3, o4, o5, o6, o7⟩ := o_strip h hbd (xs (nI i + nI 1).toNatClampNeg) (xs (nI i + nI 2).toNatClampNeg)
  refine lv_aload_n hx hb dL_law_533 rfl (lv_at hl 1 rfl) ?_
  refine lv_aload_n hx hb dL_law_534 rfl (lv_at hl 0 rfl) ?_
  refine lv_iload_n hx hb dL_law_535 rfl (lv_at hl 3 rfl) ?_
  refine lv_iconst (v := nI 1) hx hb dL_law_536 (by decide) ?_
  refine lv_iadd hx hb dL_law_537 ?_
  refine va_sld hx hb hX hbl hbA hS (ix 1 (by omega)) dL_law_538 ?_
  refine lv_aload_n hx hb dL_law_539 rfl (lv_at hl 0 rfl) ?_
  refine lv_iload_n hx hb dL_law_540 rfl (lv_at hl 3 rfl) ?_
  refine lv_iconst (v := nI 2) hx hb dL_law_541 (by decide) ?_
  refine lv_iadd hx hb dL_law_542 ?_
  refine va_sld hx hb hX hbl hbA hS (ix 2 (by omega)) dL_law_543 ?_
  refine law_V (y := 104) (n := 2) (As := [.int (xs (nI i + nI 1).toNatClampNeg), .int (xs (nI i + nI 2).toNatClampNeg)]) (rest := []) hx hb hml hown hts hE hA rfl (i_tb_law _ (by decide +kernel)) (by decide +kernel) (by decide +kernel) (by decide +kernel) o3 (fun x hx9 => by
    rcases List.mem_cons.mp hx9 with rfl | hx9
    · exact Or.inl (by rw [s_h_len]; have := cSh_len h.1.1; omega)
    · simp at hx9
      rcases hx9 with rfl | rfl <;> trivial) rfl (c0 h.1.1) (by decide +kernel) rfl wC wR dj hS hl.1 (Nat.le_of_ble_eq_true rfl) (by omega) (by omega) dL_law_544 (fun exC H1 locs1 wC wR dj hS => ?_)
  refine lv_aload_n hx hb dL_law_547 rfl (lv_at hl 2 rfl) ?_
  refine lv_aload_n hx hb dL_law_548 rfl (lv_at hl 0 rfl) ?_
  refine lv_iload_n hx hb dL_law_549 rfl (lv_at hl 3 rfl) ?_
  refine lv_iconst (v := nI 1) hx hb dL_law_550 (by decide) ?_
  refine lv_iadd hx hb dL_law_551 ?_
  refine va_sld hx hb hX hbl hbA hS (ix 1 (by omega)) dL_law_552 ?_
  refine lv_aload_n hx hb dL_law_553 rfl (lv_at hl 0 rfl) ?_
  refine lv_iload_n hx hb dL_law_554 rfl (lv_at hl 3 rfl) ?_
  refine lv_iconst (v := nI 2) hx hb dL_law_555 (by decide) ?_
  refine lv_iadd hx hb dL_law_556 ?_
  refine va_sld hx hb hX hbl hbA hS (ix 2 (by omega)) dL_law_557 ?_
  refine law_V (y := 195) (n := 2) (As := [.int (xs (nI i + nI 1).toNatClampNeg), .int (xs (nI i + nI 2).toNatClampNeg)]) (rest := [.int v]) hx hb hml hown hts hE hA rfl (i_tb_law _ (by decide +kernel)) (by decide +kernel) (by decide +kernel) (by decide +kernel) o4 (fun x hx9 => by
    rcases List.mem_cons.mp hx9 with rfl | hx9
    · exact Or.inl (by rw [s_h_len]; have := (List.getElem?_eq_some_iff.mp (r0 h.1.2.1)).1; omega)
    · simp at hx9
      rcases hx9 with rfl | rfl <;> trivial) rfl (s_h_at (r0 h.1.2.1)) (by decide +kernel) rfl wR wC (fun a b p q h1 h2 e => dj b a q p h2 h1 e.symm) hS hl.1 (Nat.le_of_ble_eq_true rfl) (by omega) (by omega) dL_law_558 (fun exR H2 locs2 wR wC dj hS => ?_)
  refine lv_icmp_eq (tgt := 1196) hx hb dL_law_561 (by decide) (fun _ => ?_) (fun hne => absurd rfl hne)
  exact kk sh' τC τR W1 rl1 im1 tp1 exC exR H2 locs2 mc ms o1 o2 o5 o7 wC wR (fun a b p q h1 h2 e => dj b a q p h2 h1 e.symm) hS
set_option maxHeartbeats 4000000 in
theorem k_undo {p : Program} {l : Launch} {e : Env} {s : State} {m : MethodId} {below : List Frame} {meth : Method} {c : Code} {H : Heap} {locs : List Loc} {cells slots : Nat} {Q : State → Prop} {D : va_G} {sa sv : Nat → Nat} {b L i : Nat} {xs : Nat → Int32} {ls : Array Slot} {adC adR : iA} {sh sR : List kd} {σC σR : St} {W0 : Wd} {rl : List Cl} {im : Im} {tp : List Nat}
    (hx : p.tables.exec = Jvm.exec) (hb : c.code = code) (hml : c.maxLocals = 4) (hown : s.vm.findClass RL = some m.cls) (hts : ∀ w ∈ i_tb, w.before #[Value.ref b] s = true) (hE : i_E D sa sv (fun q : Nat => s.heap.size ≤ q) s s.heap) (hX : va_X b L xs s s.heap) (hbl : b < s.heap.size)
    (h : IV sh sR σC σR W0 rl im tp) (hbd : sh.length + 120 < i_SB) (wC : i_Wd sa D (fun q : Nat => s.heap.size ≤ q) adC (s_h sh σC) s H) (wR : i_Wd sa D (fun q : Nat => s.heap.size ≤ q) adR (s_h sR σR) s H) (dj : i_apart (i_w sa adC (s_h sh σC)) (i_w sa adR (s_h sR σR))) (hS : va_S (fun q : Nat => s.heap.size ≤ q) s.heap H locs) (hl : lv_has ls 4 [(0, .ref b), (1, i_mv sa adC (.ref 0)), (2, i_mv sa adR (.ref 0)), (3, .int (nI i))]) (hi : i + 6 ≤ L) (hL : L ≤ 3072) (hc : cells + 300 ≤ 633637) (hs : slots + 3000 ≤ 7201338)
    (kk : ∀ (sh' : List kd) (τC τR : St) (W1 : Wd) (rl1 : List Cl) (im1 : Im) (tp1 : List Nat) (exC exR : iA) (H1 : Heap) (locs1 : List Loc) (mc ms : Nat), mc ≤ 300 → ms ≤ 3000 → IV sh' sR τC τR W1 rl1 im1 tp1 → sh'.length ≤ sh.length + 115 → i_Wd sa D (fun q : Nat => s.heap.size ≤ q) (adC ++ exC) (s_h sh' τC) s H1 → i_Wd sa D (fun q : Nat => s.heap.size ≤ q) (adR ++ exR) (s_h sR τR) s H1 → i_apart (i_w sa (adC ++ exC) (s_h sh' τC)) (i_w sa (adR ++ exR) (s_h sR τR)) → va_S (fun q : Nat => s.heap.size ≤ q) s.heap H1 locs1 → W p l e room_1 s m #[Value.ref b] below meth c H1 locs1 (cells + mc) (slots + ms) Q (F0 m 1196 ls [])) :
    W p l e room_1 s m #[Value.ref b] below meth c H locs cells slots Q (F0 m 566 ls []) := by
  have hA : ∀ q : Nat, s.heap.size ≤ q → (fun q : Nat => s.heap.size ≤ q) q := fun _ h => h
  have hbA : ¬ (fun q : Nat => s.heap.size ≤ q) b := Nat.not_le.mpr hbl
  have ix : ∀ j : Nat, j < 6 → vp_in (nI i + nI j) L := fun j hj => by rw [nI_add]; exact vp_in_nI (by omega) (by omega)
  obtain ⟨v, mc, ms, sh', τC, τR, W1, rl1, im1, tp1, o1, o2, o3, o4, o5, o6, o7⟩ := o_undo h hbd
  refine lv_aload_n hx hb dL_law_566 rfl (lv_at hl 1 rfl) ?_
  refine law_V (y := 105) (n := 0) (As := []) (rest := []) hx hb hml hown hts hE hA rfl (i_tb_law _ (by decide +kernel)) (by decide +kernel) (by decide +kernel) (by decide +kernel) o3 (fun x hx9 => by
    rw [List.mem_singleton.mp hx9]
    exact Or.inl (by rw [s_h_len]; have := cSh_len h.1.1; omega)) rfl (c0 h.1.1) (by decide +kernel) rfl wC wR dj hS hl.1 (Nat.le_of_ble_eq_true rfl) (by omega) (by omega) dL_law_567 (fun exC H1 locs1 wC wR dj hS => ?_)
  refine lv_aload_n hx hb dL_law_570 rfl (lv_at hl 2 rfl) ?_
  refine law_V (y := 189) (n := 0) (As := []) (rest := [.int v]) hx hb hml hown hts hE hA rfl (i_tb_law _ (by decide +kernel)) (by decide +kernel) (by decide +kernel) (by decide +kernel) o4 (fun x hx9 => by
    rw [List.mem_singleton.mp hx9]
    exact Or.inl (by rw [s_h_len]; have := (List.getElem?_eq_some_iff.mp (r0 h.1.2.1)).1; omega)) rfl (s_h_at (r0 h.1.2.1)) (by decide +kernel) rfl wR wC (fun a b p q h1 h2 e => dj b a q p h2 h1 e.symm) hS hl.1 (Nat.le_of_ble_eq_true rfl) (by omega) (by omega) dL_law_571 (fun exR H2 locs2 wR wC dj hS => ?_)
  refine lv_icmp_eq (tgt := 1196) hx hb dL_law_574 (by decide) (fun _ => ?_) (fun hne => absurd rfl hne)
  exact kk sh' τC τR W1 rl1 im1 tp1 exC exR H2 locs2 mc ms o1 o2 o5 o7 wC wR (fun a b p q h1 h2 e => dj b a q p h2 h1 e.symm) hS
set_option maxHeartbeats 4000000 in
theorem k_ahead {p : Program} {l : Launch} {e : Env} {s : State} {m : MethodId} {below : List Frame} {meth : Method} {c : Code} {H : Heap} {locs : List Loc} {cells slots : Nat} {Q : State → Prop} {D : va_G} {sa sv : Nat → Nat} {b L i : Nat} {xs : Nat → Int32} {ls : Array Slot} {adC adR : iA} {sh sR : List kd} {σC σR : St} {W0 : Wd} {rl : List Cl} {im : Im} {tp : List Nat}
    (hx : p.tables.exec = Jvm.exec) (hb : c.code = code) (hml : c.maxLocals = 4) (hown : s.vm.findClass RL = some m.cls) (hts : ∀ w ∈ i_tb, w.before #[Value.ref b] s = true) (hE : i_E D sa sv (fun q : Nat => s.heap.size ≤ q) s s.heap) (hX : va_X b L xs s s.heap) (hbl : b < s.heap.size)
    (h : IV sh sR σC σR W0 rl im tp) (hbd : sh.length + 120 < i_SB) (wC : i_Wd sa D (fun q : Nat => s.heap.size ≤ q) adC (s_h sh σC) s H) (wR : i_Wd sa D (fun q : Nat => s.heap.size ≤ q) adR (s_h sR σR) s H) (dj : i_apart (i_w sa adC (s_h sh σC)) (i_w sa adR (s_h sR σR))) (hS : va_S (fun q : Nat => s.heap.size ≤ q) s.heap H locs) (hl : lv_has ls 4 [(0, .ref b), (1, i_mv sa adC (.ref 0)), (2, i_mv sa adR (.ref 0)), (3, .int (nI i))]) (hi : i + 6 ≤ L) (hL : L ≤ 3072) (hc : cells + 300 ≤ 633637) (hs : slots + 3000 ≤ 7201338)
    (kk : ∀ (sh' : List kd) (τC τR : St) (W1 : Wd) (rl1 : List Cl) (im1 : Im) (tp1 : List Nat) (exC exR : iA) (H1 : Heap) (locs1 : List Loc) (mc ms : Nat), mc ≤ 300 → ms ≤ 3000 → IV sh' sR τC τR W1 rl1 im1 tp1 → sh'.length ≤ sh.length + 115 → i_Wd sa D (fun q : Nat => s.heap.size ≤ q) (adC ++ exC) (s_h sh' τC) s H1 → i_Wd sa D (fun q : Nat => s.heap.size ≤ q) (adR ++ exR) (s_h sR τR) s H1 → i_apart (i_w sa (adC ++ exC) (s_h sh' τC)) (i_w sa (adR ++ exR) (s_h sR τR)) → va_S (fun q : Nat => s.heap.size ≤ q) s.heap H1 locs1 → W p l e room_1 s m #[Value.ref b] below meth c H1 locs1 (cells + mc) (slots + ms) Q (F0 m 1196 ls [])) :
    W p l e room_1 s m #[Value.ref b] below meth c H locs cells slots Q (F0 m 579 ls []) := by
  have hA : ∀ q : Nat, s.heap.size ≤ q → (fun q : Nat => s.heap.size ≤ q) q := fun _ h => h
  have hbA : ¬ (fun q : Nat => s.heap.size ≤ q) b := Nat.not_le.mpr hbl
  have ix : ∀ j : Nat, j < 6 → vp_in (nI i + nI j) L := fun j hj => by rw [nI_add]; exact vp_in_nI (by omega) (by omega)
  obtain ⟨v, mc, ms, sh', τC, τR, W1, rl1, im1, tp1, o1, o2, o3, o4, o5, o6, o7⟩ := o_ahead h hbd (xs (nI i + nI 1).toNatClampNeg) (xs (nI i + nI 2).toNatClampNeg) (xs (nI i + nI 3).toNatClampNeg)
  refine lv_aload_n hx hb dL_law_579 rfl (lv_at hl 1 rfl) ?_
  refine lv_aload_n hx hb dL_law_580 rfl (lv_at hl 0 rfl) ?_
  refine lv_iload_n hx hb dL_law_581 rfl (lv_at hl 3 rfl) ?_
  refine lv_iconst (v := nI 1) hx hb dL_law_582 (by decide) ?_
  refine lv_iadd hx hb dL_law_583 ?_
  refine va_sld hx hb hX hbl hbA hS (ix 1 (by omega)) dL_law_584 ?_
  refine lv_aload_n hx hb dL_law_585 rfl (lv_at hl 0 rfl) ?_
  refine lv_iload_n hx hb dL_law_586 rfl (lv_at hl 3 rfl) ?_
  refine lv_iconst (v := nI 2) hx hb dL_law_587 (by decide) ?_
  refine lv_iadd hx hb dL_law_588 ?_
  refine va_sld hx hb hX hbl hbA hS (ix 2 (by omega)) dL_law_589 ?_
  refine lv_aload_n hx hb dL_law_590 rfl (lv_at hl 0 rfl) ?_
  refine lv_iload_n hx hb dL_law_591 rfl (lv_at hl 3 rfl) ?_
  refine lv_iconst (v := nI 3) hx hb dL_law_592 (by decide) ?_
  refine lv_iadd hx hb dL_law_593 ?_
  refine va_sld hx hb hX hbl hbA hS (ix 3 (by omega)) dL_law_594 ?_
  refine law_V (y := 106) (n := 3) (As := [.int (xs (nI i + nI 1).toNatClampNeg), .int (xs (nI i + nI 2).toNatClampNeg), .int (xs (nI i + nI 3).toNatClampNeg)]) (rest := []) hx hb hml hown hts hE hA rfl (i_tb_law _ (by decide +kernel)) (by decide +kernel) (by decide +kernel) (by decide +kernel) o3 (fun x hx9 => by
    rcases List.mem_cons.mp hx9 with rfl | hx9
    · exact Or.inl (by rw [s_h_len]; have := cSh_len h.1.1; omega)
    · simp at hx9
      rcases hx9 with rfl | rfl | rfl <;> trivial) rfl (c0 h.1.1) (by decide +kernel) rfl wC wR dj hS hl.1 (Nat.le_of_ble_eq_true rfl) (by omega) (by omega) dL_law_595 (fun exC H1 locs1 wC wR dj hS => ?_)
  refine lv_aload_n hx hb dL_law_598 rfl (lv_at hl 2 rfl) ?_
  refine lv_aload_n hx hb dL_law_599 rfl (lv_at hl 0 rfl) ?_
  refine lv_iload_n hx hb dL_law_600 rfl (lv_at hl 3 rfl) ?_
  refine lv_iconst (v := nI 1) hx hb dL_law_601 (by decide) ?_
  refine lv_iadd hx hb dL_law_602 ?_
  refine va_sld hx hb hX hbl hbA hS (ix 1 (by omega)) dL_law_603 ?_
  refine lv_aload_n hx hb dL_law_604 rfl (lv_at hl 0 rfl) ?_
  refine lv_iload_n hx hb dL_law_605 rfl (lv_at hl 3 rfl) ?_
  refine lv_iconst (v := nI 2) hx hb dL_law_606 (by decide) ?_
  refine lv_iadd hx hb dL_law_607 ?_
  refine va_sld hx hb hX hbl hbA hS (ix 2 (by omega)) dL_law_608 ?_
  refine lv_aload_n hx hb dL_law_609 rfl (lv_at hl 0 rfl) ?_
  refine lv_iload_n hx hb dL_law_610 rfl (lv_at hl 3 rfl) ?_
  refine lv_iconst (v := nI 3) hx hb dL_law_611 (by decide) ?_
  refine lv_iadd hx hb dL_law_612 ?_
  refine va_sld hx hb hX hbl hbA hS (ix 3 (by omega)) dL_law_613 ?_
  refine law_V (y := 198) (n := 3) (As := [.int (xs (nI i + nI 1).toNatClampNeg), .int (xs (nI i + nI 2).toNatClampNeg), .int (xs (nI i + nI 3).toNatClampNeg)]) (rest := [.int v]) hx hb hml hown hts hE hA rfl (i_tb_law _ (by decide +kernel)) (by decide +kernel) (by decide +kernel) (by decide +kernel) o4 (fun x hx9 => by
    rcases List.mem_cons.mp hx9 with rfl | hx9
    · exact Or.inl (by rw [s_h_len]; have := (List.getElem?_eq_some_iff.mp (r0 h.1.2.1)).1; omega)
    · simp at hx9
      rcases hx9 with rfl | rfl | rfl <;> trivial) rfl (s_h_at (r0 h.1.2.1)) (by decide +kernel) rfl wR wC (fun a b p q h1 h2 e => dj b a q p h2 h1 e.symm) hS hl.1 (Nat.le_of_ble_eq_true rfl) (by omega) (by omega) dL_law_614 (fun exR H2 locs2 wR wC dj hS => ?_)
  refine lv_icmp_eq (tgt := 1196) hx hb dL_law_617 (by decide) (fun _ => ?_) (fun hne => absurd rfl hne)
  exact kk sh' τC τR W1 rl1 im1 tp1 exC exR H2 locs2 mc ms o1 o2 o5 o7 wC wR (fun a b p q h1 h2 e => dj b a q p h2 h1 e.symm) hS
set_option maxHeartbeats 4000000 in
theorem k_dubbed {p : Program} {l : Launch} {e : Env} {s : State} {m : MethodId} {below : List Frame} {meth : Method} {c : Code} {H : Heap} {locs : List Loc} {cells slots : Nat} {Q : State → Prop} {D : va_G} {sa sv : Nat → Nat} {b L i : Nat} {xs : Nat → Int32} {ls : Array Slot} {adC adR : iA} {sh sR : List kd} {σC σR : St} {W0 : Wd} {rl : List Cl} {im : Im} {tp : List Nat}
    (hx : p.tables.exec = Jvm.exec) (hb : c.code = code) (hml : c.maxLocals = 4) (hown : s.vm.findClass RL = some m.cls) (hts : ∀ w ∈ i_tb, w.before #[Value.ref b] s = true) (hE : i_E D sa sv (fun q : Nat => s.heap.size ≤ q) s s.heap) (hX : va_X b L xs s s.heap) (hbl : b < s.heap.size)
    (h : IV sh sR σC σR W0 rl im tp) (hbd : sh.length + 120 < i_SB) (wC : i_Wd sa D (fun q : Nat => s.heap.size ≤ q) adC (s_h sh σC) s H) (wR : i_Wd sa D (fun q : Nat => s.heap.size ≤ q) adR (s_h sR σR) s H) (dj : i_apart (i_w sa adC (s_h sh σC)) (i_w sa adR (s_h sR σR))) (hS : va_S (fun q : Nat => s.heap.size ≤ q) s.heap H locs) (hl : lv_has ls 4 [(0, .ref b), (1, i_mv sa adC (.ref 0)), (2, i_mv sa adR (.ref 0)), (3, .int (nI i))]) (hi : i + 6 ≤ L) (hL : L ≤ 3072) (hc : cells + 300 ≤ 633637) (hs : slots + 3000 ≤ 7201338)
    (kk : ∀ (sh' : List kd) (τC τR : St) (W1 : Wd) (rl1 : List Cl) (im1 : Im) (tp1 : List Nat) (exC exR : iA) (H1 : Heap) (locs1 : List Loc) (mc ms : Nat), mc ≤ 300 → ms ≤ 3000 → IV sh' sR τC τR W1 rl1 im1 tp1 → sh'.length ≤ sh.length + 115 → i_Wd sa D (fun q : Nat => s.heap.size ≤ q) (adC ++ exC) (s_h sh' τC) s H1 → i_Wd sa D (fun q : Nat => s.heap.size ≤ q) (adR ++ exR) (s_h sR τR) s H1 → i_apart (i_w sa (adC ++ exC) (s_h sh' τC)) (i_w sa (adR ++ exR) (s_h sR τR)) → va_S (fun q : Nat => s.heap.size ≤ q) s.heap H1 locs1 → W p l e room_1 s m #[Value.ref b] below meth c H1 locs1 (cells + mc) (slots + ms) Q (F0 m 1196 ls [])) :
    W p l e room_1 s m #[Value.ref b] below meth c H locs cells slots Q (F0 m 622 ls []) := by
  have hA : ∀ q : Nat, s.heap.size ≤ q → (fun q : Nat => s.heap.size ≤ q) q := fun _ h => h
  have hbA : ¬ (fun q : Nat => s.heap.size ≤ q) b := Nat.not_le.mpr hbl
  have ix : ∀ j : Nat, j < 6 → vp_in (nI i + nI j) L := fun j hj => by rw [nI_add]; exact vp_in_nI (by omega) (by omega)
  obtain ⟨v, mc, ms, sh', τC, τR, W1, rl1, im1, tp1, o1, o2, o3, o4, o5, o6, o7⟩ := o_dubbed h hbd (xs (nI i + nI 1).toNatClampNeg) (xs (nI i + nI 2).toNatClampNeg)
  refine lv_aload_n hx hb dL_law_622 rfl (lv_at hl 1 rfl) ?_
  refine lv_aload_n hx hb dL_law_623 rfl (lv_at hl 0 rfl) ?_
  refine lv_iload_n hx hb dL_law_624 rfl (lv_at hl 3 rfl) ?_
  refine lv_iconst (v := nI 1) hx hb dL_law_625 (by decide) ?_
  refine lv_iadd hx hb dL_law_626 ?_
  refine va_sld hx hb hX hbl hbA hS (ix 1 (by omega)) dL_law_627 ?_
  refine lv_aload_n hx hb dL_law_628 rfl (lv_at hl 0 rfl) ?_
  refine lv_iload_n hx hb dL_law_629 rfl (lv_at hl 3 rfl) ?_
  refine lv_iconst (v := nI 2) hx hb dL_law_630 (by decide) ?_
  refine lv_iadd hx hb dL_law_631 ?_
  refine va_sld hx hb hX hbl hbA hS (ix 2 (by omega)) dL_law_632 ?_
  refine law_V (y := 107) (n := 2) (As := [.int (xs (nI i + nI 1).toNatClampNeg), .int (xs (nI i + nI 2).toNatClampNeg)]) (rest := []) hx hb hml hown hts hE hA rfl (i_tb_law _ (by decide +kernel)) (by decide +kernel) (by decide +kernel) (by decide +kernel) o3 (fun x hx9 => by
    rcases List.mem_cons.mp hx9 with rfl | hx9
    · exact Or.inl (by rw [s_h_len]; have := cSh_len h.1.1; omega)
    · simp at hx9
      rcases hx9 with rfl | rfl <;> trivial) rfl (c0 h.1.1) (by decide +kernel) rfl wC wR dj hS hl.1 (Nat.le_of_ble_eq_true rfl) (by omega) (by omega) dL_law_633 (fun exC H1 locs1 wC wR dj hS => ?_)
  refine lv_aload_n hx hb dL_law_636 rfl (lv_at hl 2 rfl) ?_
  refine lv_aload_n hx hb dL_law_637 rfl (lv_at hl 0 rfl) ?_
  refine lv_iload_n hx hb dL_law_638 rfl (lv_at hl 3 rfl) ?_
  refine lv_iconst (v := nI 1) hx hb dL_law_639 (by decide) ?_
  refine lv_iadd hx hb dL_law_640 ?_
  refine va_sld hx hb hX hbl hbA hS (ix 1 (by omega)) dL_law_641 ?_
  refine lv_aload_n hx hb dL_law_642 rfl (lv_at hl 0 rfl) ?_
  refine lv_iload_n hx hb dL_law_643 rfl (lv_at hl 3 rfl) ?_
  refine lv_iconst (v := nI 2) hx hb dL_law_644 (by decide) ?_
  refine lv_iadd hx hb dL_law_645 ?_
  refine va_sld hx hb hX hbl hbA hS (ix 2 (by omega)) dL_law_646 ?_
  refine law_V (y := 199) (n := 2) (As := [.int (xs (nI i + nI 1).toNatClampNeg), .int (xs (nI i + nI 2).toNatClampNeg)]) (rest := [.int v]) hx hb hml hown hts hE hA rfl (i_tb_law _ (by decide +kernel)) (by decide +kernel) (by decide +kernel) (by decide +kernel) o4 (fun x hx9 => by
    rcases List.mem_cons.mp hx9 with rfl | hx9
    · exact Or.inl (by rw [s_h_len]; have := (List.getElem?_eq_some_iff.mp (r0 h.1.2.1)).1; omega)
    · simp at hx9
      rcases hx9 with rfl | rfl <;> trivial) rfl (s_h_at (r0 h.1.2.1)) (by decide +kernel) rfl wR wC (fun a b p q h1 h2 e => dj b a q p h2 h1 e.symm) hS hl.1 (Nat.le_of_ble_eq_true rfl) (by omega) (by omega) dL_law_647 (fun exR H2 locs2 wR wC dj hS => ?_)
  refine lv_icmp_eq (tgt := 1196) hx hb dL_law_650 (by decide) (fun _ => ?_) (fun hne => absurd rfl hne)
  exact kk sh' τC τR W1 rl1 im1 tp1 exC exR H2 locs2 mc ms o1 o2 o5 o7 wC wR (fun a b p q h1 h2 e => dj b a q p h2 h1 e.symm) hS
set_option maxHeartbeats 4000000 in
theorem k_least {p : Program} {l : Launch} {e : Env} {s : State} {m : MethodId} {below : List Frame} {meth : Method} {c : Code} {H : Heap} {locs : List Loc} {cells slots : Nat} {Q : State → Prop} {D : va_G} {sa sv : Nat → Nat} {b L i : Nat} {xs : Nat → Int32} {ls : Array Slot} {adC adR : iA} {sh sR : List kd} {σC σR : St} {W0 : Wd} {rl : List Cl} {im : Im} {tp : List Nat}
    (hx : p.tables.exec = Jvm.exec) (hb : c.code = code) (hml : c.maxLocals = 4) (hown : s.vm.findClass RL = some m.cls) (hts : ∀ w ∈ i_tb, w.before #[Value.ref b] s = true) (hE : i_E D sa sv (fun q : Nat => s.heap.size ≤ q) s s.heap) (hX : va_X b L xs s s.heap) (hbl : b < s.heap.size)
    (h : IV sh sR σC σR W0 rl im tp) (hbd : sh.length + 120 < i_SB) (wC : i_Wd sa D (fun q : Nat => s.heap.size ≤ q) adC (s_h sh σC) s H) (wR : i_Wd sa D (fun q : Nat => s.heap.size ≤ q) adR (s_h sR σR) s H) (dj : i_apart (i_w sa adC (s_h sh σC)) (i_w sa adR (s_h sR σR))) (hS : va_S (fun q : Nat => s.heap.size ≤ q) s.heap H locs) (hl : lv_has ls 4 [(0, .ref b), (1, i_mv sa adC (.ref 0)), (2, i_mv sa adR (.ref 0)), (3, .int (nI i))]) (hi : i + 6 ≤ L) (hL : L ≤ 3072) (hc : cells + 300 ≤ 633637) (hs : slots + 3000 ≤ 7201338)
    (kk : ∀ (sh' : List kd) (τC τR : St) (W1 : Wd) (rl1 : List Cl) (im1 : Im) (tp1 : List Nat) (exC exR : iA) (H1 : Heap) (locs1 : List Loc) (mc ms : Nat), mc ≤ 300 → ms ≤ 3000 → IV sh' sR τC τR W1 rl1 im1 tp1 → sh'.length ≤ sh.length + 115 → i_Wd sa D (fun q : Nat => s.heap.size ≤ q) (adC ++ exC) (s_h sh' τC) s H1 → i_Wd sa D (fun q : Nat => s.heap.size ≤ q) (adR ++ exR) (s_h sR τR) s H1 → i_apart (i_w sa (adC ++ exC) (s_h sh' τC)) (i_w sa (adR ++ exR) (s_h sR τR)) → va_S (fun q : Nat => s.heap.size ≤ q) s.heap H1 locs1 → W p l e room_1 s m #[Value.ref b] below meth c H1 locs1 (cells + mc) (slots + ms) Q (F0 m 1196 ls [])) :
    W p l e room_1 s m #[Value.ref b] below meth c H locs cells slots Q (F0 m 655 ls []) := by
  have hA : ∀ q : Nat, s.heap.size ≤ q → (fun q : Nat => s.heap.size ≤ q) q := fun _ h => h
  have hbA : ¬ (fun q : Nat => s.heap.size ≤ q) b := Nat.not_le.mpr hbl
  have ix : ∀ j : Nat, j < 6 → vp_in (nI i + nI j) L := fun j hj => by rw [nI_add]; exact vp_in_nI (by omega) (by omega)
  obtain ⟨v, mc, ms, sh', τC, τR, W1, rl1, im1, tp1, o1, o2, o3, o4, o5, o6, o7⟩ := o_least h hbd (xs (nI i + nI 1).toNatClampNeg) (xs (nI i + nI 2).toNatClampNeg) (xs (nI i + nI 3).toNatClampNeg)
  refine lv_aload_n hx hb dL_law_655 rfl (lv_at hl 1 rfl) ?_
  refine lv_aload_n hx hb dL_law_656 rfl (lv_at hl 0 rfl) ?_
  refine lv_iload_n hx hb dL_law_657 rfl (lv_at hl 3 rfl) ?_
  refine lv_iconst (v := nI 1) hx hb dL_law_658 (by decide) ?_
  refine lv_iadd hx hb dL_law_659 ?_
  refine va_sld hx hb hX hbl hbA hS (ix 1 (by omega)) dL_law_660 ?_
  refine lv_aload_n hx hb dL_law_661 rfl (lv_at hl 0 rfl) ?_
  refine lv_iload_n hx hb dL_law_662 rfl (lv_at hl 3 rfl) ?_
  refine lv_iconst (v := nI 2) hx hb dL_law_663 (by decide) ?_
  refine lv_iadd hx hb dL_law_664 ?_
  refine va_sld hx hb hX hbl hbA hS (ix 2 (by omega)) dL_law_665 ?_
  refine lv_aload_n hx hb dL_law_666 rfl (lv_at hl 0 rfl) ?_
  refine lv_iload_n hx hb dL_law_667 rfl (lv_at hl 3 rfl) ?_
  refine lv_iconst (v := nI 3) hx hb dL_law_668 (by decide) ?_
  refine lv_iadd hx hb dL_law_669 ?_
  refine va_sld hx hb hX hbl hbA hS (ix 3 (by omega)) dL_law_670 ?_
  refine law_V (y := 108) (n := 3) (As := [.int (xs (nI i + nI 1).toNatClampNeg), .int (xs (nI i + nI 2).toNatClampNeg), .int (xs (nI i + nI 3).toNatClampNeg)]) (rest := []) hx hb hml hown hts hE hA rfl (i_tb_law _ (by decide +kernel)) (by decide +kernel) (by decide +kernel) (by decide +kernel) o3 (fun x hx9 => by
    rcases List.mem_cons.mp hx9 with rfl | hx9
    · exact Or.inl (by rw [s_h_len]; have := cSh_len h.1.1; omega)
    · simp at hx9
      rcases hx9 with rfl | rfl | rfl <;> trivial) rfl (c0 h.1.1) (by decide +kernel) rfl wC wR dj hS hl.1 (Nat.le_of_ble_eq_true rfl) (by omega) (by omega) dL_law_671 (fun exC H1 locs1 wC wR dj hS => ?_)
  refine lv_aload_n hx hb dL_law_674 rfl (lv_at hl 2 rfl) ?_
  refine lv_aload_n hx hb dL_law_675 rfl (lv_at hl 0 rfl) ?_
  refine lv_iload_n hx hb dL_law_676 rfl (lv_at hl 3 rfl) ?_
  refine lv_iconst (v := nI 1) hx hb dL_law_677 (by decide) ?_
  refine lv_iadd hx hb dL_law_678 ?_
  refine va_sld hx hb hX hbl hbA hS (ix 1 (by omega)) dL_law_679 ?_
  refine lv_aload_n hx hb dL_law_680 rfl (lv_at hl 0 rfl) ?_
  refine lv_iload_n hx hb dL_law_681 rfl (lv_at hl 3 rfl) ?_
  refine lv_iconst (v := nI 2) hx hb dL_law_682 (by decide) ?_
  refine lv_iadd hx hb dL_law_683 ?_
  refine va_sld hx hb hX hbl hbA hS (ix 2 (by omega)) dL_law_684 ?_
  refine lv_aload_n hx hb dL_law_685 rfl (lv_at hl 0 rfl) ?_
  refine lv_iload_n hx hb dL_law_686 rfl (lv_at hl 3 rfl) ?_
  refine lv_iconst (v := nI 3) hx hb dL_law_687 (by decide) ?_
  refine lv_iadd hx hb dL_law_688 ?_
  refine va_sld hx hb hX hbl hbA hS (ix 3 (by omega)) dL_law_689 ?_
  refine law_V (y := 200) (n := 3) (As := [.int (xs (nI i + nI 1).toNatClampNeg), .int (xs (nI i + nI 2).toNatClampNeg), .int (xs (nI i + nI 3).toNatClampNeg)]) (rest := [.int v]) hx hb hml hown hts hE hA rfl (i_tb_law _ (by decide +kernel)) (by decide +kernel) (by decide +kernel) (by decide +kernel) o4 (fun x hx9 => by
    rcases List.mem_cons.mp hx9 with rfl | hx9
    · exact Or.inl (by rw [s_h_len]; have := (List.getElem?_eq_some_iff.mp (r0 h.1.2.1)).1; omega)
    · simp at hx9
      rcases hx9 with rfl | rfl | rfl <;> trivial) rfl (s_h_at (r0 h.1.2.1)) (by decide +kernel) rfl wR wC (fun a b p q h1 h2 e => dj b a q p h2 h1 e.symm) hS hl.1 (Nat.le_of_ble_eq_true rfl) (by omega) (by omega) dL_law_690 (fun exR H2 locs2 wR wC dj hS => ?_)
  refine lv_icmp_eq (tgt := 1196) hx hb dL_law_693 (by decide) (fun _ => ?_) (fun hne => absurd rfl hne)
  exact kk sh' τC τR W1 rl1 im1 tp1 exC exR H2 locs2 mc ms o1 o2 o5 o7 wC wR (fun a b p q h1 h2 e => dj b a q p h2 h1 e.symm) hS
set_option maxHeartbeats 4000000 in
theorem k_spare {p : Program} {l : Launch} {e : Env} {s : State} {m : MethodId} {below : List Frame} {meth : Method} {c : Code} {H : Heap} {locs : List Loc} {cells slots : Nat} {Q : State → Prop} {D : va_G} {sa sv : Nat → Nat} {b L i : Nat} {xs : Nat → Int32} {ls : Array Slot} {adC adR : iA} {sh sR : List kd} {σC σR : St} {W0 : Wd} {rl : List Cl} {im : Im} {tp : List Nat}
    (hx : p.tables.exec = Jvm.exec) (hb : c.code = code) (hml : c.maxLocals = 4) (hown : s.vm.findClass RL = some m.cls) (hts : ∀ w ∈ i_tb, w.before #[Value.ref b] s = true) (hE : i_E D sa sv (fun q : Nat => s.heap.size ≤ q) s s.heap) (hX : va_X b L xs s s.heap) (hbl : b < s.heap.size)
    (h : IV sh sR σC σR W0 rl im tp) (hbd : sh.length + 120 < i_SB) (wC : i_Wd sa D (fun q : Nat => s.heap.size ≤ q) adC (s_h sh σC) s H) (wR : i_Wd sa D (fun q : Nat => s.heap.size ≤ q) adR (s_h sR σR) s H) (dj : i_apart (i_w sa adC (s_h sh σC)) (i_w sa adR (s_h sR σR))) (hS : va_S (fun q : Nat => s.heap.size ≤ q) s.heap H locs) (hl : lv_has ls 4 [(0, .ref b), (1, i_mv sa adC (.ref 0)), (2, i_mv sa adR (.ref 0)), (3, .int (nI i))]) (hi : i + 6 ≤ L) (hL : L ≤ 3072) (hc : cells + 300 ≤ 633637) (hs : slots + 3000 ≤ 7201338)
    (kk : ∀ (sh' : List kd) (τC τR : St) (W1 : Wd) (rl1 : List Cl) (im1 : Im) (tp1 : List Nat) (exC exR : iA) (H1 : Heap) (locs1 : List Loc) (mc ms : Nat), mc ≤ 300 → ms ≤ 3000 → IV sh' sR τC τR W1 rl1 im1 tp1 → sh'.length ≤ sh.length + 115 → i_Wd sa D (fun q : Nat => s.heap.size ≤ q) (adC ++ exC) (s_h sh' τC) s H1 → i_Wd sa D (fun q : Nat => s.heap.size ≤ q) (adR ++ exR) (s_h sR τR) s H1 → i_apart (i_w sa (adC ++ exC) (s_h sh' τC)) (i_w sa (adR ++ exR) (s_h sR τR)) → va_S (fun q : Nat => s.heap.size ≤ q) s.heap H1 locs1 → W p l e room_1 s m #[Value.ref b] below meth c H1 locs1 (cells + mc) (slots + ms) Q (F0 m 1196 ls [])) :
    W p l e room_1 s m #[Value.ref b] below meth c H locs cells slots Q (F0 m 698 ls []) := by
  have hA : ∀ q : Nat, s.heap.size ≤ q → (fun q : Nat => s.heap.size ≤ q) q := fun _ h => h
  have hbA : ¬ (fun q : Nat => s.heap.size ≤ q) b := Nat.not_le.mpr hbl
  have ix : ∀ j : Nat, j < 6 → vp_in (nI i + nI j) L := fun j hj => by rw [nI_add]; exact vp_in_nI (by omega) (by omega)
  obtain ⟨v, mc, ms, sh', τC, τR, W1, rl1, im1, tp1, o1, o2, o3, o4, o5, o6, o7⟩ := o_spare h hbd (xs (nI i + nI 1).toNatClampNeg) (xs (nI i + nI 2).toNatClampNeg) (xs (nI i + nI 3).toNatClampNeg)
  refine lv_aload_n hx hb dL_law_698 rfl (lv_at hl 1 rfl) ?_
  refine lv_aload_n hx hb dL_law_699 rfl (lv_at hl 0 rfl) ?_
  refine lv_iload_n hx hb dL_law_700 rfl (lv_at hl 3 rfl) ?_
  refine lv_iconst (v := nI 1) hx hb dL_law_701 (by decide) ?_
  refine lv_iadd hx hb dL_law_702 ?_
  refine va_sld hx hb hX hbl hbA hS (ix 1 (by omega)) dL_law_703 ?_
  refine lv_aload_n hx hb dL_law_704 rfl (lv_at hl 0 rfl) ?_
  refine lv_iload_n hx hb dL_law_705 rfl (lv_at hl 3 rfl) ?_
  refine lv_iconst (v := nI 2) hx hb dL_law_706 (by decide) ?_
  refine lv_iadd hx hb dL_law_707 ?_
  refine va_sld hx hb hX hbl hbA hS (ix 2 (by omega)) dL_law_708 ?_
  refine lv_aload_n hx hb dL_law_709 rfl (lv_at hl 0 rfl) ?_
  refine lv_iload_n hx hb dL_law_710 rfl (lv_at hl 3 rfl) ?_
  refine lv_iconst (v := nI 3) hx hb dL_law_711 (by decide) ?_
  refine lv_iadd hx hb dL_law_712 ?_
  refine va_sld hx hb hX hbl hbA hS (ix 3 (by omega)) dL_law_713 ?_
  refine law_V (y := 109) (n := 3) (As := [.int (xs (nI i + nI 1).toNatClampNeg), .int (xs (nI i + nI 2).toNatClampNeg), .int (xs (nI i + nI 3).toNatClampNeg)]) (rest := []) hx hb hml hown hts hE hA rfl (i_tb_law _ (by decide +kernel)) (by decide +kernel) (by decide +kernel) (by decide +kernel) o3 (fun x hx9 => by
    rcases List.mem_cons.mp hx9 with rfl | hx9
    · exact Or.inl (by rw [s_h_len]; have := cSh_len h.1.1; omega)
    · simp at hx9
      rcases hx9 with rfl | rfl | rfl <;> trivial) rfl (c0 h.1.1) (by decide +kernel) rfl wC wR dj hS hl.1 (Nat.le_of_ble_eq_true rfl) (by omega) (by omega) dL_law_714 (fun exC H1 locs1 wC wR dj hS => ?_)
  refine lv_aload_n hx hb dL_law_717 rfl (lv_at hl 2 rfl) ?_
  refine lv_aload_n hx hb dL_law_718 rfl (lv_at hl 0 rfl) ?_
  refine lv_iload_n hx hb dL_law_719 rfl (lv_at hl 3 rfl) ?_
  refine lv_iconst (v := nI 1) hx hb dL_law_720 (by decide) ?_
  refine lv_iadd hx hb dL_law_721 ?_
  refine va_sld hx hb hX hbl hbA hS (ix 1 (by omega)) dL_law_722 ?_
  refine lv_aload_n hx hb dL_law_723 rfl (lv_at hl 0 rfl) ?_
  refine lv_iload_n hx hb dL_law_724 rfl (lv_at hl 3 rfl) ?_
  refine lv_iconst (v := nI 2) hx hb dL_law_725 (by decide) ?_
  refine lv_iadd hx hb dL_law_726 ?_
  refine va_sld hx hb hX hbl hbA hS (ix 2 (by omega)) dL_law_727 ?_
  refine lv_aload_n hx hb dL_law_728 rfl (lv_at hl 0 rfl) ?_
  refine lv_iload_n hx hb dL_law_729 rfl (lv_at hl 3 rfl) ?_
  refine lv_iconst (v := nI 3) hx hb dL_law_730 (by decide) ?_
  refine lv_iadd hx hb dL_law_731 ?_
  refine va_sld hx hb hX hbl hbA hS (ix 3 (by omega)) dL_law_732 ?_
  refine law_V (y := 202) (n := 3) (As := [.int (xs (nI i + nI 1).toNatClampNeg), .int (xs (nI i + nI 2).toNatClampNeg), .int (xs (nI i + nI 3).toNatClampNeg)]) (rest := [.int v]) hx hb hml hown hts hE hA rfl (i_tb_law _ (by decide +kernel)) (by decide +kernel) (by decide +kernel) (by decide +kernel) o4 (fun x hx9 => by
    rcases List.mem_cons.mp hx9 with rfl | hx9
    · exact Or.inl (by rw [s_h_len]; have := (List.getElem?_eq_some_iff.mp (r0 h.1.2.1)).1; omega)
    · simp at hx9
      rcases hx9 with rfl | rfl | rfl <;> trivial) rfl (s_h_at (r0 h.1.2.1)) (by decide +kernel) rfl wR wC (fun a b p q h1 h2 e => dj b a q p h2 h1 e.symm) hS hl.1 (Nat.le_of_ble_eq_true rfl) (by omega) (by omega) dL_law_733 (fun exR H2 locs2 wR wC dj hS => ?_)
  refine lv_icmp_eq (tgt := 1196) hx hb dL_law_736 (by decide) (fun _ => ?_) (fun hne => absurd rfl hne)
  exact kk sh' τC τR W1 rl1 im1 tp1 exC exR H2 locs2 mc ms o1 o2 o5 o7 wC wR (fun a b p q h1 h2 e => dj b a q p h2 h1 e.symm) hS
set_option maxHeartbeats 4000000 in
theorem k_lay {p : Program} {l : Launch} {e : Env} {s : State} {m : MethodId} {below : List Frame} {meth : Method} {c : Code} {H : Heap} {locs : List Loc} {cells slots : Nat} {Q : State → Prop} {D : va_G} {sa sv : Nat → Nat} {b L i : Nat} {xs : Nat → Int32} {ls : Array Slot} {adC adR : iA} {sh sR : List kd} {σC σR : St} {W0 : Wd} {rl : List Cl} {im : Im} {tp : List Nat}
    (hx : p.tables.exec = Jvm.exec) (hb : c.code = code) (hml : c.maxLocals = 4) (hown : s.vm.findClass RL = some m.cls) (hts : ∀ w ∈ i_tb, w.before #[Value.ref b] s = true) (hE : i_E D sa sv (fun q : Nat => s.heap.size ≤ q) s s.heap) (hX : va_X b L xs s s.heap) (hbl : b < s.heap.size)
    (h : IV sh sR σC σR W0 rl im tp) (hbd : sh.length + 120 < i_SB) (wC : i_Wd sa D (fun q : Nat => s.heap.size ≤ q) adC (s_h sh σC) s H) (wR : i_Wd sa D (fun q : Nat => s.heap.size ≤ q) adR (s_h sR σR) s H) (dj : i_apart (i_w sa adC (s_h sh σC)) (i_w sa adR (s_h sR σR))) (hS : va_S (fun q : Nat => s.heap.size ≤ q) s.heap H locs) (hl : lv_has ls 4 [(0, .ref b), (1, i_mv sa adC (.ref 0)), (2, i_mv sa adR (.ref 0)), (3, .int (nI i))]) (hi : i + 6 ≤ L) (hL : L ≤ 3072) (hc : cells + 300 ≤ 633637) (hs : slots + 3000 ≤ 7201338)
    (kk : ∀ (sh' : List kd) (τC τR : St) (W1 : Wd) (rl1 : List Cl) (im1 : Im) (tp1 : List Nat) (exC exR : iA) (H1 : Heap) (locs1 : List Loc) (mc ms : Nat), mc ≤ 300 → ms ≤ 3000 → IV sh' sR τC τR W1 rl1 im1 tp1 → sh'.length ≤ sh.length + 115 → i_Wd sa D (fun q : Nat => s.heap.size ≤ q) (adC ++ exC) (s_h sh' τC) s H1 → i_Wd sa D (fun q : Nat => s.heap.size ≤ q) (adR ++ exR) (s_h sR τR) s H1 → i_apart (i_w sa (adC ++ exC) (s_h sh' τC)) (i_w sa (adR ++ exR) (s_h sR τR)) → va_S (fun q : Nat => s.heap.size ≤ q) s.heap H1 locs1 → W p l e room_1 s m #[Value.ref b] below meth c H1 locs1 (cells + mc) (slots + ms) Q (F0 m 1196 ls [])) :
    W p l e room_1 s m #[Value.ref b] below meth c H locs cells slots Q (F0 m 741 ls []) := by
  have hA : ∀ q : Nat, s.heap.size ≤ q → (fun q : Nat => s.heap.size ≤ q) q := fun _ h => h
  have hbA : ¬ (fun q : Nat => s.heap.size ≤ q) b := Nat.not_le.mpr hbl
  have ix : ∀ j : Nat, j < 6 → vp_in (nI i + nI j) L := fun j hj => by rw [nI_add]; exact vp_in_nI (by omega) (by omega)
  obtain ⟨v, mc, ms, sh', τC, τR, W1, rl1, im1, tp1, o1, o2, o3, o4, o5, o6, o7⟩ := o_lay h hbd (xs (nI i + nI 1).toNatClampNeg) (xs (nI i + nI 2).toNatClampNeg) (xs (nI i + nI 3).toNatClampNeg)
  refine lv_aload_n hx hb dL_law_741 rfl (lv_at hl 1 rfl) ?_
  refine lv_aload_n hx hb dL_law_742 rfl (lv_at hl 0 rfl) ?_
  refine lv_iload_n hx hb dL_law_743 rfl (lv_at hl 3 rfl) ?_
  refine lv_iconst (v := nI 1) hx hb dL_law_744 (by decide) ?_
  refine lv_iadd hx hb dL_law_745 ?_
  refine va_sld hx hb hX hbl hbA hS (ix 1 (by omega)) dL_law_746 ?_
  refine lv_aload_n hx hb dL_law_747 rfl (lv_at hl 0 rfl) ?_
  refine lv_iload_n hx hb dL_law_748 rfl (lv_at hl 3 rfl) ?_
  refine lv_iconst (v := nI 2) hx hb dL_law_749 (by decide) ?_
  refine lv_iadd hx hb dL_law_750 ?_
  refine va_sld hx hb hX hbl hbA hS (ix 2 (by omega)) dL_law_751 ?_
  refine lv_aload_n hx hb dL_law_752 rfl (lv_at hl 0 rfl) ?_
  refine lv_iload_n hx hb dL_law_753 rfl (lv_at hl 3 rfl) ?_
  refine lv_iconst (v := nI 3) hx hb dL_law_754 (by decide) ?_
  refine lv_iadd hx hb dL_law_755 ?_
  refine va_sld hx hb hX hbl hbA hS (ix 3 (by omega)) dL_law_756 ?_
  refine law_V (y := 110) (n := 3) (As := [.int (xs (nI i + nI 1).toNatClampNeg), .int (xs (nI i + nI 2).toNatClampNeg), .int (xs (nI i + nI 3).toNatClampNeg)]) (rest := []) hx hb hml hown hts hE hA rfl (i_tb_law _ (by decide +kernel)) (by decide +kernel) (by decide +kernel) (by decide +kernel) o3 (fun x hx9 => by
    rcases List.mem_cons.mp hx9 with rfl | hx9
    · exact Or.inl (by rw [s_h_len]; have := cSh_len h.1.1; omega)
    · simp at hx9
      rcases hx9 with rfl | rfl | rfl <;> trivial) rfl (c0 h.1.1) (by decide +kernel) rfl wC wR dj hS hl.1 (Nat.le_of_ble_eq_true rfl) (by omega) (by omega) dL_law_757 (fun exC H1 locs1 wC wR dj hS => ?_)
  refine lv_aload_n hx hb dL_law_760 rfl (lv_at hl 2 rfl) ?_
  refine lv_aload_n hx hb dL_law_761 rfl (lv_at hl 0 rfl) ?_
  refine lv_iload_n hx hb dL_law_762 rfl (lv_at hl 3 rfl) ?_
  refine lv_iconst (v := nI 1) hx hb dL_law_763 (by decide) ?_
  refine lv_iadd hx hb dL_law_764 ?_
  refine va_sld hx hb hX hbl hbA hS (ix 1 (by omega)) dL_law_765 ?_
  refine lv_aload_n hx hb dL_law_766 rfl (lv_at hl 0 rfl) ?_
  refine lv_iload_n hx hb dL_law_767 rfl (lv_at hl 3 rfl) ?_
  refine lv_iconst (v := nI 2) hx hb dL_law_768 (by decide) ?_
  refine lv_iadd hx hb dL_law_769 ?_
  refine va_sld hx hb hX hbl hbA hS (ix 2 (by omega)) dL_law_770 ?_
  refine lv_aload_n hx hb dL_law_771 rfl (lv_at hl 0 rfl) ?_
  refine lv_iload_n hx hb dL_law_772 rfl (lv_at hl 3 rfl) ?_
  refine lv_iconst (v := nI 3) hx hb dL_law_773 (by decide) ?_
  refine lv_iadd hx hb dL_law_774 ?_
  refine va_sld hx hb hX hbl hbA hS (ix 3 (by omega)) dL_law_775 ?_
  refine law_V (y := 203) (n := 3) (As := [.int (xs (nI i + nI 1).toNatClampNeg), .int (xs (nI i + nI 2).toNatClampNeg), .int (xs (nI i + nI 3).toNatClampNeg)]) (rest := [.int v]) hx hb hml hown hts hE hA rfl (i_tb_law _ (by decide +kernel)) (by decide +kernel) (by decide +kernel) (by decide +kernel) o4 (fun x hx9 => by
    rcases List.mem_cons.mp hx9 with rfl | hx9
    · exact Or.inl (by rw [s_h_len]; have := (List.getElem?_eq_some_iff.mp (r0 h.1.2.1)).1; omega)
    · simp at hx9
      rcases hx9 with rfl | rfl | rfl <;> trivial) rfl (s_h_at (r0 h.1.2.1)) (by decide +kernel) rfl wR wC (fun a b p q h1 h2 e => dj b a q p h2 h1 e.symm) hS hl.1 (Nat.le_of_ble_eq_true rfl) (by omega) (by omega) dL_law_776 (fun exR H2 locs2 wR wC dj hS => ?_)
  refine lv_icmp_eq (tgt := 1196) hx hb dL_law_779 (by decide) (fun _ => ?_) (fun hne => absurd rfl hne)
  exact kk sh' τC τR W1 rl1 im1 tp1 exC exR H2 locs2 mc ms o1 o2 o5 o7 wC wR (fun a b p q h1 h2 e => dj b a q p h2 h1 e.symm) hS
set_option maxHeartbeats 4000000 in
theorem k_held {p : Program} {l : Launch} {e : Env} {s : State} {m : MethodId} {below : List Frame} {meth : Method} {c : Code} {H : Heap} {locs : List Loc} {cells slots : Nat} {Q : State → Prop} {D : va_G} {sa sv : Nat → Nat} {b L i : Nat} {xs : Nat → Int32} {ls : Array Slot} {adC adR : iA} {sh sR : List kd} {σC σR : St} {W0 : Wd} {rl : List Cl} {im : Im} {tp : List Nat}
    (hx : p.tables.exec = Jvm.exec) (hb : c.code = code) (hml : c.maxLocals = 4) (hown : s.vm.findClass RL = some m.cls) (hts : ∀ w ∈ i_tb, w.before #[Value.ref b] s = true) (hE : i_E D sa sv (fun q : Nat => s.heap.size ≤ q) s s.heap) (hX : va_X b L xs s s.heap) (hbl : b < s.heap.size)
    (h : IV sh sR σC σR W0 rl im tp) (hbd : sh.length + 120 < i_SB) (wC : i_Wd sa D (fun q : Nat => s.heap.size ≤ q) adC (s_h sh σC) s H) (wR : i_Wd sa D (fun q : Nat => s.heap.size ≤ q) adR (s_h sR σR) s H) (dj : i_apart (i_w sa adC (s_h sh σC)) (i_w sa adR (s_h sR σR))) (hS : va_S (fun q : Nat => s.heap.size ≤ q) s.heap H locs) (hl : lv_has ls 4 [(0, .ref b), (1, i_mv sa adC (.ref 0)), (2, i_mv sa adR (.ref 0)), (3, .int (nI i))]) (hi : i + 6 ≤ L) (hL : L ≤ 3072) (hc : cells + 300 ≤ 633637) (hs : slots + 3000 ≤ 7201338)
    (kk : ∀ (sh' : List kd) (τC τR : St) (W1 : Wd) (rl1 : List Cl) (im1 : Im) (tp1 : List Nat) (exC exR : iA) (H1 : Heap) (locs1 : List Loc) (mc ms : Nat), mc ≤ 300 → ms ≤ 3000 → IV sh' sR τC τR W1 rl1 im1 tp1 → sh'.length ≤ sh.length + 115 → i_Wd sa D (fun q : Nat => s.heap.size ≤ q) (adC ++ exC) (s_h sh' τC) s H1 → i_Wd sa D (fun q : Nat => s.heap.size ≤ q) (adR ++ exR) (s_h sR τR) s H1 → i_apart (i_w sa (adC ++ exC) (s_h sh' τC)) (i_w sa (adR ++ exR) (s_h sR τR)) → va_S (fun q : Nat => s.heap.size ≤ q) s.heap H1 locs1 → W p l e room_1 s m #[Value.ref b] below meth c H1 locs1 (cells + mc) (slots + ms) Q (F0 m 1196 ls [])) :
    W p l e room_1 s m #[Value.ref b] below meth c H locs cells slots Q (F0 m 784 ls []) := by
  have hA : ∀ q : Nat, s.heap.size ≤ q → (fun q : Nat => s.heap.size ≤ q) q := fun _ h => h
  have hbA : ¬ (fun q : Nat => s.heap.size ≤ q) b := Nat.not_le.mpr hbl
  have ix : ∀ j : Nat, j < 6 → vp_in (nI i + nI j) L := fun j hj => by rw [nI_add]; exact vp_in_nI (by omega) (by omega)
  obtain ⟨v, mc, ms, sh', τC, τR, W1, rl1, im1, tp1, o1, o2, o3, o4, o5, o6, o7⟩ := o_held h hbd (xs (nI i + nI 1).toNatClampNeg) (xs (nI i + nI 2).toNatClampNeg)
  refine lv_aload_n hx hb dL_law_784 rfl (lv_at hl 1 rfl) ?_
  refine lv_aload_n hx hb dL_law_785 rfl (lv_at hl 0 rfl) ?_
  refine lv_iload_n hx hb dL_law_786 rfl (lv_at hl 3 rfl) ?_
  refine lv_iconst (v := nI 1) hx hb dL_law_787 (by decide) ?_
  refine lv_iadd hx hb dL_law_788 ?_
  refine va_sld hx hb hX hbl hbA hS (ix 1 (by omega)) dL_law_789 ?_
  refine lv_aload_n hx hb dL_law_790 rfl (lv_at hl 0 rfl) ?_
  refine lv_iload_n hx hb dL_law_791 rfl (lv_at hl 3 rfl) ?_
  refine lv_iconst (v := nI 2) hx hb dL_law_792 (by decide) ?_
  refine lv_iadd hx hb dL_law_793 ?_
  refine va_sld hx hb hX hbl hbA hS (ix 2 (by omega)) dL_law_794 ?_
  refine law_V (y := 111) (n := 2) (As := [.int (xs (nI i + nI 1).toNatClampNeg), .int (xs (nI i + nI 2).toNatClampNeg)]) (rest := []) hx hb hml hown hts hE hA rfl (i_tb_law _ (by decide +kernel)) (by decide +kernel) (by decide +kernel) (by decide +kernel) o3 (fun x hx9 => by
    rcases List.mem_cons.mp hx9 with rfl | hx9
    · exact Or.inl (by rw [s_h_len]; have := cSh_len h.1.1; omega)
    · simp at hx9
      rcases hx9 with rfl | rfl <;> trivial) rfl (c0 h.1.1) (by decide +kernel) rfl wC wR dj hS hl.1 (Nat.le_of_ble_eq_true rfl) (by omega) (by omega) dL_law_795 (fun exC H1 locs1 wC wR dj hS => ?_)
  refine lv_aload_n hx hb dL_law_798 rfl (lv_at hl 2 rfl) ?_
  refine lv_aload_n hx hb dL_law_799 rfl (lv_at hl 0 rfl) ?_
  refine lv_iload_n hx hb dL_law_800 rfl (lv_at hl 3 rfl) ?_
  refine lv_iconst (v := nI 1) hx hb dL_law_801 (by decide) ?_
  refine lv_iadd hx hb dL_law_802 ?_
  refine va_sld hx hb hX hbl hbA hS (ix 1 (by omega)) dL_law_803 ?_
  refine lv_aload_n hx hb dL_law_804 rfl (lv_at hl 0 rfl) ?_
  refine lv_iload_n hx hb dL_law_805 rfl (lv_at hl 3 rfl) ?_
  refine lv_iconst (v := nI 2) hx hb dL_law_806 (by decide) ?_
  refine lv_iadd hx hb dL_law_807 ?_
  refine va_sld hx hb hX hbl hbA hS (ix 2 (by omega)) dL_law_808 ?_
  refine law_V (y := 204) (n := 2) (As := [.int (xs (nI i + nI 1).toNatClampNeg), .int (xs (nI i + nI 2).toNatClampNeg)]) (rest := [.int v]) hx hb hml hown hts hE hA rfl (i_tb_law _ (by decide +kernel)) (by decide +kernel) (by decide +kernel) (by decide +kernel) o4 (fun x hx9 => by
    rcases List.mem_cons.mp hx9 with rfl | hx9
    · exact Or.inl (by rw [s_h_len]; have := (List.getElem?_eq_some_iff.mp (r0 h.1.2.1)).1; omega)
    · simp at hx9
      rcases hx9 with rfl | rfl <;> trivial) rfl (s_h_at (r0 h.1.2.1)) (by decide +kernel) rfl wR wC (fun a b p q h1 h2 e => dj b a q p h2 h1 e.symm) hS hl.1 (Nat.le_of_ble_eq_true rfl) (by omega) (by omega) dL_law_809 (fun exR H2 locs2 wR wC dj hS => ?_)
  refine lv_icmp_eq (tgt := 1196) hx hb dL_law_812 (by decide) (fun _ => ?_) (fun hne => absurd rfl hne)
  exact kk sh' τC τR W1 rl1 im1 tp1 exC exR H2 locs2 mc ms o1 o2 o5 o7 wC wR (fun a b p q h1 h2 e => dj b a q p h2 h1 e.symm) hS
set_option maxHeartbeats 4000000 in
theorem k_place {p : Program} {l : Launch} {e : Env} {s : State} {m : MethodId} {below : List Frame} {meth : Method} {c : Code} {H : Heap} {locs : List Loc} {cells slots : Nat} {Q : State → Prop} {D : va_G} {sa sv : Nat → Nat} {b L i : Nat} {xs : Nat → Int32} {ls : Array Slot} {adC adR : iA} {sh sR : List kd} {σC σR : St} {W0 : Wd} {rl : List Cl} {im : Im} {tp : List Nat}
    (hx : p.tables.exec = Jvm.exec) (hb : c.code = code) (hml : c.maxLocals = 4) (hown : s.vm.findClass RL = some m.cls) (hts : ∀ w ∈ i_tb, w.before #[Value.ref b] s = true) (hE : i_E D sa sv (fun q : Nat => s.heap.size ≤ q) s s.heap) (hX : va_X b L xs s s.heap) (hbl : b < s.heap.size)
    (h : IV sh sR σC σR W0 rl im tp) (hbd : sh.length + 120 < i_SB) (wC : i_Wd sa D (fun q : Nat => s.heap.size ≤ q) adC (s_h sh σC) s H) (wR : i_Wd sa D (fun q : Nat => s.heap.size ≤ q) adR (s_h sR σR) s H) (dj : i_apart (i_w sa adC (s_h sh σC)) (i_w sa adR (s_h sR σR))) (hS : va_S (fun q : Nat => s.heap.size ≤ q) s.heap H locs) (hl : lv_has ls 4 [(0, .ref b), (1, i_mv sa adC (.ref 0)), (2, i_mv sa adR (.ref 0)), (3, .int (nI i))]) (hi : i + 6 ≤ L) (hL : L ≤ 3072) (hc : cells + 300 ≤ 633637) (hs : slots + 3000 ≤ 7201338)
    (kk : ∀ (sh' : List kd) (τC τR : St) (W1 : Wd) (rl1 : List Cl) (im1 : Im) (tp1 : List Nat) (exC exR : iA) (H1 : Heap) (locs1 : List Loc) (mc ms : Nat), mc ≤ 300 → ms ≤ 3000 → IV sh' sR τC τR W1 rl1 im1 tp1 → sh'.length ≤ sh.length + 115 → i_Wd sa D (fun q : Nat => s.heap.size ≤ q) (adC ++ exC) (s_h sh' τC) s H1 → i_Wd sa D (fun q : Nat => s.heap.size ≤ q) (adR ++ exR) (s_h sR τR) s H1 → i_apart (i_w sa (adC ++ exC) (s_h sh' τC)) (i_w sa (adR ++ exR) (s_h sR τR)) → va_S (fun q : Nat => s.heap.size ≤ q) s.heap H1 locs1 → W p l e room_1 s m #[Value.ref b] below meth c H1 locs1 (cells + mc) (slots + ms) Q (F0 m 1196 ls [])) :
    W p l e room_1 s m #[Value.ref b] below meth c H locs cells slots Q (F0 m 817 ls []) := by
  have hA : ∀ q : Nat, s.heap.size ≤ q → (fun q : Nat => s.heap.size ≤ q) q := fun _ h => h
  have hbA : ¬ (fun q : Nat => s.heap.size ≤ q) b := Nat.not_le.mpr hbl
  have ix : ∀ j : Nat, j < 6 → vp_in (nI i + nI j) L := fun j hj => by rw [nI_add]; exact vp_in_nI (by omega) (by omega)
  obtain ⟨v, mc, ms, sh', τC, τR, W1, rl1, im1, tp1, o1, o2, o3, o4, o5, o6, o7⟩ := o_place h hbd (xs (nI i + nI 1).toNatClampNeg)
  refine lv_aload_n hx hb dL_law_817 rfl (lv_at hl 1 rfl) ?_
  refine lv_aload_n hx hb dL_law_818 rfl (lv_at hl 0 rfl) ?_
  refine lv_iload_n hx hb dL_law_819 rfl (lv_at hl 3 rfl) ?_
  refine lv_iconst (v := nI 1) hx hb dL_law_820 (by decide) ?_
  refine lv_iadd hx hb dL_law_821 ?_
  refine va_sld hx hb hX hbl hbA hS (ix 1 (by omega)) dL_law_822 ?_
  refine law_V (y := 112) (n := 1) (As := [.int (xs (nI i + nI 1).toNatClampNeg)]) (rest := []) hx hb hml hown hts hE hA rfl (i_tb_law _ (by decide +kernel)) (by decide +kernel) (by decide +kernel) (by decide +kernel) o3 (fun x hx9 => by
    rcases List.mem_cons.mp hx9 with rfl | hx9
    · exact Or.inl (by rw [s_h_len]; have := cSh_len h.1.1; omega)
    · simp at hx9
      subst hx9; trivial) rfl (c0 h.1.1) (by decide +kernel) rfl wC wR dj hS hl.1 (Nat.le_of_ble_eq_true rfl) (by omega) (by omega) dL_law_823 (fun exC H1 locs1 wC wR dj hS => ?_)
  refine lv_aload_n hx hb dL_law_826 rfl (lv_at hl 2 rfl) ?_
  refine lv_aload_n hx hb dL_law_827 rfl (lv_at hl 0 rfl) ?_
  refine lv_iload_n hx hb dL_law_828 rfl (lv_at hl 3 rfl) ?_
  refine lv_iconst (v := nI 1) hx hb dL_law_829 (by decide) ?_
  refine lv_iadd hx hb dL_law_830 ?_
  refine va_sld hx hb hX hbl hbA hS (ix 1 (by omega)) dL_law_831 ?_
  refine law_V (y := 205) (n := 1) (As := [.int (xs (nI i + nI 1).toNatClampNeg)]) (rest := [.int v]) hx hb hml hown hts hE hA rfl (i_tb_law _ (by decide +kernel)) (by decide +kernel) (by decide +kernel) (by decide +kernel) o4 (fun x hx9 => by
    rcases List.mem_cons.mp hx9 with rfl | hx9
    · exact Or.inl (by rw [s_h_len]; have := (List.getElem?_eq_some_iff.mp (r0 h.1.2.1)).1; omega)
    · simp at hx9
      subst hx9; trivial) rfl (s_h_at (r0 h.1.2.1)) (by decide +kernel) rfl wR wC (fun a b p q h1 h2 e => dj b a q p h2 h1 e.symm) hS hl.1 (Nat.le_of_ble_eq_true rfl) (by omega) (by omega) dL_law_832 (fun exR H2 locs2 wR wC dj hS => ?_)
  refine lv_icmp_eq (tgt := 1196) hx hb dL_law_835 (by decide) (fun _ => ?_) (fun hne => absurd rfl hne)
  exact kk sh' τC τR W1 rl1 im1 tp1 exC exR H2 locs2 mc ms o1 o2 o5 o7 wC wR (fun a b p q h1 h2 e => dj b a q p h2 h1 e.symm) hS
set_option maxHeartbeats 4000000 in
theorem k_stripped {p : Program} {l : Launch} {e : Env} {s : State} {m : MethodId} {below : List Frame} {meth : Method} {c : Code} {H : Heap} {locs : List Loc} {cells slots : Nat} {Q : State → Prop} {D : va_G} {sa sv : Nat → Nat} {b L i : Nat} {xs : Nat → Int32} {ls : Array Slot} {adC adR : iA} {sh sR : List kd} {σC σR : St} {W0 : Wd} {rl : List Cl} {im : Im} {tp : List Nat}
    (hx : p.tables.exec = Jvm.exec) (hb : c.code = code) (hml : c.maxLocals = 4) (hown : s.vm.findClass RL = some m.cls) (hts : ∀ w ∈ i_tb, w.before #[Value.ref b] s = true) (hE : i_E D sa sv (fun q : Nat => s.heap.size ≤ q) s s.heap) (hX : va_X b L xs s s.heap) (hbl : b < s.heap.size)
    (h : IV sh sR σC σR W0 rl im tp) (hbd : sh.length + 120 < i_SB) (wC : i_Wd sa D (fun q : Nat => s.heap.size ≤ q) adC (s_h sh σC) s H) (wR : i_Wd sa D (fun q : Nat => s.heap.size ≤ q) adR (s_h sR σR) s H) (dj : i_apart (i_w sa adC (s_h sh σC)) (i_w sa adR (s_h sR σR))) (hS : va_S (fun q : Nat => s.heap.size ≤ q) s.heap H locs) (hl : lv_has ls 4 [(0, .ref b), (1, i_mv sa adC (.ref 0)), (2, i_mv sa adR (.ref 0)), (3, .int (nI i))]) (hi : i + 6 ≤ L) (hL : L ≤ 3072) (hc : cells + 300 ≤ 633637) (hs : slots + 3000 ≤ 7201338)
    (kk : ∀ (sh' : List kd) (τC τR : St) (W1 : Wd) (rl1 : List Cl) (im1 : Im) (tp1 : List Nat) (exC exR : iA) (H1 : Heap) (locs1 : List Loc) (mc ms : Nat), mc ≤ 300 → ms ≤ 3000 → IV sh' sR τC τR W1 rl1 im1 tp1 → sh'.length ≤ sh.length + 115 → i_Wd sa D (fun q : Nat => s.heap.size ≤ q) (adC ++ exC) (s_h sh' τC) s H1 → i_Wd sa D (fun q : Nat => s.heap.size ≤ q) (adR ++ exR) (s_h sR τR) s H1 → i_apart (i_w sa (adC ++ exC) (s_h sh' τC)) (i_w sa (adR ++ exR) (s_h sR τR)) → va_S (fun q : Nat => s.heap.size ≤ q) s.heap H1 locs1 → W p l e room_1 s m #[Value.ref b] below meth c H1 locs1 (cells + mc) (slots + ms) Q (F0 m 1196 ls [])) :
    W p l e room_1 s m #[Value.ref b] below meth c H locs cells slots Q (F0 m 840 ls []) := by
  have hA : ∀ q : Nat, s.heap.size ≤ q → (fun q : Nat => s.heap.size ≤ q) q := fun _ h => h
  have hbA : ¬ (fun q : Nat => s.heap.size ≤ q) b := Nat.not_le.mpr hbl
  have ix : ∀ j : Nat, j < 6 → vp_in (nI i + nI j) L := fun j hj => by rw [nI_add]; exact vp_in_nI (by omega) (by omega)
  obtain ⟨v, mc, ms, sh', τC, τR, W1, rl1, im1, tp1, o1, o2, o3, o4, o5, o6, o7⟩ := o_stripped h hbd (xs (nI i + nI 1).toNatClampNeg)
  refine lv_aload_n hx hb dL_law_840 rfl (lv_at hl 1 rfl) ?_
  refine lv_aload_n hx hb dL_law_841 rfl (lv_at hl 0 rfl) ?_
  refine lv_iload_n hx hb dL_law_842 rfl (lv_at hl 3 rfl) ?_
  refine lv_iconst (v := nI 1) hx hb dL_law_843 (by decide) ?_
  refine lv_iadd hx hb dL_law_844 ?_
  refine va_sld hx hb hX hbl hbA hS (ix 1 (by omega)) dL_law_845 ?_
  refine law_V (y := 113) (n := 1) (As := [.int (xs (nI i + nI 1).toNatClampNeg)]) (rest := []) hx hb hml hown hts hE hA rfl (i_tb_law _ (by decide +kernel)) (by decide +kernel) (by decide +kernel) (by decide +kernel) o3 (fun x hx9 => by
    rcases List.mem_cons.mp hx9 with rfl | hx9
    · exact Or.inl (by rw [s_h_len]; have := cSh_len h.1.1; omega)
    · simp at hx9
      subst hx9; trivial) rfl (c0 h.1.1) (by decide +kernel) rfl wC wR dj hS hl.1 (Nat.le_of_ble_eq_true rfl) (by omega) (by omega) dL_law_846 (fun exC H1 locs1 wC wR dj hS => ?_)
  refine lv_aload_n hx hb dL_law_849 rfl (lv_at hl 2 rfl) ?_
  refine lv_aload_n hx hb dL_law_850 rfl (lv_at hl 0 rfl) ?_
  refine lv_iload_n hx hb dL_law_851 rfl (lv_at hl 3 rfl) ?_
  refine lv_iconst (v := nI 1) hx hb dL_law_852 (by decide) ?_
  refine lv_iadd hx hb dL_law_853 ?_
  refine va_sld hx hb hX hbl hbA hS (ix 1 (by omega)) dL_law_854 ?_
  refine law_V (y := 208) (n := 1) (As := [.int (xs (nI i + nI 1).toNatClampNeg)]) (rest := [.int v]) hx hb hml hown hts hE hA rfl (i_tb_law _ (by decide +kernel)) (by decide +kernel) (by decide +kernel) (by decide +kernel) o4 (fun x hx9 => by
    rcases List.mem_cons.mp hx9 with rfl | hx9
    · exact Or.inl (by rw [s_h_len]; have := (List.getElem?_eq_some_iff.mp (r0 h.1.2.1)).1; omega)
    · simp at hx9
      subst hx9; trivial) rfl (s_h_at (r0 h.1.2.1)) (by decide +kernel) rfl wR wC (fun a b p q h1 h2 e => dj b a q p h2 h1 e.symm) hS hl.1 (Nat.le_of_ble_eq_true rfl) (by omega) (by omega) dL_law_855 (fun exR H2 locs2 wR wC dj hS => ?_)
  refine lv_icmp_eq (tgt := 1196) hx hb dL_law_858 (by decide) (fun _ => ?_) (fun hne => absurd rfl hne)
  exact kk sh' τC τR W1 rl1 im1 tp1 exC exR H2 locs2 mc ms o1 o2 o5 o7 wC wR (fun a b p q h1 h2 e => dj b a q p h2 h1 e.symm) hS
set_option maxHeartbeats 4000000 in
theorem k_gold {p : Program} {l : Launch} {e : Env} {s : State} {m : MethodId} {below : List Frame} {meth : Method} {c : Code} {H : Heap} {locs : List Loc} {cells slots : Nat} {Q : State → Prop} {D : va_G} {sa sv : Nat → Nat} {b L i : Nat} {xs : Nat → Int32} {ls : Array Slot} {adC adR : iA} {sh sR : List kd} {σC σR : St} {W0 : Wd} {rl : List Cl} {im : Im} {tp : List Nat}
    (hx : p.tables.exec = Jvm.exec) (hb : c.code = code) (hml : c.maxLocals = 4) (hown : s.vm.findClass RL = some m.cls) (hts : ∀ w ∈ i_tb, w.before #[Value.ref b] s = true) (hE : i_E D sa sv (fun q : Nat => s.heap.size ≤ q) s s.heap) (hX : va_X b L xs s s.heap) (hbl : b < s.heap.size)
    (h : IV sh sR σC σR W0 rl im tp) (hbd : sh.length + 120 < i_SB) (wC : i_Wd sa D (fun q : Nat => s.heap.size ≤ q) adC (s_h sh σC) s H) (wR : i_Wd sa D (fun q : Nat => s.heap.size ≤ q) adR (s_h sR σR) s H) (dj : i_apart (i_w sa adC (s_h sh σC)) (i_w sa adR (s_h sR σR))) (hS : va_S (fun q : Nat => s.heap.size ≤ q) s.heap H locs) (hl : lv_has ls 4 [(0, .ref b), (1, i_mv sa adC (.ref 0)), (2, i_mv sa adR (.ref 0)), (3, .int (nI i))]) (hi : i + 6 ≤ L) (hL : L ≤ 3072) (hc : cells + 300 ≤ 633637) (hs : slots + 3000 ≤ 7201338)
    (kk : ∀ (sh' : List kd) (τC τR : St) (W1 : Wd) (rl1 : List Cl) (im1 : Im) (tp1 : List Nat) (exC exR : iA) (H1 : Heap) (locs1 : List Loc) (mc ms : Nat), mc ≤ 300 → ms ≤ 3000 → IV sh' sR τC τR W1 rl1 im1 tp1 → sh'.length ≤ sh.length + 115 → i_Wd sa D (fun q : Nat => s.heap.size ≤ q) (adC ++ exC) (s_h sh' τC) s H1 → i_Wd sa D (fun q : Nat => s.heap.size ≤ q) (adR ++ exR) (s_h sR τR) s H1 → i_apart (i_w sa (adC ++ exC) (s_h sh' τC)) (i_w sa (adR ++ exR) (s_h sR τR)) → va_S (fun q : Nat => s.heap.size ≤ q) s.heap H1 locs1 → W p l e room_1 s m #[Value.ref b] below meth c H1 locs1 (cells + mc) (slots + ms) Q (F0 m 1196 ls [])) :
    W p l e room_1 s m #[Value.ref b] below meth c H locs cells slots Q (F0 m 863 ls []) := by
  have hA : ∀ q : Nat, s.heap.size ≤ q → (fun q : Nat => s.heap.size ≤ q) q := fun _ h => h
  have hbA : ¬ (fun q : Nat => s.heap.size ≤ q) b := Nat.not_le.mpr hbl
  have ix : ∀ j : Nat, j < 6 → vp_in (nI i + nI j) L := fun j hj => by rw [nI_add]; exact vp_in_nI (by omega) (by omega)
  obtain ⟨v, mc, ms, sh', τC, τR, W1, rl1, im1, tp1, o1, o2, o3, o4, o5, o6, o7⟩ := o_gold h hbd (xs (nI i + nI 1).toNatClampNeg) (xs (nI i + nI 2).toNatClampNeg)
  refine lv_aload_n hx hb dL_law_863 rfl (lv_at hl 1 rfl) ?_
  refine lv_aload_n hx hb dL_law_864 rfl (lv_at hl 0 rfl) ?_
  refine lv_iload_n hx hb dL_law_865 rfl (lv_at hl 3 rfl) ?_
  refine lv_iconst (v := nI 1) hx hb dL_law_866 (by decide) ?_
  refine lv_iadd hx hb dL_law_867 ?_
  refine va_sld hx hb hX hbl hbA hS (ix 1 (by omega)) dL_law_868 ?_
  refine lv_aload_n hx hb dL_law_869 rfl (lv_at hl 0 rfl) ?_
  refine lv_iload_n hx hb dL_law_870 rfl (lv_at hl 3 rfl) ?_
  refine lv_iconst (v := nI 2) hx hb dL_law_871 (by decide) ?_
  refine lv_iadd hx hb dL_law_872 ?_
  refine va_sld hx hb hX hbl hbA hS (ix 2 (by omega)) dL_law_873 ?_
  refine law_V (y := 114) (n := 2) (As := [.int (xs (nI i + nI 1).toNatClampNeg), .int (xs (nI i + nI 2).toNatClampNeg)]) (rest := []) hx hb hml hown hts hE hA rfl (i_tb_law _ (by decide +kernel)) (by decide +kernel) (by decide +kernel) (by decide +kernel) o3 (fun x hx9 => by
    rcases List.mem_cons.mp hx9 with rfl | hx9
    · exact Or.inl (by rw [s_h_len]; have := cSh_len h.1.1; omega)
    · simp at hx9
      rcases hx9 with rfl | rfl <;> trivial) rfl (c0 h.1.1) (by decide +kernel) rfl wC wR dj hS hl.1 (Nat.le_of_ble_eq_true rfl) (by omega) (by omega) dL_law_874 (fun exC H1 locs1 wC wR dj hS => ?_)
  refine lv_aload_n hx hb dL_law_877 rfl (lv_at hl 2 rfl) ?_
  refine lv_aload_n hx hb dL_law_878 rfl (lv_at hl 0 rfl) ?_
  refine lv_iload_n hx hb dL_law_879 rfl (lv_at hl 3 rfl) ?_
  refine lv_iconst (v := nI 1) hx hb dL_law_880 (by decide) ?_
  refine lv_iadd hx hb dL_law_881 ?_
  refine va_sld hx hb hX hbl hbA hS (ix 1 (by omega)) dL_law_882 ?_
  refine lv_aload_n hx hb dL_law_883 rfl (lv_at hl 0 rfl) ?_
  refine lv_iload_n hx hb dL_law_884 rfl (lv_at hl 3 rfl) ?_
  refine lv_iconst (v := nI 2) hx hb dL_law_885 (by decide) ?_
  refine lv_iadd hx hb dL_law_886 ?_
  refine va_sld hx hb hX hbl hbA hS (ix 2 (by omega)) dL_law_887 ?_
  refine law_V (y := 209) (n := 2) (As := [.int (xs (nI i + nI 1).toNatClampNeg), .int (xs (nI i + nI 2).toNatClampNeg)]) (rest := [.int v]) hx hb hml hown hts hE hA rfl (i_tb_law _ (by decide +kernel)) (by decide +kernel) (by decide +kernel) (by decide +kernel) o4 (fun x hx9 => by
    rcases List.mem_cons.mp hx9 with rfl | hx9
    · exact Or.inl (by rw [s_h_len]; have := (List.getElem?_eq_some_iff.mp (r0 h.1.2.1)).1; omega)
    · simp at hx9
      rcases hx9 with rfl | rfl <;> trivial) rfl (s_h_at (r0 h.1.2.1)) (by decide +kernel) rfl wR wC (fun a b p q h1 h2 e => dj b a q p h2 h1 e.symm) hS hl.1 (Nat.le_of_ble_eq_true rfl) (by omega) (by omega) dL_law_888 (fun exR H2 locs2 wR wC dj hS => ?_)
  refine lv_icmp_eq (tgt := 1196) hx hb dL_law_891 (by decide) (fun _ => ?_) (fun hne => absurd rfl hne)
  exact kk sh' τC τR W1 rl1 im1 tp1 exC exR H2 locs2 mc ms o1 o2 o5 o7 wC wR (fun a b p q h1 h2 e => dj b a q p h2 h1 e.symm) hS
set_option maxHeartbeats 4000000 in
theorem k_rests {p : Program} {l : Launch} {e : Env} {s : State} {m : MethodId} {below : List Frame} {meth : Method} {c : Code} {H : Heap} {locs : List Loc} {cells slots : Nat} {Q : State → Prop} {D : va_G} {sa sv : Nat → Nat} {b L i : Nat} {xs : Nat → Int32} {ls : Array Slot} {adC adR : iA} {sh sR : List kd} {σC σR : St} {W0 : Wd} {rl : List Cl} {im : Im} {tp : List Nat}
    (hx : p.tables.exec = Jvm.exec) (hb : c.code = code) (hml : c.maxLocals = 4) (hown : s.vm.findClass RL = some m.cls) (hts : ∀ w ∈ i_tb, w.before #[Value.ref b] s = true) (hE : i_E D sa sv (fun q : Nat => s.heap.size ≤ q) s s.heap) (hX : va_X b L xs s s.heap) (hbl : b < s.heap.size)
    (h : IV sh sR σC σR W0 rl im tp) (hbd : sh.length + 120 < i_SB) (wC : i_Wd sa D (fun q : Nat => s.heap.size ≤ q) adC (s_h sh σC) s H) (wR : i_Wd sa D (fun q : Nat => s.heap.size ≤ q) adR (s_h sR σR) s H) (dj : i_apart (i_w sa adC (s_h sh σC)) (i_w sa adR (s_h sR σR))) (hS : va_S (fun q : Nat => s.heap.size ≤ q) s.heap H locs) (hl : lv_has ls 4 [(0, .ref b), (1, i_mv sa adC (.ref 0)), (2, i_mv sa adR (.ref 0)), (3, .int (nI i))]) (hi : i + 6 ≤ L) (hL : L ≤ 3072) (hc : cells + 300 ≤ 633637) (hs : slots + 3000 ≤ 7201338)
    (kk : ∀ (sh' : List kd) (τC τR : St) (W1 : Wd) (rl1 : List Cl) (im1 : Im) (tp1 : List Nat) (exC exR : iA) (H1 : Heap) (locs1 : List Loc) (mc ms : Nat), mc ≤ 300 → ms ≤ 3000 → IV sh' sR τC τR W1 rl1 im1 tp1 → sh'.length ≤ sh.length + 115 → i_Wd sa D (fun q : Nat => s.heap.size ≤ q) (adC ++ exC) (s_h sh' τC) s H1 → i_Wd sa D (fun q : Nat => s.heap.size ≤ q) (adR ++ exR) (s_h sR τR) s H1 → i_apart (i_w sa (adC ++ exC) (s_h sh' τC)) (i_w sa (adR ++ exR) (s_h sR τR)) → va_S (fun q : Nat => s.heap.size ≤ q) s.heap H1 locs1 → W p l e room_1 s m #[Value.ref b] below meth c H1 locs1 (cells + mc) (slots + ms) Q (F0 m 1196 ls [])) :
    W p l e room_1 s m #[Value.ref b] below meth c H locs cells slots Q (F0 m 896 ls []) := by
  have hA : ∀ q : Nat, s.heap.size ≤ q → (fun q : Nat => s.heap.size ≤ q) q := fun _ h => h
  have hbA : ¬ (fun q : Nat => s.heap.size ≤ q) b := Nat.not_le.mpr hbl
  have ix : ∀ j : Nat, j < 6 → vp_in (nI i + nI j) L := fun j hj => by rw [nI_add]; exact vp_in_nI (by omega) (by omega)
  obtain ⟨v, mc, ms, sh', τC, τR, W1, rl1, im1, tp1, o1, o2, o3, o4, o5, o6, o7⟩ := o_rests h hbd (xs (nI i + nI 1).toNatClampNeg) (xs (nI i + nI 2).toNatClampNeg) (xs (nI i + nI 3).toNatClampNeg) (xs (nI i + nI 4).toNatClampNeg)
  refine lv_aload_n hx hb dL_law_896 rfl (lv_at hl 1 rfl) ?_
  refine lv_aload_n hx hb dL_law_897 rfl (lv_at hl 0 rfl) ?_
  refine lv_iload_n hx hb dL_law_898 rfl (lv_at hl 3 rfl) ?_
  refine lv_iconst (v := nI 1) hx hb dL_law_899 (by decide) ?_
  refine lv_iadd hx hb dL_law_900 ?_
  refine va_sld hx hb hX hbl hbA hS (ix 1 (by omega)) dL_law_901 ?_
  refine lv_aload_n hx hb dL_law_902 rfl (lv_at hl 0 rfl) ?_
  refine lv_iload_n hx hb dL_law_903 rfl (lv_at hl 3 rfl) ?_
  refine lv_iconst (v := nI 2) hx hb dL_law_904 (by decide) ?_
  refine lv_iadd hx hb dL_law_905 ?_
  refine va_sld hx hb hX hbl hbA hS (ix 2 (by omega)) dL_law_906 ?_
  refine lv_aload_n hx hb dL_law_907 rfl (lv_at hl 0 rfl) ?_
  refine lv_iload_n hx hb dL_law_908 rfl (lv_at hl 3 rfl) ?_
  refine lv_iconst (v := nI 3) hx hb dL_law_909 (by decide) ?_
  refine lv_iadd hx hb dL_law_910 ?_
  refine va_sld hx hb hX hbl hbA hS (ix 3 (by omega)) dL_law_911 ?_
  refine lv_aload_n hx hb dL_law_912 rfl (lv_at hl 0 rfl) ?_
  refine lv_iload_n hx hb dL_law_913 rfl (lv_at hl 3 rfl) ?_
  refine lv_iconst (v := nI 4) hx hb dL_law_914 (by decide) ?_
  refine lv_iadd hx hb dL_law_915 ?_
  refine va_sld hx hb hX hbl hbA hS (ix 4 (by omega)) dL_law_916 ?_
  refine law_V (y := 115) (n := 4) (As := [.int (xs (nI i + nI 1).toNatClampNeg), .int (xs (nI i + nI 2).toNatClampNeg), .int (xs (nI i + nI 3).toNatClampNeg), .int (xs (nI i + nI 4).toNatClampNeg)]) (rest := []) hx hb hml hown hts hE hA rfl (i_tb_law _ (by decide +kernel)) (by decide +kernel) (by decide +kernel) (by decide +kernel) o3 (fun x hx9 => by
    rcases List.mem_cons.mp hx9 with rfl | hx9
    · exact Or.inl (by rw [s_h_len]; have := cSh_len h.1.1; omega)
    · simp at hx9
      rcases hx9 with rfl | rfl | rfl | rfl <;> trivial) rfl (c0 h.1.1) (by decide +kernel) rfl wC wR dj hS hl.1 (Nat.le_of_ble_eq_true rfl) (by omega) (by omega) dL_law_917 (fun exC H1 locs1 wC wR dj hS => ?_)
  refine lv_aload_n hx hb dL_law_920 rfl (lv_at hl 2 rfl) ?_
  refine lv_aload_n hx hb dL_law_921 rfl (lv_at hl 0 rfl) ?_
  refine lv_iload_n hx hb dL_law_922 rfl (lv_at hl 3 rfl) ?_
  refine lv_iconst (v := nI 1) hx hb dL_law_923 (by decide) ?_
  refine lv_iadd hx hb dL_law_924 ?_
  refine va_sld hx hb hX hbl hbA hS (ix 1 (by omega)) dL_law_925 ?_
  refine lv_aload_n hx hb dL_law_926 rfl (lv_at hl 0 rfl) ?_
  refine lv_iload_n hx hb dL_law_927 rfl (lv_at hl 3 rfl) ?_
  refine lv_iconst (v := nI 2) hx hb dL_law_928 (by decide) ?_
  refine lv_iadd hx hb dL_law_929 ?_
  refine va_sld hx hb hX hbl hbA hS (ix 2 (by omega)) dL_law_930 ?_
  refine lv_aload_n hx hb dL_law_931 rfl (lv_at hl 0 rfl) ?_
  refine lv_iload_n hx hb dL_law_932 rfl (lv_at hl 3 rfl) ?_
  refine lv_iconst (v := nI 3) hx hb dL_law_933 (by decide) ?_
  refine lv_iadd hx hb dL_law_934 ?_
  refine va_sld hx hb hX hbl hbA hS (ix 3 (by omega)) dL_law_935 ?_
  refine lv_aload_n hx hb dL_law_936 rfl (lv_at hl 0 rfl) ?_
  refine lv_iload_n hx hb dL_law_937 rfl (lv_at hl 3 rfl) ?_
  refine lv_iconst (v := nI 4) hx hb dL_law_938 (by decide) ?_
  refine lv_iadd hx hb dL_law_939 ?_
  refine va_sld hx hb hX hbl hbA hS (ix 4 (by omega)) dL_law_940 ?_
  refine law_V (y := 212) (n := 4) (As := [.int (xs (nI i + nI 1).toNatClampNeg), .int (xs (nI i + nI 2).toNatClampNeg), .int (xs (nI i + nI 3).toNatClampNeg), .int (xs (nI i + nI 4).toNatClampNeg)]) (rest := [.int v]) hx hb hml hown hts hE hA rfl (i_tb_law _ (by decide +kernel)) (by decide +kernel) (by decide +kernel) (by decide +kernel) o4 (fun x hx9 => by
    rcases List.mem_cons.mp hx9 with rfl | hx9
    · exact Or.inl (by rw [s_h_len]; have := (List.getElem?_eq_some_iff.mp (r0 h.1.2.1)).1; omega)
    · simp at hx9
      rcases hx9 with rfl | rfl | rfl | rfl <;> trivial) rfl (s_h_at (r0 h.1.2.1)) (by decide +kernel) rfl wR wC (fun a b p q h1 h2 e => dj b a q p h2 h1 e.symm) hS hl.1 (Nat.le_of_ble_eq_true rfl) (by omega) (by omega) dL_law_941 (fun exR H2 locs2 wR wC dj hS => ?_)
  refine lv_icmp_eq (tgt := 1196) hx hb dL_law_944 (by decide) (fun _ => ?_) (fun hne => absurd rfl hne)
  exact kk sh' τC τR W1 rl1 im1 tp1 exC exR H2 locs2 mc ms o1 o2 o5 o7 wC wR (fun a b p q h1 h2 e => dj b a q p h2 h1 e.symm) hS
set_option maxHeartbeats 4000000 in
theorem k_ring {p : Program} {l : Launch} {e : Env} {s : State} {m : MethodId} {below : List Frame} {meth : Method} {c : Code} {H : Heap} {locs : List Loc} {cells slots : Nat} {Q : State → Prop} {D : va_G} {sa sv : Nat → Nat} {b L i : Nat} {xs : Nat → Int32} {ls : Array Slot} {adC adR : iA} {sh sR : List kd} {σC σR : St} {W0 : Wd} {rl : List Cl} {im : Im} {tp : List Nat}
    (hx : p.tables.exec = Jvm.exec) (hb : c.code = code) (hml : c.maxLocals = 4) (hown : s.vm.findClass RL = some m.cls) (hts : ∀ w ∈ i_tb, w.before #[Value.ref b] s = true) (hE : i_E D sa sv (fun q : Nat => s.heap.size ≤ q) s s.heap) (hX : va_X b L xs s s.heap) (hbl : b < s.heap.size)
    (h : IV sh sR σC σR W0 rl im tp) (hbd : sh.length + 120 < i_SB) (wC : i_Wd sa D (fun q : Nat => s.heap.size ≤ q) adC (s_h sh σC) s H) (wR : i_Wd sa D (fun q : Nat => s.heap.size ≤ q) adR (s_h sR σR) s H) (dj : i_apart (i_w sa adC (s_h sh σC)) (i_w sa adR (s_h sR σR))) (hS : va_S (fun q : Nat => s.heap.size ≤ q) s.heap H locs) (hl : lv_has ls 4 [(0, .ref b), (1, i_mv sa adC (.ref 0)), (2, i_mv sa adR (.ref 0)), (3, .int (nI i))]) (hi : i + 6 ≤ L) (hL : L ≤ 3072) (hc : cells + 300 ≤ 633637) (hs : slots + 3000 ≤ 7201338)
    (kk : ∀ (sh' : List kd) (τC τR : St) (W1 : Wd) (rl1 : List Cl) (im1 : Im) (tp1 : List Nat) (exC exR : iA) (H1 : Heap) (locs1 : List Loc) (mc ms : Nat), mc ≤ 300 → ms ≤ 3000 → IV sh' sR τC τR W1 rl1 im1 tp1 → sh'.length ≤ sh.length + 115 → i_Wd sa D (fun q : Nat => s.heap.size ≤ q) (adC ++ exC) (s_h sh' τC) s H1 → i_Wd sa D (fun q : Nat => s.heap.size ≤ q) (adR ++ exR) (s_h sR τR) s H1 → i_apart (i_w sa (adC ++ exC) (s_h sh' τC)) (i_w sa (adR ++ exR) (s_h sR τR)) → va_S (fun q : Nat => s.heap.size ≤ q) s.heap H1 locs1 → W p l e room_1 s m #[Value.ref b] below meth c H1 locs1 (cells + mc) (slots + ms) Q (F0 m 1196 ls [])) :
    W p l e room_1 s m #[Value.ref b] below meth c H locs cells slots Q (F0 m 949 ls []) := by
  have hA : ∀ q : Nat, s.heap.size ≤ q → (fun q : Nat => s.heap.size ≤ q) q := fun _ h => h
  have hbA : ¬ (fun q : Nat => s.heap.size ≤ q) b := Nat.not_le.mpr hbl
  have ix : ∀ j : Nat, j < 6 → vp_in (nI i + nI j) L := fun j hj => by rw [nI_add]; exact vp_in_nI (by omega) (by omega)
  obtain ⟨v, mc, ms, sh', τC, τR, W1, rl1, im1, tp1, o1, o2, o3, o4, o5, o6, o7⟩ := o_ring h hbd (xs (nI i + nI 1).toNatClampNeg)
  refine lv_aload_n hx hb dL_law_949 rfl (lv_at hl 1 rfl) ?_
  refine lv_aload_n hx hb dL_law_950 rfl (lv_at hl 0 rfl) ?_
  refine lv_iload_n hx hb dL_law_951 rfl (lv_at hl 3 rfl) ?_
  refine lv_iconst (v := nI 1) hx hb dL_law_952 (by decide) ?_
  refine lv_iadd hx hb dL_law_953 ?_
  refine va_sld hx hb hX hbl hbA hS (ix 1 (by omega)) dL_law_954 ?_
  refine law_V (y := 116) (n := 1) (As := [.int (xs (nI i + nI 1).toNatClampNeg)]) (rest := []) hx hb hml hown hts hE hA rfl (i_tb_law _ (by decide +kernel)) (by decide +kernel) (by decide +kernel) (by decide +kernel) o3 (fun x hx9 => by
    rcases List.mem_cons.mp hx9 with rfl | hx9
    · exact Or.inl (by rw [s_h_len]; have := cSh_len h.1.1; omega)
    · simp at hx9
      subst hx9; trivial) rfl (c0 h.1.1) (by decide +kernel) rfl wC wR dj hS hl.1 (Nat.le_of_ble_eq_true rfl) (by omega) (by omega) dL_law_955 (fun exC H1 locs1 wC wR dj hS => ?_)
  refine lv_aload_n hx hb dL_law_958 rfl (lv_at hl 2 rfl) ?_
  refine lv_aload_n hx hb dL_law_959 rfl (lv_at hl 0 rfl) ?_
  refine lv_iload_n hx hb dL_law_960 rfl (lv_at hl 3 rfl) ?_
  refine lv_iconst (v := nI 1) hx hb dL_law_961 (by decide) ?_
  refine lv_iadd hx hb dL_law_962 ?_
  refine va_sld hx hb hX hbl hbA hS (ix 1 (by omega)) dL_law_963 ?_
  refine law_V (y := 215) (n := 1) (As := [.int (xs (nI i + nI 1).toNatClampNeg)]) (rest := [.int v]) hx hb hml hown hts hE hA rfl (i_tb_law _ (by decide +kernel)) (by decide +kernel) (by decide +kernel) (by decide +kernel) o4 (fun x hx9 => by
    rcases List.mem_cons.mp hx9 with rfl | hx9
    · exact Or.inl (by rw [s_h_len]; have := (List.getElem?_eq_some_iff.mp (r0 h.1.2.1)).1; omega)
    · simp at hx9
      subst hx9; trivial) rfl (s_h_at (r0 h.1.2.1)) (by decide +kernel) rfl wR wC (fun a b p q h1 h2 e => dj b a q p h2 h1 e.symm) hS hl.1 (Nat.le_of_ble_eq_true rfl) (by omega) (by omega) dL_law_964 (fun exR H2 locs2 wR wC dj hS => ?_)
  refine lv_icmp_eq (tgt := 1196) hx hb dL_law_967 (by decide) (fun _ => ?_) (fun hne => absurd rfl hne)
  exact kk sh' τC τR W1 rl1 im1 tp1 exC exR H2 locs2 mc ms o1 o2 o5 o7 wC wR (fun a b p q h1 h2 e => dj b a q p h2 h1 e.symm) hS
set_option maxHeartbeats 4000000 in
theorem k_note {p : Program} {l : Launch} {e : Env} {s : State} {m : MethodId} {below : List Frame} {meth : Method} {c : Code} {H : Heap} {locs : List Loc} {cells slots : Nat} {Q : State → Prop} {D : va_G} {sa sv : Nat → Nat} {b L i : Nat} {xs : Nat → Int32} {ls : Array Slot} {adC adR : iA} {sh sR : List kd} {σC σR : St} {W0 : Wd} {rl : List Cl} {im : Im} {tp : List Nat}
    (hx : p.tables.exec = Jvm.exec) (hb : c.code = code) (hml : c.maxLocals = 4) (hown : s.vm.findClass RL = some m.cls) (hts : ∀ w ∈ i_tb, w.before #[Value.ref b] s = true) (hE : i_E D sa sv (fun q : Nat => s.heap.size ≤ q) s s.heap) (hX : va_X b L xs s s.heap) (hbl : b < s.heap.size)
    (h : IV sh sR σC σR W0 rl im tp) (hbd : sh.length + 120 < i_SB) (wC : i_Wd sa D (fun q : Nat => s.heap.size ≤ q) adC (s_h sh σC) s H) (wR : i_Wd sa D (fun q : Nat => s.heap.size ≤ q) adR (s_h sR σR) s H) (dj : i_apart (i_w sa adC (s_h sh σC)) (i_w sa adR (s_h sR σR))) (hS : va_S (fun q : Nat => s.heap.size ≤ q) s.heap H locs) (hl : lv_has ls 4 [(0, .ref b), (1, i_mv sa adC (.ref 0)), (2, i_mv sa adR (.ref 0)), (3, .int (nI i))]) (hi : i + 6 ≤ L) (hL : L ≤ 3072) (hc : cells + 300 ≤ 633637) (hs : slots + 3000 ≤ 7201338)
    (kk : ∀ (sh' : List kd) (τC τR : St) (W1 : Wd) (rl1 : List Cl) (im1 : Im) (tp1 : List Nat) (exC exR : iA) (H1 : Heap) (locs1 : List Loc) (mc ms : Nat), mc ≤ 300 → ms ≤ 3000 → IV sh' sR τC τR W1 rl1 im1 tp1 → sh'.length ≤ sh.length + 115 → i_Wd sa D (fun q : Nat => s.heap.size ≤ q) (adC ++ exC) (s_h sh' τC) s H1 → i_Wd sa D (fun q : Nat => s.heap.size ≤ q) (adR ++ exR) (s_h sR τR) s H1 → i_apart (i_w sa (adC ++ exC) (s_h sh' τC)) (i_w sa (adR ++ exR) (s_h sR τR)) → va_S (fun q : Nat => s.heap.size ≤ q) s.heap H1 locs1 → W p l e room_1 s m #[Value.ref b] below meth c H1 locs1 (cells + mc) (slots + ms) Q (F0 m 1196 ls [])) :
    W p l e room_1 s m #[Value.ref b] below meth c H locs cells slots Q (F0 m 972 ls []) := by
  have hA : ∀ q : Nat, s.heap.size ≤ q → (fun q : Nat => s.heap.size ≤ q) q := fun _ h => h
  have hbA : ¬ (fun q : Nat => s.heap.size ≤ q) b := Nat.not_le.mpr hbl
  have ix : ∀ j : Nat, j < 6 → vp_in (nI i + nI j) L := fun j hj => by rw [nI_add]; exact vp_in_nI (by omega) (by omega)
  obtain ⟨v, mc, ms, sh', τC, τR, W1, rl1, im1, tp1, o1, o2, o3, o4, o5, o6, o7⟩ := o_note h hbd (xs (nI i + nI 1).toNatClampNeg) (xs (nI i + nI 2).toNatClampNeg)
  refine lv_aload_n hx hb dL_law_972 rfl (lv_at hl 1 rfl) ?_
  refine lv_aload_n hx hb dL_law_973 rfl (lv_at hl 0 rfl) ?_
  refine lv_iload_n hx hb dL_law_974 rfl (lv_at hl 3 rfl) ?_
  refine lv_iconst (v := nI 1) hx hb dL_law_975 (by decide) ?_
  refine lv_iadd hx hb dL_law_976 ?_
  refine va_sld hx hb hX hbl hbA hS (ix 1 (by omega)) dL_law_977 ?_
  refine lv_aload_n hx hb dL_law_978 rfl (lv_at hl 0 rfl) ?_
  refine lv_iload_n hx hb dL_law_979 rfl (lv_at hl 3 rfl) ?_
  refine lv_iconst (v := nI 2) hx hb dL_law_980 (by decide) ?_
  refine lv_iadd hx hb dL_law_981 ?_
  refine va_sld hx hb hX hbl hbA hS (ix 2 (by omega)) dL_law_982 ?_
  refine law_V (y := 117) (n := 2) (As := [.int (xs (nI i + nI 1).toNatClampNeg), .int (xs (nI i + nI 2).toNatClampNeg)]) (rest := []) hx hb hml hown hts hE hA rfl (i_tb_law _ (by decide +kernel)) (by decide +kernel) (by decide +kernel) (by decide +kernel) o3 (fun x hx9 => by
    rcases List.mem_cons.mp hx9 with rfl | hx9
    · exact Or.inl (by rw [s_h_len]; have := cSh_len h.1.1; omega)
    · simp at hx9
      rcases hx9 with rfl | rfl <;> trivial) rfl (c0 h.1.1) (by decide +kernel) rfl wC wR dj hS hl.1 (Nat.le_of_ble_eq_true rfl) (by omega) (by omega) dL_law_983 (fun exC H1 locs1 wC wR dj hS => ?_)
  refine lv_aload_n hx hb dL_law_986 rfl (lv_at hl 2 rfl) ?_
  refine lv_aload_n hx hb dL_law_987 rfl (lv_at hl 0 rfl) ?_
  refine lv_iload_n hx hb dL_law_988 rfl (lv_at hl 3 rfl) ?_
  refine lv_iconst (v := nI 1) hx hb dL_law_989 (by decide) ?_
  refine lv_iadd hx hb dL_law_990 ?_
  refine va_sld hx hb hX hbl hbA hS (ix 1 (by omega)) dL_law_991 ?_
  refine lv_aload_n hx hb dL_law_992 rfl (lv_at hl 0 rfl) ?_
  refine lv_iload_n hx hb dL_law_993 rfl (lv_at hl 3 rfl) ?_
  refine lv_iconst (v := nI 2) hx hb dL_law_994 (by decide) ?_
  refine lv_iadd hx hb dL_law_995 ?_
  refine va_sld hx hb hX hbl hbA hS (ix 2 (by omega)) dL_law_996 ?_
  refine law_V (y := 216) (n := 2) (As := [.int (xs (nI i + nI 1).toNatClampNeg), .int (xs (nI i + nI 2).toNatClampNeg)]) (rest := [.int v]) hx hb hml hown hts hE hA rfl (i_tb_law _ (by decide +kernel)) (by decide +kernel) (by decide +kernel) (by decide +kernel) o4 (fun x hx9 => by
    rcases List.mem_cons.mp hx9 with rfl | hx9
    · exact Or.inl (by rw [s_h_len]; have := (List.getElem?_eq_some_iff.mp (r0 h.1.2.1)).1; omega)
    · simp at hx9
      rcases hx9 with rfl | rfl <;> trivial) rfl (s_h_at (r0 h.1.2.1)) (by decide +kernel) rfl wR wC (fun a b p q h1 h2 e => dj b a q p h2 h1 e.symm) hS hl.1 (Nat.le_of_ble_eq_true rfl) (by omega) (by omega) dL_law_997 (fun exR H2 locs2 wR wC dj hS => ?_)
  refine lv_icmp_eq (tgt := 1196) hx hb dL_law_1000 (by decide) (fun _ => ?_) (fun hne => absurd rfl hne)
  exact kk sh' τC τR W1 rl1 im1 tp1 exC exR H2 locs2 mc ms o1 o2 o5 o7 wC wR (fun a b p q h1 h2 e => dj b a q p h2 h1 e.symm) hS
set_option maxHeartbeats 4000000 in
theorem k_ruled {p : Program} {l : Launch} {e : Env} {s : State} {m : MethodId} {below : List Frame} {meth : Method} {c : Code} {H : Heap} {locs : List Loc} {cells slots : Nat} {Q : State → Prop} {D : va_G} {sa sv : Nat → Nat} {b L i : Nat} {xs : Nat → Int32} {ls : Array Slot} {adC adR : iA} {sh sR : List kd} {σC σR : St} {W0 : Wd} {rl : List Cl} {im : Im} {tp : List Nat}
    (hx : p.tables.exec = Jvm.exec) (hb : c.code = code) (hml : c.maxLocals = 4) (hown : s.vm.findClass RL = some m.cls) (hts : ∀ w ∈ i_tb, w.before #[Value.ref b] s = true) (hE : i_E D sa sv (fun q : Nat => s.heap.size ≤ q) s s.heap) (hX : va_X b L xs s s.heap) (hbl : b < s.heap.size)
    (h : IV sh sR σC σR W0 rl im tp) (hbd : sh.length + 120 < i_SB) (wC : i_Wd sa D (fun q : Nat => s.heap.size ≤ q) adC (s_h sh σC) s H) (wR : i_Wd sa D (fun q : Nat => s.heap.size ≤ q) adR (s_h sR σR) s H) (dj : i_apart (i_w sa adC (s_h sh σC)) (i_w sa adR (s_h sR σR))) (hS : va_S (fun q : Nat => s.heap.size ≤ q) s.heap H locs) (hl : lv_has ls 4 [(0, .ref b), (1, i_mv sa adC (.ref 0)), (2, i_mv sa adR (.ref 0)), (3, .int (nI i))]) (hi : i + 6 ≤ L) (hL : L ≤ 3072) (hc : cells + 300 ≤ 633637) (hs : slots + 3000 ≤ 7201338)
    (kk : ∀ (sh' : List kd) (τC τR : St) (W1 : Wd) (rl1 : List Cl) (im1 : Im) (tp1 : List Nat) (exC exR : iA) (H1 : Heap) (locs1 : List Loc) (mc ms : Nat), mc ≤ 300 → ms ≤ 3000 → IV sh' sR τC τR W1 rl1 im1 tp1 → sh'.length ≤ sh.length + 115 → i_Wd sa D (fun q : Nat => s.heap.size ≤ q) (adC ++ exC) (s_h sh' τC) s H1 → i_Wd sa D (fun q : Nat => s.heap.size ≤ q) (adR ++ exR) (s_h sR τR) s H1 → i_apart (i_w sa (adC ++ exC) (s_h sh' τC)) (i_w sa (adR ++ exR) (s_h sR τR)) → va_S (fun q : Nat => s.heap.size ≤ q) s.heap H1 locs1 → W p l e room_1 s m #[Value.ref b] below meth c H1 locs1 (cells + mc) (slots + ms) Q (F0 m 1196 ls [])) :
    W p l e room_1 s m #[Value.ref b] below meth c H locs cells slots Q (F0 m 1005 ls []) := by
  have hA : ∀ q : Nat, s.heap.size ≤ q → (fun q : Nat => s.heap.size ≤ q) q := fun _ h => h
  have hbA : ¬ (fun q : Nat => s.heap.size ≤ q) b := Nat.not_le.mpr hbl
  have ix : ∀ j : Nat, j < 6 → vp_in (nI i + nI j) L := fun j hj => by rw [nI_add]; exact vp_in_nI (by omega) (by omega)
  obtain ⟨v, mc, ms, sh', τC, τR, W1, rl1, im1, tp1, o1, o2, o3, o4, o5, o6, o7⟩ := o_ruled h hbd (xs (nI i + nI 1).toNatClampNeg)
  refine lv_aload_n hx hb dL_law_1005 rfl (lv_at hl 1 rfl) ?_
  refine lv_aload_n hx hb dL_law_1006 rfl (lv_at hl 0 rfl) ?_
  refine lv_iload_n hx hb dL_law_1007 rfl (lv_at hl 3 rfl) ?_
  refine lv_iconst (v := nI 1) hx hb dL_law_1008 (by decide) ?_
  refine lv_iadd hx hb dL_law_1009 ?_
  refine va_sld hx hb hX hbl hbA hS (ix 1 (by omega)) dL_law_1010 ?_
  refine law_V (y := 118) (n := 1) (As := [.int (xs (nI i + nI 1).toNatClampNeg)]) (rest := []) hx hb hml hown hts hE hA rfl (i_tb_law _ (by decide +kernel)) (by decide +kernel) (by decide +kernel) (by decide +kernel) o3 (fun x hx9 => by
    rcases List.mem_cons.mp hx9 with rfl | hx9
    · exact Or.inl (by rw [s_h_len]; have := cSh_len h.1.1; omega)
    · simp at hx9
      subst hx9; trivial) rfl (c0 h.1.1) (by decide +kernel) rfl wC wR dj hS hl.1 (Nat.le_of_ble_eq_true rfl) (by omega) (by omega) dL_law_1011 (fun exC H1 locs1 wC wR dj hS => ?_)
  refine lv_aload_n hx hb dL_law_1014 rfl (lv_at hl 2 rfl) ?_
  refine lv_aload_n hx hb dL_law_1015 rfl (lv_at hl 0 rfl) ?_
  refine lv_iload_n hx hb dL_law_1016 rfl (lv_at hl 3 rfl) ?_
  refine lv_iconst (v := nI 1) hx hb dL_law_1017 (by decide) ?_
  refine lv_iadd hx hb dL_law_1018 ?_
  refine va_sld hx hb hX hbl hbA hS (ix 1 (by omega)) dL_law_1019 ?_
  refine law_V (y := 218) (n := 1) (As := [.int (xs (nI i + nI 1).toNatClampNeg)]) (rest := [.int v]) hx hb hml hown hts hE hA rfl (i_tb_law _ (by decide +kernel)) (by decide +kernel) (by decide +kernel) (by decide +kernel) o4 (fun x hx9 => by
    rcases List.mem_cons.mp hx9 with rfl | hx9
    · exact Or.inl (by rw [s_h_len]; have := (List.getElem?_eq_some_iff.mp (r0 h.1.2.1)).1; omega)
    · simp at hx9
      subst hx9; trivial) rfl (s_h_at (r0 h.1.2.1)) (by decide +kernel) rfl wR wC (fun a b p q h1 h2 e => dj b a q p h2 h1 e.symm) hS hl.1 (Nat.le_of_ble_eq_true rfl) (by omega) (by omega) dL_law_1020 (fun exR H2 locs2 wR wC dj hS => ?_)
  refine lv_icmp_eq (tgt := 1196) hx hb dL_law_1023 (by decide) (fun _ => ?_) (fun hne => absurd rfl hne)
  exact kk sh' τC τR W1 rl1 im1 tp1 exC exR H2 locs2 mc ms o1 o2 o5 o7 wC wR (fun a b p q h1 h2 e => dj b a q p h2 h1 e.symm) hS
set_option maxHeartbeats 4000000 in
theorem k_look {p : Program} {l : Launch} {e : Env} {s : State} {m : MethodId} {below : List Frame} {meth : Method} {c : Code} {H : Heap} {locs : List Loc} {cells slots : Nat} {Q : State → Prop} {D : va_G} {sa sv : Nat → Nat} {b L i : Nat} {xs : Nat → Int32} {ls : Array Slot} {adC adR : iA} {sh sR : List kd} {σC σR : St} {W0 : Wd} {rl : List Cl} {im : Im} {tp : List Nat}
    (hx : p.tables.exec = Jvm.exec) (hb : c.code = code) (hml : c.maxLocals = 4) (hown : s.vm.findClass RL = some m.cls) (hts : ∀ w ∈ i_tb, w.before #[Value.ref b] s = true) (hE : i_E D sa sv (fun q : Nat => s.heap.size ≤ q) s s.heap) (hX : va_X b L xs s s.heap) (hbl : b < s.heap.size)
    (h : IV sh sR σC σR W0 rl im tp) (hbd : sh.length + 120 < i_SB) (wC : i_Wd sa D (fun q : Nat => s.heap.size ≤ q) adC (s_h sh σC) s H) (wR : i_Wd sa D (fun q : Nat => s.heap.size ≤ q) adR (s_h sR σR) s H) (dj : i_apart (i_w sa adC (s_h sh σC)) (i_w sa adR (s_h sR σR))) (hS : va_S (fun q : Nat => s.heap.size ≤ q) s.heap H locs) (hl : lv_has ls 4 [(0, .ref b), (1, i_mv sa adC (.ref 0)), (2, i_mv sa adR (.ref 0)), (3, .int (nI i))]) (hi : i + 6 ≤ L) (hL : L ≤ 3072) (hc : cells + 300 ≤ 633637) (hs : slots + 3000 ≤ 7201338)
    (kk : ∀ (sh' : List kd) (τC τR : St) (W1 : Wd) (rl1 : List Cl) (im1 : Im) (tp1 : List Nat) (exC exR : iA) (H1 : Heap) (locs1 : List Loc) (mc ms : Nat), mc ≤ 300 → ms ≤ 3000 → IV sh' sR τC τR W1 rl1 im1 tp1 → sh'.length ≤ sh.length + 115 → i_Wd sa D (fun q : Nat => s.heap.size ≤ q) (adC ++ exC) (s_h sh' τC) s H1 → i_Wd sa D (fun q : Nat => s.heap.size ≤ q) (adR ++ exR) (s_h sR τR) s H1 → i_apart (i_w sa (adC ++ exC) (s_h sh' τC)) (i_w sa (adR ++ exR) (s_h sR τR)) → va_S (fun q : Nat => s.heap.size ≤ q) s.heap H1 locs1 → W p l e room_1 s m #[Value.ref b] below meth c H1 locs1 (cells + mc) (slots + ms) Q (F0 m 1196 ls [])) :
    W p l e room_1 s m #[Value.ref b] below meth c H locs cells slots Q (F0 m 1028 ls []) := by
  have hA : ∀ q : Nat, s.heap.size ≤ q → (fun q : Nat => s.heap.size ≤ q) q := fun _ h => h
  have hbA : ¬ (fun q : Nat => s.heap.size ≤ q) b := Nat.not_le.mpr hbl
  have ix : ∀ j : Nat, j < 6 → vp_in (nI i + nI j) L := fun j hj => by rw [nI_add]; exact vp_in_nI (by omega) (by omega)
  obtain ⟨v, mc, ms, sh', τC, τR, W1, rl1, im1, tp1, o1, o2, o3, o4, o5, o6, o7⟩ := o_look h hbd (xs (nI i + nI 1).toNatClampNeg)
  refine lv_aload_n hx hb dL_law_1028 rfl (lv_at hl 1 rfl) ?_
  refine lv_aload_n hx hb dL_law_1029 rfl (lv_at hl 0 rfl) ?_
  refine lv_iload_n hx hb dL_law_1030 rfl (lv_at hl 3 rfl) ?_
  refine lv_iconst (v := nI 1) hx hb dL_law_1031 (by decide) ?_
  refine lv_iadd hx hb dL_law_1032 ?_
  refine va_sld hx hb hX hbl hbA hS (ix 1 (by omega)) dL_law_1033 ?_
  refine law_V (y := 119) (n := 1) (As := [.int (xs (nI i + nI 1).toNatClampNeg)]) (rest := []) hx hb hml hown hts hE hA rfl (i_tb_law _ (by decide +kernel)) (by decide +kernel) (by decide +kernel) (by decide +kernel) o3 (fun x hx9 => by
    rcases List.mem_cons.mp hx9 with rfl | hx9
    · exact Or.inl (by rw [s_h_len]; have := cSh_len h.1.1; omega)
    · simp at hx9
      subst hx9; trivial) rfl (c0 h.1.1) (by decide +kernel) rfl wC wR dj hS hl.1 (Nat.le_of_ble_eq_true rfl) (by omega) (by omega) dL_law_1034 (fun exC H1 locs1 wC wR dj hS => ?_)
  refine lv_aload_n hx hb dL_law_1037 rfl (lv_at hl 2 rfl) ?_
  refine lv_aload_n hx hb dL_law_1038 rfl (lv_at hl 0 rfl) ?_
  refine lv_iload_n hx hb dL_law_1039 rfl (lv_at hl 3 rfl) ?_
  refine lv_iconst (v := nI 1) hx hb dL_law_1040 (by decide) ?_
  refine lv_iadd hx hb dL_law_1041 ?_
  refine va_sld hx hb hX hbl hbA hS (ix 1 (by omega)) dL_law_1042 ?_
  refine law_V (y := 220) (n := 1) (As := [.int (xs (nI i + nI 1).toNatClampNeg)]) (rest := [.int v]) hx hb hml hown hts hE hA rfl (i_tb_law _ (by decide +kernel)) (by decide +kernel) (by decide +kernel) (by decide +kernel) o4 (fun x hx9 => by
    rcases List.mem_cons.mp hx9 with rfl | hx9
    · exact Or.inl (by rw [s_h_len]; have := (List.getElem?_eq_some_iff.mp (r0 h.1.2.1)).1; omega)
    · simp at hx9
      subst hx9; trivial) rfl (s_h_at (r0 h.1.2.1)) (by decide +kernel) rfl wR wC (fun a b p q h1 h2 e => dj b a q p h2 h1 e.symm) hS hl.1 (Nat.le_of_ble_eq_true rfl) (by omega) (by omega) dL_law_1043 (fun exR H2 locs2 wR wC dj hS => ?_)
  refine lv_icmp_eq (tgt := 1196) hx hb dL_law_1046 (by decide) (fun _ => ?_) (fun hne => absurd rfl hne)
  exact kk sh' τC τR W1 rl1 im1 tp1 exC exR H2 locs2 mc ms o1 o2 o5 o7 wC wR (fun a b p q h1 h2 e => dj b a q p h2 h1 e.symm) hS
set_option maxHeartbeats 4000000 in
theorem k_seed {p : Program} {l : Launch} {e : Env} {s : State} {m : MethodId} {below : List Frame} {meth : Method} {c : Code} {H : Heap} {locs : List Loc} {cells slots : Nat} {Q : State → Prop} {D : va_G} {sa sv : Nat → Nat} {b L i : Nat} {xs : Nat → Int32} {ls : Array Slot} {adC adR : iA} {sh sR : List kd} {σC σR : St} {W0 : Wd} {rl : List Cl} {im : Im} {tp : List Nat}
    (hx : p.tables.exec = Jvm.exec) (hb : c.code = code) (hml : c.maxLocals = 4) (hown : s.vm.findClass RL = some m.cls) (hts : ∀ w ∈ i_tb, w.before #[Value.ref b] s = true) (hE : i_E D sa sv (fun q : Nat => s.heap.size ≤ q) s s.heap) (hX : va_X b L xs s s.heap) (hbl : b < s.heap.size)
    (h : IV sh sR σC σR W0 rl im tp) (hbd : sh.length + 120 < i_SB) (wC : i_Wd sa D (fun q : Nat => s.heap.size ≤ q) adC (s_h sh σC) s H) (wR : i_Wd sa D (fun q : Nat => s.heap.size ≤ q) adR (s_h sR σR) s H) (dj : i_apart (i_w sa adC (s_h sh σC)) (i_w sa adR (s_h sR σR))) (hS : va_S (fun q : Nat => s.heap.size ≤ q) s.heap H locs) (hl : lv_has ls 4 [(0, .ref b), (1, i_mv sa adC (.ref 0)), (2, i_mv sa adR (.ref 0)), (3, .int (nI i))]) (hi : i + 6 ≤ L) (hL : L ≤ 3072) (hc : cells + 300 ≤ 633637) (hs : slots + 3000 ≤ 7201338)
    (kk : ∀ (sh' : List kd) (τC τR : St) (W1 : Wd) (rl1 : List Cl) (im1 : Im) (tp1 : List Nat) (exC exR : iA) (H1 : Heap) (locs1 : List Loc) (mc ms : Nat), mc ≤ 300 → ms ≤ 3000 → IV sh' sR τC τR W1 rl1 im1 tp1 → sh'.length ≤ sh.length + 115 → i_Wd sa D (fun q : Nat => s.heap.size ≤ q) (adC ++ exC) (s_h sh' τC) s H1 → i_Wd sa D (fun q : Nat => s.heap.size ≤ q) (adR ++ exR) (s_h sR τR) s H1 → i_apart (i_w sa (adC ++ exC) (s_h sh' τC)) (i_w sa (adR ++ exR) (s_h sR τR)) → va_S (fun q : Nat => s.heap.size ≤ q) s.heap H1 locs1 → W p l e room_1 s m #[Value.ref b] below meth c H1 locs1 (cells + mc) (slots + ms) Q (F0 m 1196 ls [])) :
    W p l e room_1 s m #[Value.ref b] below meth c H locs cells slots Q (F0 m 1051 ls []) := by
  have hA : ∀ q : Nat, s.heap.size ≤ q → (fun q : Nat => s.heap.size ≤ q) q := fun _ h => h
  have hbA : ¬ (fun q : Nat => s.heap.size ≤ q) b := Nat.not_le.mpr hbl
  have ix : ∀ j : Nat, j < 6 → vp_in (nI i + nI j) L := fun j hj => by rw [nI_add]; exact vp_in_nI (by omega) (by omega)
  obtain ⟨v, mc, ms, sh', τC, τR, W1, rl1, im1, tp1, o1, o2, o3, o4, o5, o6, o7⟩ := o_seed h hbd (xs (nI i + nI 1).toNatClampNeg)
  refine lv_aload_n hx hb dL_law_1051 rfl (lv_at hl 1 rfl) ?_
  refine lv_aload_n hx hb dL_law_1052 rfl (lv_at hl 0 rfl) ?_
  refine lv_iload_n hx hb dL_law_1053 rfl (lv_at hl 3 rfl) ?_
  refine lv_iconst (v := nI 1) hx hb dL_law_1054 (by decide) ?_
  refine lv_iadd hx hb dL_law_1055 ?_
  refine va_sld hx hb hX hbl hbA hS (ix 1 (by omega)) dL_law_1056 ?_
  refine law_V (y := 120) (n := 1) (As := [.int (xs (nI i + nI 1).toNatClampNeg)]) (rest := []) hx hb hml hown hts hE hA rfl (i_tb_law _ (by decide +kernel)) (by decide +kernel) (by decide +kernel) (by decide +kernel) o3 (fun x hx9 => by
    rcases List.mem_cons.mp hx9 with rfl | hx9
    · exact Or.inl (by rw [s_h_len]; have := cSh_len h.1.1; omega)
    · simp at hx9
      subst hx9; trivial) rfl (c0 h.1.1) (by decide +kernel) rfl wC wR dj hS hl.1 (Nat.le_of_ble_eq_true rfl) (by omega) (by omega) dL_law_1057 (fun exC H1 locs1 wC wR dj hS => ?_)
  refine lv_aload_n hx hb dL_law_1060 rfl (lv_at hl 2 rfl) ?_
  refine lv_aload_n hx hb dL_law_1061 rfl (lv_at hl 0 rfl) ?_
  refine lv_iload_n hx hb dL_law_1062 rfl (lv_at hl 3 rfl) ?_
  refine lv_iconst (v := nI 1) hx hb dL_law_1063 (by decide) ?_
  refine lv_iadd hx hb dL_law_1064 ?_
  refine va_sld hx hb hX hbl hbA hS (ix 1 (by omega)) dL_law_1065 ?_
  refine law_V (y := 221) (n := 1) (As := [.int (xs (nI i + nI 1).toNatClampNeg)]) (rest := [.int v]) hx hb hml hown hts hE hA rfl (i_tb_law _ (by decide +kernel)) (by decide +kernel) (by decide +kernel) (by decide +kernel) o4 (fun x hx9 => by
    rcases List.mem_cons.mp hx9 with rfl | hx9
    · exact Or.inl (by rw [s_h_len]; have := (List.getElem?_eq_some_iff.mp (r0 h.1.2.1)).1; omega)
    · simp at hx9
      subst hx9; trivial) rfl (s_h_at (r0 h.1.2.1)) (by decide +kernel) rfl wR wC (fun a b p q h1 h2 e => dj b a q p h2 h1 e.symm) hS hl.1 (Nat.le_of_ble_eq_true rfl) (by omega) (by omega) dL_law_1066 (fun exR H2 locs2 wR wC dj hS => ?_)
  refine lv_icmp_eq (tgt := 1196) hx hb dL_law_1069 (by decide) (fun _ => ?_) (fun hne => absurd rfl hne)
  exact kk sh' τC τR W1 rl1 im1 tp1 exC exR H2 locs2 mc ms o1 o2 o5 o7 wC wR (fun a b p q h1 h2 e => dj b a q p h2 h1 e.symm) hS
set_option maxHeartbeats 4000000 in
theorem k_years {p : Program} {l : Launch} {e : Env} {s : State} {m : MethodId} {below : List Frame} {meth : Method} {c : Code} {H : Heap} {locs : List Loc} {cells slots : Nat} {Q : State → Prop} {D : va_G} {sa sv : Nat → Nat} {b L i : Nat} {xs : Nat → Int32} {ls : Array Slot} {adC adR : iA} {sh sR : List kd} {σC σR : St} {W0 : Wd} {rl : List Cl} {im : Im} {tp : List Nat}
    (hx : p.tables.exec = Jvm.exec) (hb : c.code = code) (hml : c.maxLocals = 4) (hown : s.vm.findClass RL = some m.cls) (hts : ∀ w ∈ i_tb, w.before #[Value.ref b] s = true) (hE : i_E D sa sv (fun q : Nat => s.heap.size ≤ q) s s.heap) (hX : va_X b L xs s s.heap) (hbl : b < s.heap.size)
    (h : IV sh sR σC σR W0 rl im tp) (hbd : sh.length + 120 < i_SB) (wC : i_Wd sa D (fun q : Nat => s.heap.size ≤ q) adC (s_h sh σC) s H) (wR : i_Wd sa D (fun q : Nat => s.heap.size ≤ q) adR (s_h sR σR) s H) (dj : i_apart (i_w sa adC (s_h sh σC)) (i_w sa adR (s_h sR σR))) (hS : va_S (fun q : Nat => s.heap.size ≤ q) s.heap H locs) (hl : lv_has ls 4 [(0, .ref b), (1, i_mv sa adC (.ref 0)), (2, i_mv sa adR (.ref 0)), (3, .int (nI i))]) (hi : i + 6 ≤ L) (hL : L ≤ 3072) (hc : cells + 300 ≤ 633637) (hs : slots + 3000 ≤ 7201338)
    (kk : ∀ (sh' : List kd) (τC τR : St) (W1 : Wd) (rl1 : List Cl) (im1 : Im) (tp1 : List Nat) (exC exR : iA) (H1 : Heap) (locs1 : List Loc) (mc ms : Nat), mc ≤ 300 → ms ≤ 3000 → IV sh' sR τC τR W1 rl1 im1 tp1 → sh'.length ≤ sh.length + 115 → i_Wd sa D (fun q : Nat => s.heap.size ≤ q) (adC ++ exC) (s_h sh' τC) s H1 → i_Wd sa D (fun q : Nat => s.heap.size ≤ q) (adR ++ exR) (s_h sR τR) s H1 → i_apart (i_w sa (adC ++ exC) (s_h sh' τC)) (i_w sa (adR ++ exR) (s_h sR τR)) → va_S (fun q : Nat => s.heap.size ≤ q) s.heap H1 locs1 → W p l e room_1 s m #[Value.ref b] below meth c H1 locs1 (cells + mc) (slots + ms) Q (F0 m 1196 ls [])) :
    W p l e room_1 s m #[Value.ref b] below meth c H locs cells slots Q (F0 m 1074 ls []) := by
  have hA : ∀ q : Nat, s.heap.size ≤ q → (fun q : Nat => s.heap.size ≤ q) q := fun _ h => h
  have hbA : ¬ (fun q : Nat => s.heap.size ≤ q) b := Nat.not_le.mpr hbl
  have ix : ∀ j : Nat, j < 6 → vp_in (nI i + nI j) L := fun j hj => by rw [nI_add]; exact vp_in_nI (by omega) (by omega)
  obtain ⟨v, mc, ms, sh', τC, τR, W1, rl1, im1, tp1, o1, o2, o3, o4, o5, o6, o7⟩ := o_years h hbd (xs (nI i + nI 1).toNatClampNeg) (xs (nI i + nI 2).toNatClampNeg) (xs (nI i + nI 3).toNatClampNeg) (xs (nI i + nI 4).toNatClampNeg)
  refine lv_aload_n hx hb dL_law_1074 rfl (lv_at hl 1 rfl) ?_
  refine lv_aload_n hx hb dL_law_1075 rfl (lv_at hl 0 rfl) ?_
  refine lv_iload_n hx hb dL_law_1076 rfl (lv_at hl 3 rfl) ?_
  refine lv_iconst (v := nI 1) hx hb dL_law_1077 (by decide) ?_
  refine lv_iadd hx hb dL_law_1078 ?_
  refine va_sld hx hb hX hbl hbA hS (ix 1 (by omega)) dL_law_1079 ?_
  refine lv_aload_n hx hb dL_law_1080 rfl (lv_at hl 0 rfl) ?_
  refine lv_iload_n hx hb dL_law_1081 rfl (lv_at hl 3 rfl) ?_
  refine lv_iconst (v := nI 2) hx hb dL_law_1082 (by decide) ?_
  refine lv_iadd hx hb dL_law_1083 ?_
  refine va_sld hx hb hX hbl hbA hS (ix 2 (by omega)) dL_law_1084 ?_
  refine lv_aload_n hx hb dL_law_1085 rfl (lv_at hl 0 rfl) ?_
  refine lv_iload_n hx hb dL_law_1086 rfl (lv_at hl 3 rfl) ?_
  refine lv_iconst (v := nI 3) hx hb dL_law_1087 (by decide) ?_
  refine lv_iadd hx hb dL_law_1088 ?_
  refine va_sld hx hb hX hbl hbA hS (ix 3 (by omega)) dL_law_1089 ?_
  refine lv_aload_n hx hb dL_law_1090 rfl (lv_at hl 0 rfl) ?_
  refine lv_iload_n hx hb dL_law_1091 rfl (lv_at hl 3 rfl) ?_
  refine lv_iconst (v := nI 4) hx hb dL_law_1092 (by decide) ?_
  refine lv_iadd hx hb dL_law_1093 ?_
  refine va_sld hx hb hX hbl hbA hS (ix 4 (by omega)) dL_law_1094 ?_
  refine law_V (y := 121) (n := 4) (As := [.int (xs (nI i + nI 1).toNatClampNeg), .int (xs (nI i + nI 2).toNatClampNeg), .int (xs (nI i + nI 3).toNatClampNeg), .int (xs (nI i + nI 4).toNatClampNeg)]) (rest := []) hx hb hml hown hts hE hA rfl (i_tb_law _ (by decide +kernel)) (by decide +kernel) (by decide +kernel) (by decide +kernel) o3 (fun x hx9 => by
    rcases List.mem_cons.mp hx9 with rfl | hx9
    · exact Or.inl (by rw [s_h_len]; have := cSh_len h.1.1; omega)
    · simp at hx9
      rcases hx9 with rfl | rfl | rfl | rfl <;> trivial) rfl (c0 h.1.1) (by decide +kernel) rfl wC wR dj hS hl.1 (Nat.le_of_ble_eq_true rfl) (by omega) (by omega) dL_law_1095 (fun exC H1 locs1 wC wR dj hS => ?_)
  refine lv_aload_n hx hb dL_law_1098 rfl (lv_at hl 2 rfl) ?_
  refine lv_aload_n hx hb dL_law_1099 rfl (lv_at hl 0 rfl) ?_
  refine lv_iload_n hx hb dL_law_1100 rfl (lv_at hl 3 rfl) ?_
  refine lv_iconst (v := nI 1) hx hb dL_law_1101 (by decide) ?_
  refine lv_iadd hx hb dL_law_1102 ?_
  refine va_sld hx hb hX hbl hbA hS (ix 1 (by omega)) dL_law_1103 ?_
  refine lv_aload_n hx hb dL_law_1104 rfl (lv_at hl 0 rfl) ?_
  refine lv_iload_n hx hb dL_law_1105 rfl (lv_at hl 3 rfl) ?_
  refine lv_iconst (v := nI 2) hx hb dL_law_1106 (by decide) ?_
  refine lv_iadd hx hb dL_law_1107 ?_
  refine va_sld hx hb hX hbl hbA hS (ix 2 (by omega)) dL_law_1108 ?_
  refine lv_aload_n hx hb dL_law_1109 rfl (lv_at hl 0 rfl) ?_
  refine lv_iload_n hx hb dL_law_1110 rfl (lv_at hl 3 rfl) ?_
  refine lv_iconst (v := nI 3) hx hb dL_law_1111 (by decide) ?_
  refine lv_iadd hx hb dL_law_1112 ?_
  refine va_sld hx hb hX hbl hbA hS (ix 3 (by omega)) dL_law_1113 ?_
  refine lv_aload_n hx hb dL_law_1114 rfl (lv_at hl 0 rfl) ?_
  refine lv_iload_n hx hb dL_law_1115 rfl (lv_at hl 3 rfl) ?_
  refine lv_iconst (v := nI 4) hx hb dL_law_1116 (by decide) ?_
  refine lv_iadd hx hb dL_law_1117 ?_
  refine va_sld hx hb hX hbl hbA hS (ix 4 (by omega)) dL_law_1118 ?_
  refine law_V (y := 224) (n := 4) (As := [.int (xs (nI i + nI 1).toNatClampNeg), .int (xs (nI i + nI 2).toNatClampNeg), .int (xs (nI i + nI 3).toNatClampNeg), .int (xs (nI i + nI 4).toNatClampNeg)]) (rest := [.int v]) hx hb hml hown hts hE hA rfl (i_tb_law _ (by decide +kernel)) (by decide +kernel) (by decide +kernel) (by decide +kernel) o4 (fun x hx9 => by
    rcases List.mem_cons.mp hx9 with rfl | hx9
    · exact Or.inl (by rw [s_h_len]; have := (List.getElem?_eq_some_iff.mp (r0 h.1.2.1)).1; omega)
    · simp at hx9
      rcases hx9 with rfl | rfl | rfl | rfl <;> trivial) rfl (s_h_at (r0 h.1.2.1)) (by decide +kernel) rfl wR wC (fun a b p q h1 h2 e => dj b a q p h2 h1 e.symm) hS hl.1 (Nat.le_of_ble_eq_true rfl) (by omega) (by omega) dL_law_1119 (fun exR H2 locs2 wR wC dj hS => ?_)
  refine lv_icmp_eq (tgt := 1196) hx hb dL_law_1122 (by decide) (fun _ => ?_) (fun hne => absurd rfl hne)
  exact kk sh' τC τR W1 rl1 im1 tp1 exC exR H2 locs2 mc ms o1 o2 o5 o7 wC wR (fun a b p q h1 h2 e => dj b a q p h2 h1 e.symm) hS
set_option maxHeartbeats 4000000 in
theorem k_count {p : Program} {l : Launch} {e : Env} {s : State} {m : MethodId} {below : List Frame} {meth : Method} {c : Code} {H : Heap} {locs : List Loc} {cells slots : Nat} {Q : State → Prop} {D : va_G} {sa sv : Nat → Nat} {b L i : Nat} {xs : Nat → Int32} {ls : Array Slot} {adC adR : iA} {sh sR : List kd} {σC σR : St} {W0 : Wd} {rl : List Cl} {im : Im} {tp : List Nat}
    (hx : p.tables.exec = Jvm.exec) (hb : c.code = code) (hml : c.maxLocals = 4) (hown : s.vm.findClass RL = some m.cls) (hts : ∀ w ∈ i_tb, w.before #[Value.ref b] s = true) (hE : i_E D sa sv (fun q : Nat => s.heap.size ≤ q) s s.heap) (hX : va_X b L xs s s.heap) (hbl : b < s.heap.size)
    (h : IV sh sR σC σR W0 rl im tp) (hbd : sh.length + 120 < i_SB) (wC : i_Wd sa D (fun q : Nat => s.heap.size ≤ q) adC (s_h sh σC) s H) (wR : i_Wd sa D (fun q : Nat => s.heap.size ≤ q) adR (s_h sR σR) s H) (dj : i_apart (i_w sa adC (s_h sh σC)) (i_w sa adR (s_h sR σR))) (hS : va_S (fun q : Nat => s.heap.size ≤ q) s.heap H locs) (hl : lv_has ls 4 [(0, .ref b), (1, i_mv sa adC (.ref 0)), (2, i_mv sa adR (.ref 0)), (3, .int (nI i))]) (hi : i + 6 ≤ L) (hL : L ≤ 3072) (hc : cells + 300 ≤ 633637) (hs : slots + 3000 ≤ 7201338)
    (kk : ∀ (sh' : List kd) (τC τR : St) (W1 : Wd) (rl1 : List Cl) (im1 : Im) (tp1 : List Nat) (exC exR : iA) (H1 : Heap) (locs1 : List Loc) (mc ms : Nat), mc ≤ 300 → ms ≤ 3000 → IV sh' sR τC τR W1 rl1 im1 tp1 → sh'.length ≤ sh.length + 115 → i_Wd sa D (fun q : Nat => s.heap.size ≤ q) (adC ++ exC) (s_h sh' τC) s H1 → i_Wd sa D (fun q : Nat => s.heap.size ≤ q) (adR ++ exR) (s_h sR τR) s H1 → i_apart (i_w sa (adC ++ exC) (s_h sh' τC)) (i_w sa (adR ++ exR) (s_h sR τR)) → va_S (fun q : Nat => s.heap.size ≤ q) s.heap H1 locs1 → W p l e room_1 s m #[Value.ref b] below meth c H1 locs1 (cells + mc) (slots + ms) Q (F0 m 1196 ls [])) :
    W p l e room_1 s m #[Value.ref b] below meth c H locs cells slots Q (F0 m 1127 ls []) := by
  have hA : ∀ q : Nat, s.heap.size ≤ q → (fun q : Nat => s.heap.size ≤ q) q := fun _ h => h
  have hbA : ¬ (fun q : Nat => s.heap.size ≤ q) b := Nat.not_le.mpr hbl
  have ix : ∀ j : Nat, j < 6 → vp_in (nI i + nI j) L := fun j hj => by rw [nI_add]; exact vp_in_nI (by omega) (by omega)
  obtain ⟨v, mc, ms, sh', τC, τR, W1, rl1, im1, tp1, o1, o2, o3, o4, o5, o6, o7⟩ := o_count h hbd (xs (nI i + nI 1).toNatClampNeg)
  refine lv_aload_n hx hb dL_law_1127 rfl (lv_at hl 1 rfl) ?_
  refine lv_aload_n hx hb dL_law_1128 rfl (lv_at hl 0 rfl) ?_
  refine lv_iload_n hx hb dL_law_1129 rfl (lv_at hl 3 rfl) ?_
  refine lv_iconst (v := nI 1) hx hb dL_law_1130 (by decide) ?_
  refine lv_iadd hx hb dL_law_1131 ?_
  refine va_sld hx hb hX hbl hbA hS (ix 1 (by omega)) dL_law_1132 ?_
  refine law_V (y := 122) (n := 1) (As := [.int (xs (nI i + nI 1).toNatClampNeg)]) (rest := []) hx hb hml hown hts hE hA rfl (i_tb_law _ (by decide +kernel)) (by decide +kernel) (by decide +kernel) (by decide +kernel) o3 (fun x hx9 => by
    rcases List.mem_cons.mp hx9 with rfl | hx9
    · exact Or.inl (by rw [s_h_len]; have := cSh_len h.1.1; omega)
    · simp at hx9
      subst hx9; trivial) rfl (c0 h.1.1) (by decide +kernel) rfl wC wR dj hS hl.1 (Nat.le_of_ble_eq_true rfl) (by omega) (by omega) dL_law_1133 (fun exC H1 locs1 wC wR dj hS => ?_)
  refine lv_aload_n hx hb dL_law_1136 rfl (lv_at hl 2 rfl) ?_
  refine lv_aload_n hx hb dL_law_1137 rfl (lv_at hl 0 rfl) ?_
  refine lv_iload_n hx hb dL_law_1138 rfl (lv_at hl 3 rfl) ?_
  refine lv_iconst (v := nI 1) hx hb dL_law_1139 (by decide) ?_
  refine lv_iadd hx hb dL_law_1140 ?_
  refine va_sld hx hb hX hbl hbA hS (ix 1 (by omega)) dL_law_1141 ?_
  refine law_V (y := 225) (n := 1) (As := [.int (xs (nI i + nI 1).toNatClampNeg)]) (rest := [.int v]) hx hb hml hown hts hE hA rfl (i_tb_law _ (by decide +kernel)) (by decide +kernel) (by decide +kernel) (by decide +kernel) o4 (fun x hx9 => by
    rcases List.mem_cons.mp hx9 with rfl | hx9
    · exact Or.inl (by rw [s_h_len]; have := (List.getElem?_eq_some_iff.mp (r0 h.1.2.1)).1; omega)
    · simp at hx9
      subst hx9; trivial) rfl (s_h_at (r0 h.1.2.1)) (by decide +kernel) rfl wR wC (fun a b p q h1 h2 e => dj b a q p h2 h1 e.symm) hS hl.1 (Nat.le_of_ble_eq_true rfl) (by omega) (by omega) dL_law_1142 (fun exR H2 locs2 wR wC dj hS => ?_)
  refine lv_icmp_eq (tgt := 1196) hx hb dL_law_1145 (by decide) (fun _ => ?_) (fun hne => absurd rfl hne)
  exact kk sh' τC τR W1 rl1 im1 tp1 exC exR H2 locs2 mc ms o1 o2 o5 o7 wC wR (fun a b p q h1 h2 e => dj b a q p h2 h1 e.symm) hS
set_option maxHeartbeats 4000000 in
theorem k_image {p : Program} {l : Launch} {e : Env} {s : State} {m : MethodId} {below : List Frame} {meth : Method} {c : Code} {H : Heap} {locs : List Loc} {cells slots : Nat} {Q : State → Prop} {D : va_G} {sa sv : Nat → Nat} {b L i : Nat} {xs : Nat → Int32} {ls : Array Slot} {adC adR : iA} {sh sR : List kd} {σC σR : St} {W0 : Wd} {rl : List Cl} {im : Im} {tp : List Nat}
    (hx : p.tables.exec = Jvm.exec) (hb : c.code = code) (hml : c.maxLocals = 4) (hown : s.vm.findClass RL = some m.cls) (hts : ∀ w ∈ i_tb, w.before #[Value.ref b] s = true) (hE : i_E D sa sv (fun q : Nat => s.heap.size ≤ q) s s.heap) (hX : va_X b L xs s s.heap) (hbl : b < s.heap.size)
    (h : IV sh sR σC σR W0 rl im tp) (hbd : sh.length + 120 < i_SB) (wC : i_Wd sa D (fun q : Nat => s.heap.size ≤ q) adC (s_h sh σC) s H) (wR : i_Wd sa D (fun q : Nat => s.heap.size ≤ q) adR (s_h sR σR) s H) (dj : i_apart (i_w sa adC (s_h sh σC)) (i_w sa adR (s_h sR σR))) (hS : va_S (fun q : Nat => s.heap.size ≤ q) s.heap H locs) (hl : lv_has ls 4 [(0, .ref b), (1, i_mv sa adC (.ref 0)), (2, i_mv sa adR (.ref 0)), (3, .int (nI i))]) (hi : i + 6 ≤ L) (hL : L ≤ 3072) (hc : cells + 300 ≤ 633637) (hs : slots + 3000 ≤ 7201338)
    (kk : ∀ (sh' : List kd) (τC τR : St) (W1 : Wd) (rl1 : List Cl) (im1 : Im) (tp1 : List Nat) (exC exR : iA) (H1 : Heap) (locs1 : List Loc) (mc ms : Nat), mc ≤ 300 → ms ≤ 3000 → IV sh' sR τC τR W1 rl1 im1 tp1 → sh'.length ≤ sh.length + 115 → i_Wd sa D (fun q : Nat => s.heap.size ≤ q) (adC ++ exC) (s_h sh' τC) s H1 → i_Wd sa D (fun q : Nat => s.heap.size ≤ q) (adR ++ exR) (s_h sR τR) s H1 → i_apart (i_w sa (adC ++ exC) (s_h sh' τC)) (i_w sa (adR ++ exR) (s_h sR τR)) → va_S (fun q : Nat => s.heap.size ≤ q) s.heap H1 locs1 → W p l e room_1 s m #[Value.ref b] below meth c H1 locs1 (cells + mc) (slots + ms) Q (F0 m 1196 ls [])) :
    W p l e room_1 s m #[Value.ref b] below meth c H locs cells slots Q (F0 m 1150 ls []) := by
  have hA : ∀ q : Nat, s.heap.size ≤ q → (fun q : Nat => s.heap.size ≤ q) q := fun _ h => h
  have hbA : ¬ (fun q : Nat => s.heap.size ≤ q) b := Nat.not_le.mpr hbl
  have ix : ∀ j : Nat, j < 6 → vp_in (nI i + nI j) L := fun j hj => by rw [nI_add]; exact vp_in_nI (by omega) (by omega)
  obtain ⟨v, mc, ms, sh', τC, τR, W1, rl1, im1, tp1, o1, o2, o3, o4, o5, o6, o7⟩ := o_image h hbd (xs (nI i + nI 1).toNatClampNeg)
  refine lv_aload_n hx hb dL_law_1150 rfl (lv_at hl 1 rfl) ?_
  refine lv_aload_n hx hb dL_law_1151 rfl (lv_at hl 0 rfl) ?_
  refine lv_iload_n hx hb dL_law_1152 rfl (lv_at hl 3 rfl) ?_
  refine lv_iconst (v := nI 1) hx hb dL_law_1153 (by decide) ?_
  refine lv_iadd hx hb dL_law_1154 ?_
  refine va_sld hx hb hX hbl hbA hS (ix 1 (by omega)) dL_law_1155 ?_
  refine law_V (y := 123) (n := 1) (As := [.int (xs (nI i + nI 1).toNatClampNeg)]) (rest := []) hx hb hml hown hts hE hA rfl (i_tb_law _ (by decide +kernel)) (by decide +kernel) (by decide +kernel) (by decide +kernel) o3 (fun x hx9 => by
    rcases List.mem_cons.mp hx9 with rfl | hx9
    · exact Or.inl (by rw [s_h_len]; have := cSh_len h.1.1; omega)
    · simp at hx9
      subst hx9; trivial) rfl (c0 h.1.1) (by decide +kernel) rfl wC wR dj hS hl.1 (Nat.le_of_ble_eq_true rfl) (by omega) (by omega) dL_law_1156 (fun exC H1 locs1 wC wR dj hS => ?_)
  refine lv_aload_n hx hb dL_law_1159 rfl (lv_at hl 2 rfl) ?_
  refine lv_aload_n hx hb dL_law_1160 rfl (lv_at hl 0 rfl) ?_
  refine lv_iload_n hx hb dL_law_1161 rfl (lv_at hl 3 rfl) ?_
  refine lv_iconst (v := nI 1) hx hb dL_law_1162 (by decide) ?_
  refine lv_iadd hx hb dL_law_1163 ?_
  refine va_sld hx hb hX hbl hbA hS (ix 1 (by omega)) dL_law_1164 ?_
  refine law_V (y := 228) (n := 1) (As := [.int (xs (nI i + nI 1).toNatClampNeg)]) (rest := [.int v]) hx hb hml hown hts hE hA rfl (i_tb_law _ (by decide +kernel)) (by decide +kernel) (by decide +kernel) (by decide +kernel) o4 (fun x hx9 => by
    rcases List.mem_cons.mp hx9 with rfl | hx9
    · exact Or.inl (by rw [s_h_len]; have := (List.getElem?_eq_some_iff.mp (r0 h.1.2.1)).1; omega)
    · simp at hx9
      subst hx9; trivial) rfl (s_h_at (r0 h.1.2.1)) (by decide +kernel) rfl wR wC (fun a b p q h1 h2 e => dj b a q p h2 h1 e.symm) hS hl.1 (Nat.le_of_ble_eq_true rfl) (by omega) (by omega) dL_law_1165 (fun exR H2 locs2 wR wC dj hS => ?_)
  refine lv_icmp_eq (tgt := 1196) hx hb dL_law_1168 (by decide) (fun _ => ?_) (fun hne => absurd rfl hne)
  exact kk sh' τC τR W1 rl1 im1 tp1 exC exR H2 locs2 mc ms o1 o2 o5 o7 wC wR (fun a b p q h1 h2 e => dj b a q p h2 h1 e.symm) hS
set_option maxHeartbeats 4000000 in
theorem k_back {p : Program} {l : Launch} {e : Env} {s : State} {m : MethodId} {below : List Frame} {meth : Method} {c : Code} {H : Heap} {locs : List Loc} {cells slots : Nat} {Q : State → Prop} {D : va_G} {sa sv : Nat → Nat} {b L i : Nat} {xs : Nat → Int32} {ls : Array Slot} {adC adR : iA} {sh sR : List kd} {σC σR : St} {W0 : Wd} {rl : List Cl} {im : Im} {tp : List Nat}
    (hx : p.tables.exec = Jvm.exec) (hb : c.code = code) (hml : c.maxLocals = 4) (hown : s.vm.findClass RL = some m.cls) (hts : ∀ w ∈ i_tb, w.before #[Value.ref b] s = true) (hE : i_E D sa sv (fun q : Nat => s.heap.size ≤ q) s s.heap) (hX : va_X b L xs s s.heap) (hbl : b < s.heap.size)
    (h : IV sh sR σC σR W0 rl im tp) (hbd : sh.length + 120 < i_SB) (wC : i_Wd sa D (fun q : Nat => s.heap.size ≤ q) adC (s_h sh σC) s H) (wR : i_Wd sa D (fun q : Nat => s.heap.size ≤ q) adR (s_h sR σR) s H) (dj : i_apart (i_w sa adC (s_h sh σC)) (i_w sa adR (s_h sR σR))) (hS : va_S (fun q : Nat => s.heap.size ≤ q) s.heap H locs) (hl : lv_has ls 4 [(0, .ref b), (1, i_mv sa adC (.ref 0)), (2, i_mv sa adR (.ref 0)), (3, .int (nI i))]) (hi : i + 6 ≤ L) (hL : L ≤ 3072) (hc : cells + 300 ≤ 633637) (hs : slots + 3000 ≤ 7201338)
    (kk : ∀ (sh' : List kd) (τC τR : St) (W1 : Wd) (rl1 : List Cl) (im1 : Im) (tp1 : List Nat) (exC exR : iA) (H1 : Heap) (locs1 : List Loc) (mc ms : Nat), mc ≤ 300 → ms ≤ 3000 → IV sh' sR τC τR W1 rl1 im1 tp1 → sh'.length ≤ sh.length + 115 → i_Wd sa D (fun q : Nat => s.heap.size ≤ q) (adC ++ exC) (s_h sh' τC) s H1 → i_Wd sa D (fun q : Nat => s.heap.size ≤ q) (adR ++ exR) (s_h sR τR) s H1 → i_apart (i_w sa (adC ++ exC) (s_h sh' τC)) (i_w sa (adR ++ exR) (s_h sR τR)) → va_S (fun q : Nat => s.heap.size ≤ q) s.heap H1 locs1 → W p l e room_1 s m #[Value.ref b] below meth c H1 locs1 (cells + mc) (slots + ms) Q (F0 m 1196 ls [])) :
    W p l e room_1 s m #[Value.ref b] below meth c H locs cells slots Q (F0 m 1173 ls []) := by
  have hA : ∀ q : Nat, s.heap.size ≤ q → (fun q : Nat => s.heap.size ≤ q) q := fun _ h => h
  have hbA : ¬ (fun q : Nat => s.heap.size ≤ q) b := Nat.not_le.mpr hbl
  have ix : ∀ j : Nat, j < 6 → vp_in (nI i + nI j) L := fun j hj => by rw [nI_add]; exact vp_in_nI (by omega) (by omega)
  obtain ⟨v, mc, ms, sh', τC, τR, W1, rl1, im1, tp1, o1, o2, o3, o4, o5, o6, o7⟩ := o_back h hbd (xs (nI i + nI 1).toNatClampNeg)
  refine lv_aload_n hx hb dL_law_1173 rfl (lv_at hl 1 rfl) ?_
  refine lv_aload_n hx hb dL_law_1174 rfl (lv_at hl 0 rfl) ?_
  refine lv_iload_n hx hb dL_law_1175 rfl (lv_at hl 3 rfl) ?_
  refine lv_iconst (v := nI 1) hx hb dL_law_1176 (by decide) ?_
  refine lv_iadd hx hb dL_law_1177 ?_
  refine va_sld hx hb hX hbl hbA hS (ix 1 (by omega)) dL_law_1178 ?_
  refine law_V (y := 124) (n := 1) (As := [.int (xs (nI i + nI 1).toNatClampNeg)]) (rest := []) hx hb hml hown hts hE hA rfl (i_tb_law _ (by decide +kernel)) (by decide +kernel) (by decide +kernel) (by decide +kernel) o3 (fun x hx9 => by
    rcases List.mem_cons.mp hx9 with rfl | hx9
    · exact Or.inl (by rw [s_h_len]; have := cSh_len h.1.1; omega)
    · simp at hx9
      subst hx9; trivial) rfl (c0 h.1.1) (by decide +kernel) rfl wC wR dj hS hl.1 (Nat.le_of_ble_eq_true rfl) (by omega) (by omega) dL_law_1179 (fun exC H1 locs1 wC wR dj hS => ?_)
  refine lv_aload_n hx hb dL_law_1182 rfl (lv_at hl 2 rfl) ?_
  refine lv_aload_n hx hb dL_law_1183 rfl (lv_at hl 0 rfl) ?_
  refine lv_iload_n hx hb dL_law_1184 rfl (lv_at hl 3 rfl) ?_
  refine lv_iconst (v := nI 1) hx hb dL_law_1185 (by decide) ?_
  refine lv_iadd hx hb dL_law_1186 ?_
  refine va_sld hx hb hX hbl hbA hS (ix 1 (by omega)) dL_law_1187 ?_
  refine law_V (y := 229) (n := 1) (As := [.int (xs (nI i + nI 1).toNatClampNeg)]) (rest := [.int v]) hx hb hml hown hts hE hA rfl (i_tb_law _ (by decide +kernel)) (by decide +kernel) (by decide +kernel) (by decide +kernel) o4 (fun x hx9 => by
    rcases List.mem_cons.mp hx9 with rfl | hx9
    · exact Or.inl (by rw [s_h_len]; have := (List.getElem?_eq_some_iff.mp (r0 h.1.2.1)).1; omega)
    · simp at hx9
      subst hx9; trivial) rfl (s_h_at (r0 h.1.2.1)) (by decide +kernel) rfl wR wC (fun a b p q h1 h2 e => dj b a q p h2 h1 e.symm) hS hl.1 (Nat.le_of_ble_eq_true rfl) (by omega) (by omega) dL_law_1188 (fun exR H2 locs2 wR wC dj hS => ?_)
  refine lv_icmp_eq (tgt := 1196) hx hb dL_law_1191 (by decide) (fun _ => ?_) (fun hne => absurd rfl hne)
  exact kk sh' τC τR W1 rl1 im1 tp1 exC exR H2 locs2 mc ms o1 o2 o5 o7 wC wR (fun a b p q h1 h2 e => dj b a q p h2 h1 e.symm) hS
