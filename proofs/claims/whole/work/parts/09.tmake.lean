/-! ===== steps that make cells; calls; returns ===== -/
set_option maxRecDepth 100000 in
theorem i_w_cl1 : Cond.sameMethod "[I" "java/lang/Object" "clone" "()Ljava/lang/Object;" ∈ i_tb := i_tb_in (w := 722) (by decide +kernel)
set_option maxRecDepth 100000 in
theorem i_w_cl2 : Cond.native ⟨"java/lang/Object", "clone", "()Ljava/lang/Object;"⟩ ∈ i_tb := i_tb_in (w := 723) (by decide +kernel)
set_option maxRecDepth 100000 in
theorem i_w_cl3 : Cond.instanceMethod ⟨"java/lang/Object", "clone", "()Ljava/lang/Object;"⟩ ∈ i_tb := i_tb_in (w := 724) (by decide +kernel)
set_option maxRecDepth 100000 in
theorem i_w_cl4 : Cond.selects "[I" i_cln ⟨"java/lang/Object", "clone", "()Ljava/lang/Object;"⟩ ∈ i_tb := i_tb_in (w := 725) (by decide +kernel)
set_option maxRecDepth 100000 in
theorem i_w_ai : Cond.arrayClass .int ∈ i_tb := i_tb_in (w := 146) (by decide +kernel)
theorem i_dfl_mv (sa : Nat → Nat) (ad : iA) (a : Nat) : (i_dfl a).map (i_mv sa ad) = i_dfl a := by
  unfold i_dfl
  split <;> rfl
theorem i_ad_new {sa : Nat → Nat} {ad : iA} {q : Nat} {cid : ClassId} {n : Nat} (hn : ad.length = n) (h : n < i_SB) : i_ad sa (ad ++ [(q, cid)]) n = q := by
  subst hn
  unfold i_ad
  rw [if_pos h, List.getD_eq_getElem?_getD, List.getElem?_append_right (Nat.le_refl _), Nat.sub_self]
  rfl
theorem i_w_app {sa : Nat → Nat} {ad ex : iA} {h hx : iH} (e : ad.length = h.length) (hk : ∀ c ∈ h, i_okc h.length c) : i_w sa (ad ++ ex) (h ++ hx) = i_w sa ad h ++ List.zipWith (fun a c => (a.1, i_mc sa (ad ++ ex) a.2 c)) ex hx := by
  unfold i_w
  rw [List.zipWith_append e]
  congr 1
  apply List.ext_getElem?
  intro j
  rw [List.getElem?_zipWith, List.getElem?_zipWith]
  cases ha : ad[j]? with
  | none => rfl
  | some a =>
    cases hb : h[j]? with
    | none => rfl
    | some b => exact congrArg (fun z => some (a.1, z)) (i_mc_ext (by rw [e]; exact hk b (List.mem_of_getElem? hb)))
section IN
variable {p : Program} {l : Launch} {e : Env} {s : State} {m : MethodId} {args : Array Value} {below : List Frame} {meth : Method} {c : Code} {H : Heap} {locs : List Loc} {cells slots : Nat} {Q : State → Prop}
variable {D : va_G} {sa sv : Nat → Nat} {A : Nat → Prop} {ad : iA} {h h1 : iH} {loc st loc' st' : List Value} {pc pc' dc ds : Nat} {ls : Array Slot} {R : Room}
theorem i_push {q : Nat} {cid : ClassId} {cl : iC} {H1 : Heap} (hw : i_Wd sa D A ad h s H) (hc : i_okc h.length cl) (hl : h.length < i_SB) (g1 : va_P D vwCl (i_w sa ad h ++ [(q, i_mc sa ad cid cl)]) H1) (g2 : va_D A (i_w sa ad h ++ [(q, i_mc sa ad cid cl)])) (ht : ∀ ty x, cl = .inl (ty, x) → ArrOfT s cid ty ∧ va_RA s cid ty) : i_Wd sa D A (ad ++ [(q, cid)]) (h ++ [cl]) s H1 := by
  rw [i_w_push hw.1 hw.2.1.2 hc] at g1 g2
  exact ⟨by rw [List.length_append, List.length_append, hw.1]; rfl, hw.2.1.push hl hc, g1, g2, hw.2.2.2.2.push hw.1 ht⟩
/-- the goal behind a step that makes cells -/
def i_KN (p : Program) (l : Launch) (e : Env) (R : Room) (s : State) (m : MethodId) (args : Array Value) (below : List Frame) (meth : Method) (c : Code) (cells slots : Nat) (Q : State → Prop) (D : va_G) (sa : Nat → Nat) (A : Nat → Prop) (ad : iA) (n : Nat) (pc : Nat) (loc st : List Value) (h : iH) : Prop :=
  ∀ (ex : iA) (H : Heap) (locs : List Loc) (ls : Array Slot), i_Wd sa D A (ad ++ ex) h s H → va_S A s.heap H locs → i_L sa (ad ++ ex) ls loc → i_okl h.length loc → i_okl h.length st → loc.length = n → W p l e R s m args below meth c H locs cells slots Q (F0 m pc ls (st.map (i_mv sa (ad ++ ex))))
theorem i_KN.one {q : Nat} {cid : ClassId} {cl : iC} {H1 : Heap} {locs1 : List Loc} {r : List Value} {k1 k2 : Nat} (kk : i_KN p l e R s m args below meth c k1 k2 Q D sa A ad loc.length pc' loc (.ref h.length :: r) (h ++ [cl])) (hw : i_Wd sa D A ad h s H) (hl : i_L sa ad ls loc) (hol : i_okl h.length loc) (hor : i_okl h.length r) (hSB : h.length < i_SB) (g1 : i_Wd sa D A (ad ++ [(q, cid)]) (h ++ [cl]) s H1) (g3 : va_S A s.heap H1 locs1) : W p l e R s m args below meth c H1 locs1 k1 k2 Q (F0 m pc' ls (.ref q :: r.map (i_mv sa ad))) := by
  have hle : h.length ≤ (h ++ [cl]).length := by rw [List.length_append]; exact Nat.le_add_right _ _
  have h9 := kk [(q, cid)] H1 locs1 ls g1 g3 (hl.ext (by rw [hw.1]; exact hol)) (hol.mono hle) (i_okl.cons (Or.inl (by rw [List.length_append]; exact Nat.lt_succ_self _)) (hor.mono hle)) rfl
  rw [List.map_cons, i_mvl_ext (by rw [hw.1]; exact hor)] at h9
  rw [show i_mv sa (ad ++ [(q, cid)]) (.ref h.length) = .ref q from congrArg Value.ref (i_ad_new hw.1 hSB)] at h9
  exact h9
theorem i_n_new {M : iM} {k : Nat} {len a b w : Nat} {z : Int} (hB : i_B p s m args meth c D sa sv A M R) (hq : i_ckb M (pc, .new k, len, a, b, w, z) = true) (hs : i_nw (.new k, len, a, b, w, z) pc loc st h = some ((pc', loc', st', h1), dc, ds)) (hw : i_Wd sa D A ad h s H) (hS : va_S A s.heap H locs) (hl : i_L sa ad ls loc) (hol : i_okl h.length loc) (hos : i_okl h.length st) (hlen : loc.length = M.2.2.2.1) (hcm : cells + dc ≤ R.cells) (hsm : slots + ds ≤ R.slots) (kk : i_KN p l e R s m args below meth c (cells + dc) (slots + ds) Q D sa A ad loc.length pc' loc' st' h1) : W p l e R s m args below meth c H locs cells slots Q (F0 m pc ls (st.map (i_mv sa ad))) := by
  obtain ⟨hx, hb, hml, hr, hown, hts, hlk, hnm, hE, hA, hRf, hRl⟩ := hB
  obtain ⟨hd, hn⟩ := i_dec hq
  obtain rfl := hn rfl
  have hk := i_ck2 hq rfl
  simp only [i_nw] at hs
  split at hs
  · next hSB =>
    cases hs
    cases hg : vwCl[a]? with
    | none => rw [hg] at hk; cases hk
    | some g =>
      obtain ⟨C, T, N⟩ := g
      rw [hg] at hk
      dsimp only at hk
      have hc := i_cls hg
      have hN := hc.2.2.2.2.2.2.1
      subst hN
      refine va_new (ci := a) (fs := i_dfl a) (C := C) (T := T) hx hb hts hc.1 (i_ty a) hc.2.1 hown (hts _ (i_tb_in hk)) (hts _ hc.2.2.2.1) (hts _ hc.2.2.2.2.1) hE.1 hw.2.2.1 hw.2.2.2.1 hS hA hg hc.2.2.2.2.2.1 hcm hsm hd (fun q H1 g1 g2 g3 => ?_)
      have e0 : (Sum.inr (a, i_dfl a) : va_E) = i_mc sa ad 0 (.inr (a, i_dfl a)) := by
        show _ = (Sum.inr (a, (i_dfl a).map (i_mv sa ad)) : va_E)
        rw [i_dfl_mv]
      rw [e0] at g1 g2
      exact kk.one hw hl hol hos hSB (i_push hw (fun v hv => (hc.2.2.2.2.2.2.2 v hv).mono (Nat.zero_le _)) hSB g1 g2 (fun ty x hz => by cases hz)) g3
  · cases hs
theorem i_n_newarray {M : iM} {t : ArrayType} {len a b w : Nat} {z : Int} (hB : i_B p s m args meth c D sa sv A M R) (hq : i_ckb M (pc, .newarray t, len, a, b, w, z) = true) (hs : i_nw (.newarray t, len, a, b, w, z) pc loc st h = some ((pc', loc', st', h1), dc, ds)) (hw : i_Wd sa D A ad h s H) (hS : va_S A s.heap H locs) (hl : i_L sa ad ls loc) (hol : i_okl h.length loc) (hos : i_okl h.length st) (hlen : loc.length = M.2.2.2.1) (hcm : cells + dc ≤ R.cells) (hsm : slots + ds ≤ R.slots) (kk : i_KN p l e R s m args below meth c (cells + dc) (slots + ds) Q D sa A ad loc.length pc' loc' st' h1) : W p l e R s m args below meth c H locs cells slots Q (F0 m pc ls (st.map (i_mv sa ad))) := by
  obtain ⟨hx, hb, hml, hr, hown, hts, hlk, hnm, hE, hA, hRf, hRl⟩ := hB
  obtain ⟨hd, hn⟩ := i_dec hq
  obtain rfl := hn rfl
  have hk := i_ck2 hq rfl
  simp only [i_nw] at hs
  split at hs
  · next n r =>
    split at hs
    · next hc =>
      split at hs
      · cases hs
        dsimp only at hk
        have hby : n.toNatClampNeg * 4 ≤ 536870912 := by omega
        refine va_newa (a0 := (n.toNatClampNeg, .inl (fun _ => 0))) (N' := n.toNatClampNeg) hx hb (hts _ (i_tb_in hk)) rfl hE.1 hw.2.2.1 hw.2.2.2.1 hS hA (fun _ => rfl) hc.2.1 rfl hby hcm hsm hd (fun q cA H1 gK g1 g2 g3 => ?_)
        exact kk.one hw hl hol hos.tail hc.1 (i_push (cl := .inl (.int, n.toNatClampNeg, .inl (fun _ => 0))) hw trivial hc.1 g1 g2 (fun ty x hz => by cases hz; exact gK.2 0 _ rfl)) g3
      · cases hs
        dsimp only at hk
        have hby : n.toNatClampNeg * 1 ≤ 536870912 := by omega
        refine va_newa (a0 := (n.toNatClampNeg, .inl (fun _ => 0))) (N' := n.toNatClampNeg) hx hb (hts _ (i_tb_in hk)) rfl hE.1 hw.2.2.1 hw.2.2.2.1 hS hA (fun _ => rfl) hc.2.1 rfl hby hcm hsm hd (fun q cA H1 gK g1 g2 g3 => ?_)
        exact kk.one hw hl hol hos.tail hc.1 (i_push (cl := .inl (.byte, n.toNatClampNeg, .inl (fun _ => 0))) hw trivial hc.1 g1 g2 (fun ty x hz => by cases hz; exact gK.2 0 _ rfl)) g3
      · cases hs
        dsimp only at hk
        have hby : n.toNatClampNeg * 1 ≤ 536870912 := by omega
        refine va_newa (a0 := (n.toNatClampNeg, .inl (fun _ => 0))) (N' := n.toNatClampNeg) hx hb (hts _ (i_tb_in hk)) rfl hE.1 hw.2.2.1 hw.2.2.2.1 hS hA (fun _ => rfl) hc.2.1 rfl hby hcm hsm hd (fun q cA H1 gK g1 g2 g3 => ?_)
        exact kk.one hw hl hol hos.tail hc.1 (i_push (cl := .inl (.boolean, n.toNatClampNeg, .inl (fun _ => 0))) hw trivial hc.1 g1 g2 (fun ty x hz => by cases hz; exact gK.2 0 _ rfl)) g3
      · cases hs
        dsimp only at hk
        have hby : n.toNatClampNeg * 8 ≤ 536870912 := by omega
        refine va_newa (a0 := (n.toNatClampNeg, .inr (.inl (fun _ => 0)))) (N' := n.toNatClampNeg) hx hb (hts _ (i_tb_in hk)) rfl hE.1 hw.2.2.1 hw.2.2.2.1 hS hA (fun _ => rfl) hc.2.1 rfl hby hcm hsm hd (fun q cA H1 gK g1 g2 g3 => ?_)
        exact kk.one hw hl hol hos.tail hc.1 (i_push (cl := .inl (.long, n.toNatClampNeg, .inr (.inl (fun _ => 0)))) hw trivial hc.1 g1 g2 (fun ty x hz => by cases hz; exact gK.2 0 _ rfl)) g3
      · cases hs
    · cases hs
  · cases hs
theorem i_n_anewarray {M : iM} {k : Nat} {len a b w : Nat} {z : Int} (hB : i_B p s m args meth c D sa sv A M R) (hq : i_ckb M (pc, .anewarray k, len, a, b, w, z) = true) (hs : i_nw (.anewarray k, len, a, b, w, z) pc loc st h = some ((pc', loc', st', h1), dc, ds)) (hw : i_Wd sa D A ad h s H) (hS : va_S A s.heap H locs) (hl : i_L sa ad ls loc) (hol : i_okl h.length loc) (hos : i_okl h.length st) (hlen : loc.length = M.2.2.2.1) (hcm : cells + dc ≤ R.cells) (hsm : slots + ds ≤ R.slots) (kk : i_KN p l e R s m args below meth c (cells + dc) (slots + ds) Q D sa A ad loc.length pc' loc' st' h1) : W p l e R s m args below meth c H locs cells slots Q (F0 m pc ls (st.map (i_mv sa ad))) := by
  obtain ⟨hx, hb, hml, hr, hown, hts, hlk, hnm, hE, hA, hRf, hRl⟩ := hB
  obtain ⟨hd, hn⟩ := i_dec hq
  obtain rfl := hn rfl
  have hk := i_ck2 hq rfl
  simp only [i_nw] at hs
  split at hs
  · next n r =>
    split at hs
    · next hc =>
      split at hs
      · cases hs
        refine va_newq (C := RX4) hx hb hown (hts _ (i_tb_in hk)) hE.2.1.2.1 hE.1 hw.2.2.1 hw.2.2.2.1 hS hA hc.2.1 rfl (by omega) hcm hsm hd (fun q cA H1 gK g1 g2 g3 => ?_)
        exact kk.one hw hl hol hos.tail hc.1 (i_push (cl := .inl (.object RX4, _, .inr (.inr (.inr (.inr (fun _ => none)))))) hw (fun k2 i2 h2 => by cases h2) hc.1 g1 g2 (fun ty x hz => by cases hz; exact gK.2 0 _ rfl)) g3
      · cases hs
        refine va_newq (C := RX7) hx hb hown (hts _ (i_tb_in hk)) hE.2.1.2.2.1 hE.1 hw.2.2.1 hw.2.2.2.1 hS hA hc.2.1 rfl (by omega) hcm hsm hd (fun q cA H1 gK g1 g2 g3 => ?_)
        exact kk.one hw hl hol hos.tail hc.1 (i_push (cl := .inl (.object RX7, _, .inr (.inr (.inr (.inr (fun _ => none)))))) hw (fun k2 i2 h2 => by cases h2) hc.1 g1 g2 (fun ty x hz => by cases hz; exact gK.2 0 _ rfl)) g3
      · cases hs
        refine va_newq (C := RX10) hx hb hown (hts _ (i_tb_in hk)) hE.2.1.2.2.2.1 hE.1 hw.2.2.1 hw.2.2.2.1 hS hA hc.2.1 rfl (by omega) hcm hsm hd (fun q cA H1 gK g1 g2 g3 => ?_)
        exact kk.one hw hl hol hos.tail hc.1 (i_push (cl := .inl (.object RX10, _, .inr (.inr (.inr (.inr (fun _ => none)))))) hw (fun k2 i2 h2 => by cases h2) hc.1 g1 g2 (fun ty x hz => by cases hz; exact gK.2 0 _ rfl)) g3
      · cases hs
    · cases hs
  · cases hs
theorem i_n_checkcast {M : iM} {k : Nat} {len a b w : Nat} {z : Int} (hB : i_B p s m args meth c D sa sv A M R) (hq : i_ckb M (pc, .checkcast k, len, a, b, w, z) = true) (hs : i_nw (.checkcast k, len, a, b, w, z) pc loc st h = some ((pc', loc', st', h1), dc, ds)) (hw : i_Wd sa D A ad h s H) (hS : va_S A s.heap H locs) (hl : i_L sa ad ls loc) (hol : i_okl h.length loc) (hos : i_okl h.length st) (hlen : loc.length = M.2.2.2.1) (hcm : cells + dc ≤ R.cells) (hsm : slots + ds ≤ R.slots) (kk : i_KN p l e R s m args below meth c (cells + dc) (slots + ds) Q D sa A ad loc.length pc' loc' st' h1) : W p l e R s m args below meth c H locs cells slots Q (F0 m pc ls (st.map (i_mv sa ad))) := by
  obtain ⟨hx, hb, hml, hr, hown, hts, hlk, hnm, hE, hA, hRf, hRl⟩ := hB
  obtain ⟨hd, hn⟩ := i_dec hq
  obtain rfl := hn rfl
  have hk := i_ck2 hq rfl
  simp only [i_nw] at hs
  split at hs
  · next i r =>
    split at hs
    · next x hh =>
      cases hs
      have he := i_w_at (sa := sa) hw.1 hw.2.1.1 hh
      have hT := (hw.2.2.2.2 i .int x hh).2
      have h9 := kk [] H locs ls (by rw [List.append_nil]; exact hw) hS (by rw [List.append_nil]; exact hl) hol hos rfl
      rw [List.append_nil] at h9
      exact va_castA hx hb hown (hts _ (i_tb_in hk)) hw.2.2.1 i he (show s.vm.findClass "[I" = some (ad.getD i (0, 0)).2 from hT) hd h9
    · cases hs
  · cases hs
theorem i_n_clone {M : iM} {k : Nat} {len a b w : Nat} {z : Int} (hB : i_B p s m args meth c D sa sv A M R) (hq : i_ckb M (pc, .invokevirtual k, len, a, b, w, z) = true) (hs : i_nw (.invokevirtual k, len, a, b, w, z) pc loc st h = some ((pc', loc', st', h1), dc, ds)) (hw : i_Wd sa D A ad h s H) (hS : va_S A s.heap H locs) (hl : i_L sa ad ls loc) (hol : i_okl h.length loc) (hos : i_okl h.length st) (hlen : loc.length = M.2.2.2.1) (hcm : cells + dc ≤ R.cells) (hsm : slots + ds ≤ R.slots) (kk : i_KN p l e R s m args below meth c (cells + dc) (slots + ds) Q D sa A ad loc.length pc' loc' st' h1) : W p l e R s m args below meth c H locs cells slots Q (F0 m pc ls (st.map (i_mv sa ad))) := by
  obtain ⟨hx, hb, hml, hr, hown, hts, hlk, hnm, hE, hA, hRf, hRl⟩ := hB
  obtain ⟨hd, hn⟩ := i_dec hq
  obtain rfl := hn rfl
  simp only [i_nw] at hs
  split at hs
  · have hk := i_ck2 hq rfl
    dsimp only at hk
    split at hs
    · next i r =>
      split at hs
      · next n f hh =>
        split at hs
        · next hc =>
          cases hs
          have he := i_w_at (sa := sa) hw.1 hw.2.1.1 hh
          have hT := (hw.2.2.2.2 i .int _ hh).2
          refine va_clone (ad := "[I") (x := (ds, .inl f)) hx hb (by rw [hml, hl.1, hlen]) hown (hts _ (i_tb_in hk)) (hts _ i_w_cl1) (hts _ i_w_cl2) (hts _ i_w_cl3) (hts _ i_w_cl4) hE.2.1.2.2.2.2.2 (hw.K hE.1 hh) hw.2.2.1 hw.2.2.2.1 hS hA i 0 he rfl (show s.vm.findClass "[I" = some (ad.getD i (0, 0)).2 from hT) (fun j v hv => ?_) (by omega) (by rw [i_catsum]; omega) hcm hsm hd (fun q H1 gK g1 g2 g3 => ?_)
          · have hj : j < ds := by
              have := (Array.getElem?_eq_some_iff.mp hv).1
              rw [vp_cell_i, arrV_size] at this
              exact this
            rw [vp_cell_i, arrV_read _ _ hj] at hv
            cases hv
            rfl
          · exact kk.one hw hl hol hos.tail hc.1 (i_push (cl := .inl (.int, ds, .inl f)) hw trivial hc.1 g1 g2 (fun ty x hz => by cases hz; exact gK.2 0 _ rfl)) g3
        · cases hs
      · cases hs
    · cases hs
  · cases hs
theorem i_n_multi {M : iM} {k n0 : Nat} {len a b w : Nat} {z : Int} (hB : i_B p s m args meth c D sa sv A M R) (hq : i_ckb M (pc, .multianewarray k n0, len, a, b, w, z) = true) (hs : i_nw (.multianewarray k n0, len, a, b, w, z) pc loc st h = some ((pc', loc', st', h1), dc, ds)) (hw : i_Wd sa D A ad h s H) (hS : va_S A s.heap H locs) (hl : i_L sa ad ls loc) (hol : i_okl h.length loc) (hos : i_okl h.length st) (hlen : loc.length = M.2.2.2.1) (hcm : cells + dc ≤ R.cells) (hsm : slots + ds ≤ R.slots) (kk : i_KN p l e R s m args below meth c (cells + dc) (slots + ds) Q D sa A ad loc.length pc' loc' st' h1) : W p l e R s m args below meth c H locs cells slots Q (F0 m pc ls (st.map (i_mv sa ad))) := by
  obtain ⟨hx, hb, hml, hr, hown, hts, hlk, hnm, hE, hA, hRf, hRl⟩ := hB
  obtain ⟨hd, hn⟩ := i_dec hq
  obtain rfl := hn rfl
  have hk := i_ck2 hq rfl
  simp only [i_nw] at hs
  split at hs
  · next kk0 n r =>
    split at hs
    · next hc =>
      cases hs
      simp only [Bool.and_eq_true, decide_eq_true_eq] at hk
      obtain ⟨hk1, rfl⟩ := hk
      obtain ⟨cy, kc, comp, hy1, hy2, hy3⟩ := Cond.arrayClass_spec (hts _ i_w_ai)
      have hcl : (Cond.classLink M.1 k ("[" ++ (FieldType.array .int).toString)).before args s = true := hts _ (i_tb_in hk1)
      have hP0 : va_P D vwCl (i_w sa ad h ++ va_pl [] (fun _ => (.inr (0, []) : va_E))) H := by
        rw [show va_pl [] (fun _ => (.inr (0, []) : va_E)) = [] from rfl, List.append_nil]; exact hw.2.2.1
      have hD0 : va_D A (i_w sa ad h ++ va_pl [] (fun _ => (.inr (0, []) : va_E))) := by
        rw [show va_pl [] (fun _ => (.inr (0, []) : va_E)) = [] from rfl, List.append_nil]; exact hw.2.2.2.1
      refine va_mna (ty := .int) (cy := cy) (z := (kk0.toNatClampNeg, .inl (fun _ => 0))) (N' := n.toNatClampNeg) (K' := kk0.toNatClampNeg) hx hb hown hcl hE.2.1.2.2.2.2.1 (hts _ i_w_ai) hy1 hE.1 hP0 hD0 hS hA hc.2.1 hc.2.2.1 rfl rfl (by omega) (by show _ * 4 ≤ _; exact Nat.le_trans (Nat.mul_le_mul_right 4 hc.2.2.2.2) (by decide)) (by omega) rfl rfl hcm hsm (fun c0 => arrV_new _ _ _) hd (fun q r9 cA H1 hinj hnl gK g1 g2 g3 => ?_)
      have hlN : ad.length = h.length := hw.1
      have hrow : ∀ i, i < n.toNatClampNeg → i_ad sa (ad ++ ((q, cA) :: (List.range n.toNatClampNeg).map (fun i => (r9 i, cy)))) (h.length + 1 + i) = r9 i := by
        intro i hi
        unfold i_ad
        rw [if_pos (by omega), List.getD_eq_getElem?_getD, List.getElem?_append_right (by omega), hlN, show h.length + 1 + i - h.length = i + 1 by omega, List.getElem?_cons_succ, List.getElem?_map, List.getElem?_range hi]
        rfl
      have hzw : i_w sa (ad ++ ((q, cA) :: (List.range n.toNatClampNeg).map (fun i => (r9 i, cy)))) (h ++ ((.inl (.array .int, n.toNatClampNeg, .inr (.inr (.inr (.inr (fun i => if i < n.toNatClampNeg then some (h.length + 1 + i) else none)))))) :: List.replicate n.toNatClampNeg (.inl (.int, kk0.toNatClampNeg, .inl (fun _ => 0))))) = (i_w sa ad h ++ [(q, .inl (cA, n.toNatClampNeg, .inr (.inr (.inr (.inr (fun i => if i < n.toNatClampNeg then some (r9 i) else none))))))]) ++ va_pl ([] ++ (List.range n.toNatClampNeg).map r9) (vr_up (fun _ => (.inr (0, []) : va_E)) ((List.range n.toNatClampNeg).map r9) (.inl (cy, kk0.toNatClampNeg, .inl (fun _ => 0)))) := by
        rw [i_w_app hlN hw.2.1.2, List.append_assoc]
        congr 1
        rw [List.zipWith_cons_cons, List.singleton_append, List.nil_append]
        congr 1
        · have ef : (fun k2 => ((fun i => if i < n.toNatClampNeg then some (h.length + 1 + i) else none) k2).map (i_ad sa (ad ++ ((q, cA) :: (List.range n.toNatClampNeg).map (fun i => (r9 i, cy)))))) = (fun i => if i < n.toNatClampNeg then some (r9 i) else none) := by
            funext i
            by_cases hi : i < n.toNatClampNeg
            · simp only [if_pos hi, Option.map_some, hrow i hi]
            · simp only [if_neg hi, Option.map_none]
          exact congrArg (fun g => ((q, .inl (cA, n.toNatClampNeg, .inr (.inr (.inr (.inr g))))) : Nat × va_E)) ef
        · apply List.ext_getElem?
          intro j
          unfold va_pl
          rw [List.getElem?_zipWith, List.getElem?_map, List.getElem?_map, List.getElem?_map, List.getElem?_replicate]
          by_cases hj : j < n.toNatClampNeg
          · rw [List.getElem?_range hj, if_pos hj]
            show some (r9 j, _) = some (r9 j, _)
            rw [vr_up_in (List.mem_map.mpr ⟨j, List.mem_range.mpr hj, rfl⟩)]
            rfl
          · rw [List.getElem?_eq_none (by rw [List.length_range]; omega)]
            rfl
      rw [← hzw] at g1 g2
      have hlen1 : (ad ++ ((q, cA) :: (List.range n.toNatClampNeg).map (fun i => (r9 i, cy)))).length = (h ++ ((.inl (.array .int, n.toNatClampNeg, .inr (.inr (.inr (.inr (fun i => if i < n.toNatClampNeg then some (h.length + 1 + i) else none)))))) :: List.replicate n.toNatClampNeg (.inl (.int, kk0.toNatClampNeg, .inl (fun _ => 0))) : iH)).length := by
        simp only [List.length_append, List.length_cons, List.length_map, List.length_range, List.length_replicate, hlN]
      have hlenh : (h ++ ((.inl (.array .int, n.toNatClampNeg, .inr (.inr (.inr (.inr (fun i => if i < n.toNatClampNeg then some (h.length + 1 + i) else none)))))) :: List.replicate n.toNatClampNeg (.inl (.int, kk0.toNatClampNeg, .inl (fun _ => 0))) : iH)).length = h.length + 1 + n.toNatClampNeg := by
        simp only [List.length_append, List.length_cons, List.length_replicate]; omega
      have hW1 : i_Wd sa D A (ad ++ ((q, cA) :: (List.range n.toNatClampNeg).map (fun i => (r9 i, cy)))) (h ++ ((.inl (.array .int, n.toNatClampNeg, .inr (.inr (.inr (.inr (fun i => if i < n.toNatClampNeg then some (h.length + 1 + i) else none)))))) :: List.replicate n.toNatClampNeg (.inl (.int, kk0.toNatClampNeg, .inl (fun _ => 0))))) s H1 := by
        refine ⟨hlen1, ⟨by rw [hlenh]; omega, fun x hx9 => ?_⟩, g1, g2, ?_⟩
        · rw [hlenh]
          rcases List.mem_append.mp hx9 with hx9 | hx9
          · exact (hw.2.1.2 x hx9).mono (by omega)
          · rcases List.mem_cons.mp hx9 with rfl | hx9
            · intro k2 i2 h2
              dsimp only at h2
              split at h2
              · cases h2
                exact Or.inl (by omega)
              · cases h2
            · rw [(List.mem_replicate.mp hx9).2]
              trivial
        · intro i ty x hx9
          by_cases hi : i < h.length
          · rw [List.getElem?_append_left hi] at hx9
            have := hw.2.2.2.2 i ty x hx9
            rw [List.getD_eq_getElem?_getD] at this ⊢
            rw [List.getElem?_append_left (by omega)]
            exact this
          · rw [List.getElem?_append_right (by omega)] at hx9
            rw [List.getD_eq_getElem?_getD, List.getElem?_append_right (by omega), hlN]
            cases hj : i - h.length with
            | zero =>
              rw [hj] at hx9
              cases hx9
              exact gK.2 0 _ rfl
            | succ j =>
              rw [hj, List.getElem?_cons_succ, List.getElem?_replicate] at hx9
              split at hx9
              · next hjn =>
                cases hx9
                rw [List.getElem?_cons_succ, List.getElem?_map, List.getElem?_range hjn]
                exact ⟨fun N z => ⟨(fun q2 hq2 => by cases hq2), kc, hy2, comp, hy3⟩, hy1⟩
              · cases hx9
      have hle : h.length ≤ (h ++ ((.inl (.array .int, n.toNatClampNeg, .inr (.inr (.inr (.inr (fun i => if i < n.toNatClampNeg then some (h.length + 1 + i) else none)))))) :: List.replicate n.toNatClampNeg (.inl (.int, kk0.toNatClampNeg, .inl (fun _ => 0))) : iH)).length := by rw [hlenh]; omega
      have kk9 := kk
      rw [List.append_assoc, List.singleton_append] at kk9
      have h9 := kk9 _ H1 locs ls hW1 g3 (hl.ext (by rw [hw.1]; exact hol)) (hol.mono hle) (i_okl.cons (Or.inl (by rw [hlenh]; omega)) (hos.tail.tail.mono hle)) rfl
      rw [List.map_cons, i_mvl_ext (by rw [hw.1]; exact hos.tail.tail)] at h9
      have hq9 : i_ad sa (ad ++ ((q, cA) :: (List.range n.toNatClampNeg).map (fun i => (r9 i, cy)))) h.length = q := by
        unfold i_ad
        rw [if_pos (by omega), List.getD_eq_getElem?_getD, List.getElem?_append_right (by omega), hlN, Nat.sub_self]
        rfl
      rw [show i_mv sa (ad ++ ((q, cA) :: (List.range n.toNatClampNeg).map (fun i => (r9 i, cy)))) (.ref h.length) = .ref q from congrArg Value.ref hq9] at h9
      rw [Nat.add_assoc cells, Nat.add_assoc slots]
      exact h9
    · cases hs
  · cases hs
end IN
