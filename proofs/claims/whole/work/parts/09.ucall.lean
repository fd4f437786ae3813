/-! ===== calls, returns, whole bodies ===== -/
def i_mokP (a : Nat) (M : iM) : Prop := M.2.1.cls = M.1 ∧ Cond.code M.2.1 M.2.2.1 M.2.2.2.1 M.2.2.2.2.1 ∈ i_tb ∧ Cond.initialized M.2.1.cls ∈ i_tb ∧ (i_stc a = true → Cond.static M.2.1 ∈ i_tb) ∧ (i_stc a = false → Cond.instanceMethod M.2.1 ∈ i_tb ∧ (M.2.1.name ≠ "<init>" → Cond.selects M.2.1.cls M.2.1 M.2.1 ∈ i_tb)) ∧ plainName M.2.1.cls = true ∧ M.2.1.cls ≠ "java/lang/invoke/MethodHandle" ∧ M.2.1.cls ≠ "java/lang/invoke/VarHandle" ∧ M.2.2.2.1 + 19 ≤ 60
theorem i_ck_v {M M2 : iM} {pc k len a b w : Nat} {z : Int} (hq : i_ckb M (pc, .invokevirtual k, len, a, b, w, z) = true) (hM : i_mT[a]? = some M2) : i_wd w (.methodLink M.1 k M2.2.1) = true ∧ i_yn M2.2.1 b = true ∧ M2.2.1.name ≠ "<init>" ∧ i_stc a = false := by
  have h := i_ck2 hq rfl
  dsimp only at h
  split at h
  · rw [i_mT_none.2.2.2.2.1] at hM; cases hM
  · rw [i_mT_none.2.2.2.2.2] at hM; cases hM
  · have h6 : i_mT[1006]? = none := rfl
    rw [h6] at hM; cases hM
  · rw [hM] at h
    simpa only [Bool.and_eq_true, decide_eq_true_eq, Bool.not_eq_true', and_assoc] using h
theorem i_ck_s {M M2 : iM} {pc k len a b w : Nat} {z : Int} (hq : i_ckb M (pc, .invokestatic k, len, a, b, w, z) = true) (hM : i_mT[a]? = some M2) : i_wd w (.methodLink M.1 k M2.2.1) = true ∧ i_yn M2.2.1 b = true ∧ i_stc a = true := by
  have h := i_ck2 hq rfl
  dsimp only at h
  split at h
  · rw [i_mT_none.2.1] at hM; cases hM
  · rw [i_mT_none.2.2.1] at hM; cases hM
  · rw [i_mT_none.2.2.2.1] at hM; cases hM
  · rw [hM] at h
    simpa only [Bool.and_eq_true, decide_eq_true_eq, and_assoc] using h
theorem i_ck_i {M M2 : iM} {pc k len a b w : Nat} {z : Int} (hq : i_ckb M (pc, .invokespecial k, len, a, b, w, z) = true) (hM : i_mT[a]? = some M2) : ((z = 1 ∧ w < 6 ∧ i_nst w = .methodLinkNest M.1 k M2.2.1 "SpoonCourt") ∨ (i_wd w (.methodLink M.1 k M2.2.1) = true)) ∧ i_yn M2.2.1 b = true ∧ M2.2.1.name = "<init>" ∧ M2.2.2.2.2.1 = none ∧ i_stc a = false := by
  have h := i_ck2 hq rfl
  dsimp only at h
  split at h
  · rw [i_mT_none.1] at hM; cases hM
  · rw [hM] at h
    dsimp only at h
    rw [Bool.and_eq_true, Bool.and_eq_true, Bool.and_eq_true, Bool.and_eq_true] at h
    obtain ⟨⟨⟨⟨h1, h2⟩, h3⟩, h4⟩, h5⟩ := h
    refine ⟨?_, h2, of_decide_eq_true h3, of_decide_eq_true h4, by simpa using h5⟩
    by_cases hz : z = 1
    · rw [if_pos hz, Bool.and_eq_true] at h1
      exact Or.inl ⟨hz, of_decide_eq_true h1.1, of_decide_eq_true h1.2⟩
    · rw [if_neg hz] at h1
      exact Or.inr h1
theorem i_k28 {i : Nat} (h1 : i_SB ≤ i) (h2 : i < i_SB + 28) : i - i_SB < 28 := by omega
section IU
variable {p : Program} {l : Launch} {e : Env} {s : State} {m : MethodId} {args : Array Value} {below : List Frame} {meth : Method} {c : Code} {H : Heap} {locs : List Loc} {cells slots : Nat} {Q : State → Prop}
variable {D : va_G} {sa sv : Nat → Nat} {A : Nat → Prop} {ad : iA} {h h1 : iH} {loc st loc' st' : List Value} {pc pc' dc ds : Nat} {ls : Array Slot} {R : Room}
set_option maxRecDepth 100000 in
theorem i_s_invokevirtual {M : iM} {k : Nat} {len a b w : Nat} {z : Int} (hB : i_B p s m args meth c D sa sv A M R) (hq : i_ckb M (pc, .invokevirtual k, len, a, b, w, z) = true) (hs : i_s (.invokevirtual k, len, a, b, w, z) pc loc st h = some (pc', loc', st', h1)) (hw : i_Wd sa D A ad h s H) (hS : va_S A s.heap H locs) (hl : i_L sa ad ls loc) (hol : i_okl h.length loc) (hos : i_okl h.length st) (hlen : loc.length = M.2.2.2.1) (hcm : cells ≤ R.cells) (hsm : slots ≤ R.slots) (kk : i_K p l e R s m args below meth c cells slots Q D sa A ad loc.length pc' loc' st' h1) : W p l e R s m args below meth c H locs cells slots Q (F0 m pc ls (st.map (i_mv sa ad))) := by
  obtain ⟨hx, hb, hml, hr, hown, hts, hlk, hnm, hE, hA, hRf, hRl⟩ := hB
  obtain ⟨hd, hn⟩ := i_dec hq
  obtain rfl := hn rfl
  simp only [i_s] at hs
  have hEs : ∀ U : State, U.heap = H → s.WarmedH U.vm → i_Es sa sv i_no U U.heap := fun U hU hW => by rw [hU]; exact hE.2.2.warm hW hS.2.1 (fun _ q => q.elim)
  have hadr : ∀ i, i_SB ≤ i → i_ad sa ad i = sa (i - i_SB) := fun i hi => by unfold i_ad; rw [if_neg (by omega)]
  have hrecv : ∀ k, k < 28 → ∃ cell : Cell, H[sa k]? = some cell ∧ cell.vm.isStatics = false ∧ s.vm.findClass "java/lang/String" = some cell.cls := fun k hk => by
    obtain ⟨cell, g1, g2, g3, -⟩ := ((hE.2.2.1 k hk).2.1).kept hS.2.1
    exact ⟨cell, g1, g2, g3⟩
  rcases i_prim_cases hs with rfl | rfl | rfl | rfl | rfl | rfl
  · exact absurd (i_ck2 (B := false) hq rfl) Bool.false_ne_true
  · exact absurd (i_ck2 (B := false) hq rfl) Bool.false_ne_true
  · exact absurd (i_ck2 (B := false) hq rfl) Bool.false_ne_true
  · exact absurd (i_ck2 (B := false) hq rfl) Bool.false_ne_true
  · have hk := i_ck2 hq rfl
    dsimp only at hk
    simp only [i_prim] at hs
    split at hs
    · next i r =>
      split at hs
      · next hc =>
        cases hs
        have hk28 := i_k28 hc.1 hc.2.1
        rw [List.map_cons, show i_mv sa ad (.ref i) = .ref (sa (i - i_SB)) from congrArg Value.ref (hadr i hc.1)]
        refine vp_callSi (rest := r.map (i_mv sa ad)) (W.runV (As := []) (C := "java/lang/String") ⟨hx, hb, hml, hown, hts⟩ (i_c_J0_length_8abf5 l sa sv (k := i - i_SB) hk28) (cwV 0 hts (i_gV (i_tb_in hk) f_J0_length_8abf5_i f_J0_length_8abf5_z f_ini0 f_J0_length_8abf5_c) rfl rfl rfl (by decide +kernel) ⟨by show 1 + 1 ≤ _; omega, by show 8 + (1 + 11) + 20 ≤ _; omega⟩) ⟨i_Es_blind, hrecv _ hk28, fun U hU hW => ⟨rfl, hEs U hU hW⟩⟩ rfl rfl (hl.1.trans hlen) rfl (lv_room (by rw [i_catsum]; exact hc.2.2)) hd ⟨hcm, hsm⟩) (fun r2 hr2 => ?_)
        subst hr2
        exact kk _ _ _ hw hS hl hol (i_okl.cons trivial hos.tail) rfl
      · cases hs
    · cases hs
  · have hk := i_ck2 hq rfl
    dsimp only at hk
    simp only [i_prim] at hs
    split at hs
    · next j i r =>
      split at hs
      · next hc =>
        cases hs
        have hk28 := i_k28 hc.1 hc.2.1
        rw [List.map_cons, List.map_cons, show i_mv sa ad (.ref i) = .ref (sa (i - i_SB)) from congrArg Value.ref (hadr i hc.1)]
        refine vp_callSi (rest := r.map (i_mv sa ad)) (W.runV (As := [.int j]) (C := "java/lang/String") ⟨hx, hb, hml, hown, hts⟩ (i_c_J0_charAt_5068e l sa sv (k := i - i_SB) (i := j) hk28 hc.2.2.2.1 hc.2.2.2.2) (cwV 1 hts (i_gV (i_tb_in hk) f_J0_charAt_5068e_i f_J0_charAt_5068e_z f_ini0 f_J0_charAt_5068e_c) rfl rfl rfl (by decide +kernel) ⟨by show 3 + 1 ≤ _; omega, by show 8 + (2 + 11) + 64 ≤ _; omega⟩) ⟨i_Es_blind, hrecv _ hk28, fun U hU hW => ⟨rfl, hEs U hU hW⟩⟩ rfl rfl (hl.1.trans hlen) rfl (lv_room (by rw [i_catsum]; exact hc.2.2.1)) hd ⟨hcm, hsm⟩) (fun r2 hr2 => ?_)
        exact (congrArg (fun v9 => W p l e R s m args below meth c H locs cells slots Q (F0 m (pc + 3) ls (.int v9 :: r.map (i_mv sa ad)))) (show r2 = i_schr (i - i_SB) j.toNatClampNeg from hr2)).mpr (kk _ _ _ hw hS hl hol (i_okl.cons trivial hos.tail.tail) rfl)
      · cases hs
    · cases hs
/-- any step of i_s -/
theorem i_sim {M : iM} {q : iI} (hB : i_B p s m args meth c D sa sv A M R) (hq : i_ckb M (pc, q) = true) (hs : i_s q pc loc st h = some (pc', loc', st', h1)) (hw : i_Wd sa D A ad h s H) (hS : va_S A s.heap H locs) (hl : i_L sa ad ls loc) (hol : i_okl h.length loc) (hos : i_okl h.length st) (hlen : loc.length = M.2.2.2.1) (hcm : cells ≤ R.cells) (hsm : slots ≤ R.slots) (kk : i_K p l e R s m args below meth c cells slots Q D sa A ad loc.length pc' loc' st' h1) : W p l e R s m args below meth c H locs cells slots Q (F0 m pc ls (st.map (i_mv sa ad))) := by
  obtain ⟨ins, len, a, b, w, z⟩ := q
  cases ins with
  | aconst_null => exact i_s_aconst_null (_u := ()) hB hq hs hw hS hl hol hos hlen hcm hsm kk
  | iconst k => exact i_s_iconst hB hq hs hw hS hl hol hos hlen hcm hsm kk
  | bipush k => exact i_s_bipush hB hq hs hw hS hl hol hos hlen hcm hsm kk
  | sipush k => exact i_s_sipush hB hq hs hw hS hl hol hos hlen hcm hsm kk
  | lconst k => exact i_s_lconst hB hq hs hw hS hl hol hos hlen hcm hsm kk
  | ldc k => exact i_s_ldc hB hq hs hw hS hl hol hos hlen hcm hsm kk
  | ldc_w k => exact i_s_ldc_w hB hq hs hw hS hl hol hos hlen hcm hsm kk
  | ldc2_w k => exact i_s_ldc2_w hB hq hs hw hS hl hol hos hlen hcm hsm kk
  | iload k => exact i_s_iload hB hq hs hw hS hl hol hos hlen hcm hsm kk
  | iload_n k => exact i_s_iload_n hB hq hs hw hS hl hol hos hlen hcm hsm kk
  | lload k => exact i_s_lload hB hq hs hw hS hl hol hos hlen hcm hsm kk
  | lload_n k => exact i_s_lload_n hB hq hs hw hS hl hol hos hlen hcm hsm kk
  | aload k => exact i_s_aload hB hq hs hw hS hl hol hos hlen hcm hsm kk
  | aload_n k => exact i_s_aload_n hB hq hs hw hS hl hol hos hlen hcm hsm kk
  | istore k => exact i_s_istore hB hq hs hw hS hl hol hos hlen hcm hsm kk
  | istore_n k => exact i_s_istore_n hB hq hs hw hS hl hol hos hlen hcm hsm kk
  | lstore k => exact i_s_lstore hB hq hs hw hS hl hol hos hlen hcm hsm kk
  | lstore_n k => exact i_s_lstore_n hB hq hs hw hS hl hol hos hlen hcm hsm kk
  | astore k => exact i_s_astore hB hq hs hw hS hl hol hos hlen hcm hsm kk
  | astore_n k => exact i_s_astore_n hB hq hs hw hS hl hol hos hlen hcm hsm kk
  | iinc k n => exact i_s_iinc hB hq hs hw hS hl hol hos hlen hcm hsm kk
  | iadd => exact i_s_iadd (_u := ()) hB hq hs hw hS hl hol hos hlen hcm hsm kk
  | isub => exact i_s_isub (_u := ()) hB hq hs hw hS hl hol hos hlen hcm hsm kk
  | imul => exact i_s_imul (_u := ()) hB hq hs hw hS hl hol hos hlen hcm hsm kk
  | iand => exact i_s_iand (_u := ()) hB hq hs hw hS hl hol hos hlen hcm hsm kk
  | ior => exact i_s_ior (_u := ()) hB hq hs hw hS hl hol hos hlen hcm hsm kk
  | ixor => exact i_s_ixor (_u := ()) hB hq hs hw hS hl hol hos hlen hcm hsm kk
  | ishl => exact i_s_ishl (_u := ()) hB hq hs hw hS hl hol hos hlen hcm hsm kk
  | ishr => exact i_s_ishr (_u := ()) hB hq hs hw hS hl hol hos hlen hcm hsm kk
  | iushr => exact i_s_iushr (_u := ()) hB hq hs hw hS hl hol hos hlen hcm hsm kk
  | idiv => exact i_s_idiv (_u := ()) hB hq hs hw hS hl hol hos hlen hcm hsm kk
  | irem => exact i_s_irem (_u := ()) hB hq hs hw hS hl hol hos hlen hcm hsm kk
  | ladd => exact i_s_ladd (_u := ()) hB hq hs hw hS hl hol hos hlen hcm hsm kk
  | lsub => exact i_s_lsub (_u := ()) hB hq hs hw hS hl hol hos hlen hcm hsm kk
  | lmul => exact i_s_lmul (_u := ()) hB hq hs hw hS hl hol hos hlen hcm hsm kk
  | land => exact i_s_land (_u := ()) hB hq hs hw hS hl hol hos hlen hcm hsm kk
  | lor => exact i_s_lor (_u := ()) hB hq hs hw hS hl hol hos hlen hcm hsm kk
  | ldiv => exact i_s_ldiv (_u := ()) hB hq hs hw hS hl hol hos hlen hcm hsm kk
  | lrem => exact i_s_lrem (_u := ()) hB hq hs hw hS hl hol hos hlen hcm hsm kk
  | lcmp => exact i_s_lcmp (_u := ()) hB hq hs hw hS hl hol hos hlen hcm hsm kk
  | i2l => exact i_s_i2l (_u := ()) hB hq hs hw hS hl hol hos hlen hcm hsm kk
  | l2i => exact i_s_l2i (_u := ()) hB hq hs hw hS hl hol hos hlen hcm hsm kk
  | i2b => exact i_s_i2b (_u := ()) hB hq hs hw hS hl hol hos hlen hcm hsm kk
  | dup => exact i_s_dup (_u := ()) hB hq hs hw hS hl hol hos hlen hcm hsm kk
  | dup2 => exact i_s_dup2 (_u := ()) hB hq hs hw hS hl hol hos hlen hcm hsm kk
  | pop => exact i_s_pop (_u := ()) hB hq hs hw hS hl hol hos hlen hcm hsm kk
  | goto o => exact i_s_goto hB hq hs hw hS hl hol hos hlen hcm hsm kk
  | ifnonnull o => exact i_s_ifnonnull hB hq hs hw hS hl hol hos hlen hcm hsm kk
  | tableswitch d lo hi offs => exact i_s_tableswitch hB hq hs hw hS hl hol hos hlen hcm hsm kk
  | lookupswitch d ps => exact i_s_lookupswitch hB hq hs hw hS hl hol hos hlen hcm hsm kk
  | getfield k => exact i_s_getfield hB hq hs hw hS hl hol hos hlen hcm hsm kk
  | putfield k => exact i_s_putfield hB hq hs hw hS hl hol hos hlen hcm hsm kk
  | iaload => exact i_s_iaload (_u := ()) hB hq hs hw hS hl hol hos hlen hcm hsm kk
  | baload => exact i_s_baload (_u := ()) hB hq hs hw hS hl hol hos hlen hcm hsm kk
  | iastore => exact i_s_iastore (_u := ()) hB hq hs hw hS hl hol hos hlen hcm hsm kk
  | bastore => exact i_s_bastore (_u := ()) hB hq hs hw hS hl hol hos hlen hcm hsm kk
  | laload => exact i_s_laload (_u := ()) hB hq hs hw hS hl hol hos hlen hcm hsm kk
  | lastore => exact i_s_lastore (_u := ()) hB hq hs hw hS hl hol hos hlen hcm hsm kk
  | aaload => exact i_s_aaload (_u := ()) hB hq hs hw hS hl hol hos hlen hcm hsm kk
  | aastore => exact i_s_aastore (_u := ()) hB hq hs hw hS hl hol hos hlen hcm hsm kk
  | arraylength => exact i_s_arraylength (_u := ()) hB hq hs hw hS hl hol hos hlen hcm hsm kk
  | invokestatic k => exact i_s_invokestatic hB hq hs hw hS hl hol hos hlen hcm hsm kk
  | invokespecial k => exact i_s_invokespecial hB hq hs hw hS hl hol hos hlen hcm hsm kk
  | invokevirtual k => exact i_s_invokevirtual hB hq hs hw hS hl hol hos hlen hcm hsm kk
  | ifCond cd o =>
    cases cd with
    | eq => exact i_s_if_eq hB hq hs hw hS hl hol hos hlen hcm hsm kk
    | ne => exact i_s_if_ne hB hq hs hw hS hl hol hos hlen hcm hsm kk
    | lt => exact i_s_if_lt hB hq hs hw hS hl hol hos hlen hcm hsm kk
    | ge => exact i_s_if_ge hB hq hs hw hS hl hol hos hlen hcm hsm kk
    | gt => exact i_s_if_gt hB hq hs hw hS hl hol hos hlen hcm hsm kk
    | le => exact i_s_if_le hB hq hs hw hS hl hol hos hlen hcm hsm kk
  | if_icmp cd o =>
    cases cd with
    | eq => exact i_s_icmp_eq hB hq hs hw hS hl hol hos hlen hcm hsm kk
    | ne => exact i_s_icmp_ne hB hq hs hw hS hl hol hos hlen hcm hsm kk
    | lt => exact i_s_icmp_lt hB hq hs hw hS hl hol hos hlen hcm hsm kk
    | ge => exact i_s_icmp_ge hB hq hs hw hS hl hol hos hlen hcm hsm kk
    | gt => exact i_s_icmp_gt hB hq hs hw hS hl hol hos hlen hcm hsm kk
    | le => exact i_s_icmp_le hB hq hs hw hS hl hol hos hlen hcm hsm kk
  | _ => first | (simp only [i_s] at hs; cases hs; done) | (simp [i_s] at hs; done)
/-- any step of i_nw, but for arrays of arrays -/
theorem i_simN {M : iM} {q : iI} (hB : i_B p s m args meth c D sa sv A M R) (hq : i_ckb M (pc, q) = true) (hs : i_nw q pc loc st h = some ((pc', loc', st', h1), dc, ds)) (hw : i_Wd sa D A ad h s H) (hS : va_S A s.heap H locs) (hl : i_L sa ad ls loc) (hol : i_okl h.length loc) (hos : i_okl h.length st) (hlen : loc.length = M.2.2.2.1) (hcm : cells + dc ≤ R.cells) (hsm : slots + ds ≤ R.slots) (kk : i_KN p l e R s m args below meth c (cells + dc) (slots + ds) Q D sa A ad loc.length pc' loc' st' h1) : W p l e R s m args below meth c H locs cells slots Q (F0 m pc ls (st.map (i_mv sa ad))) := by
  obtain ⟨ins, len, a, b, w, z⟩ := q
  cases ins with
  | new k => exact i_n_new hB hq hs hw hS hl hol hos hlen hcm hsm kk
  | newarray t => exact i_n_newarray hB hq hs hw hS hl hol hos hlen hcm hsm kk
  | anewarray k => exact i_n_anewarray hB hq hs hw hS hl hol hos hlen hcm hsm kk
  | checkcast k => exact i_n_checkcast hB hq hs hw hS hl hol hos hlen hcm hsm kk
  | invokevirtual k => exact i_n_clone hB hq hs hw hS hl hol hos hlen hcm hsm kk
  | multianewarray k n => exact i_n_multi hB hq hs hw hS hl hol hos hlen hcm hsm kk
  | _ => first | (simp only [i_nw] at hs; cases hs; done) | (simp [i_nw] at hs; done)
end IU
