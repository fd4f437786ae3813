/-! ===== whole bodies: a run of the interpreter is a contract of the machine ===== -/
/-- the contract that a run gives -/
def i_Met (l : Launch) (D : va_G) (sa sv : Nat → Nat) (d y : Nat) (as : List Value) (h : iH) (mc ms : Nat) (v : Option Value) (h' : iH) : Prop :=
  ∀ M, i_mT[y]? = some M → i_okl h.length as → ∀ (ad : iA) (sz : Nat), Met l M.2.1 (i_ws M) (i_rm d mc ms) (i_Pre D sa sv as h ad sz) (i_Q D sa (va_A (i_w sa ad h) sz) ad v h') mc ms (va_A (i_w sa ad h) sz)
section IV
variable {p : Program} {l : Launch} {e : Env} {s : State} {m : MethodId} {args : Array Value} {below : List Frame} {meth : Method} {c : Code} {H : Heap} {locs : List Loc} {cells slots : Nat} {Q : State → Prop}
variable {D : va_G} {sa sv : Nat → Nat} {A : Nat → Prop} {ad ad0 : iA} {h h1 h2 h' : iH} {loc st : List Value} {pc d mc ms kc ks : Nat} {ls : Array Slot} {v r : Option Value}
theorem i_ret_ok {M : iM} {q : iI} (hB : i_B p s m args meth c D sa sv A M (i_rm (d + 1) mc ms)) (hq : i_ckb M (pc, q) = true) (had : ∃ ex, ad = ad0 ++ ex) (hr0 : i_ret M q st h v h') (hc : cells ≤ mc) (hsl : slots ≤ ms) (hw : i_Wd sa D A ad h s H) (hS : va_S A s.heap H locs) (hos : i_okl h.length st) : W p l e (i_rm (d + 1) mc ms) s m args below meth c H locs cells slots (MQ below (i_Q D sa A ad0 v h') args s mc ms A) (F0 m pc ls (st.map (i_mv sa ad))) := by
  obtain ⟨hx, hb, hml, hr, hown, hts, hlk, hnm, hE, hA, hRf, hRl⟩ := hB
  obtain ⟨ins, len, a, b, w, z⟩ := q
  obtain ⟨hd, hn⟩ := i_dec hq
  obtain ⟨ex, rfl⟩ := had
  refine W.widen (k := mc) (n := ms) hc hsl ?_
  have fin : ∀ t : State, t.heap = H → s.WarmedH t.vm → h' = h → (∀ x, v = some x → i_okv h.length x) → i_Q D sa A ad0 v h' args s (.returned (v.map (i_mv sa (ad0 ++ ex)))) t := by
    intro t ht hW he hok
    subst he
    exact ⟨⟨ex, rfl, by rw [ht]; exact hw.moved hW.alike, hok⟩, hS.F ht⟩
  cases ins with
  | ireturn =>
    obtain rfl := hn rfl
    obtain ⟨x, ty, rfl, h3, h4, rfl, h6⟩ := hr0
    exact W.zret (v := x) (ty := ty) hx hb (hr.trans h3) h4 (fun t ht hW => fin t ht hW h6 (fun y hy => by cases hy; trivial)) hS.2.2 hd
  | lreturn =>
    obtain rfl := hn rfl
    obtain ⟨x, rfl, h3, rfl, h6⟩ := hr0
    exact W.lret (v := x) hx hb (hr.trans h3) (fun t ht hW => fin t ht hW h6 (fun y hy => by cases hy; trivial)) hS.2.2 hd
  | areturn =>
    obtain rfl := hn rfl
    obtain ⟨x, ty, rfl, h3, h4, h5, rfl, h6⟩ := hr0
    exact W.aret (v := i_mv sa (ad0 ++ ex) x) (rt := ty) hx hb (hr.trans h3) (by cases ty <;> first | exact Or.inl ⟨_, rfl⟩ | exact Or.inr ⟨_, rfl⟩ | (simp [i_isq] at h4)) (by rcases h5 with rfl | ⟨y, rfl⟩ <;> first | exact Or.inl rfl | exact Or.inr ⟨_, rfl⟩) (fun t ht hW => fin t ht hW h6 (fun y hy => by cases hy; exact hos.head)) hS.2.2 hd
  | return_ =>
    obtain rfl := hn rfl
    obtain ⟨rfl, h3, rfl, h6⟩ := hr0
    exact W.vret hx hb (hr.trans h3) (fun t ht hW => fin t ht hW h6 (fun y hy => by cases hy)) hS.2.2 hd
  | _ => exact hr0.elim
theorem i_call_ok {M : iM} {q : iI} {As rest : List Value} (hB : i_B p s m args meth c D sa sv A M (i_rm (d + 1) mc ms)) (hq : i_ckb M (pc, q) = true) (hmok : ∀ a M2, i_mT[a]? = some M2 → i_mokP a M2) (hi : i_inv q As st rest h) (hex : ∃ M2, i_mT[q.2.2.1]? = some M2) (hM : i_Met l D sa sv d q.2.2.1 As h kc ks r h2) (hc : cells + kc ≤ mc) (hsl : slots + ks ≤ ms) (hw : i_Wd sa D A ad h s H) (hS : va_S A s.heap H locs) (hl : i_L sa ad ls loc) (hol : i_okl h.length loc) (hos : i_okl h.length st) (hlen : loc.length = M.2.2.2.1)
    (kk : ∀ (ex : iA) (H1 : Heap) (locs1 : List Loc), i_Wd sa D A (ad ++ ex) h2 s H1 → va_S A s.heap H1 locs1 → i_L sa (ad ++ ex) ls loc → i_okl h2.length loc → i_okl h2.length (r.toList ++ rest) → W p l e (i_rm (d + 1) mc ms) s m args below meth c H1 locs1 (cells + kc) (slots + ks) Q (F0 m (pc + 3) ls ((r.toList ++ rest).map (i_mv sa (ad ++ ex))))) :
    W p l e (i_rm (d + 1) mc ms) s m args below meth c H locs cells slots Q (F0 m pc ls (st.map (i_mv sa ad))) := by
  obtain ⟨hx, hb, hml, hr, hown, hts, hlk, hnm, hE, hA, hRf, hRl⟩ := hB
  obtain ⟨ins, len, a, b, w, z⟩ := q
  obtain ⟨M2, hM2⟩ := hex
  dsimp only at hM2 hM
  obtain ⟨o1, o2, o3, o4, o5, o6, o7, o8, o9⟩ := hmok a M2 hM2
  obtain ⟨hd, hn⟩ := i_dec hq
  obtain ⟨hcat, hi⟩ := hi
  have hFc : ∀ q, va_A (i_w sa ad h) H.size q → A q := fun q hq => by
    rcases hq with ⟨k, e9, h9⟩ | h9
    · exact hw.2.2.2.1.2 k _ h9
    · exact hA q (Nat.le_trans hS.1 h9)
  have hPre : ∀ U : State, U.heap = H → s.WarmedH U.vm → U.heap.size = H.size ∧ i_Wd sa D (fun _ => True) ad h U U.heap ∧ i_E D sa sv (va_A (i_w sa ad h) H.size) U U.heap := fun U hU hW => by
    rw [hU]
    exact ⟨rfl, ⟨hw.1, hw.2.1, hw.2.2.1, hw.2.2.2.1.weaken (fun _ _ _ _ => trivial), hw.2.2.2.2.moved hW.alike⟩, hE.warm hW hS.2.1 hFc⟩
  have hRm : (i_rm d kc ks).frames + 1 ≤ (i_rm (d + 1) mc ms).frames ∧ 8 + (M2.2.2.2.1 + 11) + (i_rm d kc ks).locals ≤ (i_rm (d + 1) mc ms).locals := by
    simp only [i_rm]
    omega
  have hcont : ∀ hor : i_okl h.length rest, ∀ (ex : iA) (t : State) (H1 : Heap) (locs1 : List Loc), t.heap = H1 → s.vm.Alike t.vm → i_Wd sa D (va_A (i_w sa ad h) H.size) (ad ++ ex) h2 t H1 → (∀ x, r = some x → i_okv h2.length x) → va_S A s.heap H1 locs1 → W p l e (i_rm (d + 1) mc ms) s m args below meth c H1 locs1 (cells + kc) (slots + ks) Q (F0 m (pc + 3) ls ((r.map (i_mv sa (ad ++ ex))).toList ++ rest.map (i_mv sa ad))) := by
    intro hor ex t H1 locs1 ht hal hwd hok hS1
    have hle : h.length ≤ h2.length := by rw [← hw.1, ← hwd.1, List.length_append]; exact Nat.le_add_right _ _
    have h9 := kk ex H1 locs1 ⟨hwd.1, hwd.2.1, hwd.2.2.1, hwd.2.2.2.1.weaken (fun k q _ hq => hFc _ hq), hwd.2.2.2.2.moved hal.symm⟩ hS1 (hl.ext (by rw [hw.1]; exact hol)) (hol.mono hle) (i_okl.app (fun x hx9 => by
      cases r with
      | none => cases hx9
      | some y => rw [List.mem_singleton.mp hx9]; exact hok y rfl) (hor.mono hle))
    rw [List.map_append, i_mvl_ext (l := rest) (by rw [hw.1]; exact hor)] at h9
    cases r with
    | none => exact h9
    | some y => exact h9
  cases ins with
  | invokestatic k =>
    obtain rfl := hn rfl
    obtain ⟨hst, hAl⟩ := hi
    subst hst
    obtain ⟨c1, c2, c3⟩ := i_ck_s hq hM2
    have hoA : i_okl h.length As := fun x hx9 => hos x (List.mem_append_left _ (List.mem_reverse.mpr hx9))
    have hor : i_okl h.length rest := fun x hx9 => hos x (List.mem_append_right _ hx9)
    rw [List.map_append, List.map_reverse]
    refine i_call (va_runS (As := As.map (i_mv sa ad)) (n := b) ⟨hx, hb, hml, hown, hts⟩ (hM M2 hM2 hoA ad H.size) (va_cwS b hts (i_gS (i_tb_in c1) (o4 c3) o3 o2) rfl rfl rfl ⟨o7, o8, of_decide_eq_true c2⟩ hRm) ⟨i_Pre.blind, fun U hU hW => ⟨rfl, hPre U hU hW⟩⟩ rfl (by rw [List.length_map]; exact hAl) (hl.1.trans hlen) rfl (lv_room (by rw [i_catsum]; exact hcat)) hd ⟨hc, hsl⟩) hS (fun q _ hq => hFc q hq) hFc (hcont hor)
  | invokevirtual k =>
    obtain rfl := hn rfl
    obtain ⟨i, As', ci, fs, rfl, hst, hAl, hh, hcl⟩ := hi
    subst hst
    obtain ⟨c1, c2, c3, c4⟩ := i_ck_v hq hM2
    have hoA : i_okl h.length (.ref i :: As') := fun x hx9 => by
      rcases List.mem_cons.mp hx9 with rfl | hx9
      · exact hos _ (List.mem_append_right _ List.mem_cons_self)
      · exact hos x (List.mem_append_left _ (List.mem_reverse.mpr hx9))
    have hor : i_okl h.length rest := fun x hx9 => hos x (List.mem_append_right _ (List.mem_cons_of_mem _ hx9))
    obtain ⟨g, hg, hgc⟩ := Option.map_eq_some_iff.mp hcl
    have hgc2 : g.1 = M2.2.1.cls := by
      rw [hgc]
      unfold i_mc_
      rw [hM2]
      rfl
    have he := i_w_at (sa := sa) hw.1 hw.2.1.1 hh
    have hrv := va_recv hE.1 hw.2.2.1 hg he
    rw [hgc2] at hrv
    rw [List.map_append, List.map_reverse, List.map_cons]
    refine i_call (va_runV (As := As'.map (i_mv sa ad)) (C := M2.2.1.cls) (n := b) ⟨hx, hb, hml, hown, hts⟩ (hM M2 hM2 hoA ad H.size) (cwV b hts (i_gV (i_tb_in c1) (o5 c4).1 ((o5 c4).2 c3) o3 o2) rfl rfl rfl ⟨rfl, o7, o8, of_decide_eq_true c2⟩ hRm) ⟨i_Pre.blind, hrv, fun U hU hW => ⟨rfl, hPre U hU hW⟩⟩ rfl (by rw [List.length_map]; exact hAl) (hl.1.trans hlen) rfl (lv_room (by rw [i_catsum]; exact hcat)) hd ⟨hc, hsl⟩) hS (fun q _ hq => hFc q hq) hFc (hcont hor)
  | invokespecial k =>
    obtain rfl := hn rfl
    obtain ⟨i, As', rfl, hst, hAl⟩ := hi
    subst hst
    obtain ⟨c1, c2, c3, c4, c5⟩ := i_ck_i hq hM2
    have hoA : i_okl h.length (.ref i :: As') := fun x hx9 => by
      rcases List.mem_cons.mp hx9 with rfl | hx9
      · exact hos _ (List.mem_append_right _ List.mem_cons_self)
      · exact hos x (List.mem_append_left _ (List.mem_reverse.mpr hx9))
    have hor : i_okl h.length rest := fun x hx9 => hos x (List.mem_append_right _ (List.mem_cons_of_mem _ hx9))
    have hMM := hM M2 hM2 hoA ad H.size
    have hws : i_ws M2 = Cond.code M2.2.1 M2.2.2.1 M2.2.2.2.1 none :: i_tb := by unfold i_ws; rw [c4]
    rw [c4] at o2
    rw [hws] at hMM
    rw [List.map_append, List.map_reverse, List.map_cons]
    rcases c1 with ⟨-, cw6, cn⟩ | c1
    · have hnw := hE.2.1.1 w cw6
      rw [cn] at hnw
      refine i_call (va_runIN (As := As'.map (i_mv sa ad)) (n := b) ⟨hx, hb, hml, hown, hts⟩ hMM ⟨va_cnB b hts (i_gI o2) rfl rfl rfl hnw (hts _ o3) ⟨o7, o8, of_decide_eq_true c2⟩ hRm, c3, hts _ (o5 c5).1⟩ ⟨i_Pre.blind, fun U hU hW => ⟨rfl, hPre U hU hW⟩⟩ rfl (by rw [List.length_map]; exact hAl) (hl.1.trans hlen) rfl (lv_room (by rw [i_catsum]; exact hcat)) hd ⟨hc, hsl⟩) hS (fun q _ hq => hFc q hq) hFc (hcont hor)
    · refine i_call (va_runI (As := As'.map (i_mv sa ad)) (n := b) ⟨hx, hb, hml, hown, hts⟩ hMM (cwI b hts (i_gI o2) rfl rfl rfl (hts _ o3) (hts _ (i_tb_in c1)) (hts _ (o5 c5).1) c3 ⟨o7, o8, of_decide_eq_true c2⟩ hRm) ⟨i_Pre.blind, fun U hU hW => ⟨rfl, hPre U hU hW⟩⟩ rfl (by rw [List.length_map]; exact hAl) (hl.1.trans hlen) rfl (lv_room (by rw [i_catsum]; exact hcat)) hd ⟨hc, hsl⟩) hS (fun q _ hq => hFc q hq) hFc (hcont hor)
  | _ => exact hi.elim
end IV
theorem i_at_mem : ∀ {t : List iE} {pc : Nat} {q : iI}, i_at t pc = some q → (pc, q) ∈ t
  | [], _, _, h => by cases h
  | e :: t, pc, q, h => by
    unfold i_at at h
    split at h
    · next he =>
      cases h
      subst he
      exact List.mem_cons_self
    · exact List.mem_cons_of_mem _ (i_at_mem h)
theorem i_X_ex {d y : Nat} {as : List Value} {h : iH} {mc ms : Nat} {v : Option Value} {h' : iH} (hX : i_X d y as h mc ms v h') : ∃ M, i_mT[y]? = some M := by
  cases d with
  | zero => exact hX.elim
  | succ d =>
    obtain ⟨M, n, h1, -⟩ := hX
    exact ⟨M, h1⟩
/-- the whole of a body -/
theorem i_path {p : Program} {l : Launch} {e : Env} {s : State} {m : MethodId} {args : Array Value} {below : List Frame} {meth : Method} {c : Code} {D : va_G} {sa sv : Nat → Nat} {A : Nat → Prop} {ad0 : iA} {d mc ms : Nat} {v : Option Value} {h' : iH} {M : iM} (hB : i_B p s m args meth c D sa sv A M (i_rm (d + 1) mc ms)) (hck : M.2.2.2.2.2.all (i_ckb M) = true) (hmok : ∀ a M2, i_mT[a]? = some M2 → i_mokP a M2)
    (ihd : ∀ y as h kc ks r h2, i_X d y as h kc ks r h2 → i_Met l D sa sv d y as h kc ks r h2) :
    ∀ (n pc : Nat) (loc st : List Value) (h : iH) (cells slots : Nat) (ad : iA) (H : Heap) (locs : List Loc) (ls : Array Slot), i_P (i_X d) M mc ms v h' n pc loc st h cells slots → cells ≤ mc → slots ≤ ms → (∃ ex, ad = ad0 ++ ex) → i_Wd sa D A ad h s H → va_S A s.heap H locs → i_L sa ad ls loc → i_okl h.length loc → i_okl h.length st → loc.length = M.2.2.2.1 →
      W p l e (i_rm (d + 1) mc ms) s m args below meth c H locs cells slots (MQ below (i_Q D sa A ad0 v h') args s mc ms A) (F0 m pc ls (st.map (i_mv sa ad))) := by
  intro n
  induction n with
  | zero => intro pc loc st h cells slots ad H locs ls hP; exact hP.elim
  | succ n ih =>
    intro pc loc st h cells slots ad H locs ls hP hc hsl had hw hS hl hol hos hlen
    obtain ⟨q, hq, hP⟩ := hP
    have hqk : i_ckb M (pc, q) = true := List.all_eq_true.mp hck _ (i_at_mem hq)
    rcases hP with ⟨pc', loc', st', h1, h2, h3⟩ | ⟨pc', loc', st', h1, dc, ds, h2, h4, h5, h3⟩ | ⟨h2, h4, h5⟩ | ⟨As, rest, r, h2, kc, ks, h3, h4, h5, h6, h7⟩
    · exact i_sim hB hqk h2 hw hS hl hol hos hlen hc hsl (fun H1 locs1 ls1 g1 g2 g3 g4 g5 g6 => ih pc' loc' st' h1 cells slots ad H1 locs1 ls1 h3 hc hsl had g1 g2 g3 g4 g5 (g6.trans hlen))
    · refine i_simN hB hqk h2 hw hS hl hol hos hlen h4 h5 (fun ex H1 locs1 ls1 g1 g2 g3 g4 g5 g6 => ih pc' loc' st' h1 _ _ (ad ++ ex) H1 locs1 ls1 h3 h4 h5 ?_ g1 g2 g3 g4 g5 (g6.trans hlen))
      obtain ⟨ex0, rfl⟩ := had
      exact ⟨ex0 ++ ex, List.append_assoc _ _ _⟩
    · exact i_ret_ok hB hqk had h2 hc hsl hw hS hos
    · refine i_call_ok hB hqk hmok h3 (i_X_ex h4) (ihd _ _ _ _ _ _ _ h4) h5 h6 hw hS hl hol hos hlen (fun ex H1 locs1 g1 g2 g3 g4 g5 => ih (pc + 3) loc (r.toList ++ rest) h2 _ _ (ad ++ ex) H1 locs1 ls h7 h5 h6 ?_ g1 g2 g3 g4 g5 hlen)
      obtain ⟨ex0, rfl⟩ := had
      exact ⟨ex0 ++ ex, List.append_assoc _ _ _⟩
/-- SOUNDNESS: what the interpreter runs, the machine does -/
theorem i_sound (hckA : ∀ M ∈ i_mT, M.2.2.2.2.2.all (i_ckb M) = true) (hmok : ∀ a M2, i_mT[a]? = some M2 → i_mokP a M2) (l : Launch) (D : va_G) (sa sv : Nat → Nat) :
    ∀ d y as h mc ms v h', i_X d y as h mc ms v h' → i_Met l D sa sv d y as h mc ms v h' := by
  intro d
  induction d with
  | zero => intro y as h mc ms v h' hX; exact hX.elim
  | succ d ih =>
    intro y as h mc ms v h' hX M hM hoa ad sz
    obtain ⟨M1, n, hM1, hsl0, hP⟩ := hX
    cases hM.symm.trans hM1
    have hok := hmok y M hM
    refine Met.ofW (cc := M.2.2.1) (maxL := M.2.2.2.1) (ret := M.2.2.2.2.1) hok.2.2.2.2.2.1 rfl ?_
    intro p e s m args below meth c s₁ B hml hv
    obtain ⟨rfl, hsz, hw0, hE⟩ := hv
    have hts0 := atoms_spec (ws := i_ws M) B.pre
    have hown : s.vm.findClass M.1 = some m.cls := by rw [← hok.1]; exact findClass_of_methodNamed B.named
    subst hsz
    have hB : i_B p s m (as.map (i_mv sa ad)).toArray meth c D sa sv (va_A (i_w sa ad h) s.heap.size) M (i_rm (d + 1) mc ms) :=
      ⟨B.exec, B.bytes, hml, B.returns, hown, fun w hw => hts0 w (List.mem_cons_of_mem _ hw), B.notSynchronized, (name_of_methodNamed B.named B.method).1, hE, fun q hq => Or.inr hq, by simp only [i_rm]; omega, by simp only [i_rm]; omega⟩
    have hw : i_Wd sa D (va_A (i_w sa ad h) s.heap.size) ad h s s.heap := ⟨hw0.1, hw0.2.1, hw0.2.2.1, hw0.2.2.2.1.self, hw0.2.2.2.2⟩
    rw [lg_entry_eq]
    exact i_path hB (hckA M (List.mem_of_getElem? hM)) hmok ih n 0 (i_ent M.2.2.2.1 as) [] h 0 0 ad s.heap [] _ hP (Nat.zero_le _) (Nat.zero_le _) ⟨[], (List.append_nil ad).symm⟩ hw va_S.rf (i_ent_L hsl0) (i_okl_ent hoa) (fun x hx => by cases hx) (by unfold i_ent; rw [List.length_append, List.length_replicate]; omega)
