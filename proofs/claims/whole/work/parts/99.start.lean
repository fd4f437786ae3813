/-! ===== the law from its entry ===== -/
theorem lg_w0 {sa : Nat → Nat} {D : va_G} {A0 : Nat → Prop} {s : State} {H : Heap} : i_Wd sa D A0 [] [] s H := ⟨rfl, ⟨Nat.zero_le _, fun c hc => by cases hc⟩, fun k q h => by simp [i_w] at h, ⟨fun i j p q h => by simp [i_w] at h, fun k q h => by simp [i_w] at h⟩, fun i ty x h => by simp at h⟩
/-- a new cell beside a world -/
theorem lg_side {sa : Nat → Nat} {D : va_G} {A0 : Nat → Prop} {s : State} {H H1 : Heap} {ad : iA} {h : iH} {ci q : Nat} (w : i_Wd sa D A0 ad h s H) (hok : ∀ v ∈ i_dfl ci, i_okv 0 v) (g1 : va_P D vwCl (i_w sa ad h ++ [(q, .inr (ci, i_dfl ci))]) H1) (g2 : va_D A0 (i_w sa ad h ++ [(q, .inr (ci, i_dfl ci))])) :
    i_Wd sa D A0 [(q, 0)] [.inr (ci, i_dfl ci)] s H1 ∧ i_Wd sa D A0 ad h s H1 ∧ i_apart (i_w sa [(q, 0)] [.inr (ci, i_dfl ci)]) (i_w sa ad h) := by
  have ew : i_w sa [(q, 0)] [.inr (ci, i_dfl ci)] = [(q, .inr (ci, i_dfl ci))] := by
    show [(q, (Sum.inr (ci, (i_dfl ci).map (i_mv sa [(q, 0)])) : va_E))] = _
    rw [i_dfl_mv]
  have last : (i_w sa ad h ++ [(q, (Sum.inr (ci, i_dfl ci) : va_E))])[(i_w sa ad h).length]? = some (q, .inr (ci, i_dfl ci)) := by
    rw [List.getElem?_append_right (Nat.le_refl _), Nat.sub_self]
    rfl
  have one : ∀ (k : Nat) (x : Nat × va_E), [(q, (Sum.inr (ci, i_dfl ci) : va_E))][k]? = some x → k = 0 ∧ x = (q, .inr (ci, i_dfl ci)) := by
    intro k x hk
    have hz : k < 1 := (List.getElem?_eq_some_iff.mp hk).1
    obtain rfl : k = 0 := by omega
    cases hk
    exact ⟨rfl, rfl⟩
  have left : ∀ (k : Nat) (x : Nat × va_E), (i_w sa ad h)[k]? = some x → (i_w sa ad h ++ [(q, (Sum.inr (ci, i_dfl ci) : va_E))])[k]? = some x := by
    intro k x hk
    rw [List.getElem?_append_left (List.getElem?_eq_some_iff.mp hk).1]
    exact hk
  refine ⟨⟨rfl, ⟨show 1 ≤ i_SB by decide, ?_⟩, ?_, ?_, ?_⟩, ⟨w.1, w.2.1, fun k x hk => g1 k x (left k x hk), w.2.2.2.1, w.2.2.2.2⟩, ?_⟩
  · intro c hc
    rw [List.mem_singleton.mp hc]
    exact fun v hv => (hok v hv).mono (Nat.zero_le _)
  · rw [ew]
    intro k x hk
    obtain ⟨rfl, rfl⟩ := one k x hk
    exact g1 _ _ last
  · rw [ew]
    refine ⟨fun i j p r hi hj _ => ?_, fun k x hk => ?_⟩
    · obtain ⟨rfl, -⟩ := one i p hi
      obtain ⟨rfl, -⟩ := one j r hj
      rfl
    · obtain ⟨rfl, rfl⟩ := one k x hk
      exact g2.2 _ _ last
  · intro i ty x hx
    have hz : i < 1 := (List.getElem?_eq_some_iff.mp hx).1
    obtain rfl : i = 0 := by omega
    cases hx
  · rw [ew]
    intro i j p r hi hj e
    obtain ⟨rfl, rfl⟩ := one i p hi
    have := g2.1 _ _ _ _ (left j r hj) last e.symm
    have := (List.getElem?_eq_some_iff.mp hj).1
    omega
theorem lg_mv {sa : Nat → Nat} {q : Nat} : Value.ref q = i_mv sa [(q, 0)] (.ref 0) := by
  show _ = Value.ref (i_ad sa ([] ++ [(q, 0)]) 0)
  rw [i_ad_new (ad := []) (n := 0) rfl (by decide)]
theorem lg_okl {n : Nat} (h : 0 < n) : i_okl n [.ref 0] := fun x hx => by
  rw [List.mem_singleton.mp hx]
  exact Or.inl h
set_option maxHeartbeats 4000000 in
set_option maxRecDepth 100000 in
/-- THE LAW, from its entry -/
theorem whole_start {p : Program} {e : Env} {s : State} {m : MethodId} {below : List Frame} {meth : Method} {c : Code} (l : Launch) {b L : Nat} {xs : Nat → Int32} (hL : L ≤ 3072) (C0 : lw_At p s m meth c b L xs) : W p l e room_1 s m #[Value.ref b] below meth c s.heap [] 0 0 (lw_Z below #[Value.ref b] s) (entryFrame m ([Value.ref b] : List Value).toArray 4) := by
  obtain ⟨hx, hb, hr, hml, hown, hts, hX, hbl, hlocks, hgv⟩ := id C0
  obtain ⟨D, sa, sv, hE⟩ := lg_E hts hgv
  have htb : ∀ w ∈ i_tb, w.before #[Value.ref b] s = true := fun w hw => hts w (List.mem_filter.mp hw).1
  have hA : ∀ q : Nat, s.heap.size ≤ q → (fun q : Nat => s.heap.size ≤ q) q := fun _ h => h
  have hS : va_S (fun q : Nat => s.heap.size ≤ q) s.heap s.heap [] := va_S.rf
  have w0 : i_Wd sa D (fun q : Nat => s.heap.size ≤ q) [] [] s s.heap := lg_w0
  have hl := lv_entry ([.ref b]) (n := 4) (Nat.le_of_ble_eq_true rfl)
  rw [lg_entry_eq]
  generalize (lg_sl ([.ref b]) ++ List.replicate (4 - (lg_sl ([.ref b])).length) Slot.unset).toArray = ls at hl ⊢
  have hl : lv_has ls 4 [(0, .ref b)] := hl
  refine va_new (ci := 10) (fs := i_dfl 10) (C := RX11) (T := TX11) (N := 11) hx hb htb i_cls10.1 (i_ty 10) i_cls10.2.1 hown (hts (.classLink R_law 7 RX11) (by decide +kernel)) (htb _ i_cls10.2.2.2.1) (htb _ i_cls10.2.2.2.2.1) hE.1 w0.2.2.1 w0.2.2.2.1 hS hA rfl i_cls10.2.2.2.2.2.1 (Nat.le_of_ble_eq_true rfl) (Nat.le_of_ble_eq_true rfl) dL_law_0 (fun q H hP hD hS => ?_)
  obtain ⟨wC, wY, dj⟩ := lg_side w0 i_cls10.2.2.2.2.2.2.2 hP hD
  refine lv_dup hx hb dL_law_3 rfl ?_
  rw [lg_mv (sa := sa) (q := q)]
  refine law_I (y := 90) (k := 9) (adX := [(q, 0)]) (hX := [.inr (10, i_dfl 10)]) (adY := []) (hY := []) (rest := [i_mv sa [(q, 0)] (.ref 0)]) (mc := 200) (ms := 4000) hx hb hml hown htb hE hA rfl (i_tb_law _ (by decide +kernel)) (by decide +kernel) (by decide +kernel) (by decide +kernel) (by decide +kernel) (i_X_mono (by decide) courtInit) (lg_okl (by decide)) wC wY dj hS hl.1 (Nat.le_of_ble_eq_true rfl) (by omega) (by omega) dL_law_4 (fun exC H1 locs1 wC wY dj hS => ?_)
  refine lv_astore_n (x := i_ad sa [(q, 0)] 0) (lv' := [(1, i_mv sa [(q, 0)] (.ref 0)), (0, .ref b)]) hx hb dL_law_7 rfl hl (by decide) rfl (fun ls hl => ?_)
  refine va_new (ci := 11) (fs := i_dfl 11) (C := RX12) (T := TX12) (N := 53) hx hb htb i_cls11.1 (i_ty 11) i_cls11.2.1 hown (hts (.classLink R_law 10 RX12) (by decide +kernel)) (htb _ i_cls11.2.2.2.1) (htb _ i_cls11.2.2.2.2.1) hE.1 wC.2.2.1 wC.2.2.2.1 hS hA rfl i_cls11.2.2.2.2.2.1 (Nat.le_of_ble_eq_true rfl) (Nat.le_of_ble_eq_true rfl) dL_law_8 (fun q2 H2 hP hD hS => ?_)
  obtain ⟨wR, wC, dj⟩ := lg_side wC i_cls11.2.2.2.2.2.2.2 hP hD
  refine lv_dup hx hb dL_law_11 rfl ?_
  rw [lg_mv (sa := sa) (q := q2)]
  refine law_I (y := 126) (k := 12) (adX := [(q2, 0)]) (hX := [.inr (11, i_dfl 11)]) (rest := [i_mv sa [(q2, 0)] (.ref 0)]) (mc := 100) (ms := 12000) hx hb hml hown htb hE hA rfl (i_tb_law _ (by decide +kernel)) (by decide +kernel) (by decide +kernel) (by decide +kernel) (by decide +kernel) (i_X_mono (by decide) refInit) (lg_okl (by decide)) wR wC dj hS hl.1 (Nat.le_of_ble_eq_true rfl) (by omega) (by omega) dL_law_12 (fun exR H3 locs3 wR wC dj hS => ?_)
  refine lv_astore_n (x := i_ad sa [(q2, 0)] 0) (lv' := [(2, i_mv sa [(q2, 0)] (.ref 0)), (1, i_mv sa [(q, 0)] (.ref 0)), (0, .ref b)]) hx hb dL_law_15 rfl hl (by decide) rfl (fun ls hl => ?_)
  refine lv_iconst (v := nI 0) hx hb dL_law_16 (by decide) ?_
  refine lv_istore_n (lv' := [(3, .int (nI 0)), (2, i_mv sa [(q2, 0)] (.ref 0)), (1, i_mv sa [(q, 0)] (.ref 0)), (0, .ref b)]) hx hb dL_law_17 rfl hl (by decide) rfl (fun ls hl => ?_)
  have hl : lv_has ls 4 [(0, .ref b), (1, i_mv sa [(q, 0)] (.ref 0)), (2, i_mv sa [(q2, 0)] (.ref 0)), (3, .int (nI 0))] := lv_sub hl [3, 2, 1, 0] rfl
  rw [← mv0 (ad := [(q, 0)]) (ex := exC) (n := 1) rfl (by decide), ← mv0 (ad := [(q2, 0)]) (ex := exR) (n := 1) rfl (by decide)] at hl
  exact law_loop (sR := shR) hL C0 hE (by decide +kernel) (L + 1) 0 0 rfl (Nat.zero_le _) (by omega) _ _ ([(q, 0)] ++ exC) ([(q2, 0)] ++ exR) shC s0C s0R Wn [] (fun _ => none) [] H3 locs3 ls (by omega) (by omega) IV_0 (by decide +kernel) wC wR (fun i j p r hp hr e => dj j i r p hr hp e.symm) hS hl
