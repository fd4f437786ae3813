/-! ===== the law: its loop and its start ===== -/
theorem lg_exit {i L : Nat} (hi : i ≤ L) (hL : L ≤ 3072) (h : ¬ i + 6 ≤ L) : nI i > nI L - 6 := by
  show nI L - 6 < nI i
  rw [Int32.lt_iff_toInt_lt, Int32.toInt_sub, nI_toInt (show i < 2 ^ 31 by omega), nI_toInt (show L < 2 ^ 31 by omega)]
  have h6 : (6 : Int32).toInt = 6 := by decide
  rw [h6, Int.bmod_eq_of_le (by omega) (by omega)]
  omega
set_option maxHeartbeats 4000000 in
theorem lg_sw {p : Program} {l : Launch} {e : Env} {s : State} {m : MethodId} {below : List Frame} {meth : Method} {c : Code} {H : Heap} {locs : List Loc} {cells slots : Nat} {Q : State → Prop} {D : va_G} {sa sv : Nat → Nat} {b L i : Nat} {xs : Nat → Int32} {ls : Array Slot} {adC adR : iA} {sh sR : List kd} {σC σR : St} {W0 : Wd} {rl : List Cl} {im : Im} {tp : List Nat}
    (hx : p.tables.exec = Jvm.exec) (hb : c.code = code) (hml : c.maxLocals = 4) (hown : s.vm.findClass RL = some m.cls) (hts : ∀ w ∈ i_tb, w.before #[Value.ref b] s = true) (hE : i_E D sa sv (fun q : Nat => s.heap.size ≤ q) s s.heap) (hX : va_X b L xs s s.heap) (hbl : b < s.heap.size)
    (h : IV sh sR σC σR W0 rl im tp) (hbd : sh.length + 120 < i_SB) (wC : i_Wd sa D (fun q : Nat => s.heap.size ≤ q) adC (s_h sh σC) s H) (wR : i_Wd sa D (fun q : Nat => s.heap.size ≤ q) adR (s_h sR σR) s H) (dj : i_apart (i_w sa adC (s_h sh σC)) (i_w sa adR (s_h sR σR))) (hS : va_S (fun q : Nat => s.heap.size ≤ q) s.heap H locs) (hl : lv_has ls 4 [(0, .ref b), (1, i_mv sa adC (.ref 0)), (2, i_mv sa adR (.ref 0)), (3, .int (nI i))]) (hi : i + 6 ≤ L) (hL : L ≤ 3072) (hc : cells + 300 ≤ 633637) (hs : slots + 3000 ≤ 7201338)
    (kk : ∀ (sh' : List kd) (τC τR : St) (W1 : Wd) (rl1 : List Cl) (im1 : Im) (tp1 : List Nat) (exC exR : iA) (H1 : Heap) (locs1 : List Loc) (mc ms : Nat), mc ≤ 300 → ms ≤ 3000 → IV sh' sR τC τR W1 rl1 im1 tp1 → sh'.length ≤ sh.length + 115 → i_Wd sa D (fun q : Nat => s.heap.size ≤ q) (adC ++ exC) (s_h sh' τC) s H1 → i_Wd sa D (fun q : Nat => s.heap.size ≤ q) (adR ++ exR) (s_h sR τR) s H1 → i_apart (i_w sa (adC ++ exC) (s_h sh' τC)) (i_w sa (adR ++ exR) (s_h sR τR)) → va_S (fun q : Nat => s.heap.size ≤ q) s.heap H1 locs1 → W p l e room_1 s m #[Value.ref b] below meth c H1 locs1 (cells + mc) (slots + ms) Q (F0 m 1196 ls [])) {j : Nat} (hj : j < 64) :
    W p l e room_1 s m #[Value.ref b] below meth c H locs cells slots Q (F0 m 33 ls [.int (nI j)]) := by
  by_cases hj2 : j < 34
  · match j, hj2 with
    | 0, _ => exact lv_tableIn (off := 151) (tgt := 184) hx hb dL_law_33 (by decide) (by decide) (by decide) (by decide) (k_feed hx hb hml hown hts hE hX hbl h hbd wC wR dj hS hl hi hL hc hs kk)
    | 1, _ => exact lv_tableIn (off := 214) (tgt := 247) hx hb dL_law_33 (by decide) (by decide) (by decide) (by decide) (k_end hx hb hml hown hts hE hX hbl h hbd wC wR dj hS hl hi hL hc hs kk)
    | 2, _ => exact lv_tableIn (off := 237) (tgt := 270) hx hb dL_law_33 (by decide) (by decide) (by decide) (by decide) (k_court hx hb hml hown hts hE hX hbl h hbd wC wR dj hS hl hi hL hc hs kk)
    | 3, _ => exact lv_tableIn (off := 250) (tgt := 283) hx hb dL_law_33 (by decide) (by decide) (by decide) (by decide) (k_rule hx hb hml hown hts hE hX hbl h hbd wC wR dj hS hl hi hL hc hs kk)
    | 4, _ => exact lv_tableIn (off := 263) (tgt := 296) hx hb dL_law_33 (by decide) (by decide) (by decide) (by decide) (k_force hx hb hml hown hts hE hX hbl h hbd wC wR dj hS hl hi hL hc hs kk)
    | 5, _ => exact lv_tableIn (off := 286) (tgt := 319) hx hb dL_law_33 (by decide) (by decide) (by decide) (by decide) (k_thing hx hb hml hown hts hE hX hbl h hbd wC wR dj hS hl hi hL hc hs kk)
    | 6, _ => exact lv_tableIn (off := 319) (tgt := 352) hx hb dL_law_33 (by decide) (by decide) (by decide) (by decide) (k_usual hx hb hml hown hts hE hX hbl h hbd wC wR dj hS hl hi hL hc hs kk)
    | 7, _ => exact lv_tableIn (off := 342) (tgt := 375) hx hb dL_law_33 (by decide) (by decide) (by decide) (by decide) (k_person hx hb hml hown hts hE hX hbl h hbd wC wR dj hS hl hi hL hc hs kk)
    | 8, _ => exact lv_tableIn (off := 375) (tgt := 408) hx hb dL_law_33 (by decide) (by decide) (by decide) (by decide) (k_hour hx hb hml hown hts hE hX hbl h hbd wC wR dj hS hl hi hL hc hs kk)
    | 9, _ => exact lv_tableIn (off := 388) (tgt := 421) hx hb dL_law_33 (by decide) (by decide) (by decide) (by decide) (k_deed hx hb hml hown hts hE hX hbl h hbd wC wR dj hS hl hi hL hc hs kk)
    | 10, _ => exact lv_tableIn (off := 421) (tgt := 454) hx hb dL_law_33 (by decide) (by decide) (by decide) (by decide) (k_slight hx hb hml hown hts hE hX hbl h hbd wC wR dj hS hl hi hL hc hs kk)
    | 11, _ => exact lv_tableIn (off := 454) (tgt := 487) hx hb dL_law_33 (by decide) (by decide) (by decide) (by decide) (k_tray hx hb hml hown hts hE hX hbl h hbd wC wR dj hS hl hi hL hc hs kk)
    | 12, _ => exact lv_tableIn (off := 477) (tgt := 510) hx hb dL_law_33 (by decide) (by decide) (by decide) (by decide) (k_gloves hx hb hml hown hts hE hX hbl h hbd wC wR dj hS hl hi hL hc hs kk)
    | 13, _ => exact lv_tableIn (off := 500) (tgt := 533) hx hb dL_law_33 (by decide) (by decide) (by decide) (by decide) (k_strip hx hb hml hown hts hE hX hbl h hbd wC wR dj hS hl hi hL hc hs kk)
    | 14, _ => exact lv_tableIn (off := 533) (tgt := 566) hx hb dL_law_33 (by decide) (by decide) (by decide) (by decide) (k_undo hx hb hml hown hts hE hX hbl h hbd wC wR dj hS hl hi hL hc hs kk)
    | 15, _ => exact lv_tableIn (off := 546) (tgt := 579) hx hb dL_law_33 (by decide) (by decide) (by decide) (by decide) (k_ahead hx hb hml hown hts hE hX hbl h hbd wC wR dj hS hl hi hL hc hs kk)
    | 16, _ => exact lv_tableIn (off := 589) (tgt := 622) hx hb dL_law_33 (by decide) (by decide) (by decide) (by decide) (k_dubbed hx hb hml hown hts hE hX hbl h hbd wC wR dj hS hl hi hL hc hs kk)
    | 17, _ => exact lv_tableIn (off := 622) (tgt := 655) hx hb dL_law_33 (by decide) (by decide) (by decide) (by decide) (k_least hx hb hml hown hts hE hX hbl h hbd wC wR dj hS hl hi hL hc hs kk)
    | 18, _ => exact lv_tableIn (off := 665) (tgt := 698) hx hb dL_law_33 (by decide) (by decide) (by decide) (by decide) (k_spare hx hb hml hown hts hE hX hbl h hbd wC wR dj hS hl hi hL hc hs kk)
    | 19, _ => exact lv_tableIn (off := 708) (tgt := 741) hx hb dL_law_33 (by decide) (by decide) (by decide) (by decide) (k_lay hx hb hml hown hts hE hX hbl h hbd wC wR dj hS hl hi hL hc hs kk)
    | 20, _ => exact lv_tableIn (off := 751) (tgt := 784) hx hb dL_law_33 (by decide) (by decide) (by decide) (by decide) (k_held hx hb hml hown hts hE hX hbl h hbd wC wR dj hS hl hi hL hc hs kk)
    | 21, _ => exact lv_tableIn (off := 784) (tgt := 817) hx hb dL_law_33 (by decide) (by decide) (by decide) (by decide) (k_place hx hb hml hown hts hE hX hbl h hbd wC wR dj hS hl hi hL hc hs kk)
    | 22, _ => exact lv_tableIn (off := 807) (tgt := 840) hx hb dL_law_33 (by decide) (by decide) (by decide) (by decide) (k_stripped hx hb hml hown hts hE hX hbl h hbd wC wR dj hS hl hi hL hc hs kk)
    | 23, _ => exact lv_tableIn (off := 830) (tgt := 863) hx hb dL_law_33 (by decide) (by decide) (by decide) (by decide) (k_gold hx hb hml hown hts hE hX hbl h hbd wC wR dj hS hl hi hL hc hs kk)
    | 24, _ => exact lv_tableIn (off := 863) (tgt := 896) hx hb dL_law_33 (by decide) (by decide) (by decide) (by decide) (k_rests hx hb hml hown hts hE hX hbl h hbd wC wR dj hS hl hi hL hc hs kk)
    | 25, _ => exact lv_tableIn (off := 916) (tgt := 949) hx hb dL_law_33 (by decide) (by decide) (by decide) (by decide) (k_ring hx hb hml hown hts hE hX hbl h hbd wC wR dj hS hl hi hL hc hs kk)
    | 26, _ => exact lv_tableIn (off := 939) (tgt := 972) hx hb dL_law_33 (by decide) (by decide) (by decide) (by decide) (k_note hx hb hml hown hts hE hX hbl h hbd wC wR dj hS hl hi hL hc hs kk)
    | 27, _ => exact lv_tableIn (off := 972) (tgt := 1005) hx hb dL_law_33 (by decide) (by decide) (by decide) (by decide) (k_ruled hx hb hml hown hts hE hX hbl h hbd wC wR dj hS hl hi hL hc hs kk)
    | 28, _ => exact lv_tableIn (off := 995) (tgt := 1028) hx hb dL_law_33 (by decide) (by decide) (by decide) (by decide) (k_look hx hb hml hown hts hE hX hbl h hbd wC wR dj hS hl hi hL hc hs kk)
    | 29, _ => exact lv_tableIn (off := 1018) (tgt := 1051) hx hb dL_law_33 (by decide) (by decide) (by decide) (by decide) (k_seed hx hb hml hown hts hE hX hbl h hbd wC wR dj hS hl hi hL hc hs kk)
    | 30, _ => exact lv_tableIn (off := 1041) (tgt := 1074) hx hb dL_law_33 (by decide) (by decide) (by decide) (by decide) (k_years hx hb hml hown hts hE hX hbl h hbd wC wR dj hS hl hi hL hc hs kk)
    | 31, _ => exact lv_tableIn (off := 1094) (tgt := 1127) hx hb dL_law_33 (by decide) (by decide) (by decide) (by decide) (k_count hx hb hml hown hts hE hX hbl h hbd wC wR dj hS hl hi hL hc hs kk)
    | 32, _ => exact lv_tableIn (off := 1117) (tgt := 1150) hx hb dL_law_33 (by decide) (by decide) (by decide) (by decide) (k_image hx hb hml hown hts hE hX hbl h hbd wC wR dj hS hl hi hL hc hs kk)
    | 33, _ => exact lv_tableIn (off := 1140) (tgt := 1173) hx hb dL_law_33 (by decide) (by decide) (by decide) (by decide) (k_back hx hb hml hown hts hE hX hbl h hbd wC wR dj hS hl hi hL hc hs kk)
    | k + 34, hk => omega
  · refine lv_tableOut (tgt := 1196) hx hb dL_law_33 (Or.inr (by rw [nI_toInt (by omega)]; omega)) (by decide) ?_
    have := kk sh σC σR W0 rl im tp [] [] H locs 0 0 (by omega) (by omega) h (by omega) (by rw [List.append_nil]; exact wC) (by rw [List.append_nil]; exact wR) (by rw [List.append_nil, List.append_nil]; exact dj) hS
    exact this
set_option maxHeartbeats 4000000 in
theorem law_loop {p : Program} {l : Launch} {e : Env} {s : State} {m : MethodId} {below : List Frame} {meth : Method} {c : Code} {D : va_G} {sa sv : Nat → Nat} {b L : Nat} {xs : Nat → Int32} {sR : List kd} (hL : L ≤ 3072) (C0 : lw_At p s m meth c b L xs) (hE : i_E D sa sv (fun q : Nat => s.heap.size ≤ q) s s.heap) (hsR : 0 < sR.length) :
    ∀ (n j i : Nat), i = 6 * j → i ≤ L → L + 1 ≤ i + n → ∀ (cells slots : Nat) (adC adR : iA) (sh : List kd) (σC σR : St) (W0 : Wd) (rl : List Cl) (im : Im) (tp : List Nat) (H : Heap) (locs : List Loc) (ls : Array Slot), cells ≤ 302 + 300 * j → slots ≤ 17000 + 3000 * j → IV sh sR σC σR W0 rl im tp → sh.length ≤ 160 + 115 * j → i_Wd sa D (fun q : Nat => s.heap.size ≤ q) adC (s_h sh σC) s H → i_Wd sa D (fun q : Nat => s.heap.size ≤ q) adR (s_h sR σR) s H → i_apart (i_w sa adC (s_h sh σC)) (i_w sa adR (s_h sR σR)) → va_S (fun q : Nat => s.heap.size ≤ q) s.heap H locs → lv_has ls 4 [(0, .ref b), (1, i_mv sa adC (.ref 0)), (2, i_mv sa adR (.ref 0)), (3, .int (nI i))] →
      W p l e room_1 s m #[Value.ref b] below meth c H locs cells slots (lw_Z below #[Value.ref b] s) (F0 m 18 ls []) := by
  obtain ⟨hx, hb, hr, hml, hown, hts, hX, hbl, hlocks, hgv⟩ := C0
  have hA : ∀ q : Nat, s.heap.size ≤ q → (fun q : Nat => s.heap.size ≤ q) q := fun _ h => h
  have hbA : ¬ (fun q : Nat => s.heap.size ≤ q) b := Nat.not_le.mpr hbl
  have htb : ∀ w ∈ i_tb, w.before #[Value.ref b] s = true := fun w hw => hts w (List.mem_filter.mp hw).1
  intro n
  induction n with
  | zero =>
    intro j i h0 h1 h2
    exact absurd h2 (by omega)
  | succ n ih =>
    intro j i hij hiL hin cells slots adC adR sh σC σR W0 rl im tp H locs ls hc hs hIV hlen wC wR dj hS hl
    refine lv_iload_n hx hb dL_law_18 rfl (lv_at hl 3 rfl) ?_
    refine lv_aload_n hx hb dL_law_19 rfl (lv_at hl 0 rfl) ?_
    refine va_slen hx hb hX hbl hbA hS dL_law_20 ?_
    refine lv_bipush (v := 6) hx hb dL_law_21 (by decide) ?_
    refine lv_isub hx hb dL_law_23 ?_
    refine lv_icmp_gt (tgt := 1202) hx hb dL_law_24 (by decide) (fun c_10 => ?_) (fun c_10 => ?_)
    · refine lv_iconst (v := 1) hx hb dL_law_1202 (by decide) ?_
      refine va_forget (fun q hq => hS.2.2 q hq) ?_
      refine W.widen (k := 633637) (n := 7201338) (by omega) (by omega) ?_
      exact lw_ret hx hb hr hlocks dL_law_1203
    · have hi : i + 6 ≤ L := by
        rcases Nat.lt_or_ge L (i + 6) with q | q
        · exact absurd (lg_exit hiL hL (by omega)) c_10
        · exact q
      have hin2 : vp_in (nI i) L := vp_in_nI (by omega) (by omega)
      refine lv_aload_n hx hb dL_law_27 rfl (lv_at hl 0 rfl) ?_
      refine lv_iload_n hx hb dL_law_28 rfl (lv_at hl 3 rfl) ?_
      refine va_sld hx hb hX hbl hbA hS hin2 dL_law_29 ?_
      refine lv_bipush (v := 63) hx hb dL_law_30 (by decide) ?_
      refine lv_iand hx hb dL_law_32 ?_
      obtain ⟨k, hk, ek⟩ := pk_andE (xs (nI i).toNatClampNeg) (m := 63) 6 (by decide)
      rw [ek]
      refine lg_sw hx hb hml hown htb hE hX hbl hIV (by unfold i_SB; omega) wC wR dj hS hl hi hL (by omega) (by omega) ?_ hk
      intro sh' τC τR W1 rl1 im1 tp1 exC exR H1 locs1 mc ms hmc hms hIV1 hlen1 wC1 wR1 dj1 hS1
      refine lv_iinc (v := nI (i + 6)) (lv' := [(3, .int (nI (i + 6))), (0, .ref b), (1, i_mv sa adC (.ref 0)), (2, i_mv sa adR (.ref 0))]) hx hb dL_law_1196 hl (k := 3) rfl (by rw [← nI_add]; rfl) (by decide) rfl (fun ls hl => ?_)
      refine lv_goto (tgt := 18) hx hb dL_law_1199 (by decide) ?_
      have hl : lv_has ls 4 [(0, .ref b), (1, i_mv sa adC (.ref 0)), (2, i_mv sa adR (.ref 0)), (3, .int (nI (i + 6)))] := lv_sub hl [1, 2, 3, 0] rfl
      rw [← mv0 (ex := exC) (wC.1.trans s_h_len) (by have := cSh_len hIV.1.1; omega), ← mv0 (ex := exR) (wR.1.trans s_h_len) hsR] at hl
      exact ih (j + 1) (i + 6) (by omega) (by omega) (by omega) (cells + mc) (slots + ms) (adC ++ exC) (adR ++ exR) sh' τC τR W1 rl1 im1 tp1 H1 locs1 ls (by omega) (by omega) hIV1 (by omega) wC1 wR1 dj1 hS1 hl
