/-! ===== a call out of the law ===== -/
section LC
variable {p : Program} {l : Launch} {e : Env} {s : State} {m : MethodId} {args : Array Value} {below : List Frame} {meth : Method} {c : Code} {H : Heap} {locs : List Loc} {cells slots : Nat} {Q : State → Prop}
variable {D : va_G} {sa sv : Nat → Nat} {A0 : Nat → Prop} {adX adY : iA} {hX hX' hY : iH} {pc y k n mc ms ci : Nat} {ls : Array Slot} {As rest : List Value} {v : Int32} {M2 : iM} {fs : List Value}
theorem law_V (hx : p.tables.exec = Jvm.exec) (hb : c.code = code) (hml : c.maxLocals = 4) (hown : s.vm.findClass RL = some m.cls) (hts : ∀ w ∈ i_tb, w.before args s = true) (hE : i_E D sa sv A0 s s.heap) (hA : ∀ q, s.heap.size ≤ q → A0 q)
    (hM2 : i_mT[y]? = some M2) (hlk : Cond.methodLink RL k M2.2.1 ∈ i_tb) (hyn : i_yn M2.2.1 n = true) (hnn : M2.2.1.name ≠ "<init>") (hst : i_stc y = false) (hX9 : i_X 80 y (.ref 0 :: As) hX mc ms (some (.int v)) hX') (hoA : i_okl hX.length (.ref 0 :: As)) (hAl : As.length = n) (hh : hX[0]? = some (.inr (ci, fs))) (hcl : (vwCl[ci]?).map (fun z => z.1) = some (i_mc_ y)) (hAm : As.map (i_mv sa adX) = As)
    (wX : i_Wd sa D A0 adX hX s H) (wY : i_Wd sa D A0 adY hY s H) (dj : i_apart (i_w sa adX hX) (i_w sa adY hY)) (hS : va_S A0 s.heap H locs) (hls : ls.size = 4) (hcat : (rest.map fun v => v.category).sum ≤ 8) (hc : cells + mc ≤ 633637) (hsl : slots + ms ≤ 7201338) (hd : decode code pc = .ok (.invokevirtual k, 3))
    (kk : ∀ (ex : iA) (H1 : Heap) (locs1 : List Loc), i_Wd sa D A0 (adX ++ ex) hX' s H1 → i_Wd sa D A0 adY hY s H1 → i_apart (i_w sa (adX ++ ex) hX') (i_w sa adY hY) → va_S A0 s.heap H1 locs1 → W p l e room_1 s m args below meth c H1 locs1 (cells + mc) (slots + ms) Q (F0 m (pc + 3) ls (.int v :: rest))) :
    W p l e room_1 s m args below meth c H locs cells slots Q (F0 m pc ls (As.reverse ++ i_mv sa adX (.ref 0) :: rest)) := by
  obtain ⟨o1, o2, o3, o4, o5, o6, o7, o8, o9⟩ := i_mokA y M2 hM2
  have hM := i_soundA l D sa sv hX9
  have hFc : ∀ q, va_A (i_w sa adX hX) H.size q → A0 q := fun q hq => by
    rcases hq with ⟨k, e9, h9⟩ | h9
    · exact wX.2.2.2.1.2 k _ h9
    · exact hA q (Nat.le_trans hS.1 h9)
  have hPre : ∀ U : State, U.heap = H → s.WarmedH U.vm → U.heap.size = H.size ∧ i_Wd sa D (fun _ => True) adX hX U U.heap ∧ i_E D sa sv (va_A (i_w sa adX hX) H.size) U U.heap := fun U hU hW => by
    rw [hU]
    exact ⟨rfl, ⟨wX.1, wX.2.1, wX.2.2.1, wX.2.2.2.1.weaken (fun _ _ _ _ => trivial), wX.2.2.2.2.moved hW.alike⟩, hE.warm hW hS.2.1 hFc⟩
  have hRm : (i_rm 80 mc ms).frames + 1 ≤ room_1.frames ∧ 8 + (M2.2.2.2.1 + 11) + (i_rm 80 mc ms).locals ≤ room_1.locals := by
    simp only [i_rm, room_1]
    omega
  obtain ⟨g, hg, hgc⟩ := Option.map_eq_some_iff.mp hcl
  have hgc2 : g.1 = M2.2.1.cls := by
    rw [hgc]
    unfold i_mc_
    rw [hM2]
    rfl
  have he := i_w_at (sa := sa) wX.1 wX.2.1.1 hh
  have hrv := va_recv hE.1 wX.2.2.1 hg he
  rw [hgc2] at hrv
  have hMM := hM M2 hM2 hoA adX H.size
  refine i_call2 (va_runV (As := As) (C := M2.2.1.cls) (n := n) ⟨hx, hb, hml, hown, hts⟩ hMM (cwV n hts (i_gV hlk (o5 hst).1 ((o5 hst).2 hnn) o3 o2) rfl rfl rfl ⟨rfl, o7, o8, of_decide_eq_true hyn⟩ hRm) ⟨i_Pre.blind, hrv, fun U hU hW => ⟨by rw [List.map_cons, hAm]; rfl, hPre U hU hW⟩⟩ rfl hAl hls rfl (lv_room hcat) hd ⟨hc, hsl⟩) hS (fun q _ hq => hFc q hq) hFc ?_
  intro ex t H1 locs1 ht hal hwd hok hS1 hsz hkp
  obtain ⟨r1, r2, r3⟩ := i_two wX wY dj (fun q hq => hA q (Nat.le_trans hS.1 hq)) hal hwd hkp
  exact kk ex H1 locs1 r1 r2 r3 hS1
end LC
section LCI
variable {p : Program} {l : Launch} {e : Env} {s : State} {m : MethodId} {args : Array Value} {below : List Frame} {meth : Method} {c : Code} {H : Heap} {locs : List Loc} {cells slots : Nat} {Q : State → Prop}
variable {D : va_G} {sa sv : Nat → Nat} {A0 : Nat → Prop} {adX adY : iA} {hX hX' hY : iH} {pc y k mc ms : Nat} {ls : Array Slot} {rest : List Value} {M2 : iM}
/-- a constructor out of the law -/
theorem law_I (hx : p.tables.exec = Jvm.exec) (hb : c.code = code) (hml : c.maxLocals = 4) (hown : s.vm.findClass RL = some m.cls) (hts : ∀ w ∈ i_tb, w.before args s = true) (hE : i_E D sa sv A0 s s.heap) (hA : ∀ q, s.heap.size ≤ q → A0 q)
    (hM2 : i_mT[y]? = some M2) (hlk : Cond.methodLink RL k M2.2.1 ∈ i_tb) (hyn : i_yn M2.2.1 0 = true) (hnn : M2.2.1.name = "<init>") (hrt : M2.2.2.2.2.1 = none) (hst : i_stc y = false) (hX9 : i_X 80 y [.ref 0] hX mc ms none hX') (hoA : i_okl hX.length [.ref 0])
    (wX : i_Wd sa D A0 adX hX s H) (wY : i_Wd sa D A0 adY hY s H) (dj : i_apart (i_w sa adX hX) (i_w sa adY hY)) (hS : va_S A0 s.heap H locs) (hls : ls.size = 4) (hcat : (rest.map fun v => v.category).sum ≤ 8) (hc : cells + mc ≤ 633637) (hsl : slots + ms ≤ 7201338) (hd : decode code pc = .ok (.invokespecial k, 3))
    (kk : ∀ (ex : iA) (H1 : Heap) (locs1 : List Loc), i_Wd sa D A0 (adX ++ ex) hX' s H1 → i_Wd sa D A0 adY hY s H1 → i_apart (i_w sa (adX ++ ex) hX') (i_w sa adY hY) → va_S A0 s.heap H1 locs1 → W p l e room_1 s m args below meth c H1 locs1 (cells + mc) (slots + ms) Q (F0 m (pc + 3) ls rest)) :
    W p l e room_1 s m args below meth c H locs cells slots Q (F0 m pc ls (i_mv sa adX (.ref 0) :: rest)) := by
  obtain ⟨o1, o2, o3, o4, o5, o6, o7, o8, o9⟩ := i_mokA y M2 hM2
  have hM := i_soundA l D sa sv hX9
  have hFc : ∀ q, va_A (i_w sa adX hX) H.size q → A0 q := fun q hq => by
    rcases hq with ⟨k, e9, h9⟩ | h9
    · exact wX.2.2.2.1.2 k _ h9
    · exact hA q (Nat.le_trans hS.1 h9)
  have hPre : ∀ U : State, U.heap = H → s.WarmedH U.vm → U.heap.size = H.size ∧ i_Wd sa D (fun _ => True) adX hX U U.heap ∧ i_E D sa sv (va_A (i_w sa adX hX) H.size) U U.heap := fun U hU hW => by
    rw [hU]
    exact ⟨rfl, ⟨wX.1, wX.2.1, wX.2.2.1, wX.2.2.2.1.weaken (fun _ _ _ _ => trivial), wX.2.2.2.2.moved hW.alike⟩, hE.warm hW hS.2.1 hFc⟩
  have hRm : (i_rm 80 mc ms).frames + 1 ≤ room_1.frames ∧ 8 + (M2.2.2.2.1 + 11) + (i_rm 80 mc ms).locals ≤ room_1.locals := by
    simp only [i_rm, room_1]
    omega
  have hMM := hM M2 hM2 hoA adX H.size
  have hws : i_ws M2 = Cond.code M2.2.1 M2.2.2.1 M2.2.2.2.1 none :: i_tb := by unfold i_ws; rw [hrt]
  rw [hrt] at o2
  rw [hws] at hMM
  refine i_call2 (va_runI (As := []) (n := 0) ⟨hx, hb, hml, hown, hts⟩ hMM (cwI 0 hts (i_gI o2) rfl rfl rfl (hts _ o3) (hts _ hlk) (hts _ (o5 hst).1) hnn ⟨o7, o8, of_decide_eq_true hyn⟩ hRm) ⟨i_Pre.blind, fun U hU hW => ⟨rfl, hPre U hU hW⟩⟩ rfl rfl hls rfl (lv_room hcat) hd ⟨hc, hsl⟩) hS (fun q _ hq => hFc q hq) hFc ?_
  intro ex t H1 locs1 ht hal hwd hok hS1 hsz hkp
  obtain ⟨r1, r2, r3⟩ := i_two wX wY dj (fun q hq => hA q (Nat.le_trans hS.1 hq)) hal hwd hkp
  exact kk ex H1 locs1 r1 r2 r3 hS1
end LCI
