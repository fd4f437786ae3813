/-! ===== a call beside another world ===== -/
section IC2
variable {p : Program} {l : Launch} {e : Env} {R : Room} {s : State} {m : MethodId} {args : Array Value} {below : List Frame} {meth : Method} {c : Code} {H : Heap} {locs : List Loc} {cells slots : Nat} {Q : State → Prop}
variable {pc : Nat} {ls : Array Slot} {rest st0 : List Value} {a : Array Value} {A0 A1 : Nat → Prop} {H0 : Heap} {mc ms : Nat} {free : Addr → Prop} {D : va_G} {sa : Nat → Nat} {ad : iA} {v : Option Value} {h' : iH}
/-- behind a call: what the callee does not own is as it was -/
theorem i_call2 (hr : va_Run p l e R s m args below meth c H locs cells slots mc ms (F0 m pc ls st0) rest (i_Q D sa A1 ad v h' a) free) (hS : va_S A0 H0 H locs) (hA : ∀ q, q < H.size → A1 q → A0 q) (hf : ∀ q, free q → A0 q)
    (kk : ∀ (ex : iA) (t : State) (H1 : Heap) (locs1 : List Loc), t.heap = H1 → s.vm.Alike t.vm → i_Wd sa D A1 (ad ++ ex) h' t H1 → (∀ x, v = some x → i_okv h'.length x) → va_S A0 H0 H1 locs1 → H.size ≤ H1.size → (∀ q, q < H.size → ¬ A1 q → H1[q]? = H[q]?) → W p l e R s m args below meth c H1 locs1 (cells + mc) (slots + ms) Q (F0 m (pc + 3) ls ((v.map (i_mv sa (ad ++ ex))).toList ++ rest))) : W p l e R s m args below meth c H locs cells slots Q (F0 m pc ls st0) := by
  intro T hT X
  obtain ⟨w, st₀, t, T', L, h0, X', hL, e1, e2, ⟨⟨ex, hv, hw, hok⟩, hz, hk⟩, st⟩ := hr T hT X
  cases hv
  rw [h0] at hz hk
  obtain ⟨t2, a1, b1⟩ := kk ex t T'.heap (locs ++ L) e1.symm (by rw [← e2]; exact X'.warmed.alike) (by rw [e1]; exact hw) hok
    ⟨Nat.le_trans hS.1 (by rw [e1]; exact hz), fun q h1 h2 => by rw [e1, hk q (Nat.lt_of_lt_of_le h1 hS.1) (fun z => h2 (hA q (Nat.lt_of_lt_of_le h1 hS.1) z))]; exact hS.2.1 q h1 h2, fun q hq => by
      rcases List.mem_append.mp hq with h | h
      · exact hS.2.2 q h
      · exact hf _ (hL q h)⟩ (by rw [e1]; exact hz) (fun q h1 h2 => by rw [e1]; exact hk q h1 h2) T' rfl X'
  exact ⟨t2, st t2 a1, b1⟩
end IC2
/-- two worlds, apart -/
def i_apart (w1 w2 : va_W) : Prop := ∀ (i j : Nat) (p q : Nat × va_E), w1[i]? = some p → w2[j]? = some q → p.1 ≠ q.1
theorem i_two {sa : Nat → Nat} {D : va_G} {A0 : Nat → Prop} {adX adX' adY : iA} {hX hX' hY : iH} {s t : State} {H H1 : Heap} (wX : i_Wd sa D A0 adX hX s H) (wY : i_Wd sa D A0 adY hY s H) (dj : i_apart (i_w sa adX hX) (i_w sa adY hY)) (hA : ∀ q, H.size ≤ q → A0 q) (hvm : s.vm.Alike t.vm) (wX' : i_Wd sa D (va_A (i_w sa adX hX) H.size) adX' hX' t H1) (hk : ∀ q, q < H.size → ¬ va_A (i_w sa adX hX) H.size q → H1[q]? = H[q]?) :
    i_Wd sa D A0 adX' hX' s H1 ∧ i_Wd sa D A0 adY hY s H1 ∧ i_apart (i_w sa adX' hX') (i_w sa adY hY) := by
  have hlt : ∀ (j : Nat) (q : Nat × va_E), (i_w sa adY hY)[j]? = some q → q.1 < H.size := fun j q hq => (wY.2.2.1 j q hq).lt
  have hno : ∀ (j : Nat) (q : Nat × va_E), (i_w sa adY hY)[j]? = some q → ¬ va_A (i_w sa adX hX) H.size q.1 := by
    intro j q hq hA1
    rcases hA1 with ⟨k, e, hk2⟩ | h
    · exact dj k j (q.1, e) q hk2 hq rfl
    · have := hlt j q hq
      omega
  obtain ⟨x1, x2, x3, x4, x5⟩ := wX'
  obtain ⟨y1, y2, y3, y4, y5⟩ := wY
  refine ⟨⟨x1, x2, x3, x4.weaken (fun k q _ hq => ?_), x5.moved hvm.symm⟩, ⟨y1, y2, y3.kept (fun k q hq => hk q.1 (hlt k q hq) (hno k q hq)), y4, y5⟩, fun i j p q hp hq e => ?_⟩
  · rcases hq with ⟨k2, e, hk2⟩ | h
    · exact wX.2.2.2.1.2 k2 (q.1, e) hk2
    · exact hA _ h
  · have h1 := x4.2 i p hp
    rw [e] at h1
    exact hno j q hq h1
