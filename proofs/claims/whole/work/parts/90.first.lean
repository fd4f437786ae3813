/-! ===== both are new: alike ===== -/
def Rn : Rl := ((0, 0, 0, 0), fun _ => 0, fun _ => 0, fun _ => 0, fun _ => 0, fun _ => 0)
def Wn : Wd := (Rn, lf0 Rn, [], [], -1, 0)
theorem trz {n : Nat} : tr n (fun _ => 0) = fun _ => 0 := by
  funext j
  unfold tr
  split <;> rfl
theorem IV_0 : IV shC shR s0C s0R Wn [] (fun _ => none) [] := by
  have hz : ∀ i, s0R.2.1 (i + 2) = fun _ => 0 := fun i => by
    show (if i + 2 = 1 then row1 else fun _ => 0) = _
    rw [if_neg (by omega)]
  have hRn : wfR Rn := ⟨by decide, by decide, by decide, fun _ => ⟨rfl, rfl⟩, fun h => absurd h (by decide)⟩
  refine ⟨⟨fun i _ => rfl, fun i _ => rfl, ⟨hRn, ⟨fun t ht => absurd ht (Nat.not_lt_zero _), fun t ht => absurd ht (Nat.not_lt_zero _)⟩, wfL_mono (by omega) lf0_wf, fun l hl => (by cases hl), Or.inl rfl, by decide⟩, ⟨?_, ?_, ⟨0, by omega, by decide +kernel, by decide +kernel, Nat.zero_le _, fun i l hl => (by cases hl)⟩, ⟨Nat.zero_le _, by decide +kernel, fun k q hq => (by cases hq)⟩, by decide +kernel, by decide +kernel⟩, ⟨?_, ?_, ⟨by decide +kernel, fun i l hl => (by cases hl)⟩, ⟨Nat.zero_le _, by decide +kernel, fun k q hq => (by cases hq)⟩, by decide +kernel, by decide +kernel⟩, ?_⟩, ⟨Nat.zero_le _, by decide +kernel, fun k cl hk => (by cases hk)⟩, ⟨Nat.zero_le _, by decide +kernel, fun k cl hk => (by cases hk)⟩, fun k hk => Or.inl ⟨rfl, rfl, rfl⟩, ⟨fun j k a W a' W' _ _ _ e => (by cases e), fun k q j a W hk => absurd hk (Nat.not_lt_zero _)⟩, ⟨Nat.zero_le _, by decide +kernel, by decide +kernel, fun k b hb => (by cases hb)⟩, ?_, by decide +kernel⟩
  · exact ⟨by decide +kernel, by decide +kernel, by decide +kernel, by decide +kernel, by decide +kernel, fun j hj => rfl, fun j hj => rfl, fun j hj => rfl, fun j hj => rfl, fun j hj => rfl⟩
  · show LfC s0C 26 = lf0 Rn
    unfold LfC lf0
    show ((s0C.1 26 0, s0C.1 26 1, s0C.1 26 2, s0C.1 26 3), tr 6 (fun _ => 0), tr 6 (fun _ => 0), tr 6 (fun _ => 0), tr 6 (fun _ => 0)) = _
    rw [show s0C.1 26 0 = 0 from by decide +kernel, show s0C.1 26 1 = -1 from by decide +kernel, show s0C.1 26 2 = -1 from by decide +kernel, show s0C.1 26 3 = 0 from by decide +kernel, trz]
    show _ = ((0, -1, -1, 0), tr 6 (fun _ => 0), _)
    rw [trz]
  · exact ⟨by decide +kernel, by decide +kernel, by decide +kernel, by decide +kernel, fun j hj => rfl, fun j hj => rfl, fun j hj => rfl, fun j hj => rfl, fun j hj => rfl⟩
  · show LfR s0R = lf0 Rn
    unfold LfR lf0
    rw [show s0R.2.1 1 4 = 0 from by decide +kernel, show s0R.2.1 1 5 = -1 from by decide +kernel, show s0R.2.1 1 6 = -1 from by decide +kernel, show s0R.2.1 1 7 = 0 from by decide +kernel, hz 4, hz 6, hz 7, hz 2, trz]
    show _ = ((0, -1, -1, 0), tr 6 (fun _ => 0), _)
    rw [trz]
  · intro i hi
    show fI 19 20 i = _
    unfold fI
    rw [if_pos hi]
  · intro row hr
    show (if 149 = 31 then fI 19 20 else if 149 = 149 then (fun j => if j < 7 then some (143 + 6 + 1 + j) else none) else fun _ => none) row = _
    rw [if_neg (by omega), if_pos rfl, if_pos hr]
