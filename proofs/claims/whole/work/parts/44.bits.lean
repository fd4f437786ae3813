/-! ===== bits ===== -/
theorem sh_at : ∀ k : Nat, k < 32 → ((nI k &&& 31).toBitVec.smod 32) = BitVec.ofNat 32 k := by decide +kernel
theorem bit_at {x : Int32} {k : Nat} (hk : k < 32) : ((x >>> (nI k &&& 31)) &&& 1) = if x.toBitVec.getLsbD k = true then 1 else 0 := by
  apply Int32.toBitVec_inj.mp
  rw [Int32.toBitVec_and, Int32.toBitVec_shiftRight, sh_at k hk]
  have e : (if x.toBitVec.getLsbD k = true then (1 : Int32) else 0).toBitVec = if x.toBitVec.getLsbD k = true then 1#32 else 0#32 := by
    split <;> rfl
  rw [e]
  apply BitVec.eq_of_getLsbD_eq
  intro i hi
  have e1 : (1 : Int32).toBitVec = 1#32 := rfl
  rw [BitVec.getLsbD_and, e1]
  have e2 : (x.toBitVec.sshiftRight' (BitVec.ofNat 32 k)) = x.toBitVec.sshiftRight k := by
    unfold BitVec.sshiftRight'
    rw [BitVec.toNat_ofNat, Nat.mod_eq_of_lt (by omega)]
  rw [e2, BitVec.getLsbD_sshiftRight]
  by_cases h0 : i = 0
  · subst h0
    have : k + 0 < 32 := by omega
    simp [this]
    cases h : x.toBitVec.getLsbD k <;> simp [h] <;> omega
  · have h1 : (1#32).getLsbD i = false := by
      rw [BitVec.getLsbD_one]
      simp [h0]
    rw [h1, Bool.and_false]
    split
    · exact h1.symm
    · simp
theorem bit_0 {x : Int32} {k : Nat} (hk : k < 32) : ((x >>> (nI k &&& 31)) &&& 1) = 0 ↔ x.toBitVec.getLsbD k = false := by
  rw [bit_at hk]
  cases h : x.toBitVec.getLsbD k <;> simp
theorem bit_or {x y : Int32} {k : Nat} (hk : k < 32) : ((x ||| y) >>> (nI k &&& 31)) &&& 1 = 0 ↔ ((x >>> (nI k &&& 31)) &&& 1) = 0 ∧ ((y >>> (nI k &&& 31)) &&& 1) = 0 := by
  rw [bit_0 hk, bit_0 hk, bit_0 hk, Int32.toBitVec_or, BitVec.getLsbD_or]
  simp
theorem shl_at : ∀ j : Nat, j < 32 → ((nI j &&& 31).toBitVec.smod 32).toNat = j := by decide +kernel
theorem bit_one {j k : Nat} (hj : j < 31) (hk : k < 31) : (((1 : Int32) <<< (nI j &&& 31)) >>> (nI k &&& 31)) &&& 1 = 0 ↔ ¬ j = k := by
  rw [bit_0 (by omega)]
  have key : ∀ j k : Nat, j < 31 → k < 31 → (((1 : Int32) <<< (nI j &&& 31)).toBitVec.getLsbD k = false ↔ ¬ j = k) := by
    intro j k hj hk
    rw [Int32.toBitVec_shiftLeft, sh_at j (by omega)]
    have e1 : (1 : Int32).toBitVec = 1#32 := rfl
    rw [e1]
    have e2 : (1#32 <<< BitVec.ofNat 32 j) = 1#32 <<< j := by
      show 1#32 <<< (BitVec.ofNat 32 j).toNat = _
      rw [BitVec.toNat_ofNat, Nat.mod_eq_of_lt (by omega)]
    rw [e2, BitVec.getLsbD_shiftLeft, BitVec.getLsbD_one]
    simp
    omega
  exact key j k hj hk
