/-! the reference's loop over PEOPLE -/
theorem aR : a4 6 8 9 4 := ⟨by decide, by decide, by decide, by decide, by decide, by decide⟩
theorem c_3 : (3 : Int32).toNatClampNeg = 3 := by decide
theorem c_1 : (1 : Int32).toNatClampNeg = 1 := by decide
theorem c_2 : (2 : Int32).toNatClampNeg = 2 := by decide
theorem c_0 : (0 : Int32).toNatClampNeg = 0 := by decide
theorem c_4 : (4 : Int32).toNatClampNeg = 4 := by decide
theorem c_5 : (5 : Int32).toNatClampNeg = 5 := by decide
theorem c_6 : (6 : Int32).toNatClampNeg = 6 := by decide
theorem c_7 : (7 : Int32).toNatClampNeg = 7 := by decide
theorem c_8 : (8 : Int32).toNatClampNeg = 8 := by decide
theorem c_9 : (9 : Int32).toNatClampNeg = 9 := by decide
theorem c_10 : (10 : Int32).toNatClampNeg = 10 := by decide
theorem o_0 : i_ok 0 11 := by decide
theorem o_1 : i_ok 1 11 := by decide
theorem o_2 : i_ok 2 11 := by decide
theorem o_3 : i_ok 3 11 := by decide
theorem o_4 : i_ok 4 11 := by decide
theorem o_5 : i_ok 5 11 := by decide
theorem o_6 : i_ok 6 11 := by decide
theorem o_7 : i_ok 7 11 := by decide
theorem o_8 : i_ok 8 11 := by decide
theorem o_9 : i_ok 9 11 := by decide
theorem o_10 : i_ok 10 11 := by decide
theorem or_0 (x : Int32) : x ||| 0 = x := by
  apply Int32.toBitVec_inj.mp
  simp
theorem neg1_lt : (-1 : Int32) < 0 := by decide
theorem not_neg1 {x : Int32} (h : ¬ x < 0) : ¬ x = -1 := fun e => h (by rw [e]; decide)
set_option maxRecDepth 20000 in
theorem goesR_loop {sh : List kd} {σ : St} {held : Int32} {K : Int32 → Int32 → St → Option (Int32 × St)} {P : Nat} (hP : P ≤ 6) (hp : σ.2.1 1 3 = nI P) (hh : held = -1 ∨ ¬ held < 0) (tm : Nat → Int32) :
    ∀ (m n k : Nat) (q : Tn), k + m = P → m < n → fX12_goes_L9 sh held K n q.1 (nI k) (aSet σ 6 8 9 4 q.2.1 q.2.2.1 q.2.2.2 tm) =
      K (spTurns (σ.2.1 1 1) held (σ.2.1 7) m k q).1 (nI P) (aSet σ 6 8 9 4 (spTurns (σ.2.1 1 1) held (σ.2.1 7) m k q).2.1 (spTurns (σ.2.1 1 1) held (σ.2.1 7) m k q).2.2.1 (spTurns (σ.2.1 1 1) held (σ.2.1 7) m k q).2.2.2 tm) := by
  intro m
  induction m with
  | zero =>
    intro n k q hk hn
    obtain ⟨n, rfl⟩ : ∃ n', n = n' + 1 := ⟨n - 1, by omega⟩
    have hkP : k = P := by omega
    subst hkP
    rw [fX12_goes_L9]
    have h1 : (aSet σ 6 8 9 4 q.2.1 q.2.2.1 q.2.2.2 tm).2.1 1 3 = nI k := by rw [aSet_ro (by decide) (by decide) (by decide) (by decide)]; exact hp
    rw [if_pos o_3, c_3, h1, if_pos (nI_le (Nat.le_refl _) (by omega))]
    rfl
  | succ m ih =>
    intro n k q hk hn
    obtain ⟨n, rfl⟩ : ∃ n', n = n' + 1 := ⟨n - 1, by omega⟩
    have hk6 : i_ok (nI k) 6 := ok_nI (by omega) (by omega)
    have hcl : (nI k).toNatClampNeg = k := nI_clamp (by omega)
    obtain ⟨db, th, ti, bh⟩ := q
    have r1 : ∀ f1 f2 f3, (aSet σ 6 8 9 4 f1 f2 f3 tm).2.1 1 = σ.2.1 1 := fun _ _ _ => aSet_ro (by decide) (by decide) (by decide) (by decide)
    have r7 : ∀ f1 f2 f3, (aSet σ 6 8 9 4 f1 f2 f3 tm).2.1 7 = σ.2.1 7 := fun _ _ _ => aSet_ro (by decide) (by decide) (by decide) (by decide)
    rw [fX12_goes_L9]
    dsimp only
    unfold fX12_upTo
    simp only [if_pos o_3, if_pos o_1, c_3, c_1, r1, r7, hp, if_neg (nI_ge (show k < P by omega) (by omega)), if_pos hk6, hcl, i_jp, i_bd, aSet_r1, aSet_w1, upd_at, upd_upd]
    have hthank : (if th k + σ.2.1 7 k ≤ 999 then th k + σ.2.1 7 k else 999) = spThank (th k) (σ.2.1 7 k) := spThank_r _
    rw [hthank]
    have ihk := fun q' => ih n (k + 1) q' (by omega) (by omega)
    rw [spTurns]
    by_cases hc : spThank (th k) (σ.2.1 7 k) < σ.2.1 1 1
    · rw [if_pos hc]
      unfold fX12_goes_J112
      rw [nI_1, ihk (db, upd th k (spThank (th k) (σ.2.1 7 k)), ti, bh)]
      have e : spOne (σ.2.1 1 1) held (σ.2.1 7) k (db, th, ti, bh) = (db, upd th k (spThank (th k) (σ.2.1 7 k)), ti, bh) := by
        unfold spOne
        rw [if_pos hc]
      rw [e]
    · rw [if_neg hc]
      simp only [aSet_r2 aR, aSet_w2 aR, aSet_r3 aR, aSet_w3 aR]
      rcases hh with hh | hh
      · subst hh
        simp only [not_true_eq_false, if_false, or_0, upd_same]
        unfold fX12_goes_J112
        rw [nI_1, ihk (db ||| (1 <<< (nI k &&& 31)), upd th k 0, ti, upd bh k (bh k + 1))]
        have e : spOne (σ.2.1 1 1) (-1) (σ.2.1 7) k (db, th, ti, bh) = (db ||| (1 <<< (nI k &&& 31)), upd th k 0, ti, upd bh k (bh k + 1)) := by
          unfold spOne
          rw [if_neg hc, if_pos neg1_lt]
        rw [e]
      · have hne := not_neg1 hh
        simp only [if_pos hne, Int32.add_zero, upd_same]
        unfold fX12_goes_J112
        rw [nI_1, ihk (db ||| (1 <<< (nI k &&& 31)), upd th k 0, upd ti k (ti k ||| (1 <<< (held &&& 31))), bh)]
        have e : spOne (σ.2.1 1 1) held (σ.2.1 7) k (db, th, ti, bh) = (db ||| (1 <<< (nI k &&& 31)), upd th k 0, upd ti k (ti k ||| (1 <<< (held &&& 31))), bh) := by
          unfold spOne
          rw [if_neg hc, if_neg hh]
        rw [e]
