/-! ===== images of the reference; back ===== -/
noncomputable def seqK (sh : List kd) : List (Nat × Nat) → St → (St → Option (Unit × St)) → Option (Unit × St)
  | [], σ, K => K σ
  | q :: ps, σ, K => i_bd (fX12_carryRow sh σ q.1) (fun _ s => seqK sh ps s K)
def caFr (σ τ : St) : Prop := (∀ i q, ¬ (i = 0 ∧ q = 51) → τ.1 i q = σ.1 i q) ∧ τ.2.2 = σ.2.2
theorem carsF {sh : List kd} : ∀ (ps : List (Nat × Nat)) (σ : St) (b : Nat), (∀ q, q ∈ ps → sh[q.1]? = some (.inl (.int, q.2)) ∧ q.1 ≠ 36) → σ.1 0 52 = 0 → σ.1 0 51 = nI b → b + tot ps ≤ 3500 →
    ∃ τ, (∀ K, seqK sh ps σ K = K τ) ∧ τ.1 0 51 = nI (b + tot ps) ∧ caFr σ τ ∧ (∀ i, i ≠ 36 → τ.2.1 i = σ.2.1 i) ∧ (∀ j, j < b ∨ b + tot ps ≤ j → τ.2.1 36 j = σ.2.1 36 j) ∧ laid (τ.2.1 36) σ b ps
  | [], σ, b, _, _, h51, _ => ⟨σ, fun _ => rfl, h51, ⟨fun _ _ _ => rfl, rfl⟩, fun _ _ => rfl, fun _ _ => rfl, trivial⟩
  | q :: ps, σ, b, hs, h52, h51, hb => by
    have et : tot (q :: ps) = q.2 + tot ps := rfl
    rw [et] at hb ⊢
    obtain ⟨s1, s2⟩ := hs q (List.mem_cons_self ..)
    have e1 := carryF (σ := σ) s1 s2 h52 h51 (by omega)
    have f1 : (s_F (s_C σ q.1 36 0 b q.2) 0 51 (nI (b + q.2))).1 0 52 = 0 := by rw [s_F_rd, if_neg (by omega), s_C_F]; exact h52
    have f2 : (s_F (s_C σ q.1 36 0 b q.2) 0 51 (nI (b + q.2))).1 0 51 = nI (b + q.2) := by rw [s_F_rd, if_pos ⟨rfl, rfl⟩]
    have f3 : caFr σ (s_F (s_C σ q.1 36 0 b q.2) 0 51 (nI (b + q.2))) := ⟨fun i k hk => by rw [s_F_rd, if_neg hk, s_C_F], rfl⟩
    have f4 : ∀ i, i ≠ 36 → (s_F (s_C σ q.1 36 0 b q.2) 0 51 (nI (b + q.2))).2.1 i = σ.2.1 i := fun i hi => by rw [s_F_A, s_C_ne hi]
    have f5 : ∀ j, j < b ∨ b + q.2 ≤ j → (s_F (s_C σ q.1 36 0 b q.2) 0 51 (nI (b + q.2))).2.1 36 j = σ.2.1 36 j := fun j hj => by rw [s_F_A, s_C_at, cpy_out hj]
    have f6 : ∀ j, j < q.2 → (s_F (s_C σ q.1 36 0 b q.2) 0 51 (nI (b + q.2))).2.1 36 (b + j) = σ.2.1 q.1 j := fun j hj => by rw [s_F_A, s_C_at, cpy_in (by omega) (by omega), show 0 + (b + j - b) = j by omega]
    generalize s_F (s_C σ q.1 36 0 b q.2) 0 51 (nI (b + q.2)) = s at e1 f1 f2 f3 f4 f5 f6
    obtain ⟨τ, t1, t2, t3, t4, t5, t6⟩ := carsF ps s (b + q.2) (fun p hp => hs p (List.mem_cons_of_mem _ hp)) f1 f2 (by omega)
    refine ⟨τ, fun K => ?_, by rw [t2, Nat.add_assoc], ⟨fun i k hk => (t3.1 i k hk).trans (f3.1 i k hk), t3.2.trans f3.2⟩, fun i hi => (t4 i hi).trans (f4 i hi), fun j hj => (t5 j (by omega)).trans (f5 j (by omega)), fun j hj => (t5 _ (by omega)).trans (f6 j hj), ?_⟩
    · show i_bd (fX12_carryRow sh σ q.1) _ = _
      rw [e1, bd_some]
      exact t1 K
    · have hl : ∀ (ps : List (Nat × Nat)) (c : Nat), (∀ p, p ∈ ps → p.1 ≠ 36) → laid (τ.2.1 36) s c ps → laid (τ.2.1 36) σ c ps := by
        intro ps
        induction ps with
        | nil => intro c _ _; trivial
        | cons p ps ih => intro c hp h; exact ⟨fun j hj => (h.1 j hj).trans (by rw [f4 p.1 (hp p (List.mem_cons_self ..))]), ih _ (fun p' hp' => hp p' (List.mem_cons_of_mem _ hp')) h.2⟩
      exact hl ps _ (fun p hp => (hs p (List.mem_cons_of_mem _ hp)).2) t6
theorem carsB {sh : List kd} : ∀ (ps : List (Nat × Nat)) (σ : St) (b : Nat), (∀ q, q ∈ ps → sh[q.1]? = some (.inl (.int, q.2)) ∧ q.1 ≠ 36) → (ps.map Prod.fst).Nodup → σ.1 0 52 = 1 → σ.1 0 51 = nI b → b + tot ps ≤ 3500 →
    ∃ τ, (∀ K, seqK sh ps σ K = K τ) ∧ τ.1 0 51 = nI (b + tot ps) ∧ caFr σ τ ∧ (∀ i, i ∉ ps.map Prod.fst → τ.2.1 i = σ.2.1 i) ∧ laid (σ.2.1 36) τ b ps
  | [], σ, b, _, _, _, h51, _ => ⟨σ, fun _ => rfl, h51, ⟨fun _ _ _ => rfl, rfl⟩, fun _ _ => rfl, trivial⟩
  | q :: ps, σ, b, hs, hn, h52, h51, hb => by
    have et : tot (q :: ps) = q.2 + tot ps := rfl
    rw [et] at hb ⊢
    obtain ⟨s1, s2⟩ := hs q (List.mem_cons_self ..)
    rw [List.map_cons, List.nodup_cons] at hn
    have e1 := carryB (σ := σ) s1 s2 h52 h51 (by omega)
    have f1 : (s_F (s_C σ 36 q.1 b 0 q.2) 0 51 (nI (b + q.2))).1 0 52 = 1 := by rw [s_F_rd, if_neg (by omega), s_C_F]; exact h52
    have f2 : (s_F (s_C σ 36 q.1 b 0 q.2) 0 51 (nI (b + q.2))).1 0 51 = nI (b + q.2) := by rw [s_F_rd, if_pos ⟨rfl, rfl⟩]
    have f3 : caFr σ (s_F (s_C σ 36 q.1 b 0 q.2) 0 51 (nI (b + q.2))) := ⟨fun i k hk => by rw [s_F_rd, if_neg hk, s_C_F], rfl⟩
    have f4 : ∀ i, i ≠ q.1 → (s_F (s_C σ 36 q.1 b 0 q.2) 0 51 (nI (b + q.2))).2.1 i = σ.2.1 i := fun i hi => by rw [s_F_A, s_C_ne hi]
    have f6 : ∀ j, j < q.2 → (s_F (s_C σ 36 q.1 b 0 q.2) 0 51 (nI (b + q.2))).2.1 q.1 j = σ.2.1 36 (b + j) := fun j hj => by rw [s_F_A, s_C_at, cpy_in (by omega) (by omega), Nat.sub_zero]
    generalize s_F (s_C σ 36 q.1 b 0 q.2) 0 51 (nI (b + q.2)) = s at e1 f1 f2 f3 f4 f6
    obtain ⟨τ, t1, t2, t3, t4, t5⟩ := carsB ps s (b + q.2) (fun p hp => hs p (List.mem_cons_of_mem _ hp)) hn.2 f1 f2 (by omega)
    have h36 : s.2.1 36 = σ.2.1 36 := f4 36 (Ne.symm s2)
    rw [h36] at t5
    refine ⟨τ, fun K => ?_, by rw [t2, Nat.add_assoc], ⟨fun i k hk => (t3.1 i k hk).trans (f3.1 i k hk), t3.2.trans f3.2⟩, fun i hi => ?_, fun j hj => ?_, t5⟩
    · show i_bd (fX12_carryRow sh σ q.1) _ = _
      rw [e1, bd_some]
      exact t1 K
    · rw [List.map_cons, List.mem_cons] at hi
      rw [t4 i (fun e => hi (Or.inr e)), f4 i (fun e => hi (Or.inl e))]
    · rw [t4 q.1 hn.1, f6 j hj]
theorem rows1_sh {sh : List kd} (h : rmSh sh) : ∀ q, q ∈ rows1 → sh[q.1]? = some (.inl (.int, q.2)) ∧ q.1 ≠ 36 := by
  intro q hq
  simp only [rows1, List.mem_cons, List.not_mem_nil, or_false] at hq
  rcases hq with e | e | e | e | e
  · subst e; exact ⟨sR_1 h, by decide⟩
  · subst e; exact ⟨sR_4 h, by decide⟩
  · subst e; exact ⟨sR_6 h, by decide⟩
  · subst e; exact ⟨sR_8 h, by decide⟩
  · subst e; exact ⟨sR_9 h, by decide⟩
theorem rows2_sh {sh : List kd} (h : rmSh sh) : ∀ q, q ∈ rows2 → sh[q.1]? = some (.inl (.int, q.2)) ∧ q.1 ≠ 36 := by
  intro q hq
  simp only [rows2, List.mem_cons, List.not_mem_nil, or_false] at hq
  rcases hq with e | e | e | e | e | e | e | e
  · subst e; exact ⟨sR_2 h, by decide⟩
  · subst e; exact ⟨sR_3 h, by decide⟩
  · subst e; exact ⟨sR_5 h, by decide⟩
  · subst e; exact ⟨sR_7 h, by decide⟩
  · subst e; exact ⟨sR_10 h, by decide⟩
  · subst e; exact ⟨sR_11 h, by decide⟩
  · subst e; exact ⟨sR_12 h, by decide⟩
  · subst e; exact ⟨sR_29 h, by decide⟩
theorem row30_sh {sh : List kd} (h : rmSh sh) : ∀ q, q ∈ [((30 : Nat), (1 : Nat))] → sh[q.1]? = some (.inl (.int, q.2)) ∧ q.1 ≠ 36 := by
  intro q hq
  simp only [List.mem_cons, List.not_mem_nil, or_false] at hq
  subst hq
  exact ⟨sR_30 h, by decide⟩
theorem ok01 : i_ok 0 1 := by decide
theorem carry_eq {sh : List kd} {σ : St} {p1 p2 : Int32} (h : i_okf .boolean (.int p2) = true) (h4 : ¬ p1 = 4) : fX12_carriesAll sh σ p1 p2 = seqK sh rows1 (s_F (s_F σ 0 51 (700 * p1)) 0 52 p2) (fun s15 => seqK sh [(30, 1)] (s_A s15 30 0 (s15.1 0 41)) (fun s20 => seqK sh rows2 (s_F s20 0 41 (s20.2.1 30 0)) (fun s45 => some ((), s45)))) := by
  unfold fX12_carriesAll
  rw [if_pos h]
  simp only [if_pos h4, if_pos ok01, c_0]
  rfl
theorem i700 : ∀ k : Nat, k < 4 → 700 * nI k = nI (700 * k) ∧ ¬ nI k = 4 := by decide
/-- an IMAGE is made -/
theorem imageR {sh : List kd} (hsh : rmSh sh) {σ : St} {k : Nat} (hk : k < 4) : ∃ τ, fX12_carriesAll sh σ (nI k) 0 = some ((), τ) ∧ (∀ i, i ≠ 30 → i ≠ 36 → τ.2.1 i = σ.2.1 i) ∧ (∀ i q, ¬ (i = 0 ∧ (q = 51 ∨ q = 52)) → τ.1 i q = σ.1 i q) ∧ τ.2.2 = σ.2.2 ∧ (∀ j, j < 700 * k ∨ 700 * k + 700 ≤ j → τ.2.1 36 j = σ.2.1 36 j) ∧ laid (τ.2.1 36) σ (700 * k) rows1 ∧ τ.2.1 36 (700 * k + 35) = σ.1 0 41 ∧ laid (τ.2.1 36) σ (700 * k + 36) rows2 := by
  obtain ⟨e7, e4⟩ := i700 k hk
  rw [carry_eq okf0 e4, e7]
  have t1 : tot rows1 = 35 := rfl
  have t2 : tot rows2 = 616 := rfl
  have b1 : (s_F (s_F σ 0 51 (nI (700 * k))) 0 52 0).1 0 52 = 0 := by rw [s_F_rd, if_pos ⟨rfl, rfl⟩]
  have b2 : (s_F (s_F σ 0 51 (nI (700 * k))) 0 52 0).1 0 51 = nI (700 * k) := by rw [s_F_rd, if_neg (by omega), s_F_rd, if_pos ⟨rfl, rfl⟩]
  have b3 : ∀ i q, ¬ (i = 0 ∧ (q = 51 ∨ q = 52)) → (s_F (s_F σ 0 51 (nI (700 * k))) 0 52 0).1 i q = σ.1 i q := fun i q hq => by rw [s_F_rd, if_neg (by omega), s_F_rd, if_neg (by omega)]
  have b4 : (s_F (s_F σ 0 51 (nI (700 * k))) 0 52 0).2 = σ.2 := rfl
  generalize s_F (s_F σ 0 51 (nI (700 * k))) 0 52 0 = s0 at b1 b2 b3 b4
  obtain ⟨s1, p1, p2, p3, p4, p5, p6⟩ := carsF rows1 s0 (700 * k) (rows1_sh hsh) b1 b2 (by omega)
  rw [t1] at p2 p5
  rw [p1]
  have c1 : (s_A s1 30 0 (s1.1 0 41)).1 = s1.1 := rfl
  have c2 : ∀ i, i ≠ 30 → (s_A s1 30 0 (s1.1 0 41)).2.1 i = s1.2.1 i := fun i hi => s_A_ne hi
  have c3 : (s_A s1 30 0 (s1.1 0 41)).2.1 30 0 = s1.1 0 41 := s_A_at
  have c4 : (s_A s1 30 0 (s1.1 0 41)).2.2 = s1.2.2 := rfl
  generalize s_A s1 30 0 (s1.1 0 41) = s2 at c1 c2 c3 c4
  obtain ⟨s3, q1, q2, q3, q4, q5, q6⟩ := carsF [(30, 1)] s2 (700 * k + 35) (row30_sh hsh) (by rw [c1, p3.1 0 52 (by omega)]; exact b1) (by rw [c1]; exact p2) (by show _ + (1 + 0) ≤ _; omega)
  have t3 : tot [((30 : Nat), (1 : Nat))] = 1 := rfl
  rw [t3] at q2 q5
  rw [q1]
  have e41 : s3.2.1 30 0 = σ.1 0 41 := by rw [q4 30 (by decide), c3, p3.1 0 41 (by omega), b3 0 41 (by omega)]
  have f41 : s3.1 0 41 = σ.1 0 41 := by rw [q3.1 0 41 (by omega), c1, p3.1 0 41 (by omega), b3 0 41 (by omega)]
  rw [s_F_self (show s3.1 0 41 = s3.2.1 30 0 from f41.trans e41.symm)]
  obtain ⟨s4, r1, r2, r3, r4, r5, r6⟩ := carsF rows2 s3 (700 * k + 36) (rows2_sh hsh) (by rw [q3.1 0 52 (by omega), c1, p3.1 0 52 (by omega)]; exact b1) (by rw [q2]) (by omega)
  rw [t2] at r5
  rw [r1]
  have hrow : ∀ i, i ≠ 30 → i ≠ 36 → s4.2.1 i = σ.2.1 i := fun i h1 h2 => by rw [r4 i h2, q4 i h2, c2 i h1, p4 i h2, b4]
  have hl : ∀ (s : St) (ps : List (Nat × Nat)) (f : Nat → Int32) (c : Nat), (∀ p, p ∈ ps → s.2.1 p.1 = σ.2.1 p.1) → laid f s c ps → laid f σ c ps := by
    intro s ps f
    induction ps with
    | nil => intro c _ _; trivial
    | cons p ps ih => intro c hp h; exact ⟨fun j hj => (h.1 j hj).trans (by rw [hp p (List.mem_cons_self ..)]), ih _ (fun p' hp' => hp p' (List.mem_cons_of_mem _ hp')) h.2⟩
  refine ⟨s4, rfl, hrow, fun i q hq => ?_, ?_, fun j hj => ?_, ?_, ?_, ?_⟩
  · rw [r3.1 i q (by omega), q3.1 i q (by omega), c1, p3.1 i q (by omega), b3 i q hq]
  · rw [r3.2, q3.2, c4, p3.2, b4]
  · rw [r5 j (by omega), q5 j (by omega), c2 36 (by decide), p5 j (by omega), b4]
  · refine laid_ext rows1 (700 * k) (fun j h1 h2 => ?_) (hl s0 rows1 _ _ (fun p _ => by rw [b4]) p6)
    rw [t1] at h2
    rw [r5 j (by omega), q5 j (by omega), c2 36 (by decide)]
  · rw [r5 _ (by omega)]
    have := q6.1 0 (by decide)
    rw [Nat.add_zero] at this
    rw [this, c3, p3.1 0 41 (by omega), b3 0 41 (by omega)]
  · refine hl s3 rows2 _ _ (fun p hp => ?_) r6
    have h36 := (rows2_sh hsh p hp).2
    have h30 : p.1 ≠ 30 := by
      simp only [rows2, List.mem_cons, List.not_mem_nil, or_false] at hp
      rcases hp with e | e | e | e | e | e | e | e
      all_goals subst e; decide
    rw [q4 p.1 h36, c2 p.1 h30, p4 p.1 h36, b4]
theorem hdR_ext {ρ τ : St} {W : Wd} (e41 : τ.1 0 41 = ρ.1 0 41) (e1 : ∀ j, j < 11 → τ.2.1 1 j = ρ.2.1 1 j) (e4 : ∀ j, j < 6 → τ.2.1 4 j = ρ.2.1 4 j) (e6 : ∀ j, j < 6 → τ.2.1 6 j = ρ.2.1 6 j) (e8 : ∀ j, j < 6 → τ.2.1 8 j = ρ.2.1 8 j) (e9 : ∀ j, j < 6 → τ.2.1 9 j = ρ.2.1 9 j) (e2 : ∀ j, j < 6 → τ.2.1 2 j = ρ.2.1 2 j) (e3 : ∀ j, j < 6 → τ.2.1 3 j = ρ.2.1 3 j) (e5 : ∀ j, j < 12 → τ.2.1 5 j = ρ.2.1 5 j) (e7 : ∀ j, j < 6 → τ.2.1 7 j = ρ.2.1 7 j) (e10 : ∀ j, j < 10 → τ.2.1 10 j = ρ.2.1 10 j) (e11 : ∀ j, j < 10 → τ.2.1 11 j = ρ.2.1 11 j) (e12 : ∀ j, j < 6 → τ.2.1 12 j = ρ.2.1 12 j) (e29 : ∀ j, j < 560 → τ.2.1 29 j = ρ.2.1 29 j) (hR : wfR W.1) (hp : W.2.2.1.length ≤ 20) (h : hdR ρ W) : hdR τ W := by
  obtain ⟨d1, d2, d3, d4, d5, d6⟩ := h
  have hT := hR.2.1
  have hP := hR.2.2.1
  refine ⟨⟨?_, ?_, ?_, ?_, fun j hj => ?_, fun j hj => ?_, fun j hj => ?_, fun j hj => ?_, fun j hj => ?_⟩, ?_, ⟨by rw [e41]; exact d3.1, fun i l hi => ?_⟩, ⟨d4.1, ?_, fun k q hq => ?_⟩, ?_, ?_⟩
  · rw [e1 0 (by omega)]; exact d1.1
  · rw [e1 1 (by omega)]; exact d1.2.1
  · rw [e1 2 (by omega)]; exact d1.2.2.1
  · rw [e1 3 (by omega)]; exact d1.2.2.2.1
  · rw [e2 j (by omega)]; exact d1.2.2.2.2.1 j hj
  · rw [e3 j (by omega)]; exact d1.2.2.2.2.2.1 j hj
  · rw [e5 j (by omega)]; exact d1.2.2.2.2.2.2.1 j hj
  · rw [e12 j (by omega)]; exact d1.2.2.2.2.2.2.2.1 j hj
  · rw [e7 j (by omega)]; exact d1.2.2.2.2.2.2.2.2 j hj
  · refine Eq.trans ?_ d2
    unfold LfR
    rw [e1 4 (by omega), e1 5 (by omega), e1 6 (by omega), e1 7 (by omega), tr_ext e6, tr_ext e8, tr_ext e9, tr_ext e4]
  · have hi0 : i < W.2.2.1.length := (List.getElem?_eq_some_iff.mp hi).1
    exact lfAt_ext (d3.2 i l hi) (fun j h1 h2 => e29 j (by omega))
  · rw [e1 8 (by omega)]; exact d4.2.1
  · have hk0 : k < W.2.2.2.1.length := (List.getElem?_eq_some_iff.mp hq).1
    have := d4.1
    rw [e10 k (by omega), e11 k (by omega)]
    exact d4.2.2 k q hq
  · rw [e1 10 (by omega)]; exact d5
  · rw [e1 9 (by omega)]; exact d6
/-- an IMAGE is gone back to -/
theorem backR {sh : List kd} (hsh : rmSh sh) {σ : St} {k : Nat} {W : Wd} (hk : k < 4) (hR : wfR W.1) (hp : W.2.2.1.length ≤ 20) (h : imR σ k W) : ∃ τ, fX12_carriesAll sh σ (nI k) 1 = some ((), τ) ∧ hdR τ W ∧ (∀ i, (19 ≤ i ∧ i ≤ 25) ∨ i = 36 ∨ i = 37 → τ.2.1 i = σ.2.1 i) ∧ τ.1 0 19 = σ.1 0 19 ∧ (τ.1 0 23 = σ.1 0 23 ∧ τ.1 0 28 = σ.1 0 28) := by
  obtain ⟨ρ, h1, h2, h3, h4⟩ := h
  obtain ⟨e7, e4⟩ := i700 k hk
  rw [carry_eq okf1 e4, e7]
  have t1 : tot rows1 = 35 := rfl
  have t2 : tot rows2 = 616 := rfl
  have b1 : (s_F (s_F σ 0 51 (nI (700 * k))) 0 52 1).1 0 52 = 1 := by rw [s_F_rd, if_pos ⟨rfl, rfl⟩]
  have b2 : (s_F (s_F σ 0 51 (nI (700 * k))) 0 52 1).1 0 51 = nI (700 * k) := by rw [s_F_rd, if_neg (by omega), s_F_rd, if_pos ⟨rfl, rfl⟩]
  have b3 : ∀ i q, ¬ (i = 0 ∧ (q = 51 ∨ q = 52)) → (s_F (s_F σ 0 51 (nI (700 * k))) 0 52 1).1 i q = σ.1 i q := fun i q hq => by rw [s_F_rd, if_neg (by omega), s_F_rd, if_neg (by omega)]
  have b4 : (s_F (s_F σ 0 51 (nI (700 * k))) 0 52 1).2 = σ.2 := rfl
  generalize s_F (s_F σ 0 51 (nI (700 * k))) 0 52 1 = s0 at b1 b2 b3 b4
  obtain ⟨s1, p1, p2, p3, p4, p5⟩ := carsB rows1 s0 (700 * k) (rows1_sh hsh) (by decide) b1 b2 (by omega)
  rw [t1] at p2
  rw [p1]
  have c1 : (s_A s1 30 0 (s1.1 0 41)).1 = s1.1 := rfl
  have c2 : ∀ i, i ≠ 30 → (s_A s1 30 0 (s1.1 0 41)).2.1 i = s1.2.1 i := fun i hi => s_A_ne hi
  have c4 : (s_A s1 30 0 (s1.1 0 41)).2.2 = s1.2.2 := rfl
  generalize s_A s1 30 0 (s1.1 0 41) = s2 at c1 c2 c4
  obtain ⟨s3, q1, q2, q3, q4, q5⟩ := carsB [(30, 1)] s2 (700 * k + 35) (row30_sh hsh) (by decide) (by rw [c1, p3.1 0 52 (by omega)]; exact b1) (by rw [c1]; exact p2) (by show _ + (1 + 0) ≤ _; omega)
  have t3 : tot [((30 : Nat), (1 : Nat))] = 1 := rfl
  rw [t3] at q2
  rw [q1]
  have h36 : ∀ s : St, s.2.1 36 = s.2.1 36 := fun _ => rfl
  have r36 : s2.2.1 36 = σ.2.1 36 := by rw [c2 36 (by decide), p4 36 (by decide), b4]
  have e41 : s3.2.1 30 0 = ρ.1 0 41 := by
    have := q5.1 0 (by decide)
    rw [Nat.add_zero, r36] at this
    rw [← this, h3]
  have g1 : ∀ i q, ¬ (i = 0 ∧ q = 41) → (s_F s3 0 41 (s3.2.1 30 0)).1 i q = s3.1 i q := fun i q hq => by rw [s_F_rd, if_neg hq]
  have g2 : (s_F s3 0 41 (s3.2.1 30 0)).1 0 41 = ρ.1 0 41 := by rw [s_F_rd, if_pos ⟨rfl, rfl⟩, e41]
  have g3 : (s_F s3 0 41 (s3.2.1 30 0)).2 = s3.2 := rfl
  generalize s_F s3 0 41 (s3.2.1 30 0) = s4 at g1 g2 g3
  obtain ⟨s5, r1, r2, r3, r4, r5⟩ := carsB rows2 s4 (700 * k + 36) (rows2_sh hsh) (by decide) (by rw [g1 0 52 (by omega), q3.1 0 52 (by omega), c1, p3.1 0 52 (by omega)]; exact b1) (by rw [g1 0 51 (by omega), q2]) (by omega)
  rw [r1]
  have s4r : s4.2.1 36 = σ.2.1 36 := by rw [g3, q4 36 (by decide), r36]
  have hro : ∀ i, i ∉ rows1.map Prod.fst → i ≠ 30 → i ∉ rows2.map Prod.fst → s5.2.1 i = σ.2.1 i := fun i k1 k2 k3 => by
    rw [r4 i k3, g3, q4 i (by simp; exact k2), c2 i k2, p4 i k1, b4]
  have hr1 : ∀ i, i ≠ 30 → i ∉ rows2.map Prod.fst → s5.2.1 i = s1.2.1 i := fun i k2 k3 => by
    rw [r4 i k3, g3, q4 i (by simp; exact k2), c2 i k2]
  rw [b4] at p5
  rw [s4r] at r5
  obtain ⟨x1, x2, x3, x4, x5, _⟩ := p5
  obtain ⟨y1, y2, y3, y4, y5, _⟩ := h2
  obtain ⟨z1, z2, z3, z4, z5, z6, z7, z8, _⟩ := r5
  obtain ⟨w1, w2, w3, w4, w5, w6, w7, w8, _⟩ := h4
  have hsame : ∀ {n c : Nat} {f g : Nat → Int32}, (∀ j, j < n → σ.2.1 36 (c + j) = f j) → (∀ j, j < n → σ.2.1 36 (c + j) = g j) → ∀ j, j < n → f j = g j := fun hf hg j hj => (hf j hj).symm.trans (hg j hj)
  refine ⟨s5, rfl, hdR_ext (ρ := ρ) ?_ (fun j hj => ?_) (fun j hj => ?_) (fun j hj => ?_) (fun j hj => ?_) (fun j hj => ?_) (hsame z1 w1) (hsame z2 w2) (hsame z3 w3) (hsame z4 w4) (hsame z5 w5) (hsame z6 w6) (hsame z7 w7) (hsame z8 w8) hR hp h1, fun i hi => ?_, ?_, ?_⟩
  · rw [r3.1 0 41 (by omega), g2]
  · rw [hr1 1 (by decide) (by decide)]; exact hsame x1 y1 j hj
  · rw [hr1 4 (by decide) (by decide)]; exact hsame x2 y2 j hj
  · rw [hr1 6 (by decide) (by decide)]; exact hsame x3 y3 j hj
  · rw [hr1 8 (by decide) (by decide)]; exact hsame x4 y4 j hj
  · rw [hr1 9 (by decide) (by decide)]; exact hsame x5 y5 j hj
  · refine hro i ?_ (by omega) ?_
    · simp only [rows1, List.map_cons, List.map_nil, List.mem_cons, List.not_mem_nil, or_false]
      omega
    · simp only [rows2, List.map_cons, List.map_nil, List.mem_cons, List.not_mem_nil, or_false]
      omega
  · rw [r3.1 0 19 (by omega), g1 0 19 (by omega), q3.1 0 19 (by omega), c1, p3.1 0 19 (by omega), b3 0 19 (by omega)]
  · exact ⟨by rw [r3.1 0 23 (by omega), g1 0 23 (by omega), q3.1 0 23 (by omega), c1, p3.1 0 23 (by omega), b3 0 23 (by omega)], by rw [r3.1 0 28 (by omega), g1 0 28 (by omega), q3.1 0 28 (by omega), c1, p3.1 0 28 (by omega), b3 0 28 (by omega)]⟩
theorem m_back {sh shR : List kd} {σC σR : St} {W : Wd} {rl : List Cl} {im : Im} {tp : List Nat} (h : IV sh shR σC σR W rl im tp) (k : Int32) : alikeI sh shR (fX11_back sh σC k) (fX12_back shR σR k) := by
  obtain ⟨a1, a2, a3, a4, a5, a6⟩ := h.1
  unfold fX11_back fX12_back
  by_cases hk : btw k 0 3
  · rw [within_t (a := 0) (b := 3) (by decide) (by decide) (by decide) (by decide) hk, bd_some, if_neg n10, in_t (a := 0) (b := 3) (by decide) (by decide) (by decide) (by decide) hk, bd_some, if_neg n10]
    obtain ⟨k', k1, k2, k3⟩ := hk
    subst k3
    have hok : i_ok (nI k') 4 := ok_nI (by omega) (by omega)
    have hcl : (nI k').toNatClampNeg = k' := nI_clamp (by omega)
    simp only [if_pos hok, hcl]
    rcases h.2.2.2.1 k' (by omega) with ⟨c1, c2, c3⟩ | ⟨a, W0, c1, c2, c3, c4, c5, c6, c7, c8, c9, c10, c11⟩
    · rw [c2, c3, if_neg nn00]
      exact alike_nowI h
    · rw [c2, c10, if_pos n10]
      have hp20 : W0.2.2.1.length ≤ 20 := by obtain ⟨_, _, _, _, q, _⟩ := c8.2.2.1; exact q
      obtain ⟨τC, t1, t2, t3, t4⟩ := wholeCopyC (sh := sh) (σ := σC) (a := 19) (b := a) c9.1 (by omega) (lv19 a1) c6 a6 c7 c8
      obtain ⟨τR, u1, u2, u3, u4, u5⟩ := backR a2 (σ := σR) (k := k') (by omega) c9.1 hp20 c11
      show alikeI sh shR (i_ck (wSh sh a) (i_ck (wSh sh a) _)) _
      rw [i_ck_pos c5, i_ck_pos c5, t1, bd_some, u1, bd_some, if_pos o_4, c_4, show τC.1 26 0 = W0.2.1.1.1 from (LfC_of t2.2.1).1, (LfR_of u2.2.1).1]
      exact ⟨_, τC, τR, W0, rl, im, tp, rfl, rfl, IV_act h ⟨fun i hi => t3 i (by omega), t4⟩ ⟨u4, u5, fun i hi => u3 i (by omega), fun j _ => by rw [u3 36 (by omega)]⟩ c9 t2 u2⟩
  · rw [within_f (a := 0) (b := 3) (by decide) (by decide) (by decide) (by decide) hk, bd_some, if_pos z00, in_f (a := 0) (b := 3) (by decide) (by decide) (by decide) (by decide) hk, bd_some, if_pos z00]
    exact alike_nowI h
