/-! ===== who could have ruled: the class ===== -/
theorem it_succ {α : Type} {g : Nat → α → α} (m : Nat) (a : α) : it g (m + 1) 0 a = g m (it g m 0 a) := by
  rw [it_add m 1 0 a, Nat.zero_add]
  rfl
theorem it_sim {α β : Type} {g : Nat → α → α} {g' : Nat → β → β} {Rel : α → β → Prop} : ∀ (m k : Nat) (a : α) (b : β), (∀ j x y, k ≤ j → j < k + m → Rel x y → Rel (g j x) (g' j y)) → Rel a b → Rel (it g m k a) (it g' m k b)
  | 0, _, _, _, _, h => h
  | m + 1, k, a, b, hs, h => it_sim m (k + 1) (g k a) (g' k b) (fun j x y h1 h2 => hs j x y (by omega) (by omega)) (hs k a b (Nat.le_refl _) (by omega) h)
theorem it_fold {α β : Type} {F : α → β → α} {G : Nat → β} {a : α} : ∀ (m : Nat), it (fun i x => F x (G i)) m 0 a = ((List.range m).map G).foldl F a
  | 0 => rfl
  | m + 1 => by rw [it_succ, it_fold m, List.range_succ, List.map_append, List.foldl_append]; rfl
def soT (R : Rl) (rl : List Cl) (nt : List (Nat × Int32)) (row : Nat) : Int32 := if row ≤ rl.length then so (crs R (ruI rl row) (lf0 R)) nt else 0
theorem soT01 {R : Rl} {rl : List Cl} {nt : List (Nat × Int32)} {row : Nat} : soT R rl nt row = 0 ∨ soT R rl nt row = 1 := by
  unfold soT
  split
  · exact so01 nt
  · exact Or.inl rfl
def gSus (f : Nat → Int32) (row : Nat) (a : Int32) : Int32 := if f row = 0 then a else a + 1
theorem vpb0 : vp_nar .boolean 0 = 0 := by decide
theorem vpb1 : vp_nar .boolean 1 = 1 := by decide
theorem vpb {x : Int32} (h : x = 0 ∨ x = 1) : vp_nar .boolean x = x := by
  rcases h with h | h
  · rw [h]; exact vpb0
  · rw [h]; exact vpb1
theorem hsr {sh : List kd} (hsh : cSh sh) {row : Nat} (h : row < 7) : sh[150 + row]? = some (.inl (.int, 61)) := by
  have : row = 0 ∨ row = 1 ∨ row = 2 ∨ row = 3 ∨ row = 4 ∨ row = 5 ∨ row = 6 := by omega
  rcases this with h | h | h | h | h | h | h
  · subst h; exact sC_150 hsh
  · subst h; exact sC_151 hsh
  · subst h; exact sC_152 hsh
  · subst h; exact sC_153 hsh
  · subst h; exact sC_154 hsh
  · subst h; exact sC_155 hsh
  · subst h; exact sC_156 hsh
theorem n7 : (7 : Int32) = nI 7 := by decide
theorem hearC {sh : List kd} (hsh : cSh sh) {σ : St} {R : Rl} {rl : List Cl} {nt : List (Nat × Int32)} (hR : wfR R) (hD : 0 < R.1.1) (hr : isRC σ 20 R) (hc : CR sh σ rl) (hn : ntC σ nt) (hq : ∀ row, row < 7 → σ.2.2.2 149 row = some (150 + row)) :
    ∃ τ, fX3_hear sh σ (nI rl.length) = some ((), τ) ∧ agr scC σ τ ∧ (∀ row, row < 7 → τ.2.1 157 row = soT R rl nt row) ∧ τ.1 143 6 = it (gSus (soT R rl nt)) 7 0 0 ∧ (∀ row, row < 7 → row ≤ rl.length → ∀ j, j < 61 → τ.2.1 (150 + row) j = crs R (ruI rl row) (lf0 R) j) := by
  have hlen := hc.1
  unfold fX3_hear
  have hF : 7 < i_F := i_F_gt (by omega)
  generalize i_F = F at hF ⊢
  have e0 : agr scC σ (s_F σ 143 6 0) := agr_F (by unfold scC; omega)
  have e1 : (s_F σ 143 6 0).1 143 6 = 0 := by rw [s_F_rd, if_pos ⟨rfl, rfl⟩]
  generalize s_F σ 143 6 0 = s0 at e0 e1 ⊢
  rw [← nz0]
  refine lpI (L := fun n k s => fX3_hear_L7 sh (nI rl.length) n (nI k) s) (E := fun r => ∃ τ, r = some ((), τ) ∧ agr scC σ τ ∧ (∀ row, row < 7 → τ.2.1 157 row = soT R rl nt row) ∧ τ.1 143 6 = it (gSus (soT R rl nt)) 7 0 (nI 0) ∧ (∀ row, row < 7 → row ≤ rl.length → ∀ j, j < 61 → τ.2.1 (150 + row) j = crs R (ruI rl row) (lf0 R) j)) (fun k s => agr scC σ s ∧ (∀ row, row < k → s.2.1 157 row = soT R rl nt row) ∧ s.1 143 6 = it (gSus (soT R rl nt)) k 0 (nI 0) ∧ (∀ row, row < k → row ≤ rl.length → ∀ j, j < 61 → s.2.1 (150 + row) j = crs R (ruI rl row) (lf0 R) j)) 7 (fun n k s hk hI => Or.inl ?_) (fun n s hI => ?_) 7 F 0 s0 rfl hF ⟨e0, fun j hj => by omega, e1, fun j hj => by omega⟩
  · obtain ⟨i1, i2, i3, i4⟩ := hI
    have hcl : (nI k).toNatClampNeg = k := nI_clamp (by omega)
    have hok : i_ok (nI k) 7 := ok_nI hk (by omega)
    -- the end of a row
    have fin : ∀ t : St, agr scC σ t → (∀ row, row < k → t.2.1 157 row = soT R rl nt row) → t.2.1 157 k = soT R rl nt k → t.1 143 6 = it (gSus (soT R rl nt)) k 0 (nI 0) → (∀ row, row < k + 1 → row ≤ rl.length → ∀ j, j < 61 → t.2.1 (150 + row) j = crs R (ruI rl row) (lf0 R) j) →
        ∃ a', fX3_hear_J41 sh (nI rl.length) (nI k) (fX3_hear_L7 sh (nI rl.length) n) t = fX3_hear_L7 sh (nI rl.length) n (nI (k + 1)) a' ∧ agr scC σ a' ∧ (∀ row, row < k + 1 → a'.2.1 157 row = soT R rl nt row) ∧ a'.1 143 6 = it (gSus (soT R rl nt)) (k + 1) 0 (nI 0) ∧ (∀ row, row < k + 1 → row ≤ rl.length → ∀ j, j < 61 → a'.2.1 (150 + row) j = crs R (ruI rl row) (lf0 R) j) := by
      intro t f1 f2 f3 f4 f5
      have f23 : ∀ row, row < k + 1 → t.2.1 157 row = soT R rl nt row := by
        intro row h1
        by_cases h2 : row = k
        · rw [h2]; exact f3
        · exact f2 row (by omega)
      unfold fX3_hear_J41 fX3_hear_J60
      rw [if_pos hok, hcl, f3, nI_1]
      by_cases h0 : soT R rl nt k = 0
      · rw [if_pos h0]
        refine ⟨t, rfl, f1, f23, ?_, f5⟩
        rw [it_succ, f4]
        unfold gSus
        rw [if_pos h0]
      · rw [if_neg h0]
        refine ⟨s_F t 143 6 (t.1 143 6 + 1), rfl, agr_trans f1 (agr_F (by unfold scC; omega)), f23, ?_, f5⟩
        rw [it_succ, s_F_rd, if_pos ⟨rfl, rfl⟩, f4]
        unfold gSus
        rw [if_neg h0]
    rw [fX3_hear_L7, n7, if_neg (nI_ge hk (by omega))]
    simp only [if_pos hok, hcl, vpb0]
    have g1 : agr scC σ (s_A s 157 k 0) := agr_trans i1 (agr_A (by unfold scC; omega))
    have g2 : ∀ row, row < k → (s_A s 157 k 0).2.1 157 row = soT R rl nt row := by
      intro row h1
      rw [s_A_rd, if_neg (fun e => by omega)]
      exact i2 row h1
    have g3 : (s_A s 157 k 0).2.1 157 k = 0 := by rw [s_A_rd, if_pos ⟨rfl, rfl⟩]
    have g4 : ∀ i, i ≠ 157 → (s_A s 157 k 0).2.1 i = s.2.1 i := fun i hi => s_A_ne hi
    have g5 : (s_A s 157 k 0).1 = s.1 := rfl
    generalize s_A s 157 k 0 = s1 at g1 g2 g3 g4 g5
    by_cases hle : k ≤ rl.length
    · rw [if_neg (nI_nlt hle (by omega))]
      have hst : soT R rl nt k = so (crs R (ruI rl k) (lf0 R)) nt := by
        unfold soT
        rw [if_pos hle]
      obtain ⟨τ, t1, t2, t3⟩ := playC hsh (σ := s1) hR hD (isRC_agr g1 (by unfold scC; omega) hr) (CR_agr hc g1) hle (by rw [g1.2]; exact hq k hk)
      have hsub : agr scC s1 τ := ⟨fun i hi => t3.1 i (fun e => hi (by unfold inS at e; unfold scC; omega)), t3.2⟩
      have g6 := agr_trans g1 hsub
      rw [t1, bd_some, soC hk (ntC_agr hn g6) (by rw [g6.2]; exact hq k hk) (hsr hsh hk) t2, bd_some, vpb (so01 nt), ← hst]
      refine fin _ (agr_trans g6 (agr_A (by unfold scC; omega))) (fun row h1 => ?_) ?_ ?_ (fun row h1 h2 j hj => ?_)
      · rw [s_A_rd, if_neg (fun e => by omega), (t3.1 157 (by unfold inS; omega)).2]
        exact g2 row h1
      · rw [s_A_rd, if_pos ⟨rfl, rfl⟩]
      · rw [s_A_F, (t3.1 143 (by unfold inS; omega)).1, g5]
        exact i3
      · rw [s_A_ne (by omega)]
        by_cases hrk : row = k
        · rw [hrk]; exact t2 j hj
        · rw [(t3.1 (150 + row) (by unfold inS; omega)).2, g4 _ (by omega)]
          exact i4 row (by omega) h2 j hj
    · rw [if_pos (nI_lt (by omega) (by omega))]
      have hst : soT R rl nt k = 0 := by
        unfold soT
        rw [if_neg hle]
      refine fin s1 g1 g2 (by rw [g3, hst]) (by rw [g5]; exact i3) (fun row h1 h2 j hj => ?_)
      rw [g4 _ (by omega)]
      exact i4 row (by omega) h2 j hj
  · obtain ⟨i1, i2, i3, i4⟩ := hI
    refine ⟨s, ?_, i1, i2, i3, i4⟩
    rw [fX3_hear_L7, n7, if_pos (nI_le (Nat.le_refl _) (by omega))]
def fstD (f : Nat → Int32) : Nat → Nat → Int32
  | 0, _ => -2
  | m + 1, k => if f k = 0 then fstD f m (k + 1) else nI k - 1
theorem firstC {sh : List kd} {σ : St} {f : Nat → Int32} (hf : ∀ j, j < 7 → σ.2.1 157 j = f j) : fX3_first sh σ = some (fstD f 7 0, σ) := by
  unfold fX3_first
  have hF : 7 < i_F := i_F_gt (by omega)
  generalize i_F = F at hF ⊢
  rw [← nz0]
  have key : ∀ (m n k : Nat), k + m = 7 → m < n → fX3_first_L2 sh σ (fun (x52 : Int32) => fX3_first_X17 sh σ x52) n (nI k) = some (fstD f m k, σ) := by
    intro m
    induction m with
    | zero =>
      intro n k hk hn
      obtain ⟨n, rfl⟩ : ∃ n', n = n' + 1 := ⟨n - 1, by omega⟩
      rw [fX3_first_L2, n7, if_pos (nI_le (by omega) (by omega))]
      rfl
    | succ m ih =>
      intro n k hk hn
      obtain ⟨n, rfl⟩ : ∃ n', n = n' + 1 := ⟨n - 1, by omega⟩
      rw [fX3_first_L2, n7, if_neg (nI_ge (by omega) (by omega)), if_pos (ok_nI (by omega) (by omega)), nI_clamp (by omega), hf k (by omega), nI_1]
      unfold fstD
      by_cases hc : f k = 0
      · rw [if_pos hc, if_pos hc]
        exact ih n (k + 1) (by omega) (by omega)
      · rw [if_neg hc, if_neg hc]
        rfl
  exact key 7 F 0 rfl hF
/-! the most alike -/
def cntv (v : Int32) (l : List Int32) : Nat := l.foldl (fun c x => c + if x = v then 1 else 0) 0
def mx (l : List Int32) : Nat := l.foldl (fun a v => max a (cntv v l)) 0
theorem cntv_app {v x : Int32} {l : List Int32} : cntv v (l ++ [x]) = cntv v l + if x = v then 1 else 0 := by
  unfold cntv
  rw [List.foldl_append]
  rfl
theorem fm_spec {f : Int32 → Nat} : ∀ (l : List Int32) (a : Nat), (∀ x ∈ l, f x ≤ l.foldl (fun a v => max a (f v)) a) ∧ a ≤ l.foldl (fun a v => max a (f v)) a ∧ (l.foldl (fun a v => max a (f v)) a = a ∨ ∃ x ∈ l, f x = l.foldl (fun a v => max a (f v)) a)
  | [], a => ⟨fun x h => (by cases h), Nat.le_refl _, Or.inl rfl⟩
  | y :: l, a => by
    obtain ⟨h1, h2, h3⟩ := fm_spec (f := f) l (max a (f y))
    rw [List.foldl_cons]
    refine ⟨fun x hx => ?_, by omega, ?_⟩
    · rcases List.mem_cons.mp hx with h | h
      · subst h; omega
      · exact h1 x h
    · rcases h3 with h | ⟨x, hx, h⟩
      · by_cases hm : f y ≤ a
        · exact Or.inl (by omega)
        · exact Or.inr ⟨y, List.mem_cons_self .., by omega⟩
      · exact Or.inr ⟨x, List.mem_cons_of_mem _ hx, h⟩
theorem mx_app {v : Int32} {l : List Int32} : mx (l ++ [v]) = max (mx l) (cntv v l + 1) := by
  obtain ⟨h1, h2, h3⟩ := fm_spec (f := fun x => cntv x l) l 0
  obtain ⟨g1, g2, g3⟩ := fm_spec (f := fun x => cntv x (l ++ [v])) (l ++ [v]) 0
  change (∀ x ∈ l, cntv x l ≤ mx l) at h1
  change (mx l = 0 ∨ ∃ x ∈ l, cntv x l = mx l) at h3
  change (∀ x ∈ l ++ [v], cntv x (l ++ [v]) ≤ mx (l ++ [v])) at g1
  change (mx (l ++ [v]) = 0 ∨ ∃ x ∈ l ++ [v], cntv x (l ++ [v]) = mx (l ++ [v])) at g3
  have ev : cntv v (l ++ [v]) = cntv v l + 1 := by rw [cntv_app, if_pos rfl]
  have gv := g1 v (by simp)
  rw [ev] at gv
  have hup : mx l ≤ mx (l ++ [v]) := by
    rcases h3 with h | ⟨x, hx, h⟩
    · omega
    · have := g1 x (by simp [hx])
      rw [cntv_app] at this
      omega
  have hlo : mx (l ++ [v]) ≤ max (mx l) (cntv v l + 1) := by
    rcases g3 with h | ⟨x, hx, h⟩
    · omega
    · by_cases hxv : v = x
      · subst hxv
        omega
      · rw [cntv_app, if_neg hxv] at h
        have hxl : x ∈ l := by
          rcases List.mem_append.mp hx with h | h
          · exact h
          · exact absurd (List.mem_singleton.mp h).symm hxv
        have := h1 x hxl
        omega
  omega
theorem cntv_le {v : Int32} : ∀ (l : List Int32), cntv v l ≤ l.length := by
  have key : ∀ (l : List Int32) (c : Nat), l.foldl (fun c x => c + if x = v then 1 else 0) c ≤ c + l.length := by
    intro l
    induction l with
    | nil => intro c; exact Nat.le_refl _
    | cons x l ih =>
      intro c
      rw [List.foldl_cons, List.length_cons]
      have := ih (c + if x = v then 1 else 0)
      have h1 : (if x = v then 1 else 0) ≤ 1 := by split <;> omega
      omega
  intro l
  have := key l 0
  unfold cntv
  omega
theorem mx_le {l : List Int32} : mx l ≤ l.length := by
  obtain ⟨h1, h2, h3⟩ := fm_spec (f := fun x => cntv x l) l 0
  change (mx l = 0 ∨ ∃ x ∈ l, cntv x l = mx l) at h3
  rcases h3 with h | ⟨x, hx, h⟩
  · omega
  · have := cntv_le (v := x) l
    omega
def sus (f : Nat → Int32) (m : Nat) : List Nat := (List.range m).filter (fun row => decide (¬ f row = 0))
theorem sus_succ {f : Nat → Int32} {m : Nat} : sus f (m + 1) = if f m = 0 then sus f m else sus f m ++ [m] := by
  unfold sus
  rw [List.range_succ, List.filter_append]
  by_cases h : f m = 0
  · simp [h]
  · simp [h]
theorem sus_len {f : Nat → Int32} : ∀ (m : Nat), (sus f m).length ≤ m := by
  intro m
  have := List.length_filter_le (fun row => decide (¬ f row = 0)) (List.range m)
  rw [List.length_range] at this
  exact this
