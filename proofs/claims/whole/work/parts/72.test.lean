/-! ===== a TEST is read: recursion against a stack of signs ===== -/
noncomputable def eR (sh : List kd) (N : Nat) (s238 : St) : Option (Unit × St) := i_bd (fX12_top sh s238) (fun r240 s241 => if ¬ r240 = 12 then (fX12_test_L9 sh N 0 0 (.int 0) (.int 0) s241) else i_bd (fX12_sign sh s241) (fun r294 s295 => if r294 = 93 then fX12_test_J164 sh 0 1 0 0 (fX12_test_L9 sh N) s295 else i_bd (fX12_fails sh s295 0 (s295.1 0 20)) (fun r351 s352 => fX12_test_J164 sh 0 1 0 0 (fX12_test_L9 sh N) s352)))
noncomputable def gT (sh : List kd) (N : Nat) (r66 r69 : Int32) (s73 : St) : Option (Unit × St) := if ¬ r66 = 0 then if r69 = 0 then fX12_test_J93 sh 0 1 r66 r69 (fX12_test_L9 sh N) s73 else i_bd (fX12_answers sh s73 11) (fun r183 s184 => fX12_test_J93 sh 0 1 r66 r69 (fX12_test_L9 sh N) s184) else if r69 = 0 then i_bd (fX12_answers sh s73 11) (fun r237 s238 => i_bd (fX12_top sh s238) (fun r240 s241 => if ¬ r240 = 12 then (fX12_test_L9 sh N 0 0 (.int r66) (.int r69) s241) else i_bd (fX12_sign sh s241) (fun r294 s295 => if r294 = 93 then fX12_test_J164 sh 0 1 r66 r69 (fX12_test_L9 sh N) s295 else i_bd (fX12_fails sh s295 0 (s295.1 0 20)) (fun r351 s352 => fX12_test_J164 sh 0 1 r66 r69 (fX12_test_L9 sh N) s352)))) else if r69 = 0 then fX12_test_J93_404 sh 0 1 r66 r69 (fX12_test_L9 sh N) s73 else i_bd (fX12_answers sh s73 11) (fun r411 s412 => fX12_test_J93_404 sh 0 1 r66 r69 (fX12_test_L9 sh N) s412)
noncomputable def gR (sh : List kd) (N M : Nat) (s5 : St) : Option (Unit × St) := i_bd (fX12_answers_L0 sh 9 M s5) (fun r60 s61 => i_bd (fX12_blanks sh s61) (fun r63 s64 => i_bd (fX12_stood sh s64 26) (fun r66 s67 => i_bd (fX12_stood sh s67 27) (fun r69 s70 => i_bd (fX12_answers sh s70 10) (fun r72 s73 => gT sh N r66 r69 s73)))))
theorem L9_g {sh : List kd} {N : Nat} {x3 x4 : Value} {s : St} (h : s.1 0 21 = 0) : fX12_test_L9 sh (N + 1) 0 1 x3 x4 s = gR sh N i_F s := by
  rw [fX12_test_L9, if_neg (by decide), h, if_neg (not_not_intro rfl), if_pos rfl]
  rfl
theorem L9_f {sh : List kd} {N : Nat} {x1 : Int32} {x3 x4 : Value} {s : St} (h : ¬ s.1 0 21 = 0) : fX12_test_L9 sh (N + 1) x1 1 x3 x4 s = some ((), s) := by
  rw [fX12_test_L9, if_neg (by decide), if_pos h]
  rfl
theorem L9_e {sh : List kd} {N : Nat} {x1 : Int32} {x3 x4 : Value} {s : St} : fX12_test_L9 sh (N + 1) x1 0 x3 x4 s = some ((), s) := by
  rw [fX12_test_L9, if_pos rfl]
  rfl
theorem L9_1 {sh : List kd} {N : Nat} {x3 x4 : Value} {s : St} (h : s.1 0 21 = 0) : fX12_test_L9 sh (N + 1) 1 1 x3 x4 s = i_bd (fX12_fact sh s) (fun r414 s415 => fX12_test_L9 sh N ((if ¬ r414 = 0 then 0 else 1) : Int32) 1 x3 x4 s415) := by
  rw [fX12_test_L9, if_neg (by decide), h, if_neg (not_not_intro rfl), if_neg (by decide)]
/-- the reference's place may then lie one behind the text -/
def FW (σ : St) (tp : List Nat) (f : Int32) : Prop := tpR σ tp ∧ σ.1 0 21 = f ∧ ∃ p, p < 900 ∧ σ.1 0 20 = nI p
def FL' (σC σR : St) (tp : List Nat) : Prop := ∃ f, ¬ f = 0 ∧ fOK f ∧ FC σC tp f ∧ FW σR tp f
theorem FR_W {σ : St} {tp : List Nat} {f : Int32} (h : FR σ tp f) : FW σ tp f := by
  obtain ⟨a1, a2, p, a3, a4⟩ := h
  exact ⟨a1, a2, p, by have := a1.1; omega, a4⟩
theorem FL_W {σC σR : St} {tp : List Nat} (h : FL σC σR tp) : FL' σC σR tp := by
  obtain ⟨f, a1, a2, a3, a4⟩ := h
  exact ⟨f, a1, a2, a3, FR_W a4⟩
def FactP (sh shR : List kd) (tp : List Nat) (sl : Nat) (rF : St → Int32 → Option (Unit × St)) (d : Nat) : Prop := ∀ (N : Nat) (x3 x4 : Value) (σC σR : St) (p : Nat) (o : Cd) (cnt nt K sk : Nat) (S : List Nat), S.length < p → AC σC tp p o cnt → AR σR tp sl p o cnt → ST σR S d → BD o cnt sk nt → 3 * nt + K ≤ p → 2 * (tp.length - p) + 4 ≤ N →
  ∃ τC τR, rF σC (nI d) = some ((), τC) ∧ fmC σC τC ∧ fmT sl σR τR ∧
   ((∃ N' M c' p' cnt' nt', fX12_test_L9 shR N 1 1 x3 x4 σR = gR shR N' M τR ∧ S.length + 2 ≤ M ∧ 2 * (tp.length - p') + 4 ≤ N' ∧ p < p' ∧ isTst c' ∧ BD (o ++ c') cnt' (sk + 2) nt' ∧ 3 * nt' + K ≤ p' ∧ AC τC tp p' (o ++ c') cnt' ∧ AR τR tp sl p' (o ++ c') cnt' ∧ ST τR S d)
   ∨ (FL' τC τR tp ∧ fX12_test_L9 shR N 1 1 x3 x4 σR = some ((), τR)))
/-- what stands on the stack below a TEST: nothing, or an open BRACKET -/
def bas (S : List Nat) : Prop := S = [] ∨ ∃ T, S = T ++ [12]
def TestQ (sh shR : List kd) (tp : List Nat) (sl : Nat) (x : Option (Unit × St)) (y : Option (Unit × St)) (σC σR : St) (p : Nat) (o : Cd) (K sk : Nat) (S : List Nat) (d : Nat) : Prop :=
  ∃ τC τR, x = some ((), τC) ∧ fmC σC τC ∧ fmT sl σR τR ∧
   ((∃ N' c' p' cnt' nt', y = eR shR N' τR ∧ 2 * (tp.length - p') + 4 ≤ N' ∧ p < p' ∧ skp tp p' = p' ∧ isTst c' ∧ BD (o ++ c') cnt' (sk + 2) nt' ∧ 3 * nt' + K ≤ p' ∧ AC τC tp p' (o ++ c') cnt' ∧ AR τR tp sl p' (o ++ c') cnt' ∧ ST τR S d)
   ∨ (FL' τC τR tp ∧ y = some ((), τR)))
def orW (w : Bool) : List Nat := if w then [11] else []
def anP (a : Bool) : List Nat := if a then [10] else []
def anC (a : Bool) : Cd := if a then [(13, 0)] else []
def tw (w : Bool) (c : Cd) : Prop := if w then ∃ c1 c2, c = c1 ++ c2 ∧ isTst c1 ∧ isTst c2 else isTst c
noncomputable def kT (sh : List kd) (p1 : Int32) : Int32 → Int32 → St → Option (Unit × St) := fun (x57 : Int32) (x58 : Int32) (s59 : St) => fX8_readTest_X89 sh p1 x57 x58 s59
theorem kT_f {sh : List kd} {s : St} {p1 x y : Int32} (h : ¬ s.1 1 3 = 0) : kT sh p1 x y s = some ((), s) := by
  unfold kT fX8_readTest_X89 fX8_readTest_J100
  rw [writeF h, bd_some]
  split <;> rfl
theorem tL_f {sh : List kd} {rF : St → Int32 → Option (Unit × St)} {s : St} {p1 x y : Int32} {N : Nat} (hN : 0 < N) (h : ¬ s.1 1 3 = 0) : fX8_readTest_L9 sh rF p1 (kT sh p1) N x y s = some ((), s) := by
  obtain ⟨N, rfl⟩ : ∃ n', N = n' + 1 := ⟨N - 1, by omega⟩
  rw [fX8_readTest_L9, if_pos h, kT_f h]
  split <;> rfl
theorem last_bas {S : List Nat} (hS : bas S) {w a : Bool} : ∀ T c, S ++ orW w ++ anP a = T ++ [c] → (c = 12 ∨ c = 11 ∨ c = 10) ∧ (c = 10 → a = true) ∧ (c = 11 → w = true) := by
  intro T c h
  cases a with
  | true =>
    have h' : S ++ orW w ++ [10] = T ++ [c] := h
    have := List.append_inj_right' h' rfl
    have e : 10 = c := by simpa using this
    exact ⟨by omega, fun _ => rfl, fun e => by omega⟩
  | false =>
    have h' : S ++ orW w = T ++ [c] := by
      have : S ++ orW w ++ [] = T ++ [c] := h
      rwa [List.append_nil] at this
    cases w with
    | true =>
      have h2 : S ++ [11] = T ++ [c] := h'
      have := List.append_inj_right' h2 rfl
      have e : 11 = c := by simpa using this
      exact ⟨by omega, fun e => by omega, fun _ => rfl⟩
    | false =>
      have h2 : S = T ++ [c] := by
        have : S ++ [] = T ++ [c] := h'
        rwa [List.append_nil] at this
      rcases hS with e | ⟨U, e⟩
      · rw [e] at h2
        simp at h2
      · rw [e] at h2
        have := List.append_inj_right' h2 rfl
        have e : 12 = c := by simpa using this
        exact ⟨by omega, fun e => by omega, fun e => by omega⟩
theorem orA_len {S : List Nat} {w a : Bool} : (S ++ orW w ++ anP a).length ≤ S.length + 2 := by
  rw [List.length_append, List.length_append]
  cases w <;> cases a <;> (show _ + _ + _ ≤ _; simp [orW, anP])
/-- the reference comes to the word behind a FACT: the open AND is answered -/
theorem gR_head {shR : List kd} {σR : St} {tp : List Nat} {sl p N M cnt d : Nat} {S : List Nat} {out : Cd} {w a : Bool} (hsl : sl < 6) (hS : bas S) (hSp : S.length < p) (hR : AR σR tp sl p out cnt) (hT : ST σR (S ++ orW w ++ anP a) d) (hM : 0 < M) (ho : out.length < 299) : ∃ sR r66 r69, gR shR N M σR = gT shR N r66 r69 sR ∧ AR sR tp sl (skp tp p) (out ++ anC a) cnt ∧ ST sR (S ++ orW w) d ∧ fmT sl σR sR ∧ ((wAt tp (skp tp p) 26 ∧ r66 = 1) ∨ (¬ wAt tp (skp tp p) 26 ∧ r66 = 0)) ∧ ((wAt tp (skp tp p) 27 ∧ r69 = 1) ∨ (¬ wAt tp (skp tp p) 27 ∧ r69 = 0)) := by
  have h400 := hR.1.1
  have hp := hR.2.2.1
  have hs := skp_le hp
  obtain ⟨M, rfl⟩ : ∃ n', M = n' + 1 := ⟨M - 1, by omega⟩
  have hlen := orA_len (S := S) (w := w) (a := a)
  have a1 := ansStop (sh := shR) (M := M) (b := 9) (x := 9) (by decide) (by omega) hT (by omega) (fun T c e => by have := (last_bas hS T c e).1; omega)
  have hR1 := AR_p hR hs
  have hT1 : ST (s_F σR 0 20 (nI (skp tp p))) (S ++ orW w ++ anP a) d := ST_R (sl := sl) (fmR_0 (by omega)) hT
  have fin : ∃ sR, fX12_answers shR (s_F σR 0 20 (nI (skp tp p))) 10 = some ((), sR) ∧ AR sR tp sl (skp tp p) (out ++ anC a) cnt ∧ ST sR (S ++ orW w) d ∧ fmT sl (s_F σR 0 20 (nI (skp tp p))) sR := by
    unfold fX12_answers
    have hF : 2 < i_F := i_F_gt (by omega)
    generalize i_F = F at hF ⊢
    obtain ⟨F, rfl⟩ : ∃ n', F = n' + 1 + 1 := ⟨F - 2, by omega⟩
    cases a with
    | true =>
      have hlw : (S ++ orW w).length ≤ S.length + 2 := by
        have := orA_len (S := S) (w := w) (a := false)
        rw [List.length_append] at this
        omega
      obtain ⟨τ, b1, b2, b3, b4⟩ := ansPop (sh := shR) (S := S ++ orW w) (b := 10) (k := 13) (d := d) (M := F + 1) (x := 10) (by decide) (Or.inr (Or.inl ⟨rfl, rfl⟩)) hsl hR1 hT1 (by omega) (by omega)
      rw [b1, ansStop (b := 10) (by decide) (by omega) b3 (by omega) (fun T c e => ?_)]
      · exact ⟨τ, rfl, b2, b3, b4⟩
      · have := last_bas hS (w := w) (a := false) T c (by show S ++ orW w ++ [] = _; rw [List.append_nil]; exact e)
        have h2 : c = 10 → False := fun e => by have := this.2.1 e; cases this
        refine ⟨h2, ?_⟩
        have := this.1
        omega
    | false =>
      have hT1' : ST (s_F σR 0 20 (nI (skp tp p))) (S ++ orW w) d := by
        have : ST (s_F σR 0 20 (nI (skp tp p))) (S ++ orW w ++ []) d := hT1
        rwa [List.append_nil] at this
      have hlw : (S ++ orW w).length ≤ S.length + 2 := by
        have := orA_len (S := S) (w := w) (a := false)
        rw [List.length_append] at this
        omega
      rw [ansStop (b := 10) (by decide) (by omega) hT1' (by omega) (fun T c e => ?_)]
      · refine ⟨_, rfl, ?_, hT1', fmT_refl⟩
        show AR _ tp sl _ (out ++ []) cnt
        rw [List.append_nil]
        exact hR1
      · have := last_bas hS (w := w) (a := false) T c (by show S ++ orW w ++ [] = _; rw [List.append_nil]; exact e)
        have h2 : c = 10 → False := fun e => by have := this.2.1 e; cases this
        refine ⟨h2, ?_⟩
        have := this.1
        omega
  obtain ⟨sR, f1, f2, f3, f4⟩ := fin
  unfold gR
  rw [a1, bd_some, blanksR hR.1 (by omega) hR.2.2.2.1, bd_some]
  rcases stoodR (sh := shR) (k := 26) hR1.1 hs hR1.2.2.2.1 (by omega) with ⟨w1, e1⟩ | ⟨w1, e1⟩
  · rcases stoodR (sh := shR) (k := 27) hR1.1 hs hR1.2.2.2.1 (by omega) with ⟨w2, e2⟩ | ⟨w2, e2⟩
    · rw [e1, bd_some, e2, bd_some, f1, bd_some]
      exact ⟨sR, 1, 1, rfl, f2, f3, fmT_trans (fmT_0 (by omega)) f4, Or.inl ⟨w1, rfl⟩, Or.inl ⟨w2, rfl⟩⟩
    · rw [e1, bd_some, e2, bd_some, f1, bd_some]
      exact ⟨sR, 1, 0, rfl, f2, f3, fmT_trans (fmT_0 (by omega)) f4, Or.inl ⟨w1, rfl⟩, Or.inr ⟨w2, rfl⟩⟩
  · rcases stoodR (sh := shR) (k := 27) hR1.1 hs hR1.2.2.2.1 (by omega) with ⟨w2, e2⟩ | ⟨w2, e2⟩
    · rw [e1, bd_some, e2, bd_some, f1, bd_some]
      exact ⟨sR, 0, 1, rfl, f2, f3, fmT_trans (fmT_0 (by omega)) f4, Or.inr ⟨w1, rfl⟩, Or.inl ⟨w2, rfl⟩⟩
    · rw [e1, bd_some, e2, bd_some, f1, bd_some]
      exact ⟨sR, 0, 0, rfl, f2, f3, fmT_trans (fmT_0 (by omega)) f4, Or.inr ⟨w1, rfl⟩, Or.inr ⟨w2, rfl⟩⟩
