/-! ===== a RULE is read: a value ===== -/
def FC (σ : St) (tp : List Nat) (f : Int32) : Prop := tpC σ tp ∧ σ.1 1 3 = f ∧ ∃ p, p ≤ tp.length ∧ σ.1 1 2 = nI p
def FR (σ : St) (tp : List Nat) (f : Int32) : Prop := tpR σ tp ∧ σ.1 0 21 = f ∧ ∃ p, p ≤ tp.length ∧ σ.1 0 20 = nI p
def FL (σC σR : St) (tp : List Nat) : Prop := ∃ f, ¬ f = 0 ∧ fOK f ∧ FC σC tp f ∧ FR σR tp f
theorem FL_PX {σC σR : St} {tp : List Nat} {f : Int32} (h0 : ¬ f = 0) (hf : fOK f) (hC : FC σC tp f) (hR : FR σR tp f) : PX σC σR tp f := by
  obtain ⟨a1, a2, pc, a3, a4⟩ := hC
  obtain ⟨b1, b2, pr, b3, b4⟩ := hR
  exact ⟨a1, b1, a2, b2, hf, pc, pr, a3, b3, a4, b4, fun e => absurd e h0⟩
theorem AC_FC {σ : St} {tp : List Nat} {p cnt : Nat} {out : Cd} {f : Int32} (h : AC σ tp p out cnt) : FC (s_F σ 1 3 f) tp f := by
  obtain ⟨h1, h2, h3, h4, _⟩ := h
  exact ⟨tpC_nf nfC_3 h1, s_F_at, p, h3, by rw [s_F_rd, if_neg (by omega)]; exact h4⟩
theorem AR_FR {σ : St} {tp : List Nat} {sl p cnt : Nat} {out : Cd} {f : Int32} (h : AR σ tp sl p out cnt) : FR (s_F σ 0 21 f) tp f := by
  obtain ⟨h1, h2, h3, h4, _⟩ := h
  exact ⟨tpR_nf nfR_21 h1, s_F_at, p, h3, by rw [s_F_rd, if_neg (by omega)]; exact h4⟩
theorem FC_p {σ : St} {tp : List Nat} {p : Nat} {f : Int32} (h : FC σ tp f) (hp : p ≤ tp.length) : FC (s_F σ 1 2 (nI p)) tp f := ⟨tpC_nf nfC_2 h.1, by rw [s_F_rd, if_neg (by omega)]; exact h.2.1, p, hp, s_F_at⟩
theorem FR_p {σ : St} {tp : List Nat} {p : Nat} {f : Int32} (h : FR σ tp f) (hp : p ≤ tp.length) : FR (s_F σ 0 20 (nI p)) tp f := ⟨tpR_nf nfR_20 h.1, by rw [s_F_rd, if_neg (by omega)]; exact h.2.1, p, hp, s_F_at⟩
theorem FC_7 {σ : St} {tp : List Nat} {f x : Int32} (h : FC σ tp f) : FC (s_F σ 10 7 x) tp f := by
  obtain ⟨a1, a2, p, a3, a4⟩ := h
  exact ⟨⟨a1.1, by rw [s_F_rd, if_neg (by omega)]; exact a1.2.1, a1.2.2⟩, by rw [s_F_rd, if_neg (by omega)]; exact a2, p, a3, by rw [s_F_rd, if_neg (by omega)]; exact a4⟩
theorem FR_k {σ : St} {tp : List Nat} {f x : Int32} {k : Nat} (hk : k ≠ 19 ∧ k ≠ 20 ∧ k ≠ 21) (h : FR σ tp f) : FR (s_F σ 0 k x) tp f := by
  obtain ⟨a1, a2, p, a3, a4⟩ := h
  exact ⟨tpR_F hk.1 a1, by rw [s_F_rd, if_neg (by omega)]; exact a2, p, a3, by rw [s_F_rd, if_neg (by omega)]; exact a4⟩
theorem FC_3 {σ : St} {tp : List Nat} {f g : Int32} (h : FC σ tp f) : FC (s_F σ 1 3 g) tp g := by
  obtain ⟨a1, a2, p, a3, a4⟩ := h
  exact ⟨tpC_nf nfC_3 a1, s_F_at, p, a3, by rw [s_F_rd, if_neg (by omega)]; exact a4⟩
theorem FR_21 {σ : St} {tp : List Nat} {f g : Int32} (h : FR σ tp f) : FR (s_F σ 0 21 g) tp g := by
  obtain ⟨a1, a2, p, a3, a4⟩ := h
  exact ⟨tpR_nf nfR_21 a1, s_F_at, p, a3, by rw [s_F_rd, if_neg (by omega)]; exact a4⟩
theorem cntC {sh : List kd} {σ : St} {tp : List Nat} {p cnt s : Nat} {out : Cd} {x : Int32} (h : AC σ tp p out cnt) (hx : x = nI s) (hc : cnt ≤ 60) : ∃ τ, fX8_countPart sh σ x = some ((), τ) ∧ fmC σ τ ∧ ((cnt < 60 ∧ AC τ tp p out (cnt + 1)) ∨ (¬ cnt < 60 ∧ FC τ tp (flt 0 s (some 3)))) := by
  refine ⟨_, countC h.2.2.2.2.2.1 hx (by omega), fmC_trans (fmC_nf nfC_3) (fmC_10 (by omega)), ?_⟩
  unfold cd3
  by_cases h6 : cnt < 60
  · left
    rw [if_pos h6]
    refine ⟨h6, ?_⟩
    show AC (s_F (s_F σ 1 3 (σ.1 1 3)) 10 7 (nI (cnt + 1))) tp p out (cnt + 1)
    rw [s_F_self rfl]
    exact AC_c h
  · right
    rw [if_neg h6, h.2.1]
    exact ⟨h6, FC_7 (AC_FC h)⟩
theorem cntR {sh : List kd} {σ : St} {tp : List Nat} {sl p cnt s : Nat} {out : Cd} {x : Int32} (h : AR σ tp sl p out cnt) (hx : x = nI s) (hc : cnt ≤ 60) : ∃ τ, fX12_isCounted sh σ x = some ((), τ) ∧ fmR sl σ τ ∧ τ.1 0 20 = nI p ∧ ((cnt < 60 ∧ AR τ tp sl p out (cnt + 1)) ∨ (¬ cnt < 60 ∧ FR τ tp (flt 0 s (some 3)))) := by
  refine ⟨_, countR h.2.2.2.2.2.1 hx (by omega), fmR_trans (fmR_0 (by omega)) (fmR_0 (by omega)), by rw [s_F_rd, if_neg (by omega), s_F_rd, if_neg (by omega)]; exact h.2.2.2.1, ?_⟩
  unfold cd3
  by_cases h6 : cnt < 60
  · left
    rw [if_pos h6]
    refine ⟨h6, ?_⟩
    show AR (s_F (s_F σ 0 21 (σ.1 0 21)) 0 26 (nI (cnt + 1))) tp sl p out (cnt + 1)
    rw [s_F_self rfl]
    exact AR_c h
  · right
    rw [if_neg h6, h.2.1]
    exact ⟨h6, FR_k (by omega) (AR_FR h)⟩
/-- in a fault the reference counts on -/
theorem cntRf {sh : List kd} {σ : St} {tp : List Nat} {f : Int32} {x : Int32} {sl : Nat} (h0 : ¬ f = 0) (h : FR σ tp f) (hx : ∃ s, x = nI s) : ∃ τ, fX12_isCounted sh σ x = some ((), τ) ∧ fmR sl σ τ ∧ τ.1 0 20 = σ.1 0 20 ∧ FR τ tp f := by
  obtain ⟨s, rfl⟩ := hx
  unfold fX12_isCounted fX12_isCounted_J15
  by_cases h6 : σ.1 0 26 = 60
  · rw [if_neg (not_not_intro h6), failsR rfl (show (3 : Int32) = nI 3 from by decide), bd_some, h.2.1, flt_f h0, s_F_self h.2.1]
    exact ⟨_, rfl, fmR_0 (by omega), by rw [s_F_rd, if_neg (by omega)], FR_k (by omega) h⟩
  · rw [if_pos h6]
    exact ⟨_, rfl, fmR_0 (by omega), by rw [s_F_rd, if_neg (by omega)], FR_k (by omega) h⟩
theorem nc99 {n v : Nat} (hv : v < 100000) : ncode n v 0 99999 = if n = 0 then some 0 else if 5 < n then some 1 else none := by
  unfold ncode
  rw [show (99999 : Int32) = nI 99999 from by decide, if_neg (nI_pos (by omega)), if_pos (nI_le (show v ≤ 99999 by omega) (by omega))]
def wds : List Nat := [8, 13, 14, 15, 16, 17, 18, 19, 20, 21, 22, 23]
theorem wordOfR : ∀ k : Nat, k < 12 → ∀ (sh : List kd) (σ : St), ∃ id, wds[k]? = some id ∧ id < 28 ∧ fX12_wordOf sh σ (nI k) = some (id, σ) := by
  intro k hk sh σ
  have : k = 0 ∨ k = 1 ∨ k = 2 ∨ k = 3 ∨ k = 4 ∨ k = 5 ∨ k = 6 ∨ k = 7 ∨ k = 8 ∨ k = 9 ∨ k = 10 ∨ k = 11 := by omega
  unfold fX12_wordOf
  rcases this with e | e | e | e | e | e | e | e | e | e | e | e
  all_goals subst e
  all_goals exact ⟨_, rfl, by decide, rfl⟩
theorem word12 {shR : List kd} {σR s2 : St} {tp : List Nat} {s : Nat} {K : Int32 → St → Option (Unit × St)} (ht : tpR σR tp) (hs : s ≤ tp.length) (ha : σR.1 0 20 = nI s) (h28 : σR.1 0 28 = 12) :
    (∃ k id, k < 12 ∧ wds[k]? = some id ∧ id < 28 ∧ wAt tp s id ∧ wi tp s 0 wds = nI k ∧ fX12_value_L37 shR s2 K i_F 0 σR = K (nI k) σR) ∨ (wi tp s 0 wds = -1 ∧ fX12_value_L37 shR s2 K i_F 0 σR = K 12 σR) := by
  have hF : 12 < i_F := i_F_gt (by omega)
  generalize i_F = F at hF ⊢
  rw [← nz0, show (12 : Int32) = nI 12 from by decide]
  have key : ∀ (m N k : Nat) (ids : List Nat), k + m = 12 → m < N → ids = wds.drop k → ∀ (v : Int32), wi tp s k ids = v → (∃ k' id, k' < 12 ∧ wds[k']? = some id ∧ id < 28 ∧ wAt tp s id ∧ v = nI k' ∧ fX12_value_L37 shR s2 K N (nI k) σR = K (nI k') σR) ∨ (v = -1 ∧ fX12_value_L37 shR s2 K N (nI k) σR = K (nI 12) σR) := by
    intro m
    induction m with
    | zero =>
      intro N k ids hk hN hids v hv
      obtain ⟨N, rfl⟩ : ∃ n', N = n' + 1 := ⟨N - 1, by omega⟩
      have hk5 : k = 12 := by omega
      subst hk5
      right
      refine ⟨?_, ?_⟩
      · rw [← hv, hids]; rfl
      · rw [fX12_value_L37, h28, if_pos (by decide)]
    | succ m ih =>
      intro N k ids hk hN hids v hv
      obtain ⟨N, rfl⟩ : ∃ n', N = n' + 1 := ⟨N - 1, by omega⟩
      obtain ⟨id, w1, w2, w3⟩ := wordOfR k (by omega) shR σR
      have hids' : ids = id :: wds.drop (k + 1) := by
        rw [hids]
        obtain ⟨hlt, he⟩ := List.getElem?_eq_some_iff.mp w1
        rw [List.drop_eq_getElem_cons hlt, he]
      rw [fX12_value_L37, h28, show (12 : Int32) = nI 12 from by decide, if_neg (nI_ge (by omega) (by omega)), w3, bd_some]
      rcases stoodR (sh := shR) (k := id) ht hs ha w2 with ⟨w, e⟩ | ⟨w, e⟩
      · rw [e, bd_some, if_pos n10]
        left
        exact ⟨k, id, by omega, w1, w2, w, by rw [← hv, hids', wi_t w], rfl⟩
      · rw [e, bd_some, if_neg nn00, nI_1]
        exact ih N (k + 1) _ (by omega) (by omega) rfl v (by rw [← hv, hids', wi_f w])
  exact key 12 F 0 _ rfl hF rfl _ rfl
def isV (q : Nat × Int32) : Prop := q.1 = 0 ∨ (q.1 = 1 ∧ i_ok q.2 12)
/-- both stand in step behind it, or both hold the same fault -/
def VE (σC σR τC τR : St) (tp : List Nat) (sl p : Nat) (out : Cd) (cnt : Nat) : Prop := fmC σC τC ∧ fmR sl σR τR ∧ ((cnt < 60 ∧ ∃ q p', p ≤ p' ∧ isV q ∧ AC τC tp p' (out ++ [q]) (cnt + 1) ∧ AR τR tp sl p' (out ++ [q]) (cnt + 1)) ∨ FL τC τR tp)
theorem skipWC {sh : List kd} {σ : St} {tp : List Nat} {p : Nat} (ht : tpC σ tp) (hp : p ≤ tp.length) (ha : σ.1 1 2 = nI p) : fX9_skipWord sh σ = some ((), s_F σ 1 2 (nI (p + rn isL tp p))) := by
  unfold fX9_skipWord
  rw [wendC ht hp ha, bd_some]
theorem val_num {sh shR : List kd} {σC σR : St} {tp : List Nat} {sl s cnt : Nat} {out : Cd} (hC : AC σC tp s out cnt) (hR : AR σR tp sl s out cnt) (hs : skp tp s = s) (hc : cnt ≤ 60) (hl : out.length < 300) (hsl : sl < 6) : ∃ τC τR, i_bd (fX9_number sh σC 0 99999) (fun r241 s242 => i_bd (fX8_countPart sh s242 (nI s)) (fun r244 s245 => i_bd (fX8_write sh s245 0 r241) (fun r247 s248 => some ((), s248)))) = some ((), τC) ∧ i_bd (fX12_digits shR σR 99999) (fun r85 s86 => i_bd (fX12_isCounted shR s86 (nI s)) (fun r88 s89 => i_bd (fX12_entry shR s89 0 r85) (fun r91 s92 => some ((), s92)))) = some ((), τR) ∧ VE σC σR τC τR tp sl s out cnt := by
  have h400 := hC.1.1
  have hb := nm_bd hC.2.2.1
  have eC := numC (sh := sh) (lo := 0) (hi := 99999) hC.1 hC.2.2.1 hC.2.2.2.1
  have eR := digitsR (sh := shR) hR.1 hR.2.2.1 hR.2.2.2.1 hR.2.1
  rw [hs, nc99 hb.1, hC.2.1] at eC
  rw [eC, bd_some, eR, bd_some]
  have hcd : ∀ d, (if (nm tp s).2 = 0 then some 0 else if 5 < (nm tp s).2 then some 1 else none) = some d → d ≤ 4 := by
    intro d hd
    split at hd
    · cases hd; omega
    · split at hd
      · cases hd; omega
      · cases hd
  have aC := AC_p hC hb.2
  have aR := AR_p hR hb.2
  cases hcode : (if (nm tp s).2 = 0 then some 0 else if 5 < (nm tp s).2 then some 1 else none : Option Nat) with
  | none =>
    show ∃ τC τR, i_bd (fX8_countPart sh (s_F (s_F σC 1 2 (nI (s + (nm tp s).2))) 1 3 0) (nI s)) _ = _ ∧ i_bd (fX12_isCounted shR (s_F (s_F σR 0 20 (nI (s + (nm tp s).2))) 0 21 0) (nI s)) _ = _ ∧ _
    rw [s_F_self aC.2.1, s_F_self aR.2.1]
    obtain ⟨τ1, c1, c2, c3⟩ := cntC (sh := sh) (s := s) aC rfl hc
    obtain ⟨τ2, d1, d2, _, d3⟩ := cntR (sh := shR) (s := s) aR rfl hc
    rw [c1, bd_some, d1, bd_some]
    rcases c3 with ⟨c4, c5⟩ | ⟨c4, c5⟩
    · rcases d3 with ⟨d4, d5⟩ | ⟨d4, d5⟩
      · obtain ⟨τ3, e1, e2, e3⟩ := writeC (sh := sh) (k := 0) (v := nI (nm tp s).1) c5 hl
        obtain ⟨τ4, g1, g2, g3⟩ := entryR (sh := shR) (k := 0) (v := nI (nm tp s).1) (x := 0) d5 hl hsl (by decide)
        rw [← nz0, e1, bd_some, nz0, g1, bd_some]
        exact ⟨_, _, rfl, rfl, fmC_trans (fmC_nf nfC_2) (fmC_trans c2 e3), fmR_trans (fmR_0 (by omega)) (fmR_trans d2 g3), Or.inl ⟨c4, (0, nI (nm tp s).1), _, by omega, Or.inl rfl, e2, g2⟩⟩
      · exact absurd c4 d4
    · rcases d3 with ⟨d4, d5⟩ | ⟨d4, d5⟩
      · exact absurd d4 c4
      · have hn := flt_1 (s := s) (c := 3) (by have := hC.2.2.1; omega) (by omega)
        rw [writeF (by rw [c5.2.1]; exact hn), bd_some, entryF (by rw [d5.2.1]; exact hn), bd_some]
        exact ⟨_, _, rfl, rfl, fmC_trans (fmC_nf nfC_2) c2, fmR_trans (fmR_0 (by omega)) d2, Or.inr ⟨_, hn, flt_ok f0 (by have := hC.2.2.1; omega) (fun d hd => by cases hd; omega), c5, d5⟩⟩
  | some d =>
    have hd4 := hcd d hcode
    have hn := flt_1 (s := s) (c := d) (by have := hC.2.2.1; omega) hd4
    have bC := AC_FC (f := flt 0 s (some d)) aC
    have bR := AR_FR (f := flt 0 s (some d)) aR
    obtain ⟨τ2, d1, d2, _, d3⟩ := cntRf (sh := shR) (x := nI s) (sl := sl) hn bR ⟨s, rfl⟩
    rw [countC (s := s) (cnt := cnt) (by rw [s_F_rd, if_neg (by omega), s_F_rd, if_neg (by omega)]; exact hC.2.2.2.2.2.1) rfl (by omega), bd_some, d1, bd_some, bC.2.1, flt_f hn]
    have cC := FC_7 (x := nI (cnt + 1)) (FC_3 (g := flt 0 s (some d)) bC)
    rw [writeF (by rw [cC.2.1]; exact hn), bd_some, entryF (by rw [d3.2.1]; exact hn), bd_some]
    exact ⟨_, _, rfl, rfl, fmC_trans (fmC_nf (nfC_trans nfC_2 (nfC_trans nfC_3 nfC_3))) (fmC_10 (by omega)), fmR_trans (fmR_nf (nfR_trans nfR_20 nfR_21)) d2, Or.inr ⟨_, hn, flt_ok f0 (by have := hC.2.2.1; omega) (fun d' hd => by cases hd; omega), cC, d3⟩⟩
