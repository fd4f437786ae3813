/-! ===== the signs that are open in the reference ===== -/
def fmT (sl : Nat) (σ τ : St) : Prop := (∀ i k, ¬ (i = 0 ∧ (k = 20 ∨ k = 21 ∨ k = 24 ∨ k = 25 ∨ k = 26 ∨ k = 27)) → τ.1 i k = σ.1 i k) ∧ (∀ i, i ≠ 20 → i ≠ 21 → i ≠ 26 → τ.2.1 i = σ.2.1 i) ∧ (∀ j, ¬ (300 * sl ≤ j ∧ j < 300 * sl + 300) → τ.2.1 20 j = σ.2.1 20 j ∧ τ.2.1 21 j = σ.2.1 21 j) ∧ τ.2.2 = σ.2.2
theorem fmT_refl {sl : Nat} {σ : St} : fmT sl σ σ := ⟨fun _ _ _ => rfl, fun _ _ _ _ => rfl, fun _ _ => ⟨rfl, rfl⟩, rfl⟩
theorem fmT_trans {sl : Nat} {σ τ υ : St} (h : fmT sl σ τ) (g : fmT sl τ υ) : fmT sl σ υ := ⟨fun i k h1 => (g.1 i k h1).trans (h.1 i k h1), fun i h1 h2 h3 => (g.2.1 i h1 h2 h3).trans (h.2.1 i h1 h2 h3), fun j hj => ⟨(g.2.2.1 j hj).1.trans (h.2.2.1 j hj).1, (g.2.2.1 j hj).2.trans (h.2.2.1 j hj).2⟩, g.2.2.2.trans h.2.2.2⟩
theorem fmT_R {sl : Nat} {σ τ : St} (h : fmR sl σ τ) : fmT sl σ τ := ⟨fun i k h1 => h.1 i k (by omega), fun i h1 h2 _ => h.2.1 i h1 h2, h.2.2.1, h.2.2.2⟩
theorem fmT_0 {sl : Nat} {σ : St} {k : Nat} {x : Int32} (hk : k = 20 ∨ k = 21 ∨ k = 24 ∨ k = 25 ∨ k = 26 ∨ k = 27) : fmT sl σ (s_F σ 0 k x) := ⟨fun i j h => by rw [s_F_rd, if_neg (by omega)], fun _ _ _ _ => rfl, fun _ _ => ⟨rfl, rfl⟩, rfl⟩
theorem fmT_26 {sl : Nat} {σ : St} {k : Nat} {x : Int32} : fmT sl σ (s_A σ 26 k x) := ⟨fun _ _ _ => rfl, fun i _ _ h3 => s_A_ne h3, fun _ _ => by rw [s_A_ne (by decide), s_A_ne (by decide)]; exact ⟨rfl, rfl⟩, rfl⟩
def ST (σ : St) (S : List Nat) (d : Nat) : Prop := σ.1 0 27 = nI S.length ∧ σ.1 0 25 = nI d ∧ ∀ k b, S[k]? = some b → σ.2.1 26 k = nI b
theorem ST_R {sl : Nat} {σ τ : St} {S : List Nat} {d : Nat} (h : fmR sl σ τ) (g : ST σ S d) : ST τ S d := ⟨by rw [h.1 0 27 (by omega)]; exact g.1, by rw [h.1 0 25 (by omega)]; exact g.2.1, by rw [h.2.1 26 (by decide) (by decide)]; exact g.2.2⟩
theorem AR_k {σ : St} {tp : List Nat} {sl p cnt k : Nat} {out : Cd} {x : Int32} (hk : k = 25 ∨ k = 27) (h : AR σ tp sl p out cnt) : AR (s_F σ 0 k x) tp sl p out cnt := by
  obtain ⟨h1, h2, h3, h4, h5, h6, h7, h8, h9⟩ := h
  exact ⟨tpR_F (by omega) h1, by rw [s_F_rd, if_neg (by omega)]; exact h2, h3, by rw [s_F_rd, if_neg (by omega)]; exact h4, by rw [s_F_rd, if_neg (by omega)]; exact h5, by rw [s_F_rd, if_neg (by omega)]; exact h6, by rw [s_F_rd, if_neg (by omega)]; exact h7, by rw [s_F_rd, if_neg (by omega)]; exact h8, h9⟩
theorem AR_26 {σ : St} {tp : List Nat} {sl p cnt k : Nat} {out : Cd} {x : Int32} (h : AR σ tp sl p out cnt) : AR (s_A σ 26 k x) tp sl p out cnt := by
  obtain ⟨h1, h2, h3, h4, h5, h6, h7, h8, h9⟩ := h
  exact ⟨⟨h1.1, h1.2.1, by rw [s_A_ne (by decide)]; exact h1.2.2⟩, h2, h3, h4, h5, h6, h7, h8, by rw [s_A_ne (by decide), s_A_ne (by decide)]; exact h9⟩
theorem FR_26 {σ : St} {tp : List Nat} {f x : Int32} {k : Nat} (h : FR σ tp f) : FR (s_A σ 26 k x) tp f := by
  obtain ⟨a1, a2, p, a3, a4⟩ := h
  exact ⟨⟨a1.1, a1.2.1, by rw [s_A_ne (by decide)]; exact a1.2.2⟩, a2, p, a3, a4⟩
/-- a sign is opened -/
theorem ST_push {σ : St} {S : List Nat} {d b : Nat} (h : ST σ S d) : ST (s_F (s_A σ 26 S.length (nI b)) 0 27 (nI (S.length + 1))) (S ++ [b]) d := by
  obtain ⟨h1, h2, h3⟩ := h
  refine ⟨by rw [s_F_at, List.length_append]; rfl, by rw [s_F_rd, if_neg (by omega)]; exact h2, fun k b' hk => ?_⟩
  rw [s_F_A, s_A_up, upd_pt]
  by_cases hkl : k = S.length
  · rw [if_pos hkl]
    rw [hkl, List.getElem?_append_right (Nat.le_refl _), Nat.sub_self] at hk
    rw [← Option.some.inj hk]
  · rw [if_neg hkl]
    refine h3 k b' ?_
    have hlt := (List.getElem?_eq_some_iff.mp hk).1
    rw [List.length_append] at hlt
    have hlt' : k < S.length + 1 := hlt
    rw [List.getElem?_append_left (by omega)] at hk
    exact hk
theorem openAO {sh : List kd} {σ : St} {tp : List Nat} {sl p cnt b d : Nat} {out : Cd} {S : List Nat} {x : Int32} (hx : x = nI b) (hb : b = 10 ∨ b = 11) (h : AR σ tp sl p out cnt) (hS : ST σ S d) (hl : S.length < 402) : ∃ τ, fX12_opens sh σ x = some ((), τ) ∧ AR τ tp sl p out cnt ∧ ST τ (S ++ [b]) d ∧ fmT sl σ τ := by
  subst hx
  have hok : i_ok (nI S.length) 402 := ok_nI hl (by omega)
  have hcl : (nI S.length).toNatClampNeg = S.length := nI_clamp (by omega)
  have h9 : ¬ nI b = 9 := by rcases hb with e | e <;> (rw [e]; decide)
  have h12 : ¬ nI b = 12 := by rcases hb with e | e <;> (rw [e]; decide)
  refine ⟨s_F (s_A σ 26 S.length (nI b)) 0 27 (nI (S.length + 1)), ?_, AR_k (by omega) (AR_26 h), ST_push hS, fmT_trans fmT_26 (fmT_0 (by omega))⟩
  unfold fX12_opens
  rw [if_neg h9, if_pos h12]
  simp only [s_A_F, hS.1, if_pos hok, hcl, nI_1]
theorem openNB {sh : List kd} {σ : St} {tp : List Nat} {sl p cnt b d : Nat} {out : Cd} {S : List Nat} {x : Int32} (hx : x = nI b) (hb : b = 9 ∨ b = 12) (h : AR σ tp sl p out cnt) (hS : ST σ S d) (hl : S.length < 402) (hd : d ≤ 10) : ∃ τ, fX12_opens sh σ x = some ((), τ) ∧ fmT sl σ τ ∧ τ.1 0 20 = nI p ∧ ((d < 10 ∧ AR τ tp sl p out cnt ∧ ST τ (S ++ [b]) (d + 1)) ∨ (d = 10 ∧ FR τ tp (flt 0 p (some 2)))) := by
  subst hx
  have hok : i_ok (nI S.length) 402 := ok_nI hl (by omega)
  have hcl : (nI S.length).toNatClampNeg = S.length := nI_clamp (by omega)
  have e10 : (10 : Int32) = nI 10 := by decide
  have hJ : ∀ s : St, s.1 0 27 = nI S.length → fX12_opens_J30 sh (nI b) s = some ((), s_F (s_A (s_F s 0 25 (s.1 0 25 + 1)) 26 S.length (nI b)) 0 27 (nI (S.length + 1))) := by
    intro s hs
    have e27 : (s_F s 0 25 (s.1 0 25 + 1)).1 0 27 = nI S.length := by rw [s_F_rd, if_neg (by omega)]; exact hs
    unfold fX12_opens_J30
    simp only [s_A_F, e27, if_pos hok, hcl, nI_1, jp]
  have hop : fX12_opens sh σ (nI b) = if ¬ nI d = nI 10 then fX12_opens_J30 sh (nI b) σ else i_bd (fX12_fails sh σ 2 (nI p)) (fun _ s => fX12_opens_J30 sh (nI b) s) := by
    unfold fX12_opens
    rw [hS.2.1, h.2.2.2.1, e10]
    rcases hb with e | e
    · subst e
      rw [if_pos (by decide)]
    · subst e
      rw [if_neg (by decide), if_neg (by decide)]
      rfl
  rw [hop]
  by_cases hd10 : d = 10
  · subst hd10
    rw [if_neg (not_not_intro rfl), failsR rfl nz2.symm, bd_some, h.2.1]
    have a := AR_FR (f := flt 0 p (some 2)) h
    rw [hJ _ (by rw [s_F_rd, if_neg (by omega)]; exact hS.1)]
    refine ⟨_, rfl, fmT_trans (fmT_0 (by omega)) (fmT_trans (fmT_0 (by omega)) (fmT_trans fmT_26 (fmT_0 (by omega)))), ?_, Or.inr ⟨rfl, FR_k (by omega) (FR_26 (FR_k (by omega) a))⟩⟩
    rw [s_F_rd, if_neg (by omega), s_A_F, s_F_rd, if_neg (by omega), s_F_rd, if_neg (by omega)]
    exact h.2.2.2.1
  · rw [if_pos (nI_ne hd10 (by omega) (by omega)), hJ σ hS.1, hS.2.1, nI_1]
    refine ⟨_, rfl, fmT_trans (fmT_0 (by omega)) (fmT_trans fmT_26 (fmT_0 (by omega))), ?_, Or.inl ⟨by omega, AR_k (by omega) (AR_26 (AR_k (by omega) h)), ST_push ⟨by rw [s_F_rd, if_neg (by omega)]; exact hS.1, s_F_at, hS.2.2⟩⟩⟩
    rw [s_F_rd, if_neg (by omega), s_A_F, s_F_rd, if_neg (by omega)]
    exact h.2.2.2.1
theorem top0 {sh : List kd} {σ : St} {d : Nat} (h : ST σ [] d) : fX12_top sh σ = some (-1, σ) := by
  unfold fX12_top fX12_top_J22
  rw [if_neg (not_not_intro (h.1.trans (by decide)))]
theorem topS {sh : List kd} {σ : St} {S : List Nat} {b d : Nat} (h : ST σ (S ++ [b]) d) (hl : S.length < 402) : fX12_top sh σ = some (nI b, σ) := by
  obtain ⟨h1, h2, h3⟩ := h
  rw [List.length_append] at h1
  have h1' : σ.1 0 27 = nI (S.length + 1) := h1
  unfold fX12_top fX12_top_J22
  rw [h1', if_pos (by rw [← nz0]; exact nI_ne (by omega) (by omega) (by omega)), nI_pred, if_pos (ok_nI hl (by omega)), nI_clamp (by omega), h3 S.length b (by rw [List.getElem?_append_right (Nat.le_refl _), Nat.sub_self]; rfl)]
theorem ansStop {sh : List kd} {σ : St} {S : List Nat} {d b M : Nat} {x : Int32} (hx : x = nI b) (hb : b < 100) (h : ST σ S d) (hl : S.length < 402) (hS : ∀ T c, S = T ++ [c] → c ≠ b ∧ c < 100) : fX12_answers_L0 sh x (M + 1) σ = some ((), σ) := by
  subst hx
  rw [fX12_answers_L0]
  rcases List.eq_nil_or_concat S with e | ⟨T, c, e⟩
  · subst e
    rw [top0 h, bd_some, if_pos (fun e => by
      have : ¬ nI b < 0 := nI_pos (by omega)
      rw [← e] at this
      exact this (by decide))]
    rfl
  · rw [List.concat_eq_append] at e
    have hc := hS T c e
    subst e
    rw [List.length_append] at hl
    have hl' : T.length + 1 < 402 := hl
    rw [topS h (by omega), bd_some, if_pos (nI_ne hc.1 (by omega) (by omega))]
    rfl
theorem ansPop {sh : List kd} {σ : St} {tp : List Nat} {sl p cnt d b k M : Nat} {out : Cd} {S : List Nat} {x : Int32} (hx : x = nI b) (hk : (b = 9 ∧ k = 2) ∨ (b = 10 ∧ k = 13) ∨ (b = 11 ∧ k = 14)) (hsl : sl < 6) (h : AR σ tp sl p out cnt) (hS : ST σ (S ++ [b]) (if b = 9 then d + 1 else d)) (hl : S.length < 402) (ho : out.length < 300) : ∃ τ, fX12_answers_L0 sh x (M + 1) σ = fX12_answers_L0 sh x M τ ∧ AR τ tp sl p (out ++ [(k, 0)]) cnt ∧ ST τ S d ∧ fmT sl σ τ := by
  subst hx
  have hom : nI b = nI (om k) := by rcases hk with ⟨e1, e2⟩ | ⟨e1, e2⟩ | ⟨e1, e2⟩ <;> (rw [e1, e2]; rfl)
  obtain ⟨τ, e1, e2, e3⟩ := entryR (sh := sh) (k := k) (v := 0) h ho hsl hom
  obtain ⟨g1, g2, g3⟩ := ST_R e3 hS
  rw [List.length_append] at g1
  have g1' : τ.1 0 27 = nI (S.length + 1) := g1
  have g4 : (s_F τ 0 27 (nI S.length)).1 0 25 = nI (if b = 9 then d + 1 else d) := by rw [s_F_rd, if_neg (by omega)]; exact g2
  have g5 : nI (if b = 9 then d + 1 else d) - ((if ¬ nI b = 9 then 0 else 1) : Int32) = nI d := by
    rcases hk with ⟨e, _⟩ | ⟨e, _⟩ | ⟨e, _⟩
    · subst e
      rw [if_pos rfl, if_neg (not_not_intro (by decide)), nI_pred]
    · subst e
      rw [if_neg (by omega), if_pos (by decide), Int32.sub_zero]
    · subst e
      rw [if_neg (by omega), if_pos (by decide), Int32.sub_zero]
  refine ⟨s_F (s_F τ 0 27 (nI S.length)) 0 25 (nI d), ?_, AR_k (by omega) (AR_k (by omega) e2), ⟨?_, s_F_at, fun k' b' hk' => ?_⟩, fmT_trans (fmT_R e3) (fmT_trans (fmT_0 (by omega)) (fmT_0 (by omega)))⟩
  · rw [fX12_answers_L0, topS hS hl, bd_some, if_neg (not_not_intro rfl), h.2.1, if_neg (not_not_intro rfl), e1, bd_some, g1', nI_pred, g4, g5]
    rfl
  · rw [s_F_rd, if_neg (by omega), s_F_at]
  · have hlt := (List.getElem?_eq_some_iff.mp hk').1
    exact g3 k' b' (by rw [List.getElem?_append_left hlt]; exact hk')
/-- the class takes a word, a sign -/
theorem takeWC {sh : List kd} {σ : St} {tp : List Nat} {p cnt w id : Nat} {out : Cd} (hc : chkS w (sg w (i_slen w) 0 0) [id] = true) (hw : w < 28) (h : AC σ tp p out cnt) : (wAt tp (skp tp p) id ∧ skp tp p + i_slen id ≤ tp.length ∧ fX9_takeWord sh σ w = some (1, s_F σ 1 2 (nI (skp tp p + i_slen id)))) ∨ (¬ wAt tp (skp tp p) id ∧ fX9_takeWord sh σ w = some (0, s_F σ 1 2 (nI (skp tp p)))) := by
  have hs := skp_le h.2.2.1
  have hrn := rn_le (f := isL) hs
  unfold fX9_takeWord
  rw [h.2.1, if_neg (not_not_intro rfl), wordInC hc hw h.1 h.2.2.1 h.2.2.2.1, bd_some]
  by_cases hh : wAt tp (skp tp p) id
  · left
    rw [wi_t hh, nz0, if_pos rfl, skipWC (tpC_nf nfC_2 h.1) hs s_F_at, bd_some, s_F_F, isW_rn hh]
    rw [isW_rn hh] at hrn
    exact ⟨hh, hrn, rfl⟩
  · right
    rw [wi_f hh]
    exact ⟨hh, rfl⟩
theorem takeSC {sh : List kd} {σ : St} {tp : List Nat} {p cnt : Nat} {out : Cd} {c : Int32} (h : AC σ tp p out cnt) : fX9_takeSign sh σ c = if sgn tp (skp tp p) = c then some (1, s_F σ 1 2 (nI (skp tp p + 1))) else some (0, s_F σ 1 2 (nI (skp tp p))) := by
  unfold fX9_takeSign
  rw [h.2.1, if_neg (not_not_intro rfl), signC _ σ p h.1 h.2.2.1 rfl h.2.2.2.1, bd_some, s_F_at, nI_1, s_F_F]
theorem takeSf {sh : List kd} {σ : St} {c : Int32} (h : ¬ σ.1 1 3 = 0) : fX9_takeSign sh σ c = some (0, σ) := by
  unfold fX9_takeSign
  rw [if_pos h]
theorem takeWf {sh : List kd} {σ : St} {w : Nat} (h : ¬ σ.1 1 3 = 0) : fX9_takeWord sh σ w = some (0, σ) := by
  unfold fX9_takeWord
  rw [if_pos h]
theorem tst_not {c : Cd} (h : isTst c) : isTst (c ++ [(2, 0)]) := by
  intro w s
  obtain ⟨x, h1, h2⟩ := h w s
  refine ⟨1 - x, ?_, by rw [ev_app _ _ _ _ h2]; rfl⟩
  rcases h1 with e | e
  · subst e; exact Or.inr rfl
  · subst e; exact Or.inl rfl
theorem tst_join {a b : Cd} {k : Nat} (ha : isTst a) (hb : isTst b) (hk : k = 13 ∨ k = 14) : isTst (a ++ b ++ [(k, 0)]) := by
  intro w s
  obtain ⟨x, a1, a2⟩ := ha w s
  obtain ⟨y, b1, b2⟩ := hb w (x :: s)
  have e : ev w (a ++ b) s = some (y :: x :: s) := by rw [ev_app _ _ _ _ a2]; exact b2
  refine ⟨jn k x y, ?_, ?_⟩
  · rcases hk with e | e
    · subst e
      show x &&& y = 0 ∨ x &&& y = 1
      rcases a1 with e | e <;> rcases b1 with g | g <;> (subst e g; decide)
    · subst e
      show x ||| y = 0 ∨ x ||| y = 1
      rcases a1 with e | e <;> rcases b1 with g | g <;> (subst e g; decide)
  · rw [ev_app _ _ _ _ e]
    rcases hk with e | e
    · subst e; rfl
    · subst e; rfl
