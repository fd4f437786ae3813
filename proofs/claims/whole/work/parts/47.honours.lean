/-! ===== place, gold, stripped ===== -/
/-- of a COURT besides: RANKS 0 to 20, quarrels go both ways -/
def wfK (R : Rl) : Prop := (∀ t, t < R.1.2.2.1 → ∃ r, r ≤ 20 ∧ R.2.1 t = nI r) ∧ ∀ t, t < R.1.2.2.1 → ∀ u, (R.2.2.1 t).toBitVec.getLsbD u = true → u < R.1.2.2.1 ∧ (R.2.2.1 u).toBitVec.getLsbD t = true
theorem rank_le {R : Rl} (hR : wfR R) (hK : wfK R) (x : Int32) : ∃ r, r ≤ 120 ∧ spRank R x = nI r := by
  have h := it_inv (I := fun k a => k ≤ R.1.2.2.1 → ∃ r, r ≤ 20 * k ∧ a = nI r) (g := gRank R.2.1 x) R.1.2.2.1 0 0 (fun j b _ h2 hb hj => by
    obtain ⟨r, r1, r2⟩ := hb (by omega)
    obtain ⟨r', r3, r4⟩ := hK.1 j (by omega)
    unfold gRank
    split
    · exact ⟨r, by omega, r2⟩
    · exact ⟨r + r', by omega, by rw [r2, r4, nI_add]⟩) (fun _ => ⟨0, by omega, nz0.symm⟩)
  rw [Nat.zero_add] at h
  obtain ⟨r, h1, h2⟩ := h (Nat.le_refl _)
  exact ⟨r, by have := hR.2.1; omega, h2⟩
theorem tot_le {R : Rl} (hR : wfR R) (hK : wfK R) (lf : Lf) : ∃ r, r ≤ 720 ∧ yRank R lf = nI r := by
  have h := it_inv (I := fun k a => ∃ r, r ≤ 120 * k ∧ a = nI r) (g := fun k a => a + spRank R (lf.2.2.1 k)) R.1.2.2.2 0 0 (fun j b _ h2 hb => by
    obtain ⟨r, r1, r2⟩ := hb
    obtain ⟨r', r3, r4⟩ := rank_le hR hK (lf.2.2.1 j)
    exact ⟨r + r', by omega, by rw [r2, r4, nI_add]⟩) ⟨0, by omega, nz0.symm⟩
  rw [Nat.zero_add] at h
  obtain ⟨r, h1, h2⟩ := h
  exact ⟨r, by have := hR.2.2.1; omega, h2⟩
def gPl (R : Rl) (lf : Lf) (p k : Nat) (a : Int32) : Int32 := if spRank R (lf.2.2.1 p) < spRank R (lf.2.2.1 k) then a + 1 else if ¬ spRank R (lf.2.2.1 k) = spRank R (lf.2.2.1 p) then a else if nI p ≤ nI k then a else a + 1
theorem placeC {sh : List kd} {σ : St} {R : Rl} {lf : Lf} {p : Nat} (hR : wfR R) (hr : isRC σ 20 R) (hl : LfC σ 26 = lf) (hp : p < R.1.2.2.2) : fX2_placeOf sh σ 19 (nI p) = some (it (gPl R lf p) R.1.2.2.2 0 0, σ) := by
  have hP := hR.2.2.1
  have hti := (LfC_of hl).2.2.2.2.2.1
  unfold fX2_placeOf
  rw [if_pos (ok_nI (by omega) (by omega)), nI_clamp (by omega)]
  show i_bd (fX6_rankOf sh σ 20 (σ.2.1 28 p)) _ = _
  rw [hti p (by omega), rankC hR hr, bd_some]
  have hF : 6 < i_F := i_F_gt (by omega)
  generalize i_F = F at hF ⊢
  rw [← nz0]
  refine lpI (L := fun N k (a : Int32 × Value) => fX2_placeOf_L22 sh 19 (nI p) (spRank R (lf.2.2.1 p)) N a.1 (nI k) a.2 σ) (E := fun r => r = some (it (gPl R lf p) R.1.2.2.2 0 (nI 0), σ)) (fun k a => a.1 = it (gPl R lf p) k 0 (nI 0)) R.1.2.2.2 (fun N k a hk hI => Or.inl ?_) (fun N a hI => ?_) R.1.2.2.2 F 0 (nI 0, .retAddr 0) (by omega) (by omega) rfl
  · obtain ⟨x, v⟩ := a
    dsimp only at hI ⊢
    rw [fX2_placeOf_L22]
    have e : it (gPl R lf p) (k + 1) 0 (nI 0) = gPl R lf p k x := by rw [it_succ, hI]
    rw [show σ.1 (19 + 1) 4 = nI R.1.2.2.2 from hr.2.2.2.2.1, if_neg (nI_ge hk (by omega)), if_pos (ok_nI (by omega) (by omega)), nI_clamp (by omega), show σ.2.1 (19 + 7 + 2) k = lf.2.2.1 k from hti k (by omega), show (19 + 1) = 20 from rfl, rankC hR hr, bd_some]
    unfold fX2_placeOf_J74
    rw [nI_1]
    unfold gPl at e
    by_cases h1 : spRank R (lf.2.2.1 p) < spRank R (lf.2.2.1 k)
    · rw [if_pos h1] at e ⊢
      exact ⟨(x + 1, _), rfl, e.symm⟩
    · rw [if_neg h1] at e ⊢
      by_cases h2 : spRank R (lf.2.2.1 k) = spRank R (lf.2.2.1 p)
      · rw [if_neg (not_not_intro h2)] at e ⊢
        by_cases h3 : nI p ≤ nI k
        · rw [if_pos h3] at e ⊢
          exact ⟨(x, _), rfl, e.symm⟩
        · rw [if_neg h3] at e ⊢
          exact ⟨(x + 1, _), rfl, e.symm⟩
      · rw [if_pos h2] at e ⊢
        exact ⟨(x, _), rfl, e.symm⟩
  · obtain ⟨x, v⟩ := a
    dsimp only at hI ⊢
    rw [fX2_placeOf_L22, show σ.1 (19 + 1) 4 = nI R.1.2.2.2 from hr.2.2.2.2.1, if_pos (nI_le (Nat.le_refl _) (by omega)), hI]
theorem placeR {sh : List kd} {σ : St} {R : Rl} {lf : Lf} {p : Nat} (hR : wfR R) (hr : isRR σ R) (hl : LfR σ = lf) (hp : p < R.1.2.2.2) : fX12_place_L14 sh (nI p) i_F 0 0 σ = some (it (gPl R lf p) R.1.2.2.2 0 0, σ) := by
  have hP := hR.2.2.1
  have hti := (LfR_of hl).2.2.2.2.2.1
  have hF : 6 < i_F := i_F_gt (by omega)
  generalize i_F = F at hF ⊢
  rw [← nz0]
  refine it_loop (L := fun n k x => fX12_place_L14 sh (nI p) n x (nI k) σ) (E := fun x => some (x, σ)) (g := gPl R lf p) (N := R.1.2.2.2) (fun n k x hk => ?_) (fun n x => ?_) R.1.2.2.2 F 0 (nI 0) (by omega) (by omega)
  · rw [fX12_place_L14, if_pos o_3, c_3, hr.2.2.2.1, if_neg (nI_ge hk (by omega))]
    rw [rankR hR hr (show k < 6 by omega), bd_some, rankR hR hr (show p < 6 by omega), bd_some, rankR hR hr (show k < 6 by omega), bd_some, rankR hR hr (show p < 6 by omega), bd_some, hti k (by omega), hti p (by omega)]
    unfold fX12_place_J61 gPl
    rw [nI_1]
    by_cases h1 : spRank R (lf.2.2.1 p) < spRank R (lf.2.2.1 k)
    · rw [if_pos h1, if_pos h1]
    · rw [if_neg h1, if_neg h1]
      by_cases h2 : spRank R (lf.2.2.1 k) = spRank R (lf.2.2.1 p)
      · rw [if_neg (not_not_intro h2), if_neg (not_not_intro h2)]
        by_cases h3 : nI p ≤ nI k
        · rw [if_pos h3, if_pos h3, Int32.add_zero]
        · rw [if_neg h3, if_neg h3]
      · rw [if_pos h2, if_pos h2, Int32.add_zero]
  · rw [fX12_place_L14, if_pos o_3, c_3, hr.2.2.2.1, if_pos (nI_le (Nat.le_refl _) (by omega))]
theorem q_place {sh shR : List kd} {σC σR : St} {R : Rl} {ru : Option Cl} {lf : Lf} (h : QX sh shR σC σR R ru lf) (p : Int32) : alikeQ (fX11_place sh σC p) (fX12_place shR σR p) σC σR := by
  have hC := h.2.2.2.1
  have hRR := h.2.2.2.2.1
  obtain ⟨lt1, lt2, lt3⟩ := wfR_lt h.2.2.1
  unfold fX11_place fX12_place
  by_cases hp : isN R.1.2.2.2 p
  · rw [hasP_t (by omega) hC.2.2.2.2.1 hp, bd_some, if_neg n10, isP_t lt3 hRR.2.2.2.1 hp, bd_some, if_pos n10]
    obtain ⟨p', p1, p2⟩ := hp
    subst p2
    rw [placeC h.2.2.1 hC h.2.2.2.2.2.1 p1, bd_some, placeR h.2.2.1 hRR h.2.2.2.2.2.2.1 p1]
    exact alike_now
  · rw [hasP_f (by omega) hC.2.2.2.2.1 hp, bd_some, if_pos z00, isP_f lt3 hRR.2.2.2.1 hp, bd_some, if_neg nn00]
    exact alike_now
/-! gold -/
def gGo (sh rm : Nat → Int32) (own : Int32) (p k : Nat) (a : Int32 × Int32) : Int32 × Int32 := (a.1 - sh k, if own < rm k then a.2 + 1 else if ¬ rm k = own then a.2 else if nI p ≤ nI k then a.2 else a.2 + 1)
theorem sub_pos {a b : Nat} (ha : a < 2 ^ 31) (hb : b < 2 ^ 31) : 0 < nI a - nI b ↔ nI b < nI a := by
  rw [Int32.lt_iff_toInt_lt, Int32.lt_iff_toInt_lt, Int32.toInt_sub, nI_toInt ha, nI_toInt hb]
  have e : ((a : Int) - (b : Int)).bmod (2 ^ 32) = (a : Int) - b := by
    apply Int.bmod_eq_of_le
    · omega
    · omega
  rw [e]
  show (0 : Int) < _ ↔ _
  omega
def spGold (R : Rl) (lf : Lf) (mu : Int32) (p : Nat) : Int32 := if ¬ yRank R lf = 0 then mu * spRank R (lf.2.2.1 p) / yRank R lf + (if (it (gGo (fun k => mu * spRank R (lf.2.2.1 k) / yRank R lf) (fun k => mu * spRank R (lf.2.2.1 k) - mu * spRank R (lf.2.2.1 k) / yRank R lf * yRank R lf) (mu * spRank R (lf.2.2.1 p) - mu * spRank R (lf.2.2.1 p) / yRank R lf * yRank R lf) p) R.1.2.2.2 0 (mu, 0)).1 ≤ (it (gGo (fun k => mu * spRank R (lf.2.2.1 k) / yRank R lf) (fun k => mu * spRank R (lf.2.2.1 k) - mu * spRank R (lf.2.2.1 k) / yRank R lf * yRank R lf) (mu * spRank R (lf.2.2.1 p) - mu * spRank R (lf.2.2.1 p) / yRank R lf * yRank R lf) p) R.1.2.2.2 0 (mu, 0)).2 then 0 else 1) else 0
theorem goldC {sh : List kd} {σ : St} {R : Rl} {lf : Lf} {p : Nat} {mu : Int32} (hR : wfR R) (hK : wfK R) (hr : isRC σ 20 R) (hl : LfC σ 26 = lf) (hp : p < R.1.2.2.2) : fX2_goldOf sh σ 19 mu (nI p) = some (spGold R lf mu p, σ) := by
  have hP := hR.2.2.1
  have hti := (LfC_of hl).2.2.2.2.2.1
  have hP4 : σ.1 (19 + 1) 4 = nI R.1.2.2.2 := hr.2.2.2.2.1
  have hrk : ∀ k, k < 6 → fX6_rankOf sh σ (19 + 1) (σ.2.1 (19 + 7 + 2) k) = some (spRank R (lf.2.2.1 k), σ) := by
    intro k hk
    rw [show σ.2.1 (19 + 7 + 2) k = lf.2.2.1 k from hti k hk]
    exact rankC hR hr
  unfold fX2_goldOf
  have hF : 6 < i_F := i_F_gt (by omega)
  have h1 : fX2_goldOf_L5 sh 19 mu (nI p) (fun (x54 : Int32) (x55 : Int32) (s56 : St) => fX2_goldOf_X43 sh 19 mu (nI p) x54 x55 s56) i_F 0 0 σ = fX2_goldOf_X43 sh 19 mu (nI p) (yRank R lf) (nI R.1.2.2.2) σ := by
    generalize i_F = F at hF ⊢
    rw [← nz0]
    refine it_loop (L := fun n k x => fX2_goldOf_L5 sh 19 mu (nI p) (fun (x54 : Int32) (x55 : Int32) (s56 : St) => fX2_goldOf_X43 sh 19 mu (nI p) x54 x55 s56) n x (nI k) σ) (E := fun x => fX2_goldOf_X43 sh 19 mu (nI p) x (nI R.1.2.2.2) σ) (g := fun k a => a + spRank R (lf.2.2.1 k)) (N := R.1.2.2.2) (fun n k x hk => ?_) (fun n x => ?_) R.1.2.2.2 F 0 (nI 0) (by omega) (by omega)
    · rw [fX2_goldOf_L5, hP4, if_neg (nI_ge hk (by omega)), if_pos (ok_nI (by omega) (by omega)), nI_clamp (by omega), hrk k (by omega), bd_some, nI_1]
    · rw [fX2_goldOf_L5, hP4, if_pos (nI_le (Nat.le_refl _) (by omega))]
  rw [h1]
  unfold fX2_goldOf_X43 spGold
  obtain ⟨N, n1, n2⟩ := tot_le hR hK lf
  by_cases hN : N = 0
  · rw [n2, hN, if_neg (by decide), if_neg (not_not_intro nI_0)]
  · have ht0 : ¬ yRank R lf = 0 := by rw [n2]; exact nI_ne0 (by omega) (by omega)
    have ht1 : 0 < yRank R lf := by rw [n2, ← nz0]; exact nI_lt (by omega) (by omega)
    rw [if_pos ht1, if_pos ht0, if_pos (ok_nI (by omega) (by omega)), nI_clamp (by omega), hrk p (by omega), bd_some]
    generalize i_F = F at hF ⊢
    generalize hG : gGo (fun k => mu * spRank R (lf.2.2.1 k) / yRank R lf) (fun k => mu * spRank R (lf.2.2.1 k) - mu * spRank R (lf.2.2.1 k) / yRank R lf * yRank R lf) (mu * spRank R (lf.2.2.1 p) - mu * spRank R (lf.2.2.1 p) / yRank R lf * yRank R lf) p = G
    rw [← nz0]
    refine lpI (L := fun N k (a : (Int32 × Int32) × Value) => fX2_goldOf_L78 sh 19 mu (nI p) (yRank R lf) (spRank R (lf.2.2.1 p)) (fun (x123 : Int32) (x124 : Int32) (x125 : Int32) (x126 : Value) (s127 : St) => fX2_goldOf_X157 sh 19 mu (nI p) (yRank R lf) (spRank R (lf.2.2.1 p)) x123 x124 x125 x126 s127) N a.1.1 a.1.2 (nI k) a.2 σ) (E := fun r => r = some (mu * spRank R (lf.2.2.1 p) / yRank R lf + (if (it G R.1.2.2.2 0 (mu, nI 0)).1 ≤ (it G R.1.2.2.2 0 (mu, nI 0)).2 then nI 0 else 1), σ)) (fun k a => a.1 = it G k 0 (mu, nI 0)) R.1.2.2.2 (fun N k a hk hI => Or.inl ?_) (fun N a hI => ?_) R.1.2.2.2 F 0 ((mu, nI 0), .retAddr 0) (by omega) (by omega) rfl
    · obtain ⟨⟨x, y⟩, v⟩ := a
      dsimp only at hI ⊢
      have e : it G (k + 1) 0 (mu, nI 0) = G k (x, y) := by rw [it_succ, hI]
      rw [← hG] at e
      rw [← hG]
      unfold gGo at e
      rw [fX2_goldOf_L78, hP4, if_neg (nI_ge hk (by omega)), if_pos (ok_nI (by omega) (by omega)), nI_clamp (by omega), hrk k (by omega), bd_some]
      simp only [if_neg ht0]
      unfold fX2_goldOf_J151
      rw [nI_1]
      dsimp only at e
      by_cases h1 : mu * spRank R (lf.2.2.1 p) - mu * spRank R (lf.2.2.1 p) / yRank R lf * yRank R lf < mu * spRank R (lf.2.2.1 k) - mu * spRank R (lf.2.2.1 k) / yRank R lf * yRank R lf
      · rw [if_pos h1] at e ⊢
        exact ⟨((_, _), _), rfl, e.symm⟩
      · rw [if_neg h1] at e ⊢
        by_cases h2 : mu * spRank R (lf.2.2.1 k) - mu * spRank R (lf.2.2.1 k) / yRank R lf * yRank R lf = mu * spRank R (lf.2.2.1 p) - mu * spRank R (lf.2.2.1 p) / yRank R lf * yRank R lf
        · rw [if_neg (not_not_intro h2)] at e ⊢
          by_cases h3 : nI p ≤ nI k
          · rw [if_pos h3] at e ⊢
            exact ⟨((_, _), _), rfl, e.symm⟩
          · rw [if_neg h3] at e ⊢
            exact ⟨((_, _), _), rfl, e.symm⟩
        · rw [if_pos h2] at e ⊢
          exact ⟨((_, _), _), rfl, e.symm⟩
    · obtain ⟨⟨x, y⟩, v⟩ := a
      dsimp only at hI ⊢
      rw [fX2_goldOf_L78, hP4, if_pos (nI_le (Nat.le_refl _) (by omega)), ← hI]
      unfold fX2_goldOf_X157
      rw [if_neg ht0, nz0]
theorem goldR {sh : List kd} {σ : St} {R : Rl} {lf : Lf} {p m : Nat} (hR : wfR R) (hK : wfK R) (hr : isRR σ R) (hl : LfR σ = lf) (hp : p < R.1.2.2.2) (hm : m ≤ 9999) : fX12_gold_L27 sh (nI m) (nI p) (fun (x62 : Int32) (x63 : Int32) (s64 : St) => fX12_gold_X53 sh (nI m) (nI p) x62 x63 s64) i_F 0 0 σ = some (spGold R lf (nI m) p, σ) := by
  have hP := hR.2.2.1
  have hti := (LfR_of hl).2.2.2.2.2.1
  have hP4 := hr.2.2.2.1
  have hrk : ∀ k, k < 6 → fX12_rankOf sh σ (nI k) = some (spRank R (lf.2.2.1 k), σ) := by
    intro k hk
    rw [rankR hR hr hk, hti k hk]
  have hF : 6 < i_F := i_F_gt (by omega)
  have h1 : fX12_gold_L27 sh (nI m) (nI p) (fun (x62 : Int32) (x63 : Int32) (s64 : St) => fX12_gold_X53 sh (nI m) (nI p) x62 x63 s64) i_F 0 0 σ = fX12_gold_X53 sh (nI m) (nI p) (yRank R lf) (nI R.1.2.2.2) σ := by
    generalize i_F = F at hF ⊢
    rw [← nz0]
    refine it_loop (L := fun n k x => fX12_gold_L27 sh (nI m) (nI p) (fun (x62 : Int32) (x63 : Int32) (s64 : St) => fX12_gold_X53 sh (nI m) (nI p) x62 x63 s64) n x (nI k) σ) (E := fun x => fX12_gold_X53 sh (nI m) (nI p) x (nI R.1.2.2.2) σ) (g := fun k a => a + spRank R (lf.2.2.1 k)) (N := R.1.2.2.2) (fun n k x hk => ?_) (fun n x => ?_) R.1.2.2.2 F 0 (nI 0) (by omega) (by omega)
    · rw [fX12_gold_L27, if_pos o_3, c_3, hP4, if_neg (nI_ge hk (by omega)), hrk k (by omega), bd_some, nI_1]
    · rw [fX12_gold_L27, if_pos o_3, c_3, hP4, if_pos (nI_le (Nat.le_refl _) (by omega))]
  rw [h1]
  unfold fX12_gold_X53 spGold
  by_cases ht0 : yRank R lf = 0
  · rw [if_neg (not_not_intro ht0), if_neg (not_not_intro ht0)]
  · rw [if_pos ht0, if_pos ht0]
    obtain ⟨N, n1, n2⟩ := tot_le hR hK lf
    -- the rests are numbers
    have hrm : ∀ x, ∃ r, r < 2 ^ 31 ∧ nI m * spRank R x - nI m * spRank R x / yRank R lf * yRank R lf = nI r := by
      intro x
      obtain ⟨r, r1, r2⟩ := rank_le hR hK x
      have hmr : m * r ≤ 9999 * 120 := Nat.mul_le_mul hm r1
      refine ⟨m * r % N, ?_, ?_⟩
      · have := Nat.mod_le (m * r) N
        omega
      · rw [r2, n2, nI_mul, nI_mod (by omega) (by omega)]
    generalize i_F = F at hF ⊢
    generalize hG : gGo (fun k => nI m * spRank R (lf.2.2.1 k) / yRank R lf) (fun k => nI m * spRank R (lf.2.2.1 k) - nI m * spRank R (lf.2.2.1 k) / yRank R lf * yRank R lf) (nI m * spRank R (lf.2.2.1 p) - nI m * spRank R (lf.2.2.1 p) / yRank R lf * yRank R lf) p = G
    rw [← nz0]
    refine lpI (L := fun N k (a : (Int32 × Int32) × Value) => fX12_gold_L68 sh (nI m) (nI p) (yRank R lf) (fun (x127 : Int32) (x128 : Int32) (x129 : Int32) (x130 : Value) (s131 : St) => fX12_gold_X148 sh (nI m) (nI p) (yRank R lf) x127 x128 x129 x130 s131) N a.1.1 a.1.2 (nI k) a.2 σ) (E := fun r => r = some (nI m * spRank R (lf.2.2.1 p) / yRank R lf + (if (it G R.1.2.2.2 0 (nI m, nI 0)).1 ≤ (it G R.1.2.2.2 0 (nI m, nI 0)).2 then nI 0 else 1), σ)) (fun k a => a.1 = it G k 0 (nI m, nI 0)) R.1.2.2.2 (fun N k a hk hI => Or.inl ?_) (fun N a hI => ?_) R.1.2.2.2 F 0 ((nI m, nI 0), .retAddr 0) (by omega) (by omega) rfl
    · obtain ⟨⟨x, y⟩, v⟩ := a
      dsimp only at hI ⊢
      have e : it G (k + 1) 0 (nI m, nI 0) = (x - nI m * spRank R (lf.2.2.1 k) / yRank R lf, if nI m * spRank R (lf.2.2.1 p) - nI m * spRank R (lf.2.2.1 p) / yRank R lf * yRank R lf < nI m * spRank R (lf.2.2.1 k) - nI m * spRank R (lf.2.2.1 k) / yRank R lf * yRank R lf then y + 1 else if ¬ nI m * spRank R (lf.2.2.1 k) - nI m * spRank R (lf.2.2.1 k) / yRank R lf * yRank R lf = nI m * spRank R (lf.2.2.1 p) - nI m * spRank R (lf.2.2.1 p) / yRank R lf * yRank R lf then y else if nI p ≤ nI k then y else y + 1) := by
        rw [it_succ, ← hI, ← hG]
        rfl
      rw [fX12_gold_L68, if_pos o_3, c_3, hP4, if_neg (nI_ge hk (by omega)), hrk k (by omega), bd_some, if_neg ht0, hrk k (by omega), bd_some, if_neg ht0, hrk p (by omega), bd_some, if_neg ht0, jp, nI_1]
      obtain ⟨a, a1, a2⟩ := hrm (lf.2.2.1 k)
      obtain ⟨b, b1, b2⟩ := hrm (lf.2.2.1 p)
      rw [a2, b2] at e ⊢
      by_cases h1 : nI b < nI a
      · rw [if_pos h1] at e
        rw [if_pos ((sub_pos a1 b1).mpr h1)]
        exact ⟨((_, _), _), rfl, e.symm⟩
      · rw [if_neg h1] at e
        rw [if_neg (fun q => h1 ((sub_pos a1 b1).mp q))]
        by_cases h2 : nI a = nI b
        · rw [if_neg (not_not_intro h2)] at e
          rw [if_neg (not_not_intro (sub0.mpr h2))]
          by_cases h3 : nI p ≤ nI k
          · rw [if_pos h3] at e ⊢
            rw [Int32.add_zero]
            exact ⟨((_, _), _), rfl, e.symm⟩
          · rw [if_neg h3] at e ⊢
            exact ⟨((_, _), _), rfl, e.symm⟩
        · rw [if_pos h2] at e
          rw [if_pos (fun q => h2 (sub0.mp q)), Int32.add_zero]
          exact ⟨((_, _), _), rfl, e.symm⟩
    · obtain ⟨⟨x, y⟩, v⟩ := a
      dsimp only at hI ⊢
      rw [fX12_gold_L68, if_pos o_3, c_3, hP4, if_pos (nI_le (Nat.le_refl _) (by omega)), ← hI]
      unfold fX12_gold_X148
      rw [hrk p (by omega), bd_some, if_neg ht0, nz0]
theorem q_gold {sh shR : List kd} {σC σR : St} {R : Rl} {ru : Option Cl} {lf : Lf} (h : QX sh shR σC σR R ru lf) (hK : wfK R) (m p : Int32) : alikeQ (fX11_gold sh σC m p) (fX12_gold shR σR m p) σC σR := by
  have hC := h.2.2.2.1
  have hRR := h.2.2.2.2.1
  obtain ⟨lt1, lt2, lt3⟩ := wfR_lt h.2.2.1
  unfold fX11_gold fX12_gold
  by_cases hp : isN R.1.2.2.2 p
  · rw [hasP_t (by omega) hC.2.2.2.2.1 hp, bd_some, if_neg n10, isP_t lt3 hRR.2.2.2.1 hp, bd_some, if_neg n10]
    by_cases hm : btw m 0 9999
    · rw [within_t (a := 0) (b := 9999) (by decide) (by decide) (by decide) (by decide) hm, bd_some, if_pos n10, in_t (a := 0) (b := 9999) (by decide) (by decide) (by decide) (by decide) hm, bd_some, if_pos n10]
      obtain ⟨p', p1, p2⟩ := hp
      obtain ⟨m', m1, m2, m3⟩ := hm
      subst p2 m3
      rw [goldC h.2.2.1 hK hC h.2.2.2.2.2.1 p1, bd_some, goldR h.2.2.1 hK hRR h.2.2.2.2.2.2.1 p1 m2]
      exact alike_now
    · rw [within_f (a := 0) (b := 9999) (by decide) (by decide) (by decide) (by decide) hm, bd_some, if_neg nn00, in_f (a := 0) (b := 9999) (by decide) (by decide) (by decide) (by decide) hm, bd_some, if_neg nn00]
      exact alike_now
  · rw [hasP_f (by omega) hC.2.2.2.2.1 hp, bd_some, if_pos z00, isP_f lt3 hRR.2.2.2.1 hp, bd_some, if_pos z00]
    exact alike_now
