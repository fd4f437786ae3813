/-! ===== the reference: what he holds ===== -/
/-- the RULE in force, as the reference has it -/
def ruR (σ : St) (ru : Option Cl) : Prop := match ru with
  | none => σ.2.1 1 10 = -1
  | some cl => ∃ k, k < 6 ∧ σ.2.1 1 10 = nI k ∧ σ.2.1 22 k = nI cl.length ∧ cl.length ≤ 12 ∧ tl cl ≤ 300 ∧ wfCl cl ∧ RuR (σ.2.1 20) (σ.2.1 21) (σ.2.1 23) (σ.2.1 24) (σ.2.1 25) k 0 0 cl
theorem jp {α β : Type} {k : α} {f : α → β} : i_jp k f = f k := rfl
theorem nL_A {σ : St} {i k : Nat} {x : Int64} : (s_L σ i k x).2.1 = σ.2.1 := Eq.trans rfl rfl
theorem due_r {x y : Int32} : (if y ≤ x then x else y) = (if x < y then y else x) := by
  by_cases h : x < y
  · rw [if_pos h, if_neg (Int32.not_le.mpr h)]
  · rw [if_neg h, if_pos (Int32.not_lt.mp h)]
theorem sumR {sh : List kd} {σ : St} {t k : Nat} {R : Rl} {lf : Lf} {b : Nat} {cl : Cl} (hR : wfR R) (hD : 0 < R.1.1) (hb : b < 2 ^ 31) (hr : isRR σ R) (hl : LfR σ = lf) (hwl : wfL R b lf) (ht : t < R.1.2.2.1) (hk : k < 6) (hf : σ.2.1 1 10 = nI k) (hcm : σ.2.1 22 k = nI cl.length) (hm : cl.length ≤ 12) (htl : tl cl ≤ 300) (hwf : wfCl cl) (hru : RuR (σ.2.1 20) (σ.2.1 21) (σ.2.1 23) (σ.2.1 24) (σ.2.1 25) k 0 0 cl) :
    ∃ τ, fX12_sumOf sh σ (nI t) = some (spW (spWords R lf t) cl, τ) ∧ sameL σ τ := by
  have hT := hR.2.1
  have hP := hR.2.2.1
  have h12 := hR.1
  obtain ⟨l1, l2, l3, l4, l5, l6, l7, l8⟩ := LfR_of hl
  obtain ⟨r1, r2, r3, r4, r5, r6, r7, r8, r9⟩ := hr
  have hL : fX12_sumOf sh σ (nI t) = fX12_sumOf_X71 sh (nI t) σ (it (gDue R.1.2.1 lf.2.1) R.1.2.2.2 0 (0, 0)).1 (it (gDue R.1.2.1 lf.2.1) R.1.2.2.2 0 (0, 0)).2 (nI R.1.2.2.2) := by
    unfold fX12_sumOf
    rw [← nz0]
    have hF : R.1.2.2.2 < i_F := i_F_gt (by omega)
    generalize i_F = F at hF ⊢
    refine it_loop (L := fun n k x => fX12_sumOf_L7 sh (nI t) σ (fun (x54 : Int32) (x55 : Int32) (x56 : Int32) => fX12_sumOf_X71 sh (nI t) σ x54 x55 x56) n x.1 x.2 (nI k)) (E := fun x => fX12_sumOf_X71 sh (nI t) σ x.1 x.2 (nI R.1.2.2.2)) (g := gDue R.1.2.1 lf.2.1) (N := R.1.2.2.2) (fun n k x hk => ?_) (fun n x => ?_) R.1.2.2.2 F 0 (nI 0, nI 0) (by omega) hF
    · have hcl : (nI k).toNatClampNeg = k := nI_clamp (by omega)
      have hok : i_ok (nI k) 6 := ok_nI (by omega) (by omega)
      have hlk := l5 k (by omega)
      rw [fX12_sumOf_L7]
      unfold fX12_sumOf_J64
      simp only [if_pos o_3, if_pos o_1, if_pos hok, c_3, c_1, hcl, hlk, r2, r4, if_neg (nI_ge hk (show R.1.2.2.2 < 2 ^ 31 by omega)), nI_1]
      unfold gDue
      have e1 : x.1 + (if lf.2.1 k < R.1.2.1 then 0 else 1 : Int32) = if lf.2.1 k < R.1.2.1 then x.1 else x.1 + 1 := by
        split
        · exact Int32.add_zero _
        · rfl
      rw [e1]
      by_cases hc : lf.2.1 k ≤ x.2
      · rw [if_pos hc]
        dsimp only
        rw [if_neg (Int32.not_lt.mpr hc)]
      · rw [if_neg hc]
        dsimp only
        rw [if_pos (Int32.not_le.mp hc)]
    · rw [fX12_sumOf_L7, if_pos o_3, c_3, r4, if_pos (nI_le (Nat.le_refl _) (by omega))]
  have hok : i_ok (nI t) 6 := ok_nI (by omega) (by omega)
  have hcl : (nI t).toNatClampNeg = t := nI_clamp (by omega)
  have hck := ck_ok hR hD hb hwl
  have hck2 : lf.1.1 - lf.1.1 / nI R.1.1 * nI R.1.1 = spCk R lf := rfl
  rw [hL]
  generalize hdue : it (gDue R.1.2.1 lf.2.1) R.1.2.2.2 0 (0, 0) = due
  unfold fX12_sumOf_X71
  simp only [c_0, c_1, c_2, c_3, c_4, c_5, c_6, c_7, c_8, c_9, c_10, c_11, hcl]
  simp only [l1, r1]
  simp only [hck2]
  rw [if_pos o_4, if_pos o_0, if_neg (nI_ne0 hD (show R.1.1 < 2 ^ 31 by omega)), if_pos p_0, if_pos hok, if_pos p_1]
  rw [jp, if_pos p_2, jp, if_pos hck, if_pos p_3, jp, if_pos o_5, if_pos p_4, if_pos hok, if_pos p_5, jp]
  rw [bearR hP (by exact r4) (ti := lf.2.2.1) (by intro j hj; exact l6 j hj), bd_some, if_pos p_6, if_pos p_7]
  rw [knR hP (by exact r4) (ti := lf.2.2.1) (by intro j hj; exact l6 j hj), bd_some, bitsR, bd_some, if_pos p_8, if_pos p_9, if_pos o_3, if_pos p_10, jp]
  rw [if_pos o_4, if_pos p_11]
  have key : ∀ S : St, sameL σ S → (∀ j, j < 12 → S.2.2.1 27 j = spWords R lf t j) → ∃ τ, i_bd (fX12_wanted sh S) (fun r157 s158 => some (r157, s158)) = some (spW (spWords R lf t) cl, τ) ∧ sameL σ τ := by
    intro S sS hS
    obtain ⟨τ, t1, t2⟩ := wantR (sh := sh) hk hm (w := spWords R lf t) (σ := S) (by rw [sS.2.1]; exact hf) (cl := cl) rfl htl hwf hS (by rw [sS.2.1]; exact hcm) (by rw [sS.2.1]; exact hru)
    rw [t1, bd_some]
    exact ⟨τ, rfl, sameL_trans sS (sameL_only t2)⟩
  refine key _ ⟨rfl, rfl, rfl⟩ ?_
  intro j hj
  subst hdue
  have hrk := r5 t ht
  have hih := r7 _ hck.2
  have htm := l8 t (by omega)
  have hj2 : j = 0 ∨ j = 1 ∨ j = 2 ∨ j = 3 ∨ j = 4 ∨ j = 5 ∨ j = 6 ∨ j = 7 ∨ j = 8 ∨ j = 9 ∨ j = 10 ∨ j = 11 := by omega
  rcases hj2 with h | h | h | h | h | h | h | h | h | h | h | h
  all_goals subst h
  all_goals simp only [s_L_rd, spWords, nL_A, hrk, hih, htm, r4, l1, l2]
  all_goals simp
theorem holdR {sh : List kd} {σ : St} {R : Rl} {ru : Option Cl} {lf : Lf} {b : Nat} (hR : wfR R) (hD : 0 < R.1.1) (hb : b < 2 ^ 31) (hr : isRR σ R) (hl : LfR σ = lf) (hwl : wfL R b lf) (hu : ruR σ ru) :
    ∃ τ, fX12_holds sh σ = some (spHand R ru lf, τ) ∧ sameL σ τ := by
  have hT := hR.2.1
  have h12 := hR.1
  obtain ⟨l1, l2, l3, l4, l5, l6, l7, l8⟩ := LfR_of hl
  obtain ⟨r1, r2, r3, r4, r5, r6, r7, r8, r9⟩ := hr
  unfold fX12_holds spHand
  simp only [if_pos o_7, c_7, l4, if_pos o_6, c_6, l3]
  by_cases g1 : lf.1.2.2.2 ≤ 0
  · rw [if_pos g1, if_pos g1]
    by_cases g2 : lf.1.2.2.1 = -1
    · rw [if_pos g2, if_pos g2, if_pos o_10, c_10]
      cases ru with
      | none =>
        have hf : σ.2.1 1 10 = -1 := hu
        have hck := ck_ok hR hD hb hwl
        have hck2 : lf.1.1 - lf.1.1 / nI R.1.1 * nI R.1.1 = spCk R lf := rfl
        rw [hf, if_neg (by decide), if_pos o_4, if_pos o_0, c_0, c_4, r1, l1, if_neg (nI_ne0 hD (by omega)), hck2, if_pos hck, r7 _ hck.2]
        exact ⟨σ, rfl, sameL_refl⟩
      | some cl =>
        obtain ⟨k, u1, u2, u3, u4, u5, u6, u7⟩ := hu
        rw [u2, if_pos (by
          intro e
          have : ¬ nI k < 0 := nI_pos (by omega)
          rw [e] at this
          exact this (by decide))]
        have hF : R.1.2.2.1 < i_F := i_F_gt (by omega)
        generalize i_F = F at hF ⊢
        rw [← nz0]
        have key : ∀ (m n q : Nat) (x : Int32 × Int64) (v : Value) (s : St), q + m = R.1.2.2.1 → m < n → sameL σ s → ∃ τ, fX12_holds_L68 sh n x.1 x.2 (nI q) v s = some ((it (gBest R cl lf) m q x).1, τ) ∧ sameL σ τ := by
          intro m
          induction m with
          | zero =>
            intro n q x v s hq hn hs
            obtain ⟨n, rfl⟩ : ∃ n', n = n' + 1 := ⟨n - 1, by omega⟩
            refine ⟨s, ?_, hs⟩
            rw [fX12_holds_L68, if_pos o_2, c_2, hs.2.1, r3, if_pos (nI_le (by omega) (by omega))]
            rfl
          | succ m ih =>
            intro n q x v s hq hn hs
            obtain ⟨n, rfl⟩ : ∃ n', n = n' + 1 := ⟨n - 1, by omega⟩
            obtain ⟨τ, t1, t2⟩ := sumR (sh := sh) (σ := s) (t := q) (k := k) (cl := cl) hR hD hb (isRR_L hs ⟨r1, r2, r3, r4, r5, r6, r7, r8, r9⟩) ((LfR_L hs).trans hl) hwl (by omega) u1 (by rw [hs.2.1]; exact u2) (by rw [hs.2.1]; exact u3) u4 u5 u6 (by rw [hs.2.1]; exact u7)
            rw [fX12_holds_L68, if_pos o_2, c_2, hs.2.1, r3, if_neg (nI_ge (by omega) (by omega)), t1, bd_some]
            unfold fX12_holds_J100
            rw [nI_1]
            show ∃ τ, _ = some ((it (gBest R cl lf) m (q + 1) (gBest R cl lf q x)).1, τ) ∧ _
            unfold gBest
            by_cases hg : lg_cmp (spW (spWords R lf q) cl) x.2 ≤ 0
            · rw [if_pos hg, if_pos hg]
              exact ih n (q + 1) x _ τ (by omega) (by omega) (sameL_trans hs t2)
            · rw [if_neg hg, if_neg hg]
              exact ih n (q + 1) (nI q, spW (spWords R lf q) cl) _ τ (by omega) (by omega) (sameL_trans hs t2)
        exact key R.1.2.2.1 F 0 (-1, 0) _ σ (by omega) hF sameL_refl
    · rw [if_neg g2, if_neg g2]
      exact ⟨σ, rfl, sameL_refl⟩
  · rw [if_neg g1, if_neg g1]
    exact ⟨σ, rfl, sameL_refl⟩
/-! ===== an HOUR: the class and the reference alike ===== -/
def spHour (R : Rl) (ru : Option Cl) (lf : Lf) : Int32 × Lf := spPass R.1.2.1 R.2.2.2.2.2 R.1.2.2.2 (spHand R ru lf) lf
theorem spPass_congr {owed held : Int32} {sv sv' : Nat → Int32} {P : Nat} {lf : Lf} (h : ∀ j, j < P → sv j = sv' j) : spPass owed sv P held lf = spPass owed sv' P held lf := by
  unfold spPass
  rw [spTurns_congr P 0 _ (fun j _ h2 => h j (by omega))]
theorem hourC {sh : List kd} (hsh : cSh sh) {σ : St} {a r : Nat} {force : Int32} {R : Rl} {ru : Option Cl} {lf : Lf} {b : Nat} (hR : wfR R) (hD : 0 < R.1.1) (hb : b < 2 ^ 31) (hr : isRC σ r R) (hl : LfC σ a = lf) (hwl : wfL R b lf) (hu : ruC sh σ force ru) (har : r ≠ a) (h5 : r + 5 ≠ a + 1 ∧ r + 5 ≠ a + 2 ∧ r + 5 ≠ a + 3 ∧ r + 5 ≠ a + 4) :
    ∃ τ, fX0_pass sh σ a r force = some ((spHour R ru lf).1, τ) ∧ LfC τ a = (spHour R ru lf).2 ∧ frC a σ τ := by
  obtain ⟨τ, t1, t2⟩ := handC hsh hR hD hb hr hl hwl hu
  have hok := isH_ok hR.2.1 (spHand_ok (ru := ru) hR hD hb hwl)
  obtain ⟨υ, u1, u2, u3⟩ := passC (sh := sh) hR.2.2.1 hr.2.2.2.2.1 har h5 t1 t2 (hok.imp (fun e => by rw [e]; decide) id)
  have e : spPass (σ.1 r 2) (σ.2.1 (r + 5)) R.1.2.2.2 (spHand R ru lf) (LfC σ a) = spHour R ru lf := by
    rw [hl, hr.2.2.1]
    exact spPass_congr hr.2.2.2.2.2.2.2.2.2
  rw [e] at u1 u2
  exact ⟨υ, u1, u2, u3⟩
theorem hourR {sh : List kd} {σ : St} {R : Rl} {ru : Option Cl} {lf : Lf} {b : Nat} (hR : wfR R) (hD : 0 < R.1.1) (hb : b < 2 ^ 31) (hr : isRR σ R) (hl : LfR σ = lf) (hwl : wfL R b lf) (hu : ruR σ ru) :
    ∃ τ, fX12_goes sh σ = some ((spHour R ru lf).1, τ) ∧ LfR τ = (spHour R ru lf).2 ∧ frR σ τ := by
  obtain ⟨τ, t1, t2⟩ := holdR (sh := sh) hR hD hb hr hl hwl hu
  have hok := isH_ok hR.2.1 (spHand_ok (ru := ru) hR hD hb hwl)
  obtain ⟨g, g9, hg⟩ := hwl.2.2.2.1
  have hg2 : σ.2.1 1 7 = nI g := by rw [(LfR_of hl).2.2.2.1]; exact hg
  obtain ⟨υ, u1, u2, u3⟩ := goesR (sh := sh) hR.2.2.1 hr.2.2.2.1 hg2 g9 t1 t2 hok
  have e : spPass (σ.2.1 1 1) (σ.2.1 7) R.1.2.2.2 (spHand R ru lf) (LfR σ) = spHour R ru lf := by
    rw [hl, hr.2.1]
    exact spPass_congr hr.2.2.2.2.2.2.2.2
  rw [e] at u1 u2
  exact ⟨υ, u1, u2, u3⟩
