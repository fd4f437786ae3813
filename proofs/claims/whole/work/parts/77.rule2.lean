/-! ===== the text of a RULE is read alike ===== -/
theorem goesOn_f {sh : List kd} {σ : St} {tp : List Nat} {f : Int32} (h0 : ¬ f = 0) (h : FW σ tp f) : ∃ τ, fX12_goesOn sh σ = some (0, τ) ∧ nfR σ τ ∧ τ.1 0 21 = f := by
  obtain ⟨a1, a2, p, a3, a4⟩ := h
  have b2 : (s_F σ 0 20 (nI (skp tp p))).1 0 21 = f := by rw [s_F_rd, if_neg (by omega)]; exact a2
  unfold fX12_goesOn
  rw [blanksR a1 a3 a4, bd_some, b2, if_pos h0]
  unfold fX12_goesOn_J40
  rw [b2, if_pos h0]
  exact ⟨_, rfl, nfR_trans nfR_20 nfR_20, by rw [s_F_rd, if_neg (by omega)]; exact b2⟩
def CJ (σC σR : St) (sl : Nat) (cl : Cl) : Prop := RuC (σC.2.1 11) (σC.2.1 12) (σC.2.1 13) (σC.2.1 14) 0 0 cl ∧ RuR (σR.2.1 20) (σR.2.1 21) (σR.2.1 23) (σR.2.1 24) (σR.2.1 25) sl 0 0 cl ∧ σC.1 10 5 = nI (tl cl) ∧ σC.1 10 6 = nI cl.length ∧ cl.length ≤ 12 ∧ tl cl < 300 ∧ wfCl cl
theorem CI_CJ {σC σR τC τR : St} {tp : List Nat} {sl p cnt nt : Nat} {cl : Cl} (h : CI σC σR tp sl p cnt nt cl) (hC : nfC σC τC) (hR : nfR σR τR) : CJ τC τR sl cl := by
  obtain ⟨g1, g2, g3, g4, g5, g6, g7, g8, g9, g10⟩ := h
  unfold CJ
  rw [hC.2, hR.2, hC.1 10 5 (by omega), hC.1 10 6 (by omega), ← flat_tl]
  exact ⟨RuC_of cl 0 0 g1.2.2.2.2.2.2 g6, RuR_of cl 0 0 g2.2.2.2.2.2.2.2.2 g7, g1.2.2.2.2.1, g4, g3, BD_lt g9, g8⟩
noncomputable def kC (sh : List kd) (L : Int32 → St → Option (Int32 × St)) (x4 : Int32) (s228 : St) : Option (Int32 × St) := if ¬ (s228.1 1 3) = 0 then fX8_read_X123 sh x4 s228 else i_bd (fX9_sign sh s228) (fun r231 s232 => if ¬ r231 = (-1) then i_bd (fX9_takeSign sh s232 59) (fun r235 s236 => if ¬ r235 = 0 then L (x4 + 1) s236 else fX8_read_X99 sh x4 s236) else fX8_read_X84 sh x4 s232)
theorem L24_eq {sh : List kd} {N : Nat} {x4 : Int32} {s5 : St} (h : ¬ 12 < x4) : fX8_read_L24 sh (fun (x56 : Int32) (s57 : St) => fX8_read_X84 sh x56 s57) (fun (x108 : Int32) (s109 : St) => fX8_read_X99 sh x108 s109) (fun (x160 : Int32) (s161 : St) => fX8_read_X123 sh x160 s161) (N + 1) x4 s5 = clK sh (kC sh (fX8_read_L24 sh (fun (x56 : Int32) (s57 : St) => fX8_read_X84 sh x56 s57) (fun (x108 : Int32) (s109 : St) => fX8_read_X99 sh x108 s109) (fun (x160 : Int32) (s161 : St) => fX8_read_X123 sh x160 s161) N) x4) s5 := by
  rw [fX8_read_L24, if_neg h]
  rfl
theorem ruleLoop {sh shR : List kd} {tp : List Nat} {sl : Nat} {kX : Int32 → Int32 → St → Option (Int32 × St)} (hsl : sl < 6) : ∀ (m N1 N2 : Nat) (σC σR : St) (p cnt nt : Nat) (cl : Cl), cl.length + m = 13 → m < N1 → m < N2 → CI σC σR tp sl p cnt nt cl →
    ∃ f n τC τR, fX8_read_L24 sh (fun (x56 : Int32) (s57 : St) => fX8_read_X84 sh x56 s57) (fun (x108 : Int32) (s109 : St) => fX8_read_X99 sh x108 s109) (fun (x160 : Int32) (s161 : St) => fX8_read_X123 sh x160 s161) N1 (nI cl.length) σC = some (f, τC) ∧ fX12_rule_L27 shR kX N2 (nI cl.length) 1 σR = kX (nI n) 0 τR ∧ fmC' σC τC ∧ fmR' sl σR τR ∧ τC.1 1 3 = f ∧ τR.1 0 21 = f ∧ fOK f ∧ (f = 0 → ∃ cl', cl'.length = n ∧ CJ τC τR sl cl') := by
  intro m
  induction m with
  | zero =>
    intro N1 N2 σC σR p cnt nt cl hm _ _ h
    have := h.2.2.1
    omega
  | succ m ih =>
    intro N1 N2 σC σR p cnt nt cl hm hN1 hN2 h
    obtain ⟨N1, rfl⟩ : ∃ n', N1 = n' + 1 := ⟨N1 - 1, by omega⟩
    obtain ⟨N2, rfl⟩ : ∃ n', N2 = n' + 1 + 1 := ⟨N2 - 2, by omega⟩
    have hk12 := h.2.2.1
    have h400 := h.1.1.1
    rw [L24_eq (by rw [show (12 : Int32) = nI 12 from by decide]; exact nI_nlt hk12 (by omega))]
    obtain ⟨τC, τR, a1, a2, a3, a4, a5⟩ := clause_both (sh := sh) (shR := shR) hsl h
    rw [a1, fX12_rule_L27, if_neg (by decide), a2, bd_some]
    unfold kC
    have hend : ∀ (y : Int32) (s : St), fX12_rule_L27 shR kX (N2 + 1) y 0 s = kX y 0 s := by
      intro y s
      rw [fX12_rule_L27, if_pos rfl]
    rcases a5 with ⟨p', cnt', nt', q, b1, b2⟩ | ⟨f, b1, b2, b3, b4⟩
    · have hP : PX τC τR tp 0 := ⟨b2.1.1, b2.2.1.1, b2.1.2.1, b2.2.1.2.1, f0, p', p', b2.1.2.2.1, b2.1.2.2.1, b2.1.2.2.2.1, b2.2.1.2.2.2.1, fun _ => rfl⟩
      have hn : (cl ++ [q]).length = cl.length + 1 := by rw [List.length_append]; rfl
      rw [b2.1.2.1, if_neg (not_not_intro rfl)]
      rcases goesOn_both (sh := sh) (shR := shR) hP with ⟨e, _⟩ | ⟨_, x, sC, g1, g2, g3⟩
      · exact absurd rfl e
      · rw [g1, bd_some]
        have hsC : sC = s_F τC 1 2 (nI (skp tp p')) := by
          have := signC (sh := sh) _ τC p' b2.1.1 b2.1.2.2.1 rfl b2.1.2.2.2.1
          rw [g1] at this
          exact congrArg Prod.snd (Option.some.inj this)
        rcases g3 with ⟨c1, c2, uR, c3, c4, c5⟩ | ⟨c1, uC, uR, c2, c3, c4, c5, c6⟩ | ⟨c1, uC, wC, uR, g, c2, c3, c4, c5, c6, c7, c8, c9, c10⟩
        · rw [if_neg (not_not_intro c1), c3, bd_some, hend, nI_1]
          unfold fX8_read_X84
          exact ⟨_, cl.length + 1, sC, uR, by rw [c2], rfl, fmC'_trans a3 (fmC'_C (fmC_nf g2)), fmR'_trans a4 (fmR'_T (fmT_R (fmR_nf c4))), c2, c5, f0, fun _ => ⟨cl ++ [q], hn, CI_CJ b2 g2 c4⟩⟩
        · rw [if_pos c1, c2, bd_some, if_pos n10, c4, bd_some, nI_1]
          have hs := skp_le b2.1.2.2.1
          have aC' : AC sC tp (skp tp p') (flat (cl ++ [q])) cnt' := by rw [hsC]; exact AC_p b2.1 hs
          have ts := takeSC (sh := sh) (c := 59) aC'
          rw [c2, skp_skp] at ts
          have h59 : sgn tp (skp tp p') = 59 := by
            apply Classical.byContradiction
            intro hne
            rw [if_neg hne] at ts
            have := congrArg Prod.fst (Option.some.inj ts)
            exact n10 this
          rw [if_pos h59] at ts
          have huC : uC = s_F sC 1 2 (nI (skp tp p' + 1)) := congrArg Prod.snd (Option.some.inj ts)
          have hlt : skp tp p' < tp.length := sgn_lt (by rw [h59]; decide)
          have hge : p' ≤ skp tp p' := skp_ge
          have aC2 : AC uC tp (skp tp p' + 1) (flat (cl ++ [q])) cnt' := by rw [huC]; exact AC_p aC' (by omega)
          obtain ⟨v1, v2, v3, v4, v5, pc, pr, v6, v7, v8, v9, v10⟩ := c6
          have hpc : pc = skp tp p' + 1 := (nI_eq (by omega) (by omega)).mp (v8.symm.trans aC2.2.2.2.1)
          have hpr := v10 rfl
          subst hpr
          obtain ⟨k1, k2, k3, k4, k5, k6, k7, k8, k9, k10⟩ := b2
          have aR2 : AR uR tp sl (skp tp p' + 1) (flat (cl ++ [q])) cnt' := by
            obtain ⟨z1, z2, z3, z4, z5, z6, z7, z8, z9⟩ := k2
            exact ⟨v2, v4, by omega, by rw [v9, hpc], by rw [c5.1 0 24 (by omega)]; exact z5, by rw [c5.1 0 26 (by omega)]; exact z6, by rw [c5.1 0 22 (by omega)]; exact z7, by rw [c5.1 0 28 (by omega)]; exact z8, by rw [c5.2]; exact z9⟩
          have hCI : CI uC uR tp sl (skp tp p' + 1) cnt' nt' (cl ++ [q]) := ⟨aC2, aR2, k3, by rw [c3.1 10 6 (by omega), g2.1 10 6 (by omega)]; exact k4, by rw [c5.1 0 25 (by omega)]; exact k5, by rw [c3.2, g2.2]; exact k6, by rw [c5.2]; exact k7, k8, k9, by omega⟩
          obtain ⟨f, n, xC, xR, x1, x2, x3, x4, x5⟩ := ih N1 (N2 + 1) uC uR _ cnt' nt' (cl ++ [q]) (by omega) (by omega) (by omega) hCI
          rw [hn] at x1 x2
          exact ⟨f, n, xC, xR, x1, x2, fmC'_trans a3 (fmC'_trans (fmC'_C (fmC_nf (nfC_trans g2 c3))) x3), fmR'_trans a4 (fmR'_trans (fmR'_T (fmT_R (fmR_nf c5))) x4), x5⟩
        · rw [if_pos c1, c2, bd_some, if_neg nn00, c5, bd_some, hend, nI_1]
          unfold fX8_read_X99
          rw [c3, bd_some]
          exact ⟨g, cl.length + 1, wC, uR, by rw [c7], rfl, fmC'_trans a3 (fmC'_C (fmC_nf (nfC_trans g2 c4))), fmR'_trans a4 (fmR'_T (fmT_R (fmR_nf c6))), c7, c8, c9, fun e => absurd e c10⟩
    · obtain ⟨uR, c1, c2, c3⟩ := goesOn_f (sh := shR) b1 b4
      rw [b3.2.1, if_pos b1, c1, bd_some, hend, nI_1]
      unfold fX8_read_X123
      exact ⟨f, cl.length + 1, τC, uR, by rw [b3.2.1], rfl, a3, fmR'_trans a4 (fmR'_T (fmT_R (fmR_nf c2))), b3.2.1, c3, b2, fun e => absurd e b1⟩
