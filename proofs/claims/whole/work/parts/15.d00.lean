/-! X12_isFull X12_courtClause X12_readsAll X12_court X12_ring X5_ringOfHours X11_ring X8_readFact X11_look X8_readTest X8_read -/
theorem aX12_isFull_0 : i_at mX12_isFull.2.2.2.2.2 0 = some (.iload_n 2, 1, 0, 0, 0, 0) := by decide +kernel
theorem aX12_isFull_1 : i_at mX12_isFull.2.2.2.2.2 1 = some (.bipush 40, 2, 0, 0, 0, 0) := by decide +kernel
theorem aX12_isFull_3 : i_at mX12_isFull.2.2.2.2.2 3 = some (.if_icmp .eq 24, 3, 27, 0, 0, 0) := by decide +kernel
theorem aX12_isFull_6 : i_at mX12_isFull.2.2.2.2.2 6 = some (.iload_n 1, 1, 0, 0, 0, 0) := by decide +kernel
theorem aX12_isFull_7 : i_at mX12_isFull.2.2.2.2.2 7 = some (.ifCond .ne 7, 3, 14, 0, 0, 0) := by decide +kernel
theorem aX12_isFull_10 : i_at mX12_isFull.2.2.2.2.2 10 = some (.iconst 1, 1, 0, 0, 0, 0) := by decide +kernel
theorem aX12_isFull_11 : i_at mX12_isFull.2.2.2.2.2 11 = some (.goto 4, 3, 15, 0, 0, 0) := by decide +kernel
theorem aX12_isFull_14 : i_at mX12_isFull.2.2.2.2.2 14 = some (.iconst 0, 1, 0, 0, 0, 0) := by decide +kernel
theorem aX12_isFull_15 : i_at mX12_isFull.2.2.2.2.2 15 = some (.iload_n 2, 1, 0, 0, 0, 0) := by decide +kernel
theorem aX12_isFull_16 : i_at mX12_isFull.2.2.2.2.2 16 = some (.ifCond .ne 7, 3, 23, 0, 0, 0) := by decide +kernel
theorem aX12_isFull_19 : i_at mX12_isFull.2.2.2.2.2 19 = some (.iconst 1, 1, 0, 0, 0, 0) := by decide +kernel
theorem aX12_isFull_20 : i_at mX12_isFull.2.2.2.2.2 20 = some (.goto 4, 3, 24, 0, 0, 0) := by decide +kernel
theorem aX12_isFull_23 : i_at mX12_isFull.2.2.2.2.2 23 = some (.iconst 0, 1, 0, 0, 0, 0) := by decide +kernel
theorem aX12_isFull_24 : i_at mX12_isFull.2.2.2.2.2 24 = some (.if_icmp .eq 5, 3, 29, 0, 0, 0) := by decide +kernel
theorem aX12_isFull_27 : i_at mX12_isFull.2.2.2.2.2 27 = some (.iconst 1, 1, 0, 0, 0, 0) := by decide +kernel
theorem aX12_isFull_28 : i_at mX12_isFull.2.2.2.2.2 28 = some (.ireturn, 1, 0, 0, 0, 0) := by decide +kernel
theorem aX12_isFull_29 : i_at mX12_isFull.2.2.2.2.2 29 = some (.iload_n 1, 1, 0, 0, 0, 0) := by decide +kernel
theorem aX12_isFull_30 : i_at mX12_isFull.2.2.2.2.2 30 = some (.lookupswitch 60 #[(1, 26), (3, 43)], 26, 0, 0, 0, 0) := by decide +kernel
theorem aX12_isFull_56 : i_at mX12_isFull.2.2.2.2.2 56 = some (.aload_n 0, 1, 0, 0, 0, 0) := by decide +kernel
theorem aX12_isFull_57 : i_at mX12_isFull.2.2.2.2.2 57 = some (.getfield 46, 3, 11, 13, 1100, 0) := by decide +kernel
theorem aX12_isFull_60 : i_at mX12_isFull.2.2.2.2.2 60 = some (.iconst 2, 1, 0, 0, 0, 0) := by decide +kernel
theorem aX12_isFull_61 : i_at mX12_isFull.2.2.2.2.2 61 = some (.iaload, 1, 0, 0, 0, 0) := by decide +kernel
theorem aX12_isFull_62 : i_at mX12_isFull.2.2.2.2.2 62 = some (.bipush 6, 2, 0, 0, 0, 0) := by decide +kernel
theorem aX12_isFull_64 : i_at mX12_isFull.2.2.2.2.2 64 = some (.if_icmp .ne 7, 3, 71, 0, 0, 0) := by decide +kernel
theorem aX12_isFull_67 : i_at mX12_isFull.2.2.2.2.2 67 = some (.iconst 1, 1, 0, 0, 0, 0) := by decide +kernel
theorem aX12_isFull_68 : i_at mX12_isFull.2.2.2.2.2 68 = some (.goto 4, 3, 72, 0, 0, 0) := by decide +kernel
theorem aX12_isFull_71 : i_at mX12_isFull.2.2.2.2.2 71 = some (.iconst 0, 1, 0, 0, 0, 0) := by decide +kernel
theorem aX12_isFull_72 : i_at mX12_isFull.2.2.2.2.2 72 = some (.ireturn, 1, 0, 0, 0, 0) := by decide +kernel
theorem aX12_isFull_73 : i_at mX12_isFull.2.2.2.2.2 73 = some (.aload_n 0, 1, 0, 0, 0, 0) := by decide +kernel
theorem aX12_isFull_74 : i_at mX12_isFull.2.2.2.2.2 74 = some (.getfield 46, 3, 11, 13, 1100, 0) := by decide +kernel
theorem aX12_isFull_77 : i_at mX12_isFull.2.2.2.2.2 77 = some (.iconst 3, 1, 0, 0, 0, 0) := by decide +kernel
theorem aX12_isFull_78 : i_at mX12_isFull.2.2.2.2.2 78 = some (.iaload, 1, 0, 0, 0, 0) := by decide +kernel
theorem aX12_isFull_79 : i_at mX12_isFull.2.2.2.2.2 79 = some (.bipush 6, 2, 0, 0, 0, 0) := by decide +kernel
theorem aX12_isFull_81 : i_at mX12_isFull.2.2.2.2.2 81 = some (.if_icmp .ne 7, 3, 88, 0, 0, 0) := by decide +kernel
theorem aX12_isFull_84 : i_at mX12_isFull.2.2.2.2.2 84 = some (.iconst 1, 1, 0, 0, 0, 0) := by decide +kernel
theorem aX12_isFull_85 : i_at mX12_isFull.2.2.2.2.2 85 = some (.goto 4, 3, 89, 0, 0, 0) := by decide +kernel
theorem aX12_isFull_88 : i_at mX12_isFull.2.2.2.2.2 88 = some (.iconst 0, 1, 0, 0, 0, 0) := by decide +kernel
theorem aX12_isFull_89 : i_at mX12_isFull.2.2.2.2.2 89 = some (.ireturn, 1, 0, 0, 0, 0) := by decide +kernel
theorem aX12_isFull_90 : i_at mX12_isFull.2.2.2.2.2 90 = some (.iconst 0, 1, 0, 0, 0, 0) := by decide +kernel
theorem aX12_isFull_91 : i_at mX12_isFull.2.2.2.2.2 91 = some (.ireturn, 1, 0, 0, 0, 0) := by decide +kernel
noncomputable def fX12_isFull (sh : List kd) (σ : St) (p1 : Int32) (p2 : Int32) : Option (Int32 × St) := if p2 = 40 then some (1, σ) else if ((if ¬ p1 = 0 then 0 else 1) : Int32) = ((if ¬ p2 = 0 then 0 else 1) : Int32) then if p1 = 1 then if i_ok 2 4 then if (((if ¬ (σ.2.1 13 (2 : Int32).toNatClampNeg) = 6 then 0 else 1) : Int32) : Int32) &&& 1 = ((if ¬ (σ.2.1 13 (2 : Int32).toNatClampNeg) = 6 then 0 else 1) : Int32) then some (((if ¬ (σ.2.1 13 (2 : Int32).toNatClampNeg) = 6 then 0 else 1) : Int32), σ) else none else none else if p1 = 3 then if i_ok 3 4 then if (((if ¬ (σ.2.1 13 (3 : Int32).toNatClampNeg) = 6 then 0 else 1) : Int32) : Int32) &&& 1 = ((if ¬ (σ.2.1 13 (3 : Int32).toNatClampNeg) = 6 then 0 else 1) : Int32) then some (((if ¬ (σ.2.1 13 (3 : Int32).toNatClampNeg) = 6 then 0 else 1) : Int32), σ) else none else none else some (0, σ) else some (1, σ)
set_option maxRecDepth 20000 in
set_option maxHeartbeats 2000000 in
theorem tX12_isFull {sh : List kd} {σ τ : St} {r : Int32} (hsh : rmSh sh) {p1 : Int32} {p2 : Int32} (hE : fX12_isFull sh σ p1 p2 = some (r, τ)) : i_X 1 159 [.ref 0, .int p1, .int p2] (s_h sh σ) 0 0 (some (.int r)) (s_h sh τ) := by
  refine g_X (M := mX12_isFull) (loc := [.ref 0, .int p1, .int p2]) rfl (Nat.le_of_ble_eq_true rfl) rfl ?_
  unfold fX12_isFull at hE
  refine g_ldin aX12_isFull_0 rfl ?_
  refine g_bipush (x := 40) aX12_isFull_1 rfl ?_
  by_cases hc1 : p2 = 40
  · rw [if_pos hc1] at hE
    refine g_ic_eq_t aX12_isFull_3 hc1 ?_
    refine g_iconst (x := 1) aX12_isFull_27 rfl ?_
    obtain ⟨rfl, rfl⟩ := i_some_inj hE
    exact g_iret aX12_isFull_28 rfl rfl
  · rw [if_neg hc1] at hE
    refine g_ic_eq_f aX12_isFull_3 hc1 ?_
    refine g_ldin aX12_isFull_6 rfl ?_
    have hJ : g_R sh 0 mX12_isFull (some (.int r)) τ 15 [.ref 0, .int p1, .int p2] [.int ((if ¬ p1 = 0 then 0 else 1) : Int32)] (σ) := by
      refine g_ldin aX12_isFull_15 rfl ?_
      have hJ : g_R sh 0 mX12_isFull (some (.int r)) τ 24 [.ref 0, .int p1, .int p2] [.int ((if ¬ p2 = 0 then 0 else 1) : Int32), .int ((if ¬ p1 = 0 then 0 else 1) : Int32)] (σ) := by
        by_cases hc2 : ((if ¬ p1 = 0 then 0 else 1) : Int32) = ((if ¬ p2 = 0 then 0 else 1) : Int32)
        · rw [if_pos hc2] at hE
          refine g_ic_eq_t aX12_isFull_24 hc2 ?_
          refine g_ldin aX12_isFull_29 rfl ?_
          by_cases hc3 : p1 = 1
          · rw [if_pos hc3] at hE
            refine g_lkp (off := 26) aX12_isFull_30 (by decide) (by rw [hc3]; decide) rfl ?_
            refine g_ldan aX12_isFull_56 rfl ?_
            refine g_getR aX12_isFull_57 (sR_0 hsh) rfl ?_
            refine g_iconst (x := 2) aX12_isFull_60 rfl ?_
            obtain ⟨h4, hE⟩ := i_ifn hE
            refine g_ild aX12_isFull_61 (sR_13 hsh) h4 ?_
            refine g_bipush (x := 6) aX12_isFull_62 rfl ?_
            have hJ : g_R sh 0 mX12_isFull (some (.int r)) τ 72 [.ref 0, .int p1, .int p2] [.int ((if ¬ (σ.2.1 13 (2 : Int32).toNatClampNeg) = 6 then 0 else 1) : Int32)] (σ) := by
              obtain ⟨h5, hE⟩ := i_ifn hE
              obtain ⟨rfl, rfl⟩ := i_some_inj hE
              exact g_iret aX12_isFull_72 rfl (congrArg Value.int h5)
            clear hE
            by_cases hc5 : ¬ (σ.2.1 13 (2 : Int32).toNatClampNeg) = 6
            · (try rw [if_pos hc5] at hJ)
              refine g_ic_ne_t aX12_isFull_64 hc5 ?_
              refine g_iconst (x := 0) aX12_isFull_71 rfl ?_
              exact hJ
            · (try rw [if_neg hc5] at hJ)
              refine g_ic_ne_f aX12_isFull_64 hc5 ?_
              refine g_iconst (x := 1) aX12_isFull_67 rfl ?_
              refine g_goto aX12_isFull_68 ?_
              exact hJ
          · rw [if_neg hc3] at hE
            by_cases hc7 : p1 = 3
            · rw [if_pos hc7] at hE
              refine g_lkp (off := 43) aX12_isFull_30 (by decide) (by rw [hc7]; decide) rfl ?_
              refine g_ldan aX12_isFull_73 rfl ?_
              refine g_getR aX12_isFull_74 (sR_0 hsh) rfl ?_
              refine g_iconst (x := 3) aX12_isFull_77 rfl ?_
              obtain ⟨h8, hE⟩ := i_ifn hE
              refine g_ild aX12_isFull_78 (sR_13 hsh) h8 ?_
              refine g_bipush (x := 6) aX12_isFull_79 rfl ?_
              have hJ : g_R sh 0 mX12_isFull (some (.int r)) τ 89 [.ref 0, .int p1, .int p2] [.int ((if ¬ (σ.2.1 13 (3 : Int32).toNatClampNeg) = 6 then 0 else 1) : Int32)] (σ) := by
                obtain ⟨h9, hE⟩ := i_ifn hE
                obtain ⟨rfl, rfl⟩ := i_some_inj hE
                exact g_iret aX12_isFull_89 rfl (congrArg Value.int h9)
              clear hE
              by_cases hc9 : ¬ (σ.2.1 13 (3 : Int32).toNatClampNeg) = 6
              · (try rw [if_pos hc9] at hJ)
                refine g_ic_ne_t aX12_isFull_81 hc9 ?_
                refine g_iconst (x := 0) aX12_isFull_88 rfl ?_
                exact hJ
              · (try rw [if_neg hc9] at hJ)
                refine g_ic_ne_f aX12_isFull_81 hc9 ?_
                refine g_iconst (x := 1) aX12_isFull_84 rfl ?_
                refine g_goto aX12_isFull_85 ?_
                exact hJ
            · rw [if_neg hc7] at hE
              refine g_lkp (off := 60) aX12_isFull_30 (by decide) (i_lko hc3 hc7) rfl ?_
              refine g_iconst (x := 0) aX12_isFull_90 rfl ?_
              obtain ⟨rfl, rfl⟩ := i_some_inj hE
              exact g_iret aX12_isFull_91 rfl rfl
        · rw [if_neg hc2] at hE
          refine g_ic_eq_f aX12_isFull_24 hc2 ?_
          refine g_iconst (x := 1) aX12_isFull_27 rfl ?_
          obtain ⟨rfl, rfl⟩ := i_some_inj hE
          exact g_iret aX12_isFull_28 rfl rfl
      clear hE
      by_cases hc10 : ¬ p2 = 0
      · (try rw [if_pos hc10] at hJ)
        refine g_if_ne_t aX12_isFull_16 hc10 ?_
        refine g_iconst (x := 0) aX12_isFull_23 rfl ?_
        exact hJ
      · (try rw [if_neg hc10] at hJ)
        refine g_if_ne_f aX12_isFull_16 hc10 ?_
        refine g_iconst (x := 1) aX12_isFull_19 rfl ?_
        refine g_goto aX12_isFull_20 ?_
        exact hJ
    clear hE
    by_cases hc11 : ¬ p1 = 0
    · (try rw [if_pos hc11] at hJ)
      refine g_if_ne_t aX12_isFull_7 hc11 ?_
      refine g_iconst (x := 0) aX12_isFull_14 rfl ?_
      exact hJ
    · (try rw [if_neg hc11] at hJ)
      refine g_if_ne_f aX12_isFull_7 hc11 ?_
      refine g_iconst (x := 1) aX12_isFull_10 rfl ?_
      refine g_goto aX12_isFull_11 ?_
      exact hJ
theorem aX12_courtClause_0 : i_at mX12_courtClause.2.2.2.2.2 0 = some (.aload_n 0, 1, 0, 0, 0, 0) := by decide +kernel
theorem aX12_courtClause_1 : i_at mX12_courtClause.2.2.2.2.2 1 = some (.invokevirtual 186, 3, 139, 0, 1275, 0) := by decide +kernel
theorem aX12_courtClause_4 : i_at mX12_courtClause.2.2.2.2.2 4 = some (.aload_n 0, 1, 0, 0, 0, 0) := by decide +kernel
theorem aX12_courtClause_5 : i_at mX12_courtClause.2.2.2.2.2 5 = some (.getfield 166, 3, 11, 20, 1107, 0) := by decide +kernel
theorem aX12_courtClause_8 : i_at mX12_courtClause.2.2.2.2.2 8 = some (.istore_n 2, 1, 0, 0, 0, 0) := by decide +kernel
theorem aX12_courtClause_9 : i_at mX12_courtClause.2.2.2.2.2 9 = some (.iconst 0, 1, 0, 0, 0, 0) := by decide +kernel
theorem aX12_courtClause_10 : i_at mX12_courtClause.2.2.2.2.2 10 = some (.istore_n 3, 1, 0, 0, 0, 0) := by decide +kernel
theorem aX12_courtClause_11 : i_at mX12_courtClause.2.2.2.2.2 11 = some (.iload_n 3, 1, 0, 0, 0, 0) := by decide +kernel
theorem aX12_courtClause_12 : i_at mX12_courtClause.2.2.2.2.2 12 = some (.iconst 5, 1, 0, 0, 0, 0) := by decide +kernel
theorem aX12_courtClause_13 : i_at mX12_courtClause.2.2.2.2.2 13 = some (.if_icmp .ge 20, 3, 33, 0, 0, 0) := by decide +kernel
theorem aX12_courtClause_16 : i_at mX12_courtClause.2.2.2.2.2 16 = some (.aload_n 0, 1, 0, 0, 0, 0) := by decide +kernel
theorem aX12_courtClause_17 : i_at mX12_courtClause.2.2.2.2.2 17 = some (.iload_n 3, 1, 0, 0, 0, 0) := by decide +kernel
theorem aX12_courtClause_18 : i_at mX12_courtClause.2.2.2.2.2 18 = some (.invokestatic 276, 3, 156, 1, 1283, 0) := by decide +kernel
theorem aX12_courtClause_21 : i_at mX12_courtClause.2.2.2.2.2 21 = some (.invokevirtual 189, 3, 141, 1, 1291, 0) := by decide +kernel
theorem aX12_courtClause_24 : i_at mX12_courtClause.2.2.2.2.2 24 = some (.ifCond .ne 9, 3, 33, 0, 0, 0) := by decide +kernel
theorem aX12_courtClause_27 : i_at mX12_courtClause.2.2.2.2.2 27 = some (.iinc 3 1, 3, 0, 0, 0, 0) := by decide +kernel
theorem aX12_courtClause_30 : i_at mX12_courtClause.2.2.2.2.2 30 = some (.goto (-19), 3, 11, 0, 0, 0) := by decide +kernel
theorem aX12_courtClause_33 : i_at mX12_courtClause.2.2.2.2.2 33 = some (.iload_n 3, 1, 0, 0, 0, 0) := by decide +kernel
theorem aX12_courtClause_34 : i_at mX12_courtClause.2.2.2.2.2 34 = some (.iconst 5, 1, 0, 0, 0, 0) := by decide +kernel
theorem aX12_courtClause_35 : i_at mX12_courtClause.2.2.2.2.2 35 = some (.if_icmp .ne 10, 3, 45, 0, 0, 0) := by decide +kernel
theorem aX12_courtClause_38 : i_at mX12_courtClause.2.2.2.2.2 38 = some (.aload_n 0, 1, 0, 0, 0, 0) := by decide +kernel
theorem aX12_courtClause_39 : i_at mX12_courtClause.2.2.2.2.2 39 = some (.iconst 0, 1, 0, 0, 0, 0) := by decide +kernel
theorem aX12_courtClause_40 : i_at mX12_courtClause.2.2.2.2.2 40 = some (.iload_n 2, 1, 0, 0, 0, 0) := by decide +kernel
theorem aX12_courtClause_41 : i_at mX12_courtClause.2.2.2.2.2 41 = some (.invokevirtual 202, 3, 137, 2, 1297, 0) := by decide +kernel
theorem aX12_courtClause_44 : i_at mX12_courtClause.2.2.2.2.2 44 = some (.return_, 1, 0, 0, 0, 0) := by decide +kernel
theorem aX12_courtClause_45 : i_at mX12_courtClause.2.2.2.2.2 45 = some (.aload_n 0, 1, 0, 0, 0, 0) := by decide +kernel
theorem aX12_courtClause_46 : i_at mX12_courtClause.2.2.2.2.2 46 = some (.iload_n 3, 1, 0, 0, 0, 0) := by decide +kernel
theorem aX12_courtClause_47 : i_at mX12_courtClause.2.2.2.2.2 47 = some (.iload_n 1, 1, 0, 0, 0, 0) := by decide +kernel
theorem aX12_courtClause_48 : i_at mX12_courtClause.2.2.2.2.2 48 = some (.invokevirtual 279, 3, 159, 2, 1301, 0) := by decide +kernel
theorem aX12_courtClause_51 : i_at mX12_courtClause.2.2.2.2.2 51 = some (.ifCond .eq 10, 3, 61, 0, 0, 0) := by decide +kernel
theorem aX12_courtClause_54 : i_at mX12_courtClause.2.2.2.2.2 54 = some (.aload_n 0, 1, 0, 0, 0, 0) := by decide +kernel
theorem aX12_courtClause_55 : i_at mX12_courtClause.2.2.2.2.2 55 = some (.iconst 4, 1, 0, 0, 0, 0) := by decide +kernel
theorem aX12_courtClause_56 : i_at mX12_courtClause.2.2.2.2.2 56 = some (.iload_n 2, 1, 0, 0, 0, 0) := by decide +kernel
theorem aX12_courtClause_57 : i_at mX12_courtClause.2.2.2.2.2 57 = some (.invokevirtual 202, 3, 137, 2, 1297, 0) := by decide +kernel
theorem aX12_courtClause_60 : i_at mX12_courtClause.2.2.2.2.2 60 = some (.return_, 1, 0, 0, 0, 0) := by decide +kernel
theorem aX12_courtClause_61 : i_at mX12_courtClause.2.2.2.2.2 61 = some (.aload_n 0, 1, 0, 0, 0, 0) := by decide +kernel
theorem aX12_courtClause_62 : i_at mX12_courtClause.2.2.2.2.2 62 = some (.dup, 1, 0, 0, 0, 0) := by decide +kernel
theorem aX12_courtClause_63 : i_at mX12_courtClause.2.2.2.2.2 63 = some (.getfield 166, 3, 11, 20, 1107, 0) := by decide +kernel
theorem aX12_courtClause_66 : i_at mX12_courtClause.2.2.2.2.2 66 = some (.iload_n 3, 1, 0, 0, 0, 0) := by decide +kernel
theorem aX12_courtClause_67 : i_at mX12_courtClause.2.2.2.2.2 67 = some (.invokestatic 276, 3, 156, 1, 1283, 0) := by decide +kernel
theorem aX12_courtClause_70 : i_at mX12_courtClause.2.2.2.2.2 70 = some (.invokevirtual 177, 3, 1004, 0, 1295, 0) := by decide +kernel
theorem aX12_courtClause_73 : i_at mX12_courtClause.2.2.2.2.2 73 = some (.iadd, 1, 0, 0, 0, 0) := by decide +kernel
theorem aX12_courtClause_74 : i_at mX12_courtClause.2.2.2.2.2 74 = some (.putfield 166, 3, 11, 20, 1107, 0) := by decide +kernel
theorem aX12_courtClause_77 : i_at mX12_courtClause.2.2.2.2.2 77 = some (.aload_n 0, 1, 0, 0, 0, 0) := by decide +kernel
theorem aX12_courtClause_78 : i_at mX12_courtClause.2.2.2.2.2 78 = some (.iload_n 3, 1, 0, 0, 0, 0) := by decide +kernel
theorem aX12_courtClause_79 : i_at mX12_courtClause.2.2.2.2.2 79 = some (.invokevirtual 283, 3, 158, 1, 1305, 0) := by decide +kernel
theorem aX12_courtClause_82 : i_at mX12_courtClause.2.2.2.2.2 82 = some (.return_, 1, 0, 0, 0, 0) := by decide +kernel
noncomputable def fX12_courtClause_L11 (sh : List kd) (p1 : Int32) (s2 : St) (k33 : Int32 → St → Option (Unit × St)) : Nat → Int32 → St → Option (Unit × St)
  | 0, _, _ => none
  | n58 + 1, x4, s5 => if 5 ≤ x4 then k33 x4 s5 else i_bd (fX12_courtWord sh s5 x4) (fun r60 s61 => i_bd (fX12_stood sh s61 r60) (fun r63 s64 => if ¬ r63 = 0 then k33 x4 s64 else (fX12_courtClause_L11 sh p1 s2 k33 n58 (x4 + 1) s64)))
noncomputable def fX12_courtClause_X33 (sh : List kd) (p1 : Int32) (s2 : St) (x56 : Int32) (s57 : St) : Option (Unit × St) := if ¬ x56 = 5 then i_bd (fX12_isFull sh s57 x56 p1) (fun r68 s69 => if r68 = 0 then i_bd (fX12_courtWord sh s69 x56) (fun r72 s73 => if r72 < 28 then i_bd (fX12_courtPart sh (s_F s73 0 20 ((s69.1 0 20) + (Int32.ofNat (i_slen r72)))) x56) (fun r76 s77 => some ((), s77)) else none) else i_bd (fX12_fails sh s69 4 (s2.1 0 20)) (fun r79 s80 => some ((), s80))) else i_bd (fX12_fails sh s57 0 (s2.1 0 20)) (fun r82 s83 => some ((), s83))
noncomputable def fX12_courtClause (sh : List kd) (σ : St) (p1 : Int32) : Option (Unit × St) := i_bd (fX12_blanks sh σ) (fun r1 s2 => fX12_courtClause_L11 sh p1 s2 (fun (x56 : Int32) (s57 : St) => fX12_courtClause_X33 sh p1 s2 x56 s57) i_F 0 s2)
set_option maxRecDepth 20000 in
set_option maxHeartbeats 2000000 in
theorem tX12_courtClause_L11 {sh : List kd} {τ : St} {r : Unit} (hsh : rmSh sh) {p1 : Int32} {s2 : St} {k33 : Int32 → St → Option (Unit × St)} (hk33 : ∀ (x56 : Int32) (s57 : St), k33 x56 s57 = some (r, τ) → g_R sh 6 mX12_courtClause none τ 33 [.ref 0, .int p1, .int (s2.1 0 20), .int x56] [] (s57)) : ∀ (n0 : Nat) (x4 : Int32) (s5 : St), fX12_courtClause_L11 sh p1 s2 k33 n0 x4 s5 = some (r, τ) → g_R sh 6 mX12_courtClause none τ 11 [.ref 0, .int p1, .int (s2.1 0 20), .int x4] [] (s5) := by
  intro n0
  induction n0 with
  | zero => intro _ _ hE; cases hE
  | succ n58 ih =>
    intro x4 s5 hE
    unfold fX12_courtClause_L11 at hE
    refine g_ldin aX12_courtClause_11 rfl ?_
    refine g_iconst (x := 5) aX12_courtClause_12 rfl ?_
    by_cases hc59 : 5 ≤ x4
    · rw [if_pos hc59] at hE
      refine g_ic_ge_t aX12_courtClause_13 hc59 ?_
      exact hk33 _ _ hE
    · rw [if_neg hc59] at hE
      refine g_ic_ge_f aX12_courtClause_13 hc59 ?_
      refine g_ldan aX12_courtClause_16 rfl ?_
      refine g_ldin aX12_courtClause_17 rfl ?_
      obtain ⟨r60, s61, h62, hE⟩ := i_bd_some hE
      refine g_calS (As := [.int x4]) (rest := [.ref 0]) aX12_courtClause_18 (i_X_mono (by omega) (tX12_courtWord hsh h62)) rfl rfl (Nat.le_of_ble_eq_true rfl) rfl ?_
      obtain ⟨r63, s64, h65, hE⟩ := i_bd_some hE
      refine g_calV (As := [.ref (i_SB + r60)]) (rest := []) aX12_courtClause_21 (i_X_mono (by omega) (tX12_stood hsh h65)) (sR_0 hsh) (by decide +kernel) rfl rfl (Nat.le_of_ble_eq_true rfl) rfl ?_
      by_cases hc66 : ¬ r63 = 0
      · rw [if_pos hc66] at hE
        refine g_if_ne_t aX12_courtClause_24 hc66 ?_
        exact hk33 _ _ hE
      · rw [if_neg hc66] at hE
        refine g_if_ne_f aX12_courtClause_24 hc66 ?_
        refine g_iinc (y := 1) (loc2 := [.ref 0, .int p1, .int (s2.1 0 20), .int (x4 + 1)]) aX12_courtClause_27 rfl rfl rfl ?_
        refine g_goto aX12_courtClause_30 ?_
        exact ih _ _ hE
set_option maxRecDepth 20000 in
set_option maxHeartbeats 2000000 in
theorem tX12_courtClause_X33 {sh : List kd} {τ : St} {r : Unit} (hsh : rmSh sh) {p1 : Int32} {s2 : St} {x56 : Int32} {s57 : St} (hE : fX12_courtClause_X33 sh p1 s2 x56 s57 = some (r, τ)) : g_R sh 6 mX12_courtClause none τ 33 [.ref 0, .int p1, .int (s2.1 0 20), .int x56] [] (s57) := by
  unfold fX12_courtClause_X33 at hE
  refine g_ldin aX12_courtClause_33 rfl ?_
  refine g_iconst (x := 5) aX12_courtClause_34 rfl ?_
  by_cases hc67 : ¬ x56 = 5
  · rw [if_pos hc67] at hE
    refine g_ic_ne_t aX12_courtClause_35 hc67 ?_
    refine g_ldan aX12_courtClause_45 rfl ?_
    refine g_ldin aX12_courtClause_46 rfl ?_
    refine g_ldin aX12_courtClause_47 rfl ?_
    obtain ⟨r68, s69, h70, hE⟩ := i_bd_some hE
    refine g_calV (As := [.int x56, .int p1]) (rest := []) aX12_courtClause_48 (i_X_mono (by omega) (tX12_isFull hsh h70)) (sR_0 hsh) (by decide +kernel) rfl rfl (Nat.le_of_ble_eq_true rfl) rfl ?_
    by_cases hc71 : r68 = 0
    · rw [if_pos hc71] at hE
      refine g_if_eq_t aX12_courtClause_51 hc71 ?_
      refine g_ldan aX12_courtClause_61 rfl ?_
      refine g_dupa aX12_courtClause_62 ?_
      refine g_getI aX12_courtClause_63 (sR_0 hsh) rfl ?_
      refine g_ldin aX12_courtClause_66 rfl ?_
      obtain ⟨r72, s73, h74, hE⟩ := i_bd_some hE
      refine g_calS (As := [.int x56]) (rest := [.int (s69.1 0 20), .ref 0]) aX12_courtClause_67 (i_X_mono (by omega) (tX12_courtWord hsh h74)) rfl rfl (Nat.le_of_ble_eq_true rfl) rfl ?_
      obtain ⟨h75, hE⟩ := i_ifn hE
      refine g_slen aX12_courtClause_70 h75 (Nat.le_of_ble_eq_true rfl) ?_
      refine g_iadd aX12_courtClause_73 ?_
      refine g_putI aX12_courtClause_74 (sR_0 hsh) rfl rfl ?_
      refine g_ldan aX12_courtClause_77 rfl ?_
      refine g_ldin aX12_courtClause_78 rfl ?_
      obtain ⟨r76, s77, h78, hE⟩ := i_bd_some hE
      refine g_calV (As := [.int x56]) (rest := []) aX12_courtClause_79 (i_X_mono (by omega) (tX12_courtPart hsh h78)) (sR_0 hsh) (by decide +kernel) rfl rfl (Nat.le_of_ble_eq_true rfl) rfl ?_
      obtain ⟨rfl, rfl⟩ := i_some_inj hE
      exact g_vret aX12_courtClause_82 rfl
    · rw [if_neg hc71] at hE
      refine g_if_eq_f aX12_courtClause_51 hc71 ?_
      refine g_ldan aX12_courtClause_54 rfl ?_
      refine g_iconst (x := 4) aX12_courtClause_55 rfl ?_
      refine g_ldin aX12_courtClause_56 rfl ?_
      obtain ⟨r79, s80, h81, hE⟩ := i_bd_some hE
      refine g_calV (As := [.int 4, .int (s2.1 0 20)]) (rest := []) aX12_courtClause_57 (i_X_mono (by omega) (tX12_fails hsh h81)) (sR_0 hsh) (by decide +kernel) rfl rfl (Nat.le_of_ble_eq_true rfl) rfl ?_
      obtain ⟨rfl, rfl⟩ := i_some_inj hE
      exact g_vret aX12_courtClause_60 rfl
  · rw [if_neg hc67] at hE
    refine g_ic_ne_f aX12_courtClause_35 hc67 ?_
    refine g_ldan aX12_courtClause_38 rfl ?_
    refine g_iconst (x := 0) aX12_courtClause_39 rfl ?_
    refine g_ldin aX12_courtClause_40 rfl ?_
    obtain ⟨r82, s83, h84, hE⟩ := i_bd_some hE
    refine g_calV (As := [.int 0, .int (s2.1 0 20)]) (rest := []) aX12_courtClause_41 (i_X_mono (by omega) (tX12_fails hsh h84)) (sR_0 hsh) (by decide +kernel) rfl rfl (Nat.le_of_ble_eq_true rfl) rfl ?_
    obtain ⟨rfl, rfl⟩ := i_some_inj hE
    exact g_vret aX12_courtClause_44 rfl
set_option maxRecDepth 20000 in
set_option maxHeartbeats 2000000 in
theorem tX12_courtClause {sh : List kd} {σ τ : St} {r : Unit} (hsh : rmSh sh) {p1 : Int32} (hE : fX12_courtClause sh σ p1 = some (r, τ)) : i_X 7 160 [.ref 0, .int p1] (s_h sh σ) 0 0 none (s_h sh τ) := by
  refine g_X (M := mX12_courtClause) (loc := [.ref 0, .int p1, .retAddr 0, .retAddr 0]) rfl (Nat.le_of_ble_eq_true rfl) rfl ?_
  unfold fX12_courtClause at hE
  refine g_ldan aX12_courtClause_0 rfl ?_
  obtain ⟨r1, s2, h3, hE⟩ := i_bd_some hE
  refine g_calV (As := []) (rest := []) aX12_courtClause_1 (i_X_mono (by omega) (tX12_blanks hsh h3)) (sR_0 hsh) (by decide +kernel) rfl rfl (Nat.le_of_ble_eq_true rfl) rfl ?_
  refine g_ldan aX12_courtClause_4 rfl ?_
  refine g_getI aX12_courtClause_5 (sR_0 hsh) rfl ?_
  refine g_stin (loc2 := [.ref 0, .int p1, .int (s2.1 0 20), .retAddr 0]) aX12_courtClause_8 (Nat.le_of_ble_eq_true rfl) rfl ?_
  refine g_iconst (x := 0) aX12_courtClause_9 rfl ?_
  refine g_stin (loc2 := [.ref 0, .int p1, .int (s2.1 0 20), .int 0]) aX12_courtClause_10 (Nat.le_of_ble_eq_true rfl) rfl ?_
  exact tX12_courtClause_L11 hsh (fun x56 s57 hE => tX12_courtClause_X33 hsh hE) i_F _ _ hE
theorem aX12_readsAll_0 : i_at mX12_readsAll.2.2.2.2.2 0 = some (.aload_n 0, 1, 0, 0, 0, 0) := by decide +kernel
theorem aX12_readsAll_1 : i_at mX12_readsAll.2.2.2.2.2 1 = some (.invokevirtual 286, 3, 163, 0, 1267, 0) := by decide +kernel
theorem aX12_readsAll_4 : i_at mX12_readsAll.2.2.2.2.2 4 = some (.iconst 0, 1, 0, 0, 0, 0) := by decide +kernel
theorem aX12_readsAll_5 : i_at mX12_readsAll.2.2.2.2.2 5 = some (.istore_n 1, 1, 0, 0, 0, 0) := by decide +kernel
theorem aX12_readsAll_6 : i_at mX12_readsAll.2.2.2.2.2 6 = some (.iload_n 1, 1, 0, 0, 0, 0) := by decide +kernel
theorem aX12_readsAll_7 : i_at mX12_readsAll.2.2.2.2.2 7 = some (.iconst 4, 1, 0, 0, 0, 0) := by decide +kernel
theorem aX12_readsAll_8 : i_at mX12_readsAll.2.2.2.2.2 8 = some (.if_icmp .ge 16, 3, 24, 0, 0, 0) := by decide +kernel
theorem aX12_readsAll_11 : i_at mX12_readsAll.2.2.2.2.2 11 = some (.aload_n 0, 1, 0, 0, 0, 0) := by decide +kernel
theorem aX12_readsAll_12 : i_at mX12_readsAll.2.2.2.2.2 12 = some (.getfield 46, 3, 11, 13, 1100, 0) := by decide +kernel
theorem aX12_readsAll_15 : i_at mX12_readsAll.2.2.2.2.2 15 = some (.iload_n 1, 1, 0, 0, 0, 0) := by decide +kernel
theorem aX12_readsAll_16 : i_at mX12_readsAll.2.2.2.2.2 16 = some (.iconst 0, 1, 0, 0, 0, 0) := by decide +kernel
theorem aX12_readsAll_17 : i_at mX12_readsAll.2.2.2.2.2 17 = some (.iastore, 1, 0, 0, 0, 0) := by decide +kernel
theorem aX12_readsAll_18 : i_at mX12_readsAll.2.2.2.2.2 18 = some (.iinc 1 1, 3, 0, 0, 0, 0) := by decide +kernel
theorem aX12_readsAll_21 : i_at mX12_readsAll.2.2.2.2.2 21 = some (.goto (-15), 3, 6, 0, 0, 0) := by decide +kernel
theorem aX12_readsAll_24 : i_at mX12_readsAll.2.2.2.2.2 24 = some (.iconst 0, 1, 0, 0, 0, 0) := by decide +kernel
theorem aX12_readsAll_25 : i_at mX12_readsAll.2.2.2.2.2 25 = some (.istore_n 1, 1, 0, 0, 0, 0) := by decide +kernel
theorem aX12_readsAll_26 : i_at mX12_readsAll.2.2.2.2.2 26 = some (.iload_n 1, 1, 0, 0, 0, 0) := by decide +kernel
theorem aX12_readsAll_27 : i_at mX12_readsAll.2.2.2.2.2 27 = some (.bipush 12, 2, 0, 0, 0, 0) := by decide +kernel
theorem aX12_readsAll_29 : i_at mX12_readsAll.2.2.2.2.2 29 = some (.if_icmp .ge 16, 3, 45, 0, 0, 0) := by decide +kernel
theorem aX12_readsAll_32 : i_at mX12_readsAll.2.2.2.2.2 32 = some (.aload_n 0, 1, 0, 0, 0, 0) := by decide +kernel
theorem aX12_readsAll_33 : i_at mX12_readsAll.2.2.2.2.2 33 = some (.getfield 55, 3, 11, 16, 1103, 0) := by decide +kernel
theorem aX12_readsAll_36 : i_at mX12_readsAll.2.2.2.2.2 36 = some (.iload_n 1, 1, 0, 0, 0, 0) := by decide +kernel
theorem aX12_readsAll_37 : i_at mX12_readsAll.2.2.2.2.2 37 = some (.iconst (-1), 1, 0, 0, 0, 0) := by decide +kernel
theorem aX12_readsAll_38 : i_at mX12_readsAll.2.2.2.2.2 38 = some (.iastore, 1, 0, 0, 0, 0) := by decide +kernel
theorem aX12_readsAll_39 : i_at mX12_readsAll.2.2.2.2.2 39 = some (.iinc 1 1, 3, 0, 0, 0, 0) := by decide +kernel
theorem aX12_readsAll_42 : i_at mX12_readsAll.2.2.2.2.2 42 = some (.goto (-16), 3, 26, 0, 0, 0) := by decide +kernel
theorem aX12_readsAll_45 : i_at mX12_readsAll.2.2.2.2.2 45 = some (.iconst 0, 1, 0, 0, 0, 0) := by decide +kernel
theorem aX12_readsAll_46 : i_at mX12_readsAll.2.2.2.2.2 46 = some (.istore_n 1, 1, 0, 0, 0, 0) := by decide +kernel
theorem aX12_readsAll_47 : i_at mX12_readsAll.2.2.2.2.2 47 = some (.iload_n 1, 1, 0, 0, 0, 0) := by decide +kernel
theorem aX12_readsAll_48 : i_at mX12_readsAll.2.2.2.2.2 48 = some (.bipush 6, 2, 0, 0, 0, 0) := by decide +kernel
theorem aX12_readsAll_50 : i_at mX12_readsAll.2.2.2.2.2 50 = some (.if_icmp .ge 23, 3, 73, 0, 0, 0) := by decide +kernel
theorem aX12_readsAll_53 : i_at mX12_readsAll.2.2.2.2.2 53 = some (.aload_n 0, 1, 0, 0, 0, 0) := by decide +kernel
theorem aX12_readsAll_54 : i_at mX12_readsAll.2.2.2.2.2 54 = some (.getfield 52, 3, 11, 15, 1102, 0) := by decide +kernel
theorem aX12_readsAll_57 : i_at mX12_readsAll.2.2.2.2.2 57 = some (.iload_n 1, 1, 0, 0, 0, 0) := by decide +kernel
theorem aX12_readsAll_58 : i_at mX12_readsAll.2.2.2.2.2 58 = some (.iconst 0, 1, 0, 0, 0, 0) := by decide +kernel
theorem aX12_readsAll_59 : i_at mX12_readsAll.2.2.2.2.2 59 = some (.iastore, 1, 0, 0, 0, 0) := by decide +kernel
theorem aX12_readsAll_60 : i_at mX12_readsAll.2.2.2.2.2 60 = some (.aload_n 0, 1, 0, 0, 0, 0) := by decide +kernel
theorem aX12_readsAll_61 : i_at mX12_readsAll.2.2.2.2.2 61 = some (.getfield 58, 3, 11, 17, 1104, 0) := by decide +kernel
theorem aX12_readsAll_64 : i_at mX12_readsAll.2.2.2.2.2 64 = some (.iload_n 1, 1, 0, 0, 0, 0) := by decide +kernel
theorem aX12_readsAll_65 : i_at mX12_readsAll.2.2.2.2.2 65 = some (.iconst 0, 1, 0, 0, 0, 0) := by decide +kernel
theorem aX12_readsAll_66 : i_at mX12_readsAll.2.2.2.2.2 66 = some (.iastore, 1, 0, 0, 0, 0) := by decide +kernel
theorem aX12_readsAll_67 : i_at mX12_readsAll.2.2.2.2.2 67 = some (.iinc 1 1, 3, 0, 0, 0, 0) := by decide +kernel
theorem aX12_readsAll_70 : i_at mX12_readsAll.2.2.2.2.2 70 = some (.goto (-23), 3, 47, 0, 0, 0) := by decide +kernel
theorem aX12_readsAll_73 : i_at mX12_readsAll.2.2.2.2.2 73 = some (.iconst 0, 1, 0, 0, 0, 0) := by decide +kernel
theorem aX12_readsAll_74 : i_at mX12_readsAll.2.2.2.2.2 74 = some (.istore_n 1, 1, 0, 0, 0, 0) := by decide +kernel
theorem aX12_readsAll_75 : i_at mX12_readsAll.2.2.2.2.2 75 = some (.iconst 1, 1, 0, 0, 0, 0) := by decide +kernel
theorem aX12_readsAll_76 : i_at mX12_readsAll.2.2.2.2.2 76 = some (.istore_n 2, 1, 0, 0, 0, 0) := by decide +kernel
theorem aX12_readsAll_77 : i_at mX12_readsAll.2.2.2.2.2 77 = some (.iload_n 2, 1, 0, 0, 0, 0) := by decide +kernel
theorem aX12_readsAll_78 : i_at mX12_readsAll.2.2.2.2.2 78 = some (.ifCond .eq 19, 3, 97, 0, 0, 0) := by decide +kernel
theorem aX12_readsAll_81 : i_at mX12_readsAll.2.2.2.2.2 81 = some (.aload_n 0, 1, 0, 0, 0, 0) := by decide +kernel
theorem aX12_readsAll_82 : i_at mX12_readsAll.2.2.2.2.2 82 = some (.iload_n 1, 1, 0, 0, 0, 0) := by decide +kernel
theorem aX12_readsAll_83 : i_at mX12_readsAll.2.2.2.2.2 83 = some (.invokevirtual 289, 3, 160, 1, 1271, 0) := by decide +kernel
theorem aX12_readsAll_86 : i_at mX12_readsAll.2.2.2.2.2 86 = some (.iinc 1 1, 3, 0, 0, 0, 0) := by decide +kernel
theorem aX12_readsAll_89 : i_at mX12_readsAll.2.2.2.2.2 89 = some (.aload_n 0, 1, 0, 0, 0, 0) := by decide +kernel
theorem aX12_readsAll_90 : i_at mX12_readsAll.2.2.2.2.2 90 = some (.invokevirtual 292, 3, 162, 0, 1331, 0) := by decide +kernel
theorem aX12_readsAll_93 : i_at mX12_readsAll.2.2.2.2.2 93 = some (.istore_n 2, 1, 0, 0, 0, 0) := by decide +kernel
theorem aX12_readsAll_94 : i_at mX12_readsAll.2.2.2.2.2 94 = some (.goto (-17), 3, 77, 0, 0, 0) := by decide +kernel
theorem aX12_readsAll_97 : i_at mX12_readsAll.2.2.2.2.2 97 = some (.aload_n 0, 1, 0, 0, 0, 0) := by decide +kernel
theorem aX12_readsAll_98 : i_at mX12_readsAll.2.2.2.2.2 98 = some (.iconst 0, 1, 0, 0, 0, 0) := by decide +kernel
theorem aX12_readsAll_99 : i_at mX12_readsAll.2.2.2.2.2 99 = some (.putfield 135, 3, 11, 19, 1106, 0) := by decide +kernel
theorem aX12_readsAll_102 : i_at mX12_readsAll.2.2.2.2.2 102 = some (.return_, 1, 0, 0, 0, 0) := by decide +kernel
noncomputable def fX12_readsAll_L6 (sh : List kd) (k24 : Int32 → St → Option (Unit × St)) : Nat → Int32 → St → Option (Unit × St)
  | 0, _, _ => none
  | n58 + 1, x4, s5 => if 4 ≤ x4 then k24 x4 s5 else if i_ok x4 4 then (fX12_readsAll_L6 sh k24 n58 (x4 + 1) (s_A s5 13 x4.toNatClampNeg 0)) else none
noncomputable def fX12_readsAll_L26 (sh : List kd) (k45 : Int32 → St → Option (Unit × St)) : Nat → Int32 → St → Option (Unit × St)
  | 0, _, _ => none
  | n115 + 1, x61, s62 => if 12 ≤ x61 then k45 x61 s62 else if i_ok x61 12 then (fX12_readsAll_L26 sh k45 n115 (x61 + 1) (s_A s62 16 x61.toNatClampNeg (-1))) else none
noncomputable def fX12_readsAll_L47 (sh : List kd) (k73 : Int32 → St → Option (Unit × St)) : Nat → Int32 → St → Option (Unit × St)
  | 0, _, _ => none
  | n172 + 1, x118, s119 => if 6 ≤ x118 then k73 x118 s119 else if i_ok x118 6 then if i_ok x118 6 then (fX12_readsAll_L47 sh k73 n172 (x118 + 1) (s_A (s_A s119 15 x118.toNatClampNeg 0) 17 x118.toNatClampNeg 0)) else none else none
noncomputable def fX12_readsAll_L77 (sh : List kd) (k97 : Int32 → Int32 → St → Option (Unit × St)) : Nat → Int32 → Int32 → St → Option (Unit × St)
  | 0, _, _, _ => none
  | n232 + 1, x176, x177, s178 => if x177 = 0 then k97 x176 x177 s178 else i_bd (fX12_courtClause sh s178 x176) (fun r234 s235 => i_bd (fX12_goesOn sh s235) (fun r237 s238 => (fX12_readsAll_L77 sh k97 n232 (x176 + 1) r237 s238)))
noncomputable def fX12_readsAll_X97 (sh : List kd) (x229 : Int32) (x230 : Int32) (s231 : St) : Option (Unit × St) := some ((), s_F s231 0 19 0)
noncomputable def fX12_readsAll_X73 (sh : List kd) (x170 : Int32) (s171 : St) : Option (Unit × St) := fX12_readsAll_L77 sh (fun (x229 : Int32) (x230 : Int32) (s231 : St) => fX12_readsAll_X97 sh x229 x230 s231) i_F 0 1 s171
noncomputable def fX12_readsAll_X45 (sh : List kd) (x113 : Int32) (s114 : St) : Option (Unit × St) := fX12_readsAll_L47 sh (fun (x170 : Int32) (s171 : St) => fX12_readsAll_X73 sh x170 s171) i_F 0 s114
noncomputable def fX12_readsAll_X24 (sh : List kd) (x56 : Int32) (s57 : St) : Option (Unit × St) := fX12_readsAll_L26 sh (fun (x113 : Int32) (s114 : St) => fX12_readsAll_X45 sh x113 s114) i_F 0 s57
noncomputable def fX12_readsAll (sh : List kd) (σ : St) : Option (Unit × St) := i_bd (fX12_starts sh σ) (fun r1 s2 => fX12_readsAll_L6 sh (fun (x56 : Int32) (s57 : St) => fX12_readsAll_X24 sh x56 s57) i_F 0 s2)
set_option maxRecDepth 20000 in
set_option maxHeartbeats 2000000 in
theorem tX12_readsAll_L6 {sh : List kd} {τ : St} {r : Unit} (hsh : rmSh sh) {k24 : Int32 → St → Option (Unit × St)} (hk24 : ∀ (x56 : Int32) (s57 : St), k24 x56 s57 = some (r, τ) → g_R sh 7 mX12_readsAll none τ 24 [.ref 0, .int x56, .retAddr 0] [] (s57)) : ∀ (n0 : Nat) (x4 : Int32) (s5 : St), fX12_readsAll_L6 sh k24 n0 x4 s5 = some (r, τ) → g_R sh 7 mX12_readsAll none τ 6 [.ref 0, .int x4, .retAddr 0] [] (s5) := by
  intro n0
  induction n0 with
  | zero => intro _ _ hE; cases hE
  | succ n58 ih =>
    intro x4 s5 hE
    unfold fX12_readsAll_L6 at hE
    refine g_ldin aX12_readsAll_6 rfl ?_
    refine g_iconst (x := 4) aX12_readsAll_7 rfl ?_
    by_cases hc59 : 4 ≤ x4
    · rw [if_pos hc59] at hE
      refine g_ic_ge_t aX12_readsAll_8 hc59 ?_
      exact hk24 _ _ hE
    · rw [if_neg hc59] at hE
      refine g_ic_ge_f aX12_readsAll_8 hc59 ?_
      refine g_ldan aX12_readsAll_11 rfl ?_
      refine g_getR aX12_readsAll_12 (sR_0 hsh) rfl ?_
      refine g_ldin aX12_readsAll_15 rfl ?_
      refine g_iconst (x := 0) aX12_readsAll_16 rfl ?_
      obtain ⟨h60, hE⟩ := i_ifn hE
      refine g_ist aX12_readsAll_17 (sR_13 hsh) h60 ?_
      refine g_iinc (y := 1) (loc2 := [.ref 0, .int (x4 + 1), .retAddr 0]) aX12_readsAll_18 rfl rfl rfl ?_
      refine g_goto aX12_readsAll_21 ?_
      exact ih _ _ hE
set_option maxRecDepth 20000 in
set_option maxHeartbeats 2000000 in
theorem tX12_readsAll_L26 {sh : List kd} {τ : St} {r : Unit} (hsh : rmSh sh) {k45 : Int32 → St → Option (Unit × St)} (hk45 : ∀ (x113 : Int32) (s114 : St), k45 x113 s114 = some (r, τ) → g_R sh 7 mX12_readsAll none τ 45 [.ref 0, .int x113, .retAddr 0] [] (s114)) : ∀ (n0 : Nat) (x61 : Int32) (s62 : St), fX12_readsAll_L26 sh k45 n0 x61 s62 = some (r, τ) → g_R sh 7 mX12_readsAll none τ 26 [.ref 0, .int x61, .retAddr 0] [] (s62) := by
  intro n0
  induction n0 with
  | zero => intro _ _ hE; cases hE
  | succ n115 ih =>
    intro x61 s62 hE
    unfold fX12_readsAll_L26 at hE
    refine g_ldin aX12_readsAll_26 rfl ?_
    refine g_bipush (x := 12) aX12_readsAll_27 rfl ?_
    by_cases hc116 : 12 ≤ x61
    · rw [if_pos hc116] at hE
      refine g_ic_ge_t aX12_readsAll_29 hc116 ?_
      exact hk45 _ _ hE
    · rw [if_neg hc116] at hE
      refine g_ic_ge_f aX12_readsAll_29 hc116 ?_
      refine g_ldan aX12_readsAll_32 rfl ?_
      refine g_getR aX12_readsAll_33 (sR_0 hsh) rfl ?_
      refine g_ldin aX12_readsAll_36 rfl ?_
      refine g_iconst (x := (-1)) aX12_readsAll_37 rfl ?_
      obtain ⟨h117, hE⟩ := i_ifn hE
      refine g_ist aX12_readsAll_38 (sR_16 hsh) h117 ?_
      refine g_iinc (y := 1) (loc2 := [.ref 0, .int (x61 + 1), .retAddr 0]) aX12_readsAll_39 rfl rfl rfl ?_
      refine g_goto aX12_readsAll_42 ?_
      exact ih _ _ hE
set_option maxRecDepth 20000 in
set_option maxHeartbeats 2000000 in
theorem tX12_readsAll_L47 {sh : List kd} {τ : St} {r : Unit} (hsh : rmSh sh) {k73 : Int32 → St → Option (Unit × St)} (hk73 : ∀ (x170 : Int32) (s171 : St), k73 x170 s171 = some (r, τ) → g_R sh 7 mX12_readsAll none τ 73 [.ref 0, .int x170, .retAddr 0] [] (s171)) : ∀ (n0 : Nat) (x118 : Int32) (s119 : St), fX12_readsAll_L47 sh k73 n0 x118 s119 = some (r, τ) → g_R sh 7 mX12_readsAll none τ 47 [.ref 0, .int x118, .retAddr 0] [] (s119) := by
  intro n0
  induction n0 with
  | zero => intro _ _ hE; cases hE
  | succ n172 ih =>
    intro x118 s119 hE
    unfold fX12_readsAll_L47 at hE
    refine g_ldin aX12_readsAll_47 rfl ?_
    refine g_bipush (x := 6) aX12_readsAll_48 rfl ?_
    by_cases hc173 : 6 ≤ x118
    · rw [if_pos hc173] at hE
      refine g_ic_ge_t aX12_readsAll_50 hc173 ?_
      exact hk73 _ _ hE
    · rw [if_neg hc173] at hE
      refine g_ic_ge_f aX12_readsAll_50 hc173 ?_
      refine g_ldan aX12_readsAll_53 rfl ?_
      refine g_getR aX12_readsAll_54 (sR_0 hsh) rfl ?_
      refine g_ldin aX12_readsAll_57 rfl ?_
      refine g_iconst (x := 0) aX12_readsAll_58 rfl ?_
      obtain ⟨h174, hE⟩ := i_ifn hE
      refine g_ist aX12_readsAll_59 (sR_15 hsh) h174 ?_
      refine g_ldan aX12_readsAll_60 rfl ?_
      refine g_getR aX12_readsAll_61 (sR_0 hsh) rfl ?_
      refine g_ldin aX12_readsAll_64 rfl ?_
      refine g_iconst (x := 0) aX12_readsAll_65 rfl ?_
      obtain ⟨h175, hE⟩ := i_ifn hE
      refine g_ist aX12_readsAll_66 (sR_17 hsh) h175 ?_
      refine g_iinc (y := 1) (loc2 := [.ref 0, .int (x118 + 1), .retAddr 0]) aX12_readsAll_67 rfl rfl rfl ?_
      refine g_goto aX12_readsAll_70 ?_
      exact ih _ _ hE
set_option maxRecDepth 20000 in
set_option maxHeartbeats 2000000 in
theorem tX12_readsAll_L77 {sh : List kd} {τ : St} {r : Unit} (hsh : rmSh sh) {k97 : Int32 → Int32 → St → Option (Unit × St)} (hk97 : ∀ (x229 : Int32) (x230 : Int32) (s231 : St), k97 x229 x230 s231 = some (r, τ) → g_R sh 7 mX12_readsAll none τ 97 [.ref 0, .int x229, .int x230] [] (s231)) : ∀ (n0 : Nat) (x176 : Int32) (x177 : Int32) (s178 : St), fX12_readsAll_L77 sh k97 n0 x176 x177 s178 = some (r, τ) → g_R sh 7 mX12_readsAll none τ 77 [.ref 0, .int x176, .int x177] [] (s178) := by
  intro n0
  induction n0 with
  | zero => intro _ _ _ hE; cases hE
  | succ n232 ih =>
    intro x176 x177 s178 hE
    unfold fX12_readsAll_L77 at hE
    refine g_ldin aX12_readsAll_77 rfl ?_
    by_cases hc233 : x177 = 0
    · rw [if_pos hc233] at hE
      refine g_if_eq_t aX12_readsAll_78 hc233 ?_
      exact hk97 _ _ _ hE
    · rw [if_neg hc233] at hE
      refine g_if_eq_f aX12_readsAll_78 hc233 ?_
      refine g_ldan aX12_readsAll_81 rfl ?_
      refine g_ldin aX12_readsAll_82 rfl ?_
      obtain ⟨r234, s235, h236, hE⟩ := i_bd_some hE
      refine g_calV (As := [.int x176]) (rest := []) aX12_readsAll_83 (i_X_mono (by omega) (tX12_courtClause hsh h236)) (sR_0 hsh) (by decide +kernel) rfl rfl (Nat.le_of_ble_eq_true rfl) rfl ?_
      refine g_iinc (y := 1) (loc2 := [.ref 0, .int (x176 + 1), .int x177]) aX12_readsAll_86 rfl rfl rfl ?_
      refine g_ldan aX12_readsAll_89 rfl ?_
      obtain ⟨r237, s238, h239, hE⟩ := i_bd_some hE
      refine g_calV (As := []) (rest := []) aX12_readsAll_90 (i_X_mono (by omega) (tX12_goesOn hsh h239)) (sR_0 hsh) (by decide +kernel) rfl rfl (Nat.le_of_ble_eq_true rfl) rfl ?_
      refine g_stin (loc2 := [.ref 0, .int (x176 + 1), .int r237]) aX12_readsAll_93 (Nat.le_of_ble_eq_true rfl) rfl ?_
      refine g_goto aX12_readsAll_94 ?_
      exact ih _ _ _ hE
set_option maxRecDepth 20000 in
set_option maxHeartbeats 2000000 in
theorem tX12_readsAll_X97 {sh : List kd} {τ : St} {r : Unit} (hsh : rmSh sh) {x229 : Int32} {x230 : Int32} {s231 : St} (hE : fX12_readsAll_X97 sh x229 x230 s231 = some (r, τ)) : g_R sh 7 mX12_readsAll none τ 97 [.ref 0, .int x229, .int x230] [] (s231) := by
  unfold fX12_readsAll_X97 at hE
  refine g_ldan aX12_readsAll_97 rfl ?_
  refine g_iconst (x := 0) aX12_readsAll_98 rfl ?_
  refine g_putI aX12_readsAll_99 (sR_0 hsh) rfl rfl ?_
  obtain ⟨rfl, rfl⟩ := i_some_inj hE
  exact g_vret aX12_readsAll_102 rfl
set_option maxRecDepth 20000 in
set_option maxHeartbeats 2000000 in
theorem tX12_readsAll_X73 {sh : List kd} {τ : St} {r : Unit} (hsh : rmSh sh) {x170 : Int32} {s171 : St} (hE : fX12_readsAll_X73 sh x170 s171 = some (r, τ)) : g_R sh 7 mX12_readsAll none τ 73 [.ref 0, .int x170, .retAddr 0] [] (s171) := by
  unfold fX12_readsAll_X73 at hE
  refine g_iconst (x := 0) aX12_readsAll_73 rfl ?_
  refine g_stin (loc2 := [.ref 0, .int 0, .retAddr 0]) aX12_readsAll_74 (Nat.le_of_ble_eq_true rfl) rfl ?_
  refine g_iconst (x := 1) aX12_readsAll_75 rfl ?_
  refine g_stin (loc2 := [.ref 0, .int 0, .int 1]) aX12_readsAll_76 (Nat.le_of_ble_eq_true rfl) rfl ?_
  exact tX12_readsAll_L77 hsh (fun x229 x230 s231 hE => tX12_readsAll_X97 hsh hE) i_F _ _ _ hE
set_option maxRecDepth 20000 in
set_option maxHeartbeats 2000000 in
theorem tX12_readsAll_X45 {sh : List kd} {τ : St} {r : Unit} (hsh : rmSh sh) {x113 : Int32} {s114 : St} (hE : fX12_readsAll_X45 sh x113 s114 = some (r, τ)) : g_R sh 7 mX12_readsAll none τ 45 [.ref 0, .int x113, .retAddr 0] [] (s114) := by
  unfold fX12_readsAll_X45 at hE
  refine g_iconst (x := 0) aX12_readsAll_45 rfl ?_
  refine g_stin (loc2 := [.ref 0, .int 0, .retAddr 0]) aX12_readsAll_46 (Nat.le_of_ble_eq_true rfl) rfl ?_
  exact tX12_readsAll_L47 hsh (fun x170 s171 hE => tX12_readsAll_X73 hsh hE) i_F _ _ hE
set_option maxRecDepth 20000 in
set_option maxHeartbeats 2000000 in
theorem tX12_readsAll_X24 {sh : List kd} {τ : St} {r : Unit} (hsh : rmSh sh) {x56 : Int32} {s57 : St} (hE : fX12_readsAll_X24 sh x56 s57 = some (r, τ)) : g_R sh 7 mX12_readsAll none τ 24 [.ref 0, .int x56, .retAddr 0] [] (s57) := by
  unfold fX12_readsAll_X24 at hE
  refine g_iconst (x := 0) aX12_readsAll_24 rfl ?_
  refine g_stin (loc2 := [.ref 0, .int 0, .retAddr 0]) aX12_readsAll_25 (Nat.le_of_ble_eq_true rfl) rfl ?_
  exact tX12_readsAll_L26 hsh (fun x113 s114 hE => tX12_readsAll_X45 hsh hE) i_F _ _ hE
set_option maxRecDepth 20000 in
set_option maxHeartbeats 2000000 in
theorem tX12_readsAll {sh : List kd} {σ τ : St} {r : Unit} (hsh : rmSh sh) (hE : fX12_readsAll sh σ = some (r, τ)) : i_X 8 164 [.ref 0] (s_h sh σ) 0 0 none (s_h sh τ) := by
  refine g_X (M := mX12_readsAll) (loc := [.ref 0, .retAddr 0, .retAddr 0]) rfl (Nat.le_of_ble_eq_true rfl) rfl ?_
  unfold fX12_readsAll at hE
  refine g_ldan aX12_readsAll_0 rfl ?_
  obtain ⟨r1, s2, h3, hE⟩ := i_bd_some hE
  refine g_calV (As := []) (rest := []) aX12_readsAll_1 (i_X_mono (by omega) (tX12_starts hsh h3)) (sR_0 hsh) (by decide +kernel) rfl rfl (Nat.le_of_ble_eq_true rfl) rfl ?_
  refine g_iconst (x := 0) aX12_readsAll_4 rfl ?_
  refine g_stin (loc2 := [.ref 0, .int 0, .retAddr 0]) aX12_readsAll_5 (Nat.le_of_ble_eq_true rfl) rfl ?_
  exact tX12_readsAll_L6 hsh (fun x56 s57 hE => tX12_readsAll_X24 hsh hE) i_F _ _ hE
theorem aX12_court_0 : i_at mX12_court.2.2.2.2.2 0 = some (.aload_n 0, 1, 0, 0, 0, 0) := by decide +kernel
theorem aX12_court_1 : i_at mX12_court.2.2.2.2.2 1 = some (.invokevirtual 299, 3, 164, 0, 1263, 0) := by decide +kernel
theorem aX12_court_4 : i_at mX12_court.2.2.2.2.2 4 = some (.aload_n 0, 1, 0, 0, 0, 0) := by decide +kernel
theorem aX12_court_5 : i_at mX12_court.2.2.2.2.2 5 = some (.getfield 163, 3, 11, 21, 1108, 0) := by decide +kernel
theorem aX12_court_8 : i_at mX12_court.2.2.2.2.2 8 = some (.ifCond .le 11, 3, 19, 0, 0, 0) := by decide +kernel
theorem aX12_court_11 : i_at mX12_court.2.2.2.2.2 11 = some (.bipush (-2), 2, 0, 0, 0, 0) := by decide +kernel
theorem aX12_court_13 : i_at mX12_court.2.2.2.2.2 13 = some (.aload_n 0, 1, 0, 0, 0, 0) := by decide +kernel
theorem aX12_court_14 : i_at mX12_court.2.2.2.2.2 14 = some (.getfield 163, 3, 11, 21, 1108, 0) := by decide +kernel
theorem aX12_court_17 : i_at mX12_court.2.2.2.2.2 17 = some (.isub, 1, 0, 0, 0, 0) := by decide +kernel
theorem aX12_court_18 : i_at mX12_court.2.2.2.2.2 18 = some (.ireturn, 1, 0, 0, 0, 0) := by decide +kernel
theorem aX12_court_19 : i_at mX12_court.2.2.2.2.2 19 = some (.iconst 0, 1, 0, 0, 0, 0) := by decide +kernel
theorem aX12_court_20 : i_at mX12_court.2.2.2.2.2 20 = some (.istore_n 1, 1, 0, 0, 0, 0) := by decide +kernel
theorem aX12_court_21 : i_at mX12_court.2.2.2.2.2 21 = some (.iload_n 1, 1, 0, 0, 0, 0) := by decide +kernel
theorem aX12_court_22 : i_at mX12_court.2.2.2.2.2 22 = some (.iconst 4, 1, 0, 0, 0, 0) := by decide +kernel
theorem aX12_court_23 : i_at mX12_court.2.2.2.2.2 23 = some (.if_icmp .ge 21, 3, 44, 0, 0, 0) := by decide +kernel
theorem aX12_court_26 : i_at mX12_court.2.2.2.2.2 26 = some (.aload_n 0, 1, 0, 0, 0, 0) := by decide +kernel
theorem aX12_court_27 : i_at mX12_court.2.2.2.2.2 27 = some (.getfield 9, 3, 11, 1, 1088, 0) := by decide +kernel
theorem aX12_court_30 : i_at mX12_court.2.2.2.2.2 30 = some (.iload_n 1, 1, 0, 0, 0, 0) := by decide +kernel
theorem aX12_court_31 : i_at mX12_court.2.2.2.2.2 31 = some (.aload_n 0, 1, 0, 0, 0, 0) := by decide +kernel
theorem aX12_court_32 : i_at mX12_court.2.2.2.2.2 32 = some (.getfield 46, 3, 11, 13, 1100, 0) := by decide +kernel
theorem aX12_court_35 : i_at mX12_court.2.2.2.2.2 35 = some (.iload_n 1, 1, 0, 0, 0, 0) := by decide +kernel
theorem aX12_court_36 : i_at mX12_court.2.2.2.2.2 36 = some (.iaload, 1, 0, 0, 0, 0) := by decide +kernel
theorem aX12_court_37 : i_at mX12_court.2.2.2.2.2 37 = some (.iastore, 1, 0, 0, 0, 0) := by decide +kernel
theorem aX12_court_38 : i_at mX12_court.2.2.2.2.2 38 = some (.iinc 1 1, 3, 0, 0, 0, 0) := by decide +kernel
theorem aX12_court_41 : i_at mX12_court.2.2.2.2.2 41 = some (.goto (-20), 3, 21, 0, 0, 0) := by decide +kernel
theorem aX12_court_44 : i_at mX12_court.2.2.2.2.2 44 = some (.aload_n 0, 1, 0, 0, 0, 0) := by decide +kernel
theorem aX12_court_45 : i_at mX12_court.2.2.2.2.2 45 = some (.getfield 9, 3, 11, 1, 1088, 0) := by decide +kernel
theorem aX12_court_48 : i_at mX12_court.2.2.2.2.2 48 = some (.bipush 8, 2, 0, 0, 0, 0) := by decide +kernel
theorem aX12_court_50 : i_at mX12_court.2.2.2.2.2 50 = some (.iconst 0, 1, 0, 0, 0, 0) := by decide +kernel
theorem aX12_court_51 : i_at mX12_court.2.2.2.2.2 51 = some (.iastore, 1, 0, 0, 0, 0) := by decide +kernel
theorem aX12_court_52 : i_at mX12_court.2.2.2.2.2 52 = some (.aload_n 0, 1, 0, 0, 0, 0) := by decide +kernel
theorem aX12_court_53 : i_at mX12_court.2.2.2.2.2 53 = some (.getfield 49, 3, 11, 14, 1101, 0) := by decide +kernel
theorem aX12_court_56 : i_at mX12_court.2.2.2.2.2 56 = some (.aload_n 0, 1, 0, 0, 0, 0) := by decide +kernel
theorem aX12_court_57 : i_at mX12_court.2.2.2.2.2 57 = some (.getfield 13, 3, 11, 2, 1089, 0) := by decide +kernel
theorem aX12_court_60 : i_at mX12_court.2.2.2.2.2 60 = some (.invokestatic 295, 3, 161, 2, 1335, 0) := by decide +kernel
theorem aX12_court_63 : i_at mX12_court.2.2.2.2.2 63 = some (.aload_n 0, 1, 0, 0, 0, 0) := by decide +kernel
theorem aX12_court_64 : i_at mX12_court.2.2.2.2.2 64 = some (.getfield 52, 3, 11, 15, 1102, 0) := by decide +kernel
theorem aX12_court_67 : i_at mX12_court.2.2.2.2.2 67 = some (.aload_n 0, 1, 0, 0, 0, 0) := by decide +kernel
theorem aX12_court_68 : i_at mX12_court.2.2.2.2.2 68 = some (.getfield 16, 3, 11, 3, 1090, 0) := by decide +kernel
theorem aX12_court_71 : i_at mX12_court.2.2.2.2.2 71 = some (.invokestatic 295, 3, 161, 2, 1335, 0) := by decide +kernel
theorem aX12_court_74 : i_at mX12_court.2.2.2.2.2 74 = some (.aload_n 0, 1, 0, 0, 0, 0) := by decide +kernel
theorem aX12_court_75 : i_at mX12_court.2.2.2.2.2 75 = some (.getfield 55, 3, 11, 16, 1103, 0) := by decide +kernel
theorem aX12_court_78 : i_at mX12_court.2.2.2.2.2 78 = some (.aload_n 0, 1, 0, 0, 0, 0) := by decide +kernel
theorem aX12_court_79 : i_at mX12_court.2.2.2.2.2 79 = some (.getfield 22, 3, 11, 5, 1092, 0) := by decide +kernel
theorem aX12_court_82 : i_at mX12_court.2.2.2.2.2 82 = some (.invokestatic 295, 3, 161, 2, 1335, 0) := by decide +kernel
theorem aX12_court_85 : i_at mX12_court.2.2.2.2.2 85 = some (.aload_n 0, 1, 0, 0, 0, 0) := by decide +kernel
theorem aX12_court_86 : i_at mX12_court.2.2.2.2.2 86 = some (.getfield 58, 3, 11, 17, 1104, 0) := by decide +kernel
theorem aX12_court_89 : i_at mX12_court.2.2.2.2.2 89 = some (.aload_n 0, 1, 0, 0, 0, 0) := by decide +kernel
theorem aX12_court_90 : i_at mX12_court.2.2.2.2.2 90 = some (.getfield 43, 3, 11, 12, 1099, 0) := by decide +kernel
theorem aX12_court_93 : i_at mX12_court.2.2.2.2.2 93 = some (.invokestatic 295, 3, 161, 2, 1335, 0) := by decide +kernel
theorem aX12_court_96 : i_at mX12_court.2.2.2.2.2 96 = some (.aload_n 0, 1, 0, 0, 0, 0) := by decide +kernel
theorem aX12_court_97 : i_at mX12_court.2.2.2.2.2 97 = some (.getfield 61, 3, 11, 18, 1105, 0) := by decide +kernel
theorem aX12_court_100 : i_at mX12_court.2.2.2.2.2 100 = some (.aload_n 0, 1, 0, 0, 0, 0) := by decide +kernel
theorem aX12_court_101 : i_at mX12_court.2.2.2.2.2 101 = some (.getfield 28, 3, 11, 7, 1094, 0) := by decide +kernel
theorem aX12_court_104 : i_at mX12_court.2.2.2.2.2 104 = some (.invokestatic 295, 3, 161, 2, 1335, 0) := by decide +kernel
theorem aX12_court_107 : i_at mX12_court.2.2.2.2.2 107 = some (.aload_n 0, 1, 0, 0, 0, 0) := by decide +kernel
theorem aX12_court_108 : i_at mX12_court.2.2.2.2.2 108 = some (.invokevirtual 302, 3, 165, 0, 1338, 0) := by decide +kernel
theorem aX12_court_111 : i_at mX12_court.2.2.2.2.2 111 = some (.aload_n 0, 1, 0, 0, 0, 0) := by decide +kernel
theorem aX12_court_112 : i_at mX12_court.2.2.2.2.2 112 = some (.iconst 0, 1, 0, 0, 0, 0) := by decide +kernel
theorem aX12_court_113 : i_at mX12_court.2.2.2.2.2 113 = some (.putfield 305, 3, 11, 41, 1128, 0) := by decide +kernel
theorem aX12_court_116 : i_at mX12_court.2.2.2.2.2 116 = some (.aload_n 0, 1, 0, 0, 0, 0) := by decide +kernel
theorem aX12_court_117 : i_at mX12_court.2.2.2.2.2 117 = some (.getfield 9, 3, 11, 1, 1088, 0) := by decide +kernel
theorem aX12_court_120 : i_at mX12_court.2.2.2.2.2 120 = some (.iconst 2, 1, 0, 0, 0, 0) := by decide +kernel
theorem aX12_court_121 : i_at mX12_court.2.2.2.2.2 121 = some (.iaload, 1, 0, 0, 0, 0) := by decide +kernel
theorem aX12_court_122 : i_at mX12_court.2.2.2.2.2 122 = some (.ireturn, 1, 0, 0, 0, 0) := by decide +kernel
noncomputable def fX12_court_L21 (sh : List kd) (k44 : Int32 → St → Option (Int32 × St)) : Nat → Int32 → St → Option (Int32 × St)
  | 0, _, _ => none
  | n59 + 1, x5, s6 => if 4 ≤ x5 then k44 x5 s6 else if i_ok x5 4 then if i_ok x5 11 then (fX12_court_L21 sh k44 n59 (x5 + 1) (s_A s6 1 x5.toNatClampNeg (s6.2.1 13 x5.toNatClampNeg))) else none else none
noncomputable def fX12_court_X44 (sh : List kd) (x57 : Int32) (s58 : St) : Option (Int32 × St) := if i_ok 8 11 then i_bd (fX12_copies sh (s_A s58 1 (8 : Int32).toNatClampNeg 0) 14 2) (fun r64 s65 => i_bd (fX12_copies sh s65 15 3) (fun r67 s68 => i_bd (fX12_copies sh s68 16 5) (fun r70 s71 => i_bd (fX12_copies sh s71 17 12) (fun r73 s74 => i_bd (fX12_copies sh s74 18 7) (fun r76 s77 => i_bd (fX12_begins sh s77) (fun r79 s80 => if i_ok 2 11 then some (((s_F s80 0 41 0).2.1 1 (2 : Int32).toNatClampNeg), s_F s80 0 41 0) else none)))))) else none
noncomputable def fX12_court (sh : List kd) (σ : St) : Option (Int32 × St) := i_bd (fX12_readsAll sh σ) (fun r1 s2 => if (s2.1 0 21) ≤ 0 then fX12_court_L21 sh (fun (x57 : Int32) (s58 : St) => fX12_court_X44 sh x57 s58) i_F 0 s2 else some (((-2) - (s2.1 0 21)), s2))
set_option maxRecDepth 20000 in
set_option maxHeartbeats 2000000 in
theorem tX12_court_L21 {sh : List kd} {τ : St} {r : Int32} (hsh : rmSh sh) {k44 : Int32 → St → Option (Int32 × St)} (hk44 : ∀ (x57 : Int32) (s58 : St), k44 x57 s58 = some (r, τ) → g_R sh 8 mX12_court (some (.int r)) τ 44 [.ref 0, .int x57] [] (s58)) : ∀ (n0 : Nat) (x5 : Int32) (s6 : St), fX12_court_L21 sh k44 n0 x5 s6 = some (r, τ) → g_R sh 8 mX12_court (some (.int r)) τ 21 [.ref 0, .int x5] [] (s6) := by
  intro n0
  induction n0 with
  | zero => intro _ _ hE; cases hE
  | succ n59 ih =>
    intro x5 s6 hE
    unfold fX12_court_L21 at hE
    refine g_ldin aX12_court_21 rfl ?_
    refine g_iconst (x := 4) aX12_court_22 rfl ?_
    by_cases hc60 : 4 ≤ x5
    · rw [if_pos hc60] at hE
      refine g_ic_ge_t aX12_court_23 hc60 ?_
      exact hk44 _ _ hE
    · rw [if_neg hc60] at hE
      refine g_ic_ge_f aX12_court_23 hc60 ?_
      refine g_ldan aX12_court_26 rfl ?_
      refine g_getR aX12_court_27 (sR_0 hsh) rfl ?_
      refine g_ldin aX12_court_30 rfl ?_
      refine g_ldan aX12_court_31 rfl ?_
      refine g_getR aX12_court_32 (sR_0 hsh) rfl ?_
      refine g_ldin aX12_court_35 rfl ?_
      obtain ⟨h61, hE⟩ := i_ifn hE
      refine g_ild aX12_court_36 (sR_13 hsh) h61 ?_
      obtain ⟨h62, hE⟩ := i_ifn hE
      refine g_ist aX12_court_37 (sR_1 hsh) h62 ?_
      refine g_iinc (y := 1) (loc2 := [.ref 0, .int (x5 + 1)]) aX12_court_38 rfl rfl rfl ?_
      refine g_goto aX12_court_41 ?_
      exact ih _ _ hE
set_option maxRecDepth 20000 in
set_option maxHeartbeats 2000000 in
theorem tX12_court_X44 {sh : List kd} {τ : St} {r : Int32} (hsh : rmSh sh) {x57 : Int32} {s58 : St} (hE : fX12_court_X44 sh x57 s58 = some (r, τ)) : g_R sh 8 mX12_court (some (.int r)) τ 44 [.ref 0, .int x57] [] (s58) := by
  unfold fX12_court_X44 at hE
  refine g_ldan aX12_court_44 rfl ?_
  refine g_getR aX12_court_45 (sR_0 hsh) rfl ?_
  refine g_bipush (x := 8) aX12_court_48 rfl ?_
  refine g_iconst (x := 0) aX12_court_50 rfl ?_
  obtain ⟨h63, hE⟩ := i_ifn hE
  refine g_ist aX12_court_51 (sR_1 hsh) h63 ?_
  refine g_ldan aX12_court_52 rfl ?_
  refine g_getR aX12_court_53 (sR_0 hsh) rfl ?_
  refine g_ldan aX12_court_56 rfl ?_
  refine g_getR aX12_court_57 (sR_0 hsh) rfl ?_
  obtain ⟨r64, s65, h66, hE⟩ := i_bd_some hE
  refine g_calS (As := [.ref 14, .ref 2]) (rest := []) aX12_court_60 (i_X_mono (by omega) (tX12_copies hsh h66)) rfl rfl (Nat.le_of_ble_eq_true rfl) rfl ?_
  refine g_ldan aX12_court_63 rfl ?_
  refine g_getR aX12_court_64 (sR_0 hsh) rfl ?_
  refine g_ldan aX12_court_67 rfl ?_
  refine g_getR aX12_court_68 (sR_0 hsh) rfl ?_
  obtain ⟨r67, s68, h69, hE⟩ := i_bd_some hE
  refine g_calS (As := [.ref 15, .ref 3]) (rest := []) aX12_court_71 (i_X_mono (by omega) (tX12_copies hsh h69)) rfl rfl (Nat.le_of_ble_eq_true rfl) rfl ?_
  refine g_ldan aX12_court_74 rfl ?_
  refine g_getR aX12_court_75 (sR_0 hsh) rfl ?_
  refine g_ldan aX12_court_78 rfl ?_
  refine g_getR aX12_court_79 (sR_0 hsh) rfl ?_
  obtain ⟨r70, s71, h72, hE⟩ := i_bd_some hE
  refine g_calS (As := [.ref 16, .ref 5]) (rest := []) aX12_court_82 (i_X_mono (by omega) (tX12_copies hsh h72)) rfl rfl (Nat.le_of_ble_eq_true rfl) rfl ?_
  refine g_ldan aX12_court_85 rfl ?_
  refine g_getR aX12_court_86 (sR_0 hsh) rfl ?_
  refine g_ldan aX12_court_89 rfl ?_
  refine g_getR aX12_court_90 (sR_0 hsh) rfl ?_
  obtain ⟨r73, s74, h75, hE⟩ := i_bd_some hE
  refine g_calS (As := [.ref 17, .ref 12]) (rest := []) aX12_court_93 (i_X_mono (by omega) (tX12_copies hsh h75)) rfl rfl (Nat.le_of_ble_eq_true rfl) rfl ?_
  refine g_ldan aX12_court_96 rfl ?_
  refine g_getR aX12_court_97 (sR_0 hsh) rfl ?_
  refine g_ldan aX12_court_100 rfl ?_
  refine g_getR aX12_court_101 (sR_0 hsh) rfl ?_
  obtain ⟨r76, s77, h78, hE⟩ := i_bd_some hE
  refine g_calS (As := [.ref 18, .ref 7]) (rest := []) aX12_court_104 (i_X_mono (by omega) (tX12_copies hsh h78)) rfl rfl (Nat.le_of_ble_eq_true rfl) rfl ?_
  refine g_ldan aX12_court_107 rfl ?_
  obtain ⟨r79, s80, h81, hE⟩ := i_bd_some hE
  refine g_calV (As := []) (rest := []) aX12_court_108 (i_X_mono (by omega) (tX12_begins hsh h81)) (sR_0 hsh) (by decide +kernel) rfl rfl (Nat.le_of_ble_eq_true rfl) rfl ?_
  refine g_ldan aX12_court_111 rfl ?_
  refine g_iconst (x := 0) aX12_court_112 rfl ?_
  refine g_putI aX12_court_113 (sR_0 hsh) rfl rfl ?_
  refine g_ldan aX12_court_116 rfl ?_
  refine g_getR aX12_court_117 (sR_0 hsh) rfl ?_
  refine g_iconst (x := 2) aX12_court_120 rfl ?_
  obtain ⟨h82, hE⟩ := i_ifn hE
  refine g_ild aX12_court_121 (sR_1 hsh) h82 ?_
  obtain ⟨rfl, rfl⟩ := i_some_inj hE
  exact g_iret aX12_court_122 rfl rfl
set_option maxRecDepth 20000 in
set_option maxHeartbeats 2000000 in
theorem tX12_court {sh : List kd} {σ τ : St} {r : Int32} (hsh : rmSh sh) (hE : fX12_court sh σ = some (r, τ)) : i_X 9 166 [.ref 0] (s_h sh σ) 0 0 (some (.int r)) (s_h sh τ) := by
  refine g_X (M := mX12_court) (loc := [.ref 0, .retAddr 0]) rfl (Nat.le_of_ble_eq_true rfl) rfl ?_
  unfold fX12_court at hE
  refine g_ldan aX12_court_0 rfl ?_
  obtain ⟨r1, s2, h3, hE⟩ := i_bd_some hE
  refine g_calV (As := []) (rest := []) aX12_court_1 (i_X_mono (by omega) (tX12_readsAll hsh h3)) (sR_0 hsh) (by decide +kernel) rfl rfl (Nat.le_of_ble_eq_true rfl) rfl ?_
  refine g_ldan aX12_court_4 rfl ?_
  refine g_getI aX12_court_5 (sR_0 hsh) rfl ?_
  by_cases hc4 : (s2.1 0 21) ≤ 0
  · rw [if_pos hc4] at hE
    refine g_if_le_t aX12_court_8 hc4 ?_
    refine g_iconst (x := 0) aX12_court_19 rfl ?_
    refine g_stin (loc2 := [.ref 0, .int 0]) aX12_court_20 (Nat.le_of_ble_eq_true rfl) rfl ?_
    exact tX12_court_L21 hsh (fun x57 s58 hE => tX12_court_X44 hsh hE) i_F _ _ hE
  · rw [if_neg hc4] at hE
    refine g_if_le_f aX12_court_8 hc4 ?_
    refine g_bipush (x := (-2)) aX12_court_11 rfl ?_
    refine g_ldan aX12_court_13 rfl ?_
    refine g_getI aX12_court_14 (sR_0 hsh) rfl ?_
    refine g_isub aX12_court_17 ?_
    obtain ⟨rfl, rfl⟩ := i_some_inj hE
    exact g_iret aX12_court_18 rfl rfl
theorem aX12_ring_0 : i_at mX12_ring.2.2.2.2.2 0 = some (.aload_n 0, 1, 0, 0, 0, 0) := by decide +kernel
theorem aX12_ring_1 : i_at mX12_ring.2.2.2.2.2 1 = some (.invokevirtual 345, 3, 130, 0, 1438, 0) := by decide +kernel
theorem aX12_ring_4 : i_at mX12_ring.2.2.2.2.2 4 = some (.ifCond .eq 13, 3, 17, 0, 0, 0) := by decide +kernel
theorem aX12_ring_7 : i_at mX12_ring.2.2.2.2.2 7 = some (.iload_n 1, 1, 0, 0, 0, 0) := by decide +kernel
theorem aX12_ring_8 : i_at mX12_ring.2.2.2.2.2 8 = some (.i2l, 1, 0, 0, 0, 0) := by decide +kernel
theorem aX12_ring_9 : i_at mX12_ring.2.2.2.2.2 9 = some (.lconst 0, 1, 0, 0, 0, 0) := by decide +kernel
theorem aX12_ring_10 : i_at mX12_ring.2.2.2.2.2 10 = some (.lconst 1, 1, 0, 0, 0, 0) := by decide +kernel
theorem aX12_ring_11 : i_at mX12_ring.2.2.2.2.2 11 = some (.invokestatic 131, 3, 127, 3, 1324, 0) := by decide +kernel
theorem aX12_ring_14 : i_at mX12_ring.2.2.2.2.2 14 = some (.ifCond .ne 5, 3, 19, 0, 0, 0) := by decide +kernel
theorem aX12_ring_17 : i_at mX12_ring.2.2.2.2.2 17 = some (.iconst (-1), 1, 0, 0, 0, 0) := by decide +kernel
theorem aX12_ring_18 : i_at mX12_ring.2.2.2.2.2 18 = some (.ireturn, 1, 0, 0, 0, 0) := by decide +kernel
theorem aX12_ring_19 : i_at mX12_ring.2.2.2.2.2 19 = some (.aload_n 0, 1, 0, 0, 0, 0) := by decide +kernel
theorem aX12_ring_20 : i_at mX12_ring.2.2.2.2.2 20 = some (.invokevirtual 410, 3, 196, 0, 1545, 0) := by decide +kernel
theorem aX12_ring_23 : i_at mX12_ring.2.2.2.2.2 23 = some (.aload_n 0, 1, 0, 0, 0, 0) := by decide +kernel
theorem aX12_ring_24 : i_at mX12_ring.2.2.2.2.2 24 = some (.invokevirtual 443, 3, 213, 0, 1629, 0) := by decide +kernel
theorem aX12_ring_27 : i_at mX12_ring.2.2.2.2.2 27 = some (.iconst 0, 1, 0, 0, 0, 0) := by decide +kernel
theorem aX12_ring_28 : i_at mX12_ring.2.2.2.2.2 28 = some (.istore_n 2, 1, 0, 0, 0, 0) := by decide +kernel
theorem aX12_ring_29 : i_at mX12_ring.2.2.2.2.2 29 = some (.iload_n 2, 1, 0, 0, 0, 0) := by decide +kernel
theorem aX12_ring_30 : i_at mX12_ring.2.2.2.2.2 30 = some (.bipush 60, 2, 0, 0, 0, 0) := by decide +kernel
theorem aX12_ring_32 : i_at mX12_ring.2.2.2.2.2 32 = some (.if_icmp .ge 53, 3, 85, 0, 0, 0) := by decide +kernel
theorem aX12_ring_35 : i_at mX12_ring.2.2.2.2.2 35 = some (.iload_n 2, 1, 0, 0, 0, 0) := by decide +kernel
theorem aX12_ring_36 : i_at mX12_ring.2.2.2.2.2 36 = some (.iconst 1, 1, 0, 0, 0, 0) := by decide +kernel
theorem aX12_ring_37 : i_at mX12_ring.2.2.2.2.2 37 = some (.iadd, 1, 0, 0, 0, 0) := by decide +kernel
theorem aX12_ring_38 : i_at mX12_ring.2.2.2.2.2 38 = some (.istore_n 3, 1, 0, 0, 0, 0) := by decide +kernel
theorem aX12_ring_39 : i_at mX12_ring.2.2.2.2.2 39 = some (.iload_n 3, 1, 0, 0, 0, 0) := by decide +kernel
theorem aX12_ring_40 : i_at mX12_ring.2.2.2.2.2 40 = some (.bipush 60, 2, 0, 0, 0, 0) := by decide +kernel
theorem aX12_ring_42 : i_at mX12_ring.2.2.2.2.2 42 = some (.if_icmp .gt 37, 3, 79, 0, 0, 0) := by decide +kernel
theorem aX12_ring_45 : i_at mX12_ring.2.2.2.2.2 45 = some (.aload_n 0, 1, 0, 0, 0, 0) := by decide +kernel
theorem aX12_ring_46 : i_at mX12_ring.2.2.2.2.2 46 = some (.iload_n 2, 1, 0, 0, 0, 0) := by decide +kernel
theorem aX12_ring_47 : i_at mX12_ring.2.2.2.2.2 47 = some (.iload_n 3, 1, 0, 0, 0, 0) := by decide +kernel
theorem aX12_ring_48 : i_at mX12_ring.2.2.2.2.2 48 = some (.invokevirtual 446, 3, 214, 2, 1633, 0) := by decide +kernel
theorem aX12_ring_51 : i_at mX12_ring.2.2.2.2.2 51 = some (.ifCond .eq 22, 3, 73, 0, 0, 0) := by decide +kernel
theorem aX12_ring_54 : i_at mX12_ring.2.2.2.2.2 54 = some (.iload_n 1, 1, 0, 0, 0, 0) := by decide +kernel
theorem aX12_ring_55 : i_at mX12_ring.2.2.2.2.2 55 = some (.ifCond .ne 14, 3, 69, 0, 0, 0) := by decide +kernel
theorem aX12_ring_58 : i_at mX12_ring.2.2.2.2.2 58 = some (.aload_n 0, 1, 0, 0, 0, 0) := by decide +kernel
theorem aX12_ring_59 : i_at mX12_ring.2.2.2.2.2 59 = some (.getfield 9, 3, 11, 1, 1088, 0) := by decide +kernel
theorem aX12_ring_62 : i_at mX12_ring.2.2.2.2.2 62 = some (.iconst 4, 1, 0, 0, 0, 0) := by decide +kernel
theorem aX12_ring_63 : i_at mX12_ring.2.2.2.2.2 63 = some (.iaload, 1, 0, 0, 0, 0) := by decide +kernel
theorem aX12_ring_64 : i_at mX12_ring.2.2.2.2.2 64 = some (.iload_n 2, 1, 0, 0, 0, 0) := by decide +kernel
theorem aX12_ring_65 : i_at mX12_ring.2.2.2.2.2 65 = some (.iadd, 1, 0, 0, 0, 0) := by decide +kernel
theorem aX12_ring_66 : i_at mX12_ring.2.2.2.2.2 66 = some (.goto 6, 3, 72, 0, 0, 0) := by decide +kernel
theorem aX12_ring_69 : i_at mX12_ring.2.2.2.2.2 69 = some (.iload_n 3, 1, 0, 0, 0, 0) := by decide +kernel
theorem aX12_ring_70 : i_at mX12_ring.2.2.2.2.2 70 = some (.iload_n 2, 1, 0, 0, 0, 0) := by decide +kernel
theorem aX12_ring_71 : i_at mX12_ring.2.2.2.2.2 71 = some (.isub, 1, 0, 0, 0, 0) := by decide +kernel
theorem aX12_ring_72 : i_at mX12_ring.2.2.2.2.2 72 = some (.ireturn, 1, 0, 0, 0, 0) := by decide +kernel
theorem aX12_ring_73 : i_at mX12_ring.2.2.2.2.2 73 = some (.iinc 3 1, 3, 0, 0, 0, 0) := by decide +kernel
theorem aX12_ring_76 : i_at mX12_ring.2.2.2.2.2 76 = some (.goto (-37), 3, 39, 0, 0, 0) := by decide +kernel
theorem aX12_ring_79 : i_at mX12_ring.2.2.2.2.2 79 = some (.iinc 2 1, 3, 0, 0, 0, 0) := by decide +kernel
theorem aX12_ring_82 : i_at mX12_ring.2.2.2.2.2 82 = some (.goto (-53), 3, 29, 0, 0, 0) := by decide +kernel
theorem aX12_ring_85 : i_at mX12_ring.2.2.2.2.2 85 = some (.bipush (-2), 2, 0, 0, 0, 0) := by decide +kernel
theorem aX12_ring_87 : i_at mX12_ring.2.2.2.2.2 87 = some (.ireturn, 1, 0, 0, 0, 0) := by decide +kernel
noncomputable def fX12_ring_L39 (sh : List kd) (p1 : Int32) (x15 : Int32) (k54 : Int32 → Int32 → St → Option (Int32 × St)) (k79 : Int32 → St → Option (Int32 × St)) : Nat → Int32 → St → Option (Int32 × St)
  | 0, _, _ => none
  | n127 + 1, x73, s74 => if 60 < x73 then k79 x73 s74 else i_bd (fX12_areAlike sh s74 x15 x73) (fun r129 s130 => if r129 = 0 then (fX12_ring_L39 sh p1 x15 k54 k79 n127 (x73 + 1) s130) else k54 x15 x73 s130)
noncomputable def fX12_ring_X79 (sh : List kd) (p1 : Int32) (x15 : Int32) (k29 : Int32 → Value → St → Option (Int32 × St)) (x125 : Int32) (s126 : St) : Option (Int32 × St) := k29 (x15 + 1) (.int x125) s126
noncomputable def fX12_ring_L29 (sh : List kd) (p1 : Int32) (k54 : Int32 → Int32 → St → Option (Int32 × St)) : Nat → Int32 → Value → St → Option (Int32 × St)
  | 0, _, _, _ => none
  | n71 + 1, x15, x16, s17 => if 60 ≤ x15 then some ((-2), s17) else fX12_ring_L39 sh p1 x15 k54 (fun (x125 : Int32) (s126 : St) => fX12_ring_X79 sh p1 x15 (fX12_ring_L29 sh p1 k54 n71) x125 s126) i_F (x15 + 1) s17
noncomputable def fX12_ring_J72 (sh : List kd) (p1 : Int32) (x68 : Int32) (x69 : Int32) (s70 : St) (x183 : Int32) : Option (Int32 × St) := some (x183, s70)
noncomputable def fX12_ring_X54 (sh : List kd) (p1 : Int32) (x68 : Int32) (x69 : Int32) (s70 : St) : Option (Int32 × St) := if ¬ p1 = 0 then fX12_ring_J72 sh p1 x68 x69 s70 (x69 - x68) else if i_ok 4 11 then fX12_ring_J72 sh p1 x68 x69 s70 ((s70.2.1 1 (4 : Int32).toNatClampNeg) + x68) else none
noncomputable def fX12_ring (sh : List kd) (σ : St) (p1 : Int32) : Option (Int32 × St) := i_bd (fX12_isCourt sh σ) (fun r1 s2 => if r1 = 0 then some ((-1), s2) else i_bd (fX12_in sh s2 p1.toInt64 0 1) (fun r5 s6 => if ¬ r5 = 0 then i_bd (fX12_keepsAll sh s6) (fun r9 s10 => i_bd (fX12_laysCourse sh s10) (fun r12 s13 => fX12_ring_L29 sh p1 (fun (x68 : Int32) (x69 : Int32) (s70 : St) => fX12_ring_X54 sh p1 x68 x69 s70) i_F 0 (.retAddr 0) s13)) else some ((-1), s6)))
set_option maxRecDepth 20000 in
set_option maxHeartbeats 2000000 in
theorem tX12_ring_L39 {sh : List kd} {τ : St} {r : Int32} (hsh : rmSh sh) {p1 : Int32} {x15 : Int32} {k54 : Int32 → Int32 → St → Option (Int32 × St)} {k79 : Int32 → St → Option (Int32 × St)} (hk54 : ∀ (x68 : Int32) (x69 : Int32) (s70 : St), k54 x68 x69 s70 = some (r, τ) → g_R sh 8 mX12_ring (some (.int r)) τ 54 [.ref 0, .int p1, .int x68, .int x69] [] (s70)) (hk79 : ∀ (x125 : Int32) (s126 : St), k79 x125 s126 = some (r, τ) → g_R sh 8 mX12_ring (some (.int r)) τ 79 [.ref 0, .int p1, .int x15, .int x125] [] (s126)) : ∀ (n0 : Nat) (x73 : Int32) (s74 : St), fX12_ring_L39 sh p1 x15 k54 k79 n0 x73 s74 = some (r, τ) → g_R sh 8 mX12_ring (some (.int r)) τ 39 [.ref 0, .int p1, .int x15, .int x73] [] (s74) := by
  intro n0
  induction n0 with
  | zero => intro _ _ hE; cases hE
  | succ n127 ih =>
    intro x73 s74 hE
    unfold fX12_ring_L39 at hE
    refine g_ldin aX12_ring_39 rfl ?_
    refine g_bipush (x := 60) aX12_ring_40 rfl ?_
    by_cases hc128 : 60 < x73
    · rw [if_pos hc128] at hE
      refine g_ic_gt_t aX12_ring_42 hc128 ?_
      exact hk79 _ _ hE
    · rw [if_neg hc128] at hE
      refine g_ic_gt_f aX12_ring_42 hc128 ?_
      refine g_ldan aX12_ring_45 rfl ?_
      refine g_ldin aX12_ring_46 rfl ?_
      refine g_ldin aX12_ring_47 rfl ?_
      obtain ⟨r129, s130, h131, hE⟩ := i_bd_some hE
      refine g_calV (As := [.int x15, .int x73]) (rest := []) aX12_ring_48 (i_X_mono (by omega) (tX12_areAlike hsh h131)) (sR_0 hsh) (by decide +kernel) rfl rfl (Nat.le_of_ble_eq_true rfl) rfl ?_
      by_cases hc132 : r129 = 0
      · rw [if_pos hc132] at hE
        refine g_if_eq_t aX12_ring_51 hc132 ?_
        refine g_iinc (y := 1) (loc2 := [.ref 0, .int p1, .int x15, .int (x73 + 1)]) aX12_ring_73 rfl rfl rfl ?_
        refine g_goto aX12_ring_76 ?_
        exact ih _ _ hE
      · rw [if_neg hc132] at hE
        refine g_if_eq_f aX12_ring_51 hc132 ?_
        exact hk54 _ _ _ hE
set_option maxRecDepth 20000 in
set_option maxHeartbeats 2000000 in
theorem tX12_ring_X79 {sh : List kd} {τ : St} {r : Int32} (hsh : rmSh sh) {p1 : Int32} {x15 : Int32} {x125 : Int32} {s126 : St} {k29 : Int32 → Value → St → Option (Int32 × St)} (hk29 : ∀ (x15 : Int32) (x16 : Value) (s17 : St), k29 x15 x16 s17 = some (r, τ) → g_R sh 8 mX12_ring (some (.int r)) τ 29 [.ref 0, .int p1, .int x15, x16] [] (s17)) (hE : fX12_ring_X79 sh p1 x15 k29 x125 s126 = some (r, τ)) : g_R sh 8 mX12_ring (some (.int r)) τ 79 [.ref 0, .int p1, .int x15, .int x125] [] (s126) := by
  unfold fX12_ring_X79 at hE
  refine g_iinc (y := 1) (loc2 := [.ref 0, .int p1, .int (x15 + 1), .int x125]) aX12_ring_79 rfl rfl rfl ?_
  refine g_goto aX12_ring_82 ?_
  exact hk29 _ _ _ hE
set_option maxRecDepth 20000 in
set_option maxHeartbeats 2000000 in
theorem tX12_ring_L29 {sh : List kd} {τ : St} {r : Int32} (hsh : rmSh sh) {p1 : Int32} {k54 : Int32 → Int32 → St → Option (Int32 × St)} (hk54 : ∀ (x68 : Int32) (x69 : Int32) (s70 : St), k54 x68 x69 s70 = some (r, τ) → g_R sh 8 mX12_ring (some (.int r)) τ 54 [.ref 0, .int p1, .int x68, .int x69] [] (s70)) : ∀ (n0 : Nat) (x15 : Int32) (x16 : Value) (s17 : St), fX12_ring_L29 sh p1 k54 n0 x15 x16 s17 = some (r, τ) → g_R sh 8 mX12_ring (some (.int r)) τ 29 [.ref 0, .int p1, .int x15, x16] [] (s17) := by
  intro n0
  induction n0 with
  | zero => intro _ _ _ hE; cases hE
  | succ n71 ih =>
    intro x15 x16 s17 hE
    unfold fX12_ring_L29 at hE
    refine g_ldin aX12_ring_29 rfl ?_
    refine g_bipush (x := 60) aX12_ring_30 rfl ?_
    by_cases hc72 : 60 ≤ x15
    · rw [if_pos hc72] at hE
      refine g_ic_ge_t aX12_ring_32 hc72 ?_
      refine g_bipush (x := (-2)) aX12_ring_85 rfl ?_
      obtain ⟨rfl, rfl⟩ := i_some_inj hE
      exact g_iret aX12_ring_87 rfl rfl
    · rw [if_neg hc72] at hE
      refine g_ic_ge_f aX12_ring_32 hc72 ?_
      refine g_ldin aX12_ring_35 rfl ?_
      refine g_iconst (x := 1) aX12_ring_36 rfl ?_
      refine g_iadd aX12_ring_37 ?_
      refine g_stin (loc2 := [.ref 0, .int p1, .int x15, .int (x15 + 1)]) aX12_ring_38 (Nat.le_of_ble_eq_true rfl) rfl ?_
      exact tX12_ring_L39 hsh hk54 (fun x125 s126 hE => tX12_ring_X79 hsh ih hE) i_F _ _ hE
set_option maxRecDepth 20000 in
set_option maxHeartbeats 2000000 in
theorem tX12_ring_J72 {sh : List kd} {τ : St} {r : Int32} (hsh : rmSh sh) {p1 : Int32} {x68 : Int32} {x69 : Int32} {s70 : St} {x183 : Int32} (hE : fX12_ring_J72 sh p1 x68 x69 s70 x183 = some (r, τ)) : g_R sh 8 mX12_ring (some (.int r)) τ 72 [.ref 0, .int p1, .int x68, .int x69] [.int x183] (s70) := by
  unfold fX12_ring_J72 at hE
  obtain ⟨rfl, rfl⟩ := i_some_inj hE
  exact g_iret aX12_ring_72 rfl rfl
set_option maxRecDepth 20000 in
set_option maxHeartbeats 2000000 in
theorem tX12_ring_X54 {sh : List kd} {τ : St} {r : Int32} (hsh : rmSh sh) {p1 : Int32} {x68 : Int32} {x69 : Int32} {s70 : St} (hE : fX12_ring_X54 sh p1 x68 x69 s70 = some (r, τ)) : g_R sh 8 mX12_ring (some (.int r)) τ 54 [.ref 0, .int p1, .int x68, .int x69] [] (s70) := by
  unfold fX12_ring_X54 at hE
  refine g_ldin aX12_ring_54 rfl ?_
  by_cases hc184 : ¬ p1 = 0
  · rw [if_pos hc184] at hE
    refine g_if_ne_t aX12_ring_55 hc184 ?_
    refine g_ldin aX12_ring_69 rfl ?_
    refine g_ldin aX12_ring_70 rfl ?_
    refine g_isub aX12_ring_71 ?_
    exact tX12_ring_J72 hsh hE
  · rw [if_neg hc184] at hE
    refine g_if_ne_f aX12_ring_55 hc184 ?_
    refine g_ldan aX12_ring_58 rfl ?_
    refine g_getR aX12_ring_59 (sR_0 hsh) rfl ?_
    refine g_iconst (x := 4) aX12_ring_62 rfl ?_
    obtain ⟨h185, hE⟩ := i_ifn hE
    refine g_ild aX12_ring_63 (sR_1 hsh) h185 ?_
    refine g_ldin aX12_ring_64 rfl ?_
    refine g_iadd aX12_ring_65 ?_
    refine g_goto aX12_ring_66 ?_
    exact tX12_ring_J72 hsh hE
set_option maxRecDepth 20000 in
set_option maxHeartbeats 2000000 in
theorem tX12_ring {sh : List kd} {σ τ : St} {r : Int32} (hsh : rmSh sh) {p1 : Int32} (hE : fX12_ring sh σ p1 = some (r, τ)) : i_X 9 215 [.ref 0, .int p1] (s_h sh σ) 0 0 (some (.int r)) (s_h sh τ) := by
  refine g_X (M := mX12_ring) (loc := [.ref 0, .int p1, .retAddr 0, .retAddr 0]) rfl (Nat.le_of_ble_eq_true rfl) rfl ?_
  unfold fX12_ring at hE
  refine g_ldan aX12_ring_0 rfl ?_
  obtain ⟨r1, s2, h3, hE⟩ := i_bd_some hE
  refine g_calV (As := []) (rest := []) aX12_ring_1 (i_X_mono (by omega) (tX12_isCourt hsh h3)) (sR_0 hsh) (by decide +kernel) rfl rfl (Nat.le_of_ble_eq_true rfl) rfl ?_
  by_cases hc4 : r1 = 0
  · rw [if_pos hc4] at hE
    refine g_if_eq_t aX12_ring_4 hc4 ?_
    refine g_iconst (x := (-1)) aX12_ring_17 rfl ?_
    obtain ⟨rfl, rfl⟩ := i_some_inj hE
    exact g_iret aX12_ring_18 rfl rfl
  · rw [if_neg hc4] at hE
    refine g_if_eq_f aX12_ring_4 hc4 ?_
    refine g_ldin aX12_ring_7 rfl ?_
    refine g_i2l aX12_ring_8 ?_
    refine g_lconst (x := 0) aX12_ring_9 rfl ?_
    refine g_lconst (x := 1) aX12_ring_10 rfl ?_
    obtain ⟨r5, s6, h7, hE⟩ := i_bd_some hE
    refine g_calS (As := [.long p1.toInt64, .long 0, .long 1]) (rest := []) aX12_ring_11 (i_X_mono (by omega) (tX12_in hsh h7)) rfl rfl (Nat.le_of_ble_eq_true rfl) rfl ?_
    by_cases hc8 : ¬ r5 = 0
    · rw [if_pos hc8] at hE
      refine g_if_ne_t aX12_ring_14 hc8 ?_
      refine g_ldan aX12_ring_19 rfl ?_
      obtain ⟨r9, s10, h11, hE⟩ := i_bd_some hE
      refine g_calV (As := []) (rest := []) aX12_ring_20 (i_X_mono (by omega) (tX12_keepsAll hsh h11)) (sR_0 hsh) (by decide +kernel) rfl rfl (Nat.le_of_ble_eq_true rfl) rfl ?_
      refine g_ldan aX12_ring_23 rfl ?_
      obtain ⟨r12, s13, h14, hE⟩ := i_bd_some hE
      refine g_calV (As := []) (rest := []) aX12_ring_24 (i_X_mono (by omega) (tX12_laysCourse hsh h14)) (sR_0 hsh) (by decide +kernel) rfl rfl (Nat.le_of_ble_eq_true rfl) rfl ?_
      refine g_iconst (x := 0) aX12_ring_27 rfl ?_
      refine g_stin (loc2 := [.ref 0, .int p1, .int 0, .retAddr 0]) aX12_ring_28 (Nat.le_of_ble_eq_true rfl) rfl ?_
      exact tX12_ring_L29 hsh (fun x68 x69 s70 hE => tX12_ring_X54 hsh hE) i_F _ _ _ hE
    · rw [if_neg hc8] at hE
      refine g_if_ne_f aX12_ring_14 hc8 ?_
      refine g_iconst (x := (-1)) aX12_ring_17 rfl ?_
      obtain ⟨rfl, rfl⟩ := i_some_inj hE
      exact g_iret aX12_ring_18 rfl rfl
theorem aX5_ringOfHours_0 : i_at mX5_ringOfHours.2.2.2.2.2 0 = some (.aload_n 0, 1, 0, 0, 0, 0) := by decide +kernel
theorem aX5_ringOfHours_1 : i_at mX5_ringOfHours.2.2.2.2.2 1 = some (.invokevirtual 59, 3, 33, 0, 887, 0) := by decide +kernel
theorem aX5_ringOfHours_4 : i_at mX5_ringOfHours.2.2.2.2.2 4 = some (.iconst 0, 1, 0, 0, 0, 0) := by decide +kernel
theorem aX5_ringOfHours_5 : i_at mX5_ringOfHours.2.2.2.2.2 5 = some (.istore_n 2, 1, 0, 0, 0, 0) := by decide +kernel
theorem aX5_ringOfHours_6 : i_at mX5_ringOfHours.2.2.2.2.2 6 = some (.iload_n 2, 1, 0, 0, 0, 0) := by decide +kernel
theorem aX5_ringOfHours_7 : i_at mX5_ringOfHours.2.2.2.2.2 7 = some (.aload_n 0, 1, 0, 0, 0, 0) := by decide +kernel
theorem aX5_ringOfHours_8 : i_at mX5_ringOfHours.2.2.2.2.2 8 = some (.getfield 18, 3, 4, 3, 403, 0) := by decide +kernel
theorem aX5_ringOfHours_11 : i_at mX5_ringOfHours.2.2.2.2.2 11 = some (.arraylength, 1, 0, 0, 0, 0) := by decide +kernel
theorem aX5_ringOfHours_12 : i_at mX5_ringOfHours.2.2.2.2.2 12 = some (.if_icmp .ge 48, 3, 60, 0, 0, 0) := by decide +kernel
theorem aX5_ringOfHours_15 : i_at mX5_ringOfHours.2.2.2.2.2 15 = some (.aload_n 0, 1, 0, 0, 0, 0) := by decide +kernel
theorem aX5_ringOfHours_16 : i_at mX5_ringOfHours.2.2.2.2.2 16 = some (.getfield 32, 3, 4, 1, 401, 0) := by decide +kernel
theorem aX5_ringOfHours_19 : i_at mX5_ringOfHours.2.2.2.2.2 19 = some (.aload_n 0, 1, 0, 0, 0, 0) := by decide +kernel
theorem aX5_ringOfHours_20 : i_at mX5_ringOfHours.2.2.2.2.2 20 = some (.getfield 12, 3, 4, 2, 402, 0) := by decide +kernel
theorem aX5_ringOfHours_23 : i_at mX5_ringOfHours.2.2.2.2.2 23 = some (.aload_n 0, 1, 0, 0, 0, 0) := by decide +kernel
theorem aX5_ringOfHours_24 : i_at mX5_ringOfHours.2.2.2.2.2 24 = some (.getfield 28, 3, 4, 0, 400, 0) := by decide +kernel
theorem aX5_ringOfHours_27 : i_at mX5_ringOfHours.2.2.2.2.2 27 = some (.getfield 45, 3, 9, 0, 346, 0) := by decide +kernel
theorem aX5_ringOfHours_30 : i_at mX5_ringOfHours.2.2.2.2.2 30 = some (.aload_n 0, 1, 0, 0, 0, 0) := by decide +kernel
theorem aX5_ringOfHours_31 : i_at mX5_ringOfHours.2.2.2.2.2 31 = some (.getfield 28, 3, 4, 0, 400, 0) := by decide +kernel
theorem aX5_ringOfHours_34 : i_at mX5_ringOfHours.2.2.2.2.2 34 = some (.getfield 49, 3, 9, 8, 366, 0) := by decide +kernel
theorem aX5_ringOfHours_37 : i_at mX5_ringOfHours.2.2.2.2.2 37 = some (.invokevirtual 53, 3, 2, 3, 896, 0) := by decide +kernel
theorem aX5_ringOfHours_40 : i_at mX5_ringOfHours.2.2.2.2.2 40 = some (.pop, 1, 0, 0, 0, 0) := by decide +kernel
theorem aX5_ringOfHours_41 : i_at mX5_ringOfHours.2.2.2.2.2 41 = some (.aload_n 0, 1, 0, 0, 0, 0) := by decide +kernel
theorem aX5_ringOfHours_42 : i_at mX5_ringOfHours.2.2.2.2.2 42 = some (.getfield 18, 3, 4, 3, 403, 0) := by decide +kernel
theorem aX5_ringOfHours_45 : i_at mX5_ringOfHours.2.2.2.2.2 45 = some (.iload_n 2, 1, 0, 0, 0, 0) := by decide +kernel
theorem aX5_ringOfHours_46 : i_at mX5_ringOfHours.2.2.2.2.2 46 = some (.aload_n 0, 1, 0, 0, 0, 0) := by decide +kernel
theorem aX5_ringOfHours_47 : i_at mX5_ringOfHours.2.2.2.2.2 47 = some (.getfield 12, 3, 4, 2, 402, 0) := by decide +kernel
theorem aX5_ringOfHours_50 : i_at mX5_ringOfHours.2.2.2.2.2 50 = some (.getfield 78, 3, 3, 1, 299, 0) := by decide +kernel
theorem aX5_ringOfHours_53 : i_at mX5_ringOfHours.2.2.2.2.2 53 = some (.iastore, 1, 0, 0, 0, 0) := by decide +kernel
theorem aX5_ringOfHours_54 : i_at mX5_ringOfHours.2.2.2.2.2 54 = some (.iinc 2 1, 3, 0, 0, 0, 0) := by decide +kernel
theorem aX5_ringOfHours_57 : i_at mX5_ringOfHours.2.2.2.2.2 57 = some (.goto (-51), 3, 6, 0, 0, 0) := by decide +kernel
theorem aX5_ringOfHours_60 : i_at mX5_ringOfHours.2.2.2.2.2 60 = some (.iconst 0, 1, 0, 0, 0, 0) := by decide +kernel
theorem aX5_ringOfHours_61 : i_at mX5_ringOfHours.2.2.2.2.2 61 = some (.istore_n 2, 1, 0, 0, 0, 0) := by decide +kernel
theorem aX5_ringOfHours_62 : i_at mX5_ringOfHours.2.2.2.2.2 62 = some (.iload_n 2, 1, 0, 0, 0, 0) := by decide +kernel
theorem aX5_ringOfHours_63 : i_at mX5_ringOfHours.2.2.2.2.2 63 = some (.bipush 60, 2, 0, 0, 0, 0) := by decide +kernel
theorem aX5_ringOfHours_65 : i_at mX5_ringOfHours.2.2.2.2.2 65 = some (.if_icmp .ge 57, 3, 122, 0, 0, 0) := by decide +kernel
theorem aX5_ringOfHours_68 : i_at mX5_ringOfHours.2.2.2.2.2 68 = some (.iload_n 2, 1, 0, 0, 0, 0) := by decide +kernel
theorem aX5_ringOfHours_69 : i_at mX5_ringOfHours.2.2.2.2.2 69 = some (.iconst 1, 1, 0, 0, 0, 0) := by decide +kernel
theorem aX5_ringOfHours_70 : i_at mX5_ringOfHours.2.2.2.2.2 70 = some (.iadd, 1, 0, 0, 0, 0) := by decide +kernel
theorem aX5_ringOfHours_71 : i_at mX5_ringOfHours.2.2.2.2.2 71 = some (.istore_n 3, 1, 0, 0, 0, 0) := by decide +kernel
theorem aX5_ringOfHours_72 : i_at mX5_ringOfHours.2.2.2.2.2 72 = some (.iload_n 3, 1, 0, 0, 0, 0) := by decide +kernel
theorem aX5_ringOfHours_73 : i_at mX5_ringOfHours.2.2.2.2.2 73 = some (.bipush 60, 2, 0, 0, 0, 0) := by decide +kernel
theorem aX5_ringOfHours_75 : i_at mX5_ringOfHours.2.2.2.2.2 75 = some (.if_icmp .gt 41, 3, 116, 0, 0, 0) := by decide +kernel
theorem aX5_ringOfHours_78 : i_at mX5_ringOfHours.2.2.2.2.2 78 = some (.aload_n 0, 1, 0, 0, 0, 0) := by decide +kernel
theorem aX5_ringOfHours_79 : i_at mX5_ringOfHours.2.2.2.2.2 79 = some (.iload_n 2, 1, 0, 0, 0, 0) := by decide +kernel
theorem aX5_ringOfHours_80 : i_at mX5_ringOfHours.2.2.2.2.2 80 = some (.iload_n 3, 1, 0, 0, 0, 0) := by decide +kernel
theorem aX5_ringOfHours_81 : i_at mX5_ringOfHours.2.2.2.2.2 81 = some (.invokevirtual 119, 3, 47, 2, 1001, 0) := by decide +kernel
theorem aX5_ringOfHours_84 : i_at mX5_ringOfHours.2.2.2.2.2 84 = some (.ifCond .eq 26, 3, 110, 0, 0, 0) := by decide +kernel
theorem aX5_ringOfHours_87 : i_at mX5_ringOfHours.2.2.2.2.2 87 = some (.iload_n 1, 1, 0, 0, 0, 0) := by decide +kernel
theorem aX5_ringOfHours_88 : i_at mX5_ringOfHours.2.2.2.2.2 88 = some (.ifCond .eq 18, 3, 106, 0, 0, 0) := by decide +kernel
theorem aX5_ringOfHours_91 : i_at mX5_ringOfHours.2.2.2.2.2 91 = some (.aload_n 0, 1, 0, 0, 0, 0) := by decide +kernel
theorem aX5_ringOfHours_92 : i_at mX5_ringOfHours.2.2.2.2.2 92 = some (.getfield 28, 3, 4, 0, 400, 0) := by decide +kernel
theorem aX5_ringOfHours_95 : i_at mX5_ringOfHours.2.2.2.2.2 95 = some (.getfield 36, 3, 9, 1, 350, 0) := by decide +kernel
theorem aX5_ringOfHours_98 : i_at mX5_ringOfHours.2.2.2.2.2 98 = some (.getfield 75, 3, 3, 0, 294, 0) := by decide +kernel
theorem aX5_ringOfHours_101 : i_at mX5_ringOfHours.2.2.2.2.2 101 = some (.iload_n 2, 1, 0, 0, 0, 0) := by decide +kernel
theorem aX5_ringOfHours_102 : i_at mX5_ringOfHours.2.2.2.2.2 102 = some (.iadd, 1, 0, 0, 0, 0) := by decide +kernel
theorem aX5_ringOfHours_103 : i_at mX5_ringOfHours.2.2.2.2.2 103 = some (.goto 6, 3, 109, 0, 0, 0) := by decide +kernel
theorem aX5_ringOfHours_106 : i_at mX5_ringOfHours.2.2.2.2.2 106 = some (.iload_n 3, 1, 0, 0, 0, 0) := by decide +kernel
theorem aX5_ringOfHours_107 : i_at mX5_ringOfHours.2.2.2.2.2 107 = some (.iload_n 2, 1, 0, 0, 0, 0) := by decide +kernel
theorem aX5_ringOfHours_108 : i_at mX5_ringOfHours.2.2.2.2.2 108 = some (.isub, 1, 0, 0, 0, 0) := by decide +kernel
theorem aX5_ringOfHours_109 : i_at mX5_ringOfHours.2.2.2.2.2 109 = some (.ireturn, 1, 0, 0, 0, 0) := by decide +kernel
theorem aX5_ringOfHours_110 : i_at mX5_ringOfHours.2.2.2.2.2 110 = some (.iinc 3 1, 3, 0, 0, 0, 0) := by decide +kernel
theorem aX5_ringOfHours_113 : i_at mX5_ringOfHours.2.2.2.2.2 113 = some (.goto (-41), 3, 72, 0, 0, 0) := by decide +kernel
theorem aX5_ringOfHours_116 : i_at mX5_ringOfHours.2.2.2.2.2 116 = some (.iinc 2 1, 3, 0, 0, 0, 0) := by decide +kernel
theorem aX5_ringOfHours_119 : i_at mX5_ringOfHours.2.2.2.2.2 119 = some (.goto (-57), 3, 62, 0, 0, 0) := by decide +kernel
theorem aX5_ringOfHours_122 : i_at mX5_ringOfHours.2.2.2.2.2 122 = some (.bipush (-2), 2, 0, 0, 0, 0) := by decide +kernel
theorem aX5_ringOfHours_124 : i_at mX5_ringOfHours.2.2.2.2.2 124 = some (.ireturn, 1, 0, 0, 0, 0) := by decide +kernel
noncomputable def fX5_ringOfHours_L6 (sh : List kd) (p1 : Int32) (k60 : Int32 → St → Option (Int32 × St)) : Nat → Int32 → St → Option (Int32 × St)
  | 0, _, _ => none
  | n58 + 1, x4, s5 => if 66 ≤ x4 then k60 x4 s5 else i_bd (fX0_pass sh s5 135 20 (s5.1 19 8)) (fun r60 s61 => if i_ok x4 66 then (fX5_ringOfHours_L6 sh p1 k60 n58 (x4 + 1) (s_A s61 140 x4.toNatClampNeg (s61.1 135 1))) else none)
noncomputable def fX5_ringOfHours_L72 (sh : List kd) (p1 : Int32) (x64 : Int32) (k87 : Int32 → Int32 → St → Option (Int32 × St)) (k116 : Int32 → St → Option (Int32 × St)) : Nat → Int32 → St → Option (Int32 × St)
  | 0, _, _ => none
  | n176 + 1, x122, s123 => if 60 < x122 then k116 x122 s123 else i_bd (fX5_isAlike sh s123 x64 x122) (fun r178 s179 => if r178 = 0 then (fX5_ringOfHours_L72 sh p1 x64 k87 k116 n176 (x122 + 1) s179) else k87 x64 x122 s179)
noncomputable def fX5_ringOfHours_X116 (sh : List kd) (p1 : Int32) (x64 : Int32) (k62 : Int32 → Value → St → Option (Int32 × St)) (x174 : Int32) (s175 : St) : Option (Int32 × St) := k62 (x64 + 1) (.int x174) s175
noncomputable def fX5_ringOfHours_L62 (sh : List kd) (p1 : Int32) (k87 : Int32 → Int32 → St → Option (Int32 × St)) : Nat → Int32 → Value → St → Option (Int32 × St)
  | 0, _, _, _ => none
  | n120 + 1, x64, x65, s66 => if 60 ≤ x64 then some ((-2), s66) else fX5_ringOfHours_L72 sh p1 x64 k87 (fun (x174 : Int32) (s175 : St) => fX5_ringOfHours_X116 sh p1 x64 (fX5_ringOfHours_L62 sh p1 k87 n120) x174 s175) i_F (x64 + 1) s66
noncomputable def fX5_ringOfHours_X87 (sh : List kd) (p1 : Int32) (x117 : Int32) (x118 : Int32) (s119 : St) : Option (Int32 × St) := some (((if p1 = 0 then (x118 - x117) else ((s119.1 26 0) + x117)) : Int32), s119)
noncomputable def fX5_ringOfHours_X60 (sh : List kd) (p1 : Int32) (x56 : Int32) (s57 : St) : Option (Int32 × St) := fX5_ringOfHours_L62 sh p1 (fun (x117 : Int32) (x118 : Int32) (s119 : St) => fX5_ringOfHours_X87 sh p1 x117 x118 s119) i_F 0 (.retAddr 0) s57
noncomputable def fX5_ringOfHours (sh : List kd) (σ : St) (p1 : Int32) : Option (Int32 × St) := i_bd (fX5_begin sh σ) (fun r1 s2 => fX5_ringOfHours_L6 sh p1 (fun (x56 : Int32) (s57 : St) => fX5_ringOfHours_X60 sh p1 x56 s57) i_F 0 s2)
set_option maxRecDepth 20000 in
set_option maxHeartbeats 2000000 in
theorem tX5_ringOfHours_L6 {sh : List kd} {τ : St} {r : Int32} (hsh : cSh sh) {p1 : Int32} {k60 : Int32 → St → Option (Int32 × St)} (hk60 : ∀ (x56 : Int32) (s57 : St), k60 x56 s57 = some (r, τ) → g_R sh 5 mX5_ringOfHours (some (.int r)) τ 60 [.ref 134, .int p1, .int x56, .retAddr 0] [] (s57)) : ∀ (n0 : Nat) (x4 : Int32) (s5 : St), fX5_ringOfHours_L6 sh p1 k60 n0 x4 s5 = some (r, τ) → g_R sh 5 mX5_ringOfHours (some (.int r)) τ 6 [.ref 134, .int p1, .int x4, .retAddr 0] [] (s5) := by
  intro n0
  induction n0 with
  | zero => intro _ _ hE; cases hE
  | succ n58 ih =>
    intro x4 s5 hE
    unfold fX5_ringOfHours_L6 at hE
    refine g_ldin aX5_ringOfHours_6 rfl ?_
    refine g_ldan aX5_ringOfHours_7 rfl ?_
    refine g_getR aX5_ringOfHours_8 (sC_134 hsh) rfl ?_
    refine g_len aX5_ringOfHours_11 (sC_140 hsh) ?_
    by_cases hc59 : 66 ≤ x4
    · rw [if_pos hc59] at hE
      refine g_ic_ge_t aX5_ringOfHours_12 hc59 ?_
      exact hk60 _ _ hE
    · rw [if_neg hc59] at hE
      refine g_ic_ge_f aX5_ringOfHours_12 hc59 ?_
      refine g_ldan aX5_ringOfHours_15 rfl ?_
      refine g_getR aX5_ringOfHours_16 (sC_134 hsh) rfl ?_
      refine g_ldan aX5_ringOfHours_19 rfl ?_
      refine g_getR aX5_ringOfHours_20 (sC_134 hsh) rfl ?_
      refine g_ldan aX5_ringOfHours_23 rfl ?_
      refine g_getR aX5_ringOfHours_24 (sC_134 hsh) rfl ?_
      refine g_getR aX5_ringOfHours_27 ((wShB_19 hsh).1) rfl ?_
      refine g_ldan aX5_ringOfHours_30 rfl ?_
      refine g_getR aX5_ringOfHours_31 (sC_134 hsh) rfl ?_
      refine g_getI aX5_ringOfHours_34 ((wShB_19 hsh).1) rfl ?_
      obtain ⟨r60, s61, h62, hE⟩ := i_bd_some hE
      refine g_calV (As := [.ref 135, .ref 20, .int (s5.1 19 8)]) (rest := []) aX5_ringOfHours_37 (i_X_mono (by omega) (tX0_pass hsh (lShB_135 hsh) (rShB_20 hsh) h62)) (sC_16 hsh) (by decide +kernel) rfl rfl (Nat.le_of_ble_eq_true rfl) rfl ?_
      refine g_popi aX5_ringOfHours_40 ?_
      refine g_ldan aX5_ringOfHours_41 rfl ?_
      refine g_getR aX5_ringOfHours_42 (sC_134 hsh) rfl ?_
      refine g_ldin aX5_ringOfHours_45 rfl ?_
      refine g_ldan aX5_ringOfHours_46 rfl ?_
      refine g_getR aX5_ringOfHours_47 (sC_134 hsh) rfl ?_
      refine g_getI aX5_ringOfHours_50 ((lShB_135 hsh).1) rfl ?_
      obtain ⟨h63, hE⟩ := i_ifn hE
      refine g_ist aX5_ringOfHours_53 (sC_140 hsh) h63 ?_
      refine g_iinc (y := 1) (loc2 := [.ref 134, .int p1, .int (x4 + 1), .retAddr 0]) aX5_ringOfHours_54 rfl rfl rfl ?_
      refine g_goto aX5_ringOfHours_57 ?_
      exact ih _ _ hE
set_option maxRecDepth 20000 in
set_option maxHeartbeats 2000000 in
theorem tX5_ringOfHours_L72 {sh : List kd} {τ : St} {r : Int32} (hsh : cSh sh) {p1 : Int32} {x64 : Int32} {k87 : Int32 → Int32 → St → Option (Int32 × St)} {k116 : Int32 → St → Option (Int32 × St)} (hk87 : ∀ (x117 : Int32) (x118 : Int32) (s119 : St), k87 x117 x118 s119 = some (r, τ) → g_R sh 5 mX5_ringOfHours (some (.int r)) τ 87 [.ref 134, .int p1, .int x117, .int x118] [] (s119)) (hk116 : ∀ (x174 : Int32) (s175 : St), k116 x174 s175 = some (r, τ) → g_R sh 5 mX5_ringOfHours (some (.int r)) τ 116 [.ref 134, .int p1, .int x64, .int x174] [] (s175)) : ∀ (n0 : Nat) (x122 : Int32) (s123 : St), fX5_ringOfHours_L72 sh p1 x64 k87 k116 n0 x122 s123 = some (r, τ) → g_R sh 5 mX5_ringOfHours (some (.int r)) τ 72 [.ref 134, .int p1, .int x64, .int x122] [] (s123) := by
  intro n0
  induction n0 with
  | zero => intro _ _ hE; cases hE
  | succ n176 ih =>
    intro x122 s123 hE
    unfold fX5_ringOfHours_L72 at hE
    refine g_ldin aX5_ringOfHours_72 rfl ?_
    refine g_bipush (x := 60) aX5_ringOfHours_73 rfl ?_
    by_cases hc177 : 60 < x122
    · rw [if_pos hc177] at hE
      refine g_ic_gt_t aX5_ringOfHours_75 hc177 ?_
      exact hk116 _ _ hE
    · rw [if_neg hc177] at hE
      refine g_ic_gt_f aX5_ringOfHours_75 hc177 ?_
      refine g_ldan aX5_ringOfHours_78 rfl ?_
      refine g_ldin aX5_ringOfHours_79 rfl ?_
      refine g_ldin aX5_ringOfHours_80 rfl ?_
      obtain ⟨r178, s179, h180, hE⟩ := i_bd_some hE
      refine g_calV (As := [.int x64, .int x122]) (rest := []) aX5_ringOfHours_81 (i_X_mono (by omega) (tX5_isAlike hsh h180)) (sC_134 hsh) (by decide +kernel) rfl rfl (Nat.le_of_ble_eq_true rfl) rfl ?_
      by_cases hc181 : r178 = 0
      · rw [if_pos hc181] at hE
        refine g_if_eq_t aX5_ringOfHours_84 hc181 ?_
        refine g_iinc (y := 1) (loc2 := [.ref 134, .int p1, .int x64, .int (x122 + 1)]) aX5_ringOfHours_110 rfl rfl rfl ?_
        refine g_goto aX5_ringOfHours_113 ?_
        exact ih _ _ hE
      · rw [if_neg hc181] at hE
        refine g_if_eq_f aX5_ringOfHours_84 hc181 ?_
        exact hk87 _ _ _ hE
set_option maxRecDepth 20000 in
set_option maxHeartbeats 2000000 in
theorem tX5_ringOfHours_X116 {sh : List kd} {τ : St} {r : Int32} (hsh : cSh sh) {p1 : Int32} {x64 : Int32} {x174 : Int32} {s175 : St} {k62 : Int32 → Value → St → Option (Int32 × St)} (hk62 : ∀ (x64 : Int32) (x65 : Value) (s66 : St), k62 x64 x65 s66 = some (r, τ) → g_R sh 5 mX5_ringOfHours (some (.int r)) τ 62 [.ref 134, .int p1, .int x64, x65] [] (s66)) (hE : fX5_ringOfHours_X116 sh p1 x64 k62 x174 s175 = some (r, τ)) : g_R sh 5 mX5_ringOfHours (some (.int r)) τ 116 [.ref 134, .int p1, .int x64, .int x174] [] (s175) := by
  unfold fX5_ringOfHours_X116 at hE
  refine g_iinc (y := 1) (loc2 := [.ref 134, .int p1, .int (x64 + 1), .int x174]) aX5_ringOfHours_116 rfl rfl rfl ?_
  refine g_goto aX5_ringOfHours_119 ?_
  exact hk62 _ _ _ hE
set_option maxRecDepth 20000 in
set_option maxHeartbeats 2000000 in
theorem tX5_ringOfHours_L62 {sh : List kd} {τ : St} {r : Int32} (hsh : cSh sh) {p1 : Int32} {k87 : Int32 → Int32 → St → Option (Int32 × St)} (hk87 : ∀ (x117 : Int32) (x118 : Int32) (s119 : St), k87 x117 x118 s119 = some (r, τ) → g_R sh 5 mX5_ringOfHours (some (.int r)) τ 87 [.ref 134, .int p1, .int x117, .int x118] [] (s119)) : ∀ (n0 : Nat) (x64 : Int32) (x65 : Value) (s66 : St), fX5_ringOfHours_L62 sh p1 k87 n0 x64 x65 s66 = some (r, τ) → g_R sh 5 mX5_ringOfHours (some (.int r)) τ 62 [.ref 134, .int p1, .int x64, x65] [] (s66) := by
  intro n0
  induction n0 with
  | zero => intro _ _ _ hE; cases hE
  | succ n120 ih =>
    intro x64 x65 s66 hE
    unfold fX5_ringOfHours_L62 at hE
    refine g_ldin aX5_ringOfHours_62 rfl ?_
    refine g_bipush (x := 60) aX5_ringOfHours_63 rfl ?_
    by_cases hc121 : 60 ≤ x64
    · rw [if_pos hc121] at hE
      refine g_ic_ge_t aX5_ringOfHours_65 hc121 ?_
      refine g_bipush (x := (-2)) aX5_ringOfHours_122 rfl ?_
      obtain ⟨rfl, rfl⟩ := i_some_inj hE
      exact g_iret aX5_ringOfHours_124 rfl rfl
    · rw [if_neg hc121] at hE
      refine g_ic_ge_f aX5_ringOfHours_65 hc121 ?_
      refine g_ldin aX5_ringOfHours_68 rfl ?_
      refine g_iconst (x := 1) aX5_ringOfHours_69 rfl ?_
      refine g_iadd aX5_ringOfHours_70 ?_
      refine g_stin (loc2 := [.ref 134, .int p1, .int x64, .int (x64 + 1)]) aX5_ringOfHours_71 (Nat.le_of_ble_eq_true rfl) rfl ?_
      exact tX5_ringOfHours_L72 hsh hk87 (fun x174 s175 hE => tX5_ringOfHours_X116 hsh ih hE) i_F _ _ hE
set_option maxRecDepth 20000 in
set_option maxHeartbeats 2000000 in
theorem tX5_ringOfHours_X87 {sh : List kd} {τ : St} {r : Int32} (hsh : cSh sh) {p1 : Int32} {x117 : Int32} {x118 : Int32} {s119 : St} (hE : fX5_ringOfHours_X87 sh p1 x117 x118 s119 = some (r, τ)) : g_R sh 5 mX5_ringOfHours (some (.int r)) τ 87 [.ref 134, .int p1, .int x117, .int x118] [] (s119) := by
  unfold fX5_ringOfHours_X87 at hE
  refine g_ldin aX5_ringOfHours_87 rfl ?_
  have hJ : g_R sh 5 mX5_ringOfHours (some (.int r)) τ 109 [.ref 134, .int p1, .int x117, .int x118] [.int ((if p1 = 0 then (x118 - x117) else ((s119.1 26 0) + x117)) : Int32)] (s119) := by
    obtain ⟨rfl, rfl⟩ := i_some_inj hE
    exact g_iret aX5_ringOfHours_109 rfl rfl
  clear hE
  by_cases hc181 : p1 = 0
  · (try rw [if_pos hc181] at hJ)
    refine g_if_eq_t aX5_ringOfHours_88 hc181 ?_
    refine g_ldin aX5_ringOfHours_106 rfl ?_
    refine g_ldin aX5_ringOfHours_107 rfl ?_
    refine g_isub aX5_ringOfHours_108 ?_
    exact hJ
  · (try rw [if_neg hc181] at hJ)
    refine g_if_eq_f aX5_ringOfHours_88 hc181 ?_
    refine g_ldan aX5_ringOfHours_91 rfl ?_
    refine g_getR aX5_ringOfHours_92 (sC_134 hsh) rfl ?_
    refine g_getR aX5_ringOfHours_95 ((wShB_19 hsh).1) rfl ?_
    refine g_getI aX5_ringOfHours_98 ((lShB_26 hsh).1) rfl ?_
    refine g_ldin aX5_ringOfHours_101 rfl ?_
    refine g_iadd aX5_ringOfHours_102 ?_
    refine g_goto aX5_ringOfHours_103 ?_
    exact hJ
set_option maxRecDepth 20000 in
set_option maxHeartbeats 2000000 in
theorem tX5_ringOfHours_X60 {sh : List kd} {τ : St} {r : Int32} (hsh : cSh sh) {p1 : Int32} {x56 : Int32} {s57 : St} (hE : fX5_ringOfHours_X60 sh p1 x56 s57 = some (r, τ)) : g_R sh 5 mX5_ringOfHours (some (.int r)) τ 60 [.ref 134, .int p1, .int x56, .retAddr 0] [] (s57) := by
  unfold fX5_ringOfHours_X60 at hE
  refine g_iconst (x := 0) aX5_ringOfHours_60 rfl ?_
  refine g_stin (loc2 := [.ref 134, .int p1, .int 0, .retAddr 0]) aX5_ringOfHours_61 (Nat.le_of_ble_eq_true rfl) rfl ?_
  exact tX5_ringOfHours_L62 hsh (fun x117 x118 s119 hE => tX5_ringOfHours_X87 hsh hE) i_F _ _ _ hE
set_option maxRecDepth 20000 in
set_option maxHeartbeats 2000000 in
theorem tX5_ringOfHours {sh : List kd} {σ τ : St} {r : Int32} (hsh : cSh sh) {p1 : Int32} (hE : fX5_ringOfHours sh σ p1 = some (r, τ)) : i_X 6 46 [.ref 134, .int p1] (s_h sh σ) 0 0 (some (.int r)) (s_h sh τ) := by
  refine g_X (M := mX5_ringOfHours) (loc := [.ref 134, .int p1, .retAddr 0, .retAddr 0]) rfl (Nat.le_of_ble_eq_true rfl) rfl ?_
  unfold fX5_ringOfHours at hE
  refine g_ldan aX5_ringOfHours_0 rfl ?_
  obtain ⟨r1, s2, h3, hE⟩ := i_bd_some hE
  refine g_calV (As := []) (rest := []) aX5_ringOfHours_1 (i_X_mono (by omega) (tX5_begin hsh h3)) (sC_134 hsh) (by decide +kernel) rfl rfl (Nat.le_of_ble_eq_true rfl) rfl ?_
  refine g_iconst (x := 0) aX5_ringOfHours_4 rfl ?_
  refine g_stin (loc2 := [.ref 134, .int p1, .int 0, .retAddr 0]) aX5_ringOfHours_5 (Nat.le_of_ble_eq_true rfl) rfl ?_
  exact tX5_ringOfHours_L6 hsh (fun x56 s57 hE => tX5_ringOfHours_X60 hsh hE) i_F _ _ hE
theorem aX11_ring_0 : i_at mX11_ring.2.2.2.2.2 0 = some (.aload_n 0, 1, 0, 0, 0, 0) := by decide +kernel
theorem aX11_ring_1 : i_at mX11_ring.2.2.2.2.2 1 = some (.getfield 59, 3, 10, 6, 460, 0) := by decide +kernel
theorem aX11_ring_4 : i_at mX11_ring.2.2.2.2.2 4 = some (.getfield 95, 3, 9, 0, 347, 0) := by decide +kernel
theorem aX11_ring_7 : i_at mX11_ring.2.2.2.2.2 7 = some (.getfield 173, 3, 5, 0, 155, 0) := by decide +kernel
theorem aX11_ring_10 : i_at mX11_ring.2.2.2.2.2 10 = some (.ifCond .eq 12, 3, 22, 0, 0, 0) := by decide +kernel
theorem aX11_ring_13 : i_at mX11_ring.2.2.2.2.2 13 = some (.iload_n 1, 1, 0, 0, 0, 0) := by decide +kernel
theorem aX11_ring_14 : i_at mX11_ring.2.2.2.2.2 14 = some (.iconst 0, 1, 0, 0, 0, 0) := by decide +kernel
theorem aX11_ring_15 : i_at mX11_ring.2.2.2.2.2 15 = some (.iconst 1, 1, 0, 0, 0, 0) := by decide +kernel
theorem aX11_ring_16 : i_at mX11_ring.2.2.2.2.2 16 = some (.invokestatic 187, 3, 125, 3, 847, 0) := by decide +kernel
theorem aX11_ring_19 : i_at mX11_ring.2.2.2.2.2 19 = some (.ifCond .ne 5, 3, 24, 0, 0, 0) := by decide +kernel
theorem aX11_ring_22 : i_at mX11_ring.2.2.2.2.2 22 = some (.iconst (-1), 1, 0, 0, 0, 0) := by decide +kernel
theorem aX11_ring_23 : i_at mX11_ring.2.2.2.2.2 23 = some (.ireturn, 1, 0, 0, 0, 0) := by decide +kernel
theorem aX11_ring_24 : i_at mX11_ring.2.2.2.2.2 24 = some (.aload_n 0, 1, 0, 0, 0, 0) := by decide +kernel
theorem aX11_ring_25 : i_at mX11_ring.2.2.2.2.2 25 = some (.getfield 68, 3, 10, 7, 461, 0) := by decide +kernel
theorem aX11_ring_28 : i_at mX11_ring.2.2.2.2.2 28 = some (.iload_n 1, 1, 0, 0, 0, 0) := by decide +kernel
theorem aX11_ring_29 : i_at mX11_ring.2.2.2.2.2 29 = some (.ifCond .ne 7, 3, 36, 0, 0, 0) := by decide +kernel
theorem aX11_ring_32 : i_at mX11_ring.2.2.2.2.2 32 = some (.iconst 1, 1, 0, 0, 0, 0) := by decide +kernel
theorem aX11_ring_33 : i_at mX11_ring.2.2.2.2.2 33 = some (.goto 4, 3, 37, 0, 0, 0) := by decide +kernel
theorem aX11_ring_36 : i_at mX11_ring.2.2.2.2.2 36 = some (.iconst 0, 1, 0, 0, 0, 0) := by decide +kernel
theorem aX11_ring_37 : i_at mX11_ring.2.2.2.2.2 37 = some (.invokevirtual 259, 3, 46, 1, 997, 0) := by decide +kernel
theorem aX11_ring_40 : i_at mX11_ring.2.2.2.2.2 40 = some (.ireturn, 1, 0, 0, 0, 0) := by decide +kernel
noncomputable def fX11_ring (sh : List kd) (σ : St) (p1 : Int32) : Option (Int32 × St) := if (σ.1 20 0) = 0 then some ((-1), σ) else i_bd (fX11_isWithin sh σ p1 0 1) (fun r2 s3 => if ¬ r2 = 0 then i_bd (fX5_ringOfHours sh s3 ((if ¬ p1 = 0 then 0 else 1) : Int32)) (fun r6 s7 => some (r6, s7)) else some ((-1), s3))
set_option maxRecDepth 20000 in
set_option maxHeartbeats 2000000 in
theorem tX11_ring {sh : List kd} {σ τ : St} {r : Int32} (hsh : cSh sh) {p1 : Int32} (hE : fX11_ring sh σ p1 = some (r, τ)) : i_X 7 116 [.ref 0, .int p1] (s_h sh σ) 0 0 (some (.int r)) (s_h sh τ) := by
  refine g_X (M := mX11_ring) (loc := [.ref 0, .int p1]) rfl (Nat.le_of_ble_eq_true rfl) rfl ?_
  unfold fX11_ring at hE
  refine g_ldan aX11_ring_0 rfl ?_
  refine g_getR aX11_ring_1 (sC_0 hsh) rfl ?_
  refine g_getR aX11_ring_4 ((wShB_19 hsh).1) rfl ?_
  refine g_getI aX11_ring_7 ((rShB_20 hsh).1) rfl ?_
  by_cases hc1 : (σ.1 20 0) = 0
  · rw [if_pos hc1] at hE
    refine g_if_eq_t aX11_ring_10 hc1 ?_
    refine g_iconst (x := (-1)) aX11_ring_22 rfl ?_
    obtain ⟨rfl, rfl⟩ := i_some_inj hE
    exact g_iret aX11_ring_23 rfl rfl
  · rw [if_neg hc1] at hE
    refine g_if_eq_f aX11_ring_10 hc1 ?_
    refine g_ldin aX11_ring_13 rfl ?_
    refine g_iconst (x := 0) aX11_ring_14 rfl ?_
    refine g_iconst (x := 1) aX11_ring_15 rfl ?_
    obtain ⟨r2, s3, h4, hE⟩ := i_bd_some hE
    refine g_calS (As := [.int p1, .int 0, .int 1]) (rest := []) aX11_ring_16 (i_X_mono (by omega) (tX11_isWithin hsh h4)) rfl rfl (Nat.le_of_ble_eq_true rfl) rfl ?_
    by_cases hc5 : ¬ r2 = 0
    · rw [if_pos hc5] at hE
      refine g_if_ne_t aX11_ring_19 hc5 ?_
      refine g_ldan aX11_ring_24 rfl ?_
      refine g_getR aX11_ring_25 (sC_0 hsh) rfl ?_
      refine g_ldin aX11_ring_28 rfl ?_
      have hJ : g_R sh 6 mX11_ring (some (.int r)) τ 37 [.ref 0, .int p1] [.int ((if ¬ p1 = 0 then 0 else 1) : Int32), .ref 134] (s3) := by
        obtain ⟨r6, s7, h8, hE⟩ := i_bd_some hE
        refine g_calV (As := [.int ((if ¬ p1 = 0 then 0 else 1) : Int32)]) (rest := []) aX11_ring_37 (i_X_mono (by omega) (tX5_ringOfHours hsh h8)) (sC_134 hsh) (by decide +kernel) rfl rfl (Nat.le_of_ble_eq_true rfl) rfl ?_
        obtain ⟨rfl, rfl⟩ := i_some_inj hE
        exact g_iret aX11_ring_40 rfl rfl
      clear hE
      by_cases hc8 : ¬ p1 = 0
      · (try rw [if_pos hc8] at hJ)
        refine g_if_ne_t aX11_ring_29 hc8 ?_
        refine g_iconst (x := 0) aX11_ring_36 rfl ?_
        exact hJ
      · (try rw [if_neg hc8] at hJ)
        refine g_if_ne_f aX11_ring_29 hc8 ?_
        refine g_iconst (x := 1) aX11_ring_32 rfl ?_
        refine g_goto aX11_ring_33 ?_
        exact hJ
    · rw [if_neg hc5] at hE
      refine g_if_ne_f aX11_ring_19 hc5 ?_
      refine g_iconst (x := (-1)) aX11_ring_22 rfl ?_
      obtain ⟨rfl, rfl⟩ := i_some_inj hE
      exact g_iret aX11_ring_23 rfl rfl
theorem aX8_readFact_0 : i_at mX8_readFact.2.2.2.2.2 0 = some (.aload_n 0, 1, 0, 0, 0, 0) := by decide +kernel
theorem aX8_readFact_1 : i_at mX8_readFact.2.2.2.2.2 1 = some (.getfield 24, 3, 7, 0, 234, 0) := by decide +kernel
theorem aX8_readFact_4 : i_at mX8_readFact.2.2.2.2.2 4 = some (.getfield 65, 3, 8, 3, 135, 0) := by decide +kernel
theorem aX8_readFact_7 : i_at mX8_readFact.2.2.2.2.2 7 = some (.ifCond .eq 4, 3, 11, 0, 0, 0) := by decide +kernel
theorem aX8_readFact_10 : i_at mX8_readFact.2.2.2.2.2 10 = some (.return_, 1, 0, 0, 0, 0) := by decide +kernel
theorem aX8_readFact_11 : i_at mX8_readFact.2.2.2.2.2 11 = some (.aload_n 0, 1, 0, 0, 0, 0) := by decide +kernel
theorem aX8_readFact_12 : i_at mX8_readFact.2.2.2.2.2 12 = some (.getfield 24, 3, 7, 0, 234, 0) := by decide +kernel
theorem aX8_readFact_15 : i_at mX8_readFact.2.2.2.2.2 15 = some (.ldc 113, 2, 1, 4, 0, 0) := by decide +kernel
theorem aX8_readFact_17 : i_at mX8_readFact.2.2.2.2.2 17 = some (.invokevirtual 96, 3, 81, 1, 658, 0) := by decide +kernel
theorem aX8_readFact_20 : i_at mX8_readFact.2.2.2.2.2 20 = some (.ifCond .ne 7, 3, 27, 0, 0, 0) := by decide +kernel
theorem aX8_readFact_23 : i_at mX8_readFact.2.2.2.2.2 23 = some (.iconst 1, 1, 0, 0, 0, 0) := by decide +kernel
theorem aX8_readFact_24 : i_at mX8_readFact.2.2.2.2.2 24 = some (.goto 4, 3, 28, 0, 0, 0) := by decide +kernel
theorem aX8_readFact_27 : i_at mX8_readFact.2.2.2.2.2 27 = some (.iconst 0, 1, 0, 0, 0, 0) := by decide +kernel
theorem aX8_readFact_28 : i_at mX8_readFact.2.2.2.2.2 28 = some (.istore_n 2, 1, 0, 0, 0, 0) := by decide +kernel
theorem aX8_readFact_29 : i_at mX8_readFact.2.2.2.2.2 29 = some (.iload_n 2, 1, 0, 0, 0, 0) := by decide +kernel
theorem aX8_readFact_30 : i_at mX8_readFact.2.2.2.2.2 30 = some (.ifCond .ne 37, 3, 67, 0, 0, 0) := by decide +kernel
theorem aX8_readFact_33 : i_at mX8_readFact.2.2.2.2.2 33 = some (.aload_n 0, 1, 0, 0, 0, 0) := by decide +kernel
theorem aX8_readFact_34 : i_at mX8_readFact.2.2.2.2.2 34 = some (.getfield 24, 3, 7, 0, 234, 0) := by decide +kernel
theorem aX8_readFact_37 : i_at mX8_readFact.2.2.2.2.2 37 = some (.invokevirtual 68, 3, 78, 0, 669, 0) := by decide +kernel
theorem aX8_readFact_40 : i_at mX8_readFact.2.2.2.2.2 40 = some (.bipush 91, 2, 0, 0, 0, 0) := by decide +kernel
theorem aX8_readFact_42 : i_at mX8_readFact.2.2.2.2.2 42 = some (.if_icmp .eq 25, 3, 67, 0, 0, 0) := by decide +kernel
theorem aX8_readFact_45 : i_at mX8_readFact.2.2.2.2.2 45 = some (.aload_n 0, 1, 0, 0, 0, 0) := by decide +kernel
theorem aX8_readFact_46 : i_at mX8_readFact.2.2.2.2.2 46 = some (.invokevirtual 46, 3, 70, 0, 661, 0) := by decide +kernel
theorem aX8_readFact_49 : i_at mX8_readFact.2.2.2.2.2 49 = some (.aload_n 0, 1, 0, 0, 0, 0) := by decide +kernel
theorem aX8_readFact_50 : i_at mX8_readFact.2.2.2.2.2 50 = some (.invokevirtual 115, 3, 69, 0, 701, 0) := by decide +kernel
theorem aX8_readFact_53 : i_at mX8_readFact.2.2.2.2.2 53 = some (.istore_n 3, 1, 0, 0, 0, 0) := by decide +kernel
theorem aX8_readFact_54 : i_at mX8_readFact.2.2.2.2.2 54 = some (.aload_n 0, 1, 0, 0, 0, 0) := by decide +kernel
theorem aX8_readFact_55 : i_at mX8_readFact.2.2.2.2.2 55 = some (.invokevirtual 46, 3, 70, 0, 661, 0) := by decide +kernel
theorem aX8_readFact_58 : i_at mX8_readFact.2.2.2.2.2 58 = some (.aload_n 0, 1, 0, 0, 0, 0) := by decide +kernel
theorem aX8_readFact_59 : i_at mX8_readFact.2.2.2.2.2 59 = some (.iload_n 3, 1, 0, 0, 0, 0) := by decide +kernel
theorem aX8_readFact_60 : i_at mX8_readFact.2.2.2.2.2 60 = some (.iconst 0, 1, 0, 0, 0, 0) := by decide +kernel
theorem aX8_readFact_61 : i_at mX8_readFact.2.2.2.2.2 61 = some (.invokevirtual 108, 3, 73, 2, 677, 0) := by decide +kernel
theorem aX8_readFact_64 : i_at mX8_readFact.2.2.2.2.2 64 = some (.goto 98, 3, 162, 0, 0, 0) := by decide +kernel
theorem aX8_readFact_67 : i_at mX8_readFact.2.2.2.2.2 67 = some (.iload_n 1, 1, 0, 0, 0, 0) := by decide +kernel
theorem aX8_readFact_68 : i_at mX8_readFact.2.2.2.2.2 68 = some (.bipush 10, 2, 0, 0, 0, 0) := by decide +kernel
theorem aX8_readFact_70 : i_at mX8_readFact.2.2.2.2.2 70 = some (.if_icmp .lt 21, 3, 91, 0, 0, 0) := by decide +kernel
theorem aX8_readFact_73 : i_at mX8_readFact.2.2.2.2.2 73 = some (.aload_n 0, 1, 0, 0, 0, 0) := by decide +kernel
theorem aX8_readFact_74 : i_at mX8_readFact.2.2.2.2.2 74 = some (.getfield 24, 3, 7, 0, 234, 0) := by decide +kernel
theorem aX8_readFact_77 : i_at mX8_readFact.2.2.2.2.2 77 = some (.aload_n 0, 1, 0, 0, 0, 0) := by decide +kernel
theorem aX8_readFact_78 : i_at mX8_readFact.2.2.2.2.2 78 = some (.getfield 24, 3, 7, 0, 234, 0) := by decide +kernel
theorem aX8_readFact_81 : i_at mX8_readFact.2.2.2.2.2 81 = some (.getfield 76, 3, 8, 2, 132, 0) := by decide +kernel
theorem aX8_readFact_84 : i_at mX8_readFact.2.2.2.2.2 84 = some (.iconst 2, 1, 0, 0, 0, 0) := by decide +kernel
theorem aX8_readFact_85 : i_at mX8_readFact.2.2.2.2.2 85 = some (.invokevirtual 79, 3, 77, 2, 659, 0) := by decide +kernel
theorem aX8_readFact_88 : i_at mX8_readFact.2.2.2.2.2 88 = some (.goto 74, 3, 162, 0, 0, 0) := by decide +kernel
theorem aX8_readFact_91 : i_at mX8_readFact.2.2.2.2.2 91 = some (.iload_n 2, 1, 0, 0, 0, 0) := by decide +kernel
theorem aX8_readFact_92 : i_at mX8_readFact.2.2.2.2.2 92 = some (.ifCond .eq 26, 3, 118, 0, 0, 0) := by decide +kernel
theorem aX8_readFact_95 : i_at mX8_readFact.2.2.2.2.2 95 = some (.aload_n 0, 1, 0, 0, 0, 0) := by decide +kernel
theorem aX8_readFact_96 : i_at mX8_readFact.2.2.2.2.2 96 = some (.getfield 24, 3, 7, 0, 234, 0) := by decide +kernel
theorem aX8_readFact_99 : i_at mX8_readFact.2.2.2.2.2 99 = some (.invokevirtual 100, 3, 83, 0, 660, 0) := by decide +kernel
theorem aX8_readFact_102 : i_at mX8_readFact.2.2.2.2.2 102 = some (.aload_n 0, 1, 0, 0, 0, 0) := by decide +kernel
theorem aX8_readFact_103 : i_at mX8_readFact.2.2.2.2.2 103 = some (.iload_n 1, 1, 0, 0, 0, 0) := by decide +kernel
theorem aX8_readFact_104 : i_at mX8_readFact.2.2.2.2.2 104 = some (.iconst 1, 1, 0, 0, 0, 0) := by decide +kernel
theorem aX8_readFact_105 : i_at mX8_readFact.2.2.2.2.2 105 = some (.iadd, 1, 0, 0, 0, 0) := by decide +kernel
theorem aX8_readFact_106 : i_at mX8_readFact.2.2.2.2.2 106 = some (.invokevirtual 103, 3, 68, 1, 696, 0) := by decide +kernel
theorem aX8_readFact_109 : i_at mX8_readFact.2.2.2.2.2 109 = some (.aload_n 0, 1, 0, 0, 0, 0) := by decide +kernel
theorem aX8_readFact_110 : i_at mX8_readFact.2.2.2.2.2 110 = some (.iconst 2, 1, 0, 0, 0, 0) := by decide +kernel
theorem aX8_readFact_111 : i_at mX8_readFact.2.2.2.2.2 111 = some (.iconst 0, 1, 0, 0, 0, 0) := by decide +kernel
theorem aX8_readFact_112 : i_at mX8_readFact.2.2.2.2.2 112 = some (.invokevirtual 108, 3, 73, 2, 677, 0) := by decide +kernel
theorem aX8_readFact_115 : i_at mX8_readFact.2.2.2.2.2 115 = some (.goto 47, 3, 162, 0, 0, 0) := by decide +kernel
theorem aX8_readFact_118 : i_at mX8_readFact.2.2.2.2.2 118 = some (.aload_n 0, 1, 0, 0, 0, 0) := by decide +kernel
theorem aX8_readFact_119 : i_at mX8_readFact.2.2.2.2.2 119 = some (.getfield 24, 3, 7, 0, 234, 0) := by decide +kernel
theorem aX8_readFact_122 : i_at mX8_readFact.2.2.2.2.2 122 = some (.bipush 91, 2, 0, 0, 0, 0) := by decide +kernel
theorem aX8_readFact_124 : i_at mX8_readFact.2.2.2.2.2 124 = some (.invokevirtual 72, 3, 79, 1, 705, 0) := by decide +kernel
theorem aX8_readFact_127 : i_at mX8_readFact.2.2.2.2.2 127 = some (.pop, 1, 0, 0, 0, 0) := by decide +kernel
theorem aX8_readFact_128 : i_at mX8_readFact.2.2.2.2.2 128 = some (.aload_n 0, 1, 0, 0, 0, 0) := by decide +kernel
theorem aX8_readFact_129 : i_at mX8_readFact.2.2.2.2.2 129 = some (.iload_n 1, 1, 0, 0, 0, 0) := by decide +kernel
theorem aX8_readFact_130 : i_at mX8_readFact.2.2.2.2.2 130 = some (.iconst 1, 1, 0, 0, 0, 0) := by decide +kernel
theorem aX8_readFact_131 : i_at mX8_readFact.2.2.2.2.2 131 = some (.iadd, 1, 0, 0, 0, 0) := by decide +kernel
theorem aX8_readFact_132 : i_at mX8_readFact.2.2.2.2.2 132 = some (.invokevirtual 58, 3, 67, 1, 692, 0) := by decide +kernel
theorem aX8_readFact_135 : i_at mX8_readFact.2.2.2.2.2 135 = some (.aload_n 0, 1, 0, 0, 0, 0) := by decide +kernel
theorem aX8_readFact_136 : i_at mX8_readFact.2.2.2.2.2 136 = some (.getfield 24, 3, 7, 0, 234, 0) := by decide +kernel
theorem aX8_readFact_139 : i_at mX8_readFact.2.2.2.2.2 139 = some (.bipush 93, 2, 0, 0, 0, 0) := by decide +kernel
theorem aX8_readFact_141 : i_at mX8_readFact.2.2.2.2.2 141 = some (.invokevirtual 72, 3, 79, 1, 705, 0) := by decide +kernel
theorem aX8_readFact_144 : i_at mX8_readFact.2.2.2.2.2 144 = some (.ifCond .ne 18, 3, 162, 0, 0, 0) := by decide +kernel
theorem aX8_readFact_147 : i_at mX8_readFact.2.2.2.2.2 147 = some (.aload_n 0, 1, 0, 0, 0, 0) := by decide +kernel
theorem aX8_readFact_148 : i_at mX8_readFact.2.2.2.2.2 148 = some (.getfield 24, 3, 7, 0, 234, 0) := by decide +kernel
theorem aX8_readFact_151 : i_at mX8_readFact.2.2.2.2.2 151 = some (.aload_n 0, 1, 0, 0, 0, 0) := by decide +kernel
theorem aX8_readFact_152 : i_at mX8_readFact.2.2.2.2.2 152 = some (.getfield 24, 3, 7, 0, 234, 0) := by decide +kernel
theorem aX8_readFact_155 : i_at mX8_readFact.2.2.2.2.2 155 = some (.getfield 76, 3, 8, 2, 132, 0) := by decide +kernel
theorem aX8_readFact_158 : i_at mX8_readFact.2.2.2.2.2 158 = some (.iconst 0, 1, 0, 0, 0, 0) := by decide +kernel
theorem aX8_readFact_159 : i_at mX8_readFact.2.2.2.2.2 159 = some (.invokevirtual 79, 3, 77, 2, 659, 0) := by decide +kernel
theorem aX8_readFact_162 : i_at mX8_readFact.2.2.2.2.2 162 = some (.return_, 1, 0, 0, 0, 0) := by decide +kernel
noncomputable def fX8_readFact_J162 (sh : List kd) (p1 : Int32) (r2 : Int32) (x55 : Value) (s56 : St) : Option (Unit × St) := some ((), s56)
noncomputable def fX8_readFact_o (sh : List kd) (rT : St → Int32 → Option (Unit × St)) (rF : St → Int32 → Option (Unit × St)) (σ : St) (p1 : Int32) : Option (Unit × St) := if (σ.1 1 3) = 0 then i_bd (fX9_wordIn sh σ 4) (fun r2 s3 => if ¬ ((if ¬ r2 = 0 then 0 else 1) : Int32) = 0 then if p1 < 10 then if ((if ¬ r2 = 0 then 0 else 1) : Int32) = 0 then i_bd (fX9_takeSign sh s3 91) (fun r60 s61 => i_bd (rT s61 (p1 + 1)) (fun r63 s64 => i_bd (fX9_takeSign sh s64 93) (fun r66 s67 => if ¬ r66 = 0 then fX8_readFact_J162 sh p1 r2 (.retAddr 0) s67 else i_bd (fX9_refuse sh s67 (s67.1 1 2) 0) (fun r70 s71 => fX8_readFact_J162 sh p1 r2 (.retAddr 0) s71)))) else i_bd (fX9_skipWord sh s3) (fun r73 s74 => i_bd (rF s74 (p1 + 1)) (fun r76 s77 => i_bd (fX8_write sh s77 2 0) (fun r79 s80 => fX8_readFact_J162 sh p1 r2 (.retAddr 0) s80))) else i_bd (fX9_refuse sh s3 (s3.1 1 2) 2) (fun r82 s83 => fX8_readFact_J162 sh p1 r2 (.retAddr 0) s83) else i_bd (fX9_sign sh s3) (fun r85 s86 => if r85 = 91 then if p1 < 10 then if ((if ¬ r2 = 0 then 0 else 1) : Int32) = 0 then i_bd (fX9_takeSign sh s86 91) (fun r91 s92 => i_bd (rT s92 (p1 + 1)) (fun r94 s95 => i_bd (fX9_takeSign sh s95 93) (fun r97 s98 => if ¬ r97 = 0 then fX8_readFact_J162 sh p1 r2 (.retAddr 0) s98 else i_bd (fX9_refuse sh s98 (s98.1 1 2) 0) (fun r101 s102 => fX8_readFact_J162 sh p1 r2 (.retAddr 0) s102)))) else i_bd (fX9_skipWord sh s86) (fun r104 s105 => i_bd (rF s105 (p1 + 1)) (fun r107 s108 => i_bd (fX8_write sh s108 2 0) (fun r110 s111 => fX8_readFact_J162 sh p1 r2 (.retAddr 0) s111))) else i_bd (fX9_refuse sh s86 (s86.1 1 2) 2) (fun r113 s114 => fX8_readFact_J162 sh p1 r2 (.retAddr 0) s114) else i_bd (fX8_readSum sh s86) (fun r116 s117 => i_bd (fX8_readComparing sh s117) (fun r119 s120 => i_bd (fX8_readSum sh s120) (fun r122 s123 => i_bd (fX8_write sh s123 r119 0) (fun r125 s126 => fX8_readFact_J162 sh p1 r2 (.int r119) s126)))))) else some ((), σ)
set_option maxRecDepth 20000 in
set_option maxHeartbeats 2000000 in
theorem tX8_readFact_J162 {sh : List kd} {τ : St} {r : Unit} (hsh : cSh sh) {d0 : Nat} (hd0 : 20 ≤ d0) {p1 : Int32} {r2 : Int32} {x55 : Value} {s56 : St} (hE : fX8_readFact_J162 sh p1 r2 x55 s56 = some (r, τ)) : g_R sh d0 mX8_readFact none τ 162 [.ref 10, .int p1, .int ((if ¬ r2 = 0 then 0 else 1) : Int32), x55] [] (s56) := by
  unfold fX8_readFact_J162 at hE
  obtain ⟨rfl, rfl⟩ := i_some_inj hE
  exact g_vret aX8_readFact_162 rfl
set_option maxRecDepth 20000 in
set_option maxHeartbeats 2000000 in
theorem tX8_readFact_o {sh : List kd} {σ τ : St} {r : Unit} (hsh : cSh sh) {d0 : Nat} (hd0 : 20 ≤ d0) {rT : St → Int32 → Option (Unit × St)} (hrT : ∀ (σ τ : St) (p : Int32) (r : Unit), rT σ p = some (r, τ) → i_X d0 67 [.ref 10, .int p] (s_h sh σ) 0 0 none (s_h sh τ)) {rF : St → Int32 → Option (Unit × St)} (hrF : ∀ (σ τ : St) (p : Int32) (r : Unit), rF σ p = some (r, τ) → i_X d0 68 [.ref 10, .int p] (s_h sh σ) 0 0 none (s_h sh τ)) {p1 : Int32} (hE : fX8_readFact_o sh rT rF σ p1 = some (r, τ)) : i_X (d0 + 1) 68 [.ref 10, .int p1] (s_h sh σ) 0 0 none (s_h sh τ) := by
  refine g_X (M := mX8_readFact) (loc := [.ref 10, .int p1, .retAddr 0, .retAddr 0]) rfl (Nat.le_of_ble_eq_true rfl) rfl ?_
  unfold fX8_readFact_o at hE
  refine g_ldan aX8_readFact_0 rfl ?_
  refine g_getR aX8_readFact_1 (sC_10 hsh) rfl ?_
  refine g_getI aX8_readFact_4 (sC_1 hsh) rfl ?_
  by_cases hc1 : (σ.1 1 3) = 0
  · rw [if_pos hc1] at hE
    refine g_if_eq_t aX8_readFact_7 hc1 ?_
    refine g_ldan aX8_readFact_11 rfl ?_
    refine g_getR aX8_readFact_12 (sC_10 hsh) rfl ?_
    refine g_ldcS aX8_readFact_15 rfl ?_
    obtain ⟨r2, s3, h4, hE⟩ := i_bd_some hE
    refine g_calV (As := [.ref (i_SB + 4)]) (rest := []) aX8_readFact_17 (i_X_mono (by omega) (tX9_wordIn hsh h4)) (sC_1 hsh) (by decide +kernel) rfl rfl (Nat.le_of_ble_eq_true rfl) rfl ?_
    have hJ : g_R sh d0 mX8_readFact none τ 28 [.ref 10, .int p1, .retAddr 0, .retAddr 0] [.int ((if ¬ r2 = 0 then 0 else 1) : Int32)] (s3) := by
      refine g_stin (loc2 := [.ref 10, .int p1, .int ((if ¬ r2 = 0 then 0 else 1) : Int32), .retAddr 0]) aX8_readFact_28 (Nat.le_of_ble_eq_true rfl) rfl ?_
      refine g_ldin aX8_readFact_29 rfl ?_
      by_cases hc57 : ¬ ((if ¬ r2 = 0 then 0 else 1) : Int32) = 0
      · rw [if_pos hc57] at hE
        refine g_if_ne_t aX8_readFact_30 hc57 ?_
        refine g_ldin aX8_readFact_67 rfl ?_
        refine g_bipush (x := 10) aX8_readFact_68 rfl ?_
        by_cases hc58 : p1 < 10
        · rw [if_pos hc58] at hE
          refine g_ic_lt_t aX8_readFact_70 hc58 ?_
          refine g_ldin aX8_readFact_91 rfl ?_
          by_cases hc59 : ((if ¬ r2 = 0 then 0 else 1) : Int32) = 0
          · rw [if_pos hc59] at hE
            refine g_if_eq_t aX8_readFact_92 hc59 ?_
            refine g_ldan aX8_readFact_118 rfl ?_
            refine g_getR aX8_readFact_119 (sC_10 hsh) rfl ?_
            refine g_bipush (x := 91) aX8_readFact_122 rfl ?_
            obtain ⟨r60, s61, h62, hE⟩ := i_bd_some hE
            refine g_calV (As := [.int 91]) (rest := []) aX8_readFact_124 (i_X_mono (by omega) (tX9_takeSign hsh h62)) (sC_1 hsh) (by decide +kernel) rfl rfl (Nat.le_of_ble_eq_true rfl) rfl ?_
            refine g_popi aX8_readFact_127 ?_
            refine g_ldan aX8_readFact_128 rfl ?_
            refine g_ldin aX8_readFact_129 rfl ?_
            refine g_iconst (x := 1) aX8_readFact_130 rfl ?_
            refine g_iadd aX8_readFact_131 ?_
            obtain ⟨r63, s64, h65, hE⟩ := i_bd_some hE
            refine g_calV (As := [.int (p1 + 1)]) (rest := []) aX8_readFact_132 (hrT _ _ _ _ h65) (sC_10 hsh) (by decide +kernel) rfl rfl (Nat.le_of_ble_eq_true rfl) rfl ?_
            refine g_ldan aX8_readFact_135 rfl ?_
            refine g_getR aX8_readFact_136 (sC_10 hsh) rfl ?_
            refine g_bipush (x := 93) aX8_readFact_139 rfl ?_
            obtain ⟨r66, s67, h68, hE⟩ := i_bd_some hE
            refine g_calV (As := [.int 93]) (rest := []) aX8_readFact_141 (i_X_mono (by omega) (tX9_takeSign hsh h68)) (sC_1 hsh) (by decide +kernel) rfl rfl (Nat.le_of_ble_eq_true rfl) rfl ?_
            by_cases hc69 : ¬ r66 = 0
            · rw [if_pos hc69] at hE
              refine g_if_ne_t aX8_readFact_144 hc69 ?_
              exact tX8_readFact_J162 hsh hd0 hE
            · rw [if_neg hc69] at hE
              refine g_if_ne_f aX8_readFact_144 hc69 ?_
              refine g_ldan aX8_readFact_147 rfl ?_
              refine g_getR aX8_readFact_148 (sC_10 hsh) rfl ?_
              refine g_ldan aX8_readFact_151 rfl ?_
              refine g_getR aX8_readFact_152 (sC_10 hsh) rfl ?_
              refine g_getI aX8_readFact_155 (sC_1 hsh) rfl ?_
              refine g_iconst (x := 0) aX8_readFact_158 rfl ?_
              obtain ⟨r70, s71, h72, hE⟩ := i_bd_some hE
              refine g_calV (As := [.int (s67.1 1 2), .int 0]) (rest := []) aX8_readFact_159 (i_X_mono (by omega) (tX9_refuse hsh h72)) (sC_1 hsh) (by decide +kernel) rfl rfl (Nat.le_of_ble_eq_true rfl) rfl ?_
              exact tX8_readFact_J162 hsh hd0 hE
          · rw [if_neg hc59] at hE
            refine g_if_eq_f aX8_readFact_92 hc59 ?_
            refine g_ldan aX8_readFact_95 rfl ?_
            refine g_getR aX8_readFact_96 (sC_10 hsh) rfl ?_
            obtain ⟨r73, s74, h75, hE⟩ := i_bd_some hE
            refine g_calV (As := []) (rest := []) aX8_readFact_99 (i_X_mono (by omega) (tX9_skipWord hsh h75)) (sC_1 hsh) (by decide +kernel) rfl rfl (Nat.le_of_ble_eq_true rfl) rfl ?_
            refine g_ldan aX8_readFact_102 rfl ?_
            refine g_ldin aX8_readFact_103 rfl ?_
            refine g_iconst (x := 1) aX8_readFact_104 rfl ?_
            refine g_iadd aX8_readFact_105 ?_
            obtain ⟨r76, s77, h78, hE⟩ := i_bd_some hE
            refine g_calV (As := [.int (p1 + 1)]) (rest := []) aX8_readFact_106 (hrF _ _ _ _ h78) (sC_10 hsh) (by decide +kernel) rfl rfl (Nat.le_of_ble_eq_true rfl) rfl ?_
            refine g_ldan aX8_readFact_109 rfl ?_
            refine g_iconst (x := 2) aX8_readFact_110 rfl ?_
            refine g_iconst (x := 0) aX8_readFact_111 rfl ?_
            obtain ⟨r79, s80, h81, hE⟩ := i_bd_some hE
            refine g_calV (As := [.int 2, .int 0]) (rest := []) aX8_readFact_112 (i_X_mono (by omega) (tX8_write hsh h81)) (sC_10 hsh) (by decide +kernel) rfl rfl (Nat.le_of_ble_eq_true rfl) rfl ?_
            refine g_goto aX8_readFact_115 ?_
            exact tX8_readFact_J162 hsh hd0 hE
        · rw [if_neg hc58] at hE
          refine g_ic_lt_f aX8_readFact_70 hc58 ?_
          refine g_ldan aX8_readFact_73 rfl ?_
          refine g_getR aX8_readFact_74 (sC_10 hsh) rfl ?_
          refine g_ldan aX8_readFact_77 rfl ?_
          refine g_getR aX8_readFact_78 (sC_10 hsh) rfl ?_
          refine g_getI aX8_readFact_81 (sC_1 hsh) rfl ?_
          refine g_iconst (x := 2) aX8_readFact_84 rfl ?_
          obtain ⟨r82, s83, h84, hE⟩ := i_bd_some hE
          refine g_calV (As := [.int (s3.1 1 2), .int 2]) (rest := []) aX8_readFact_85 (i_X_mono (by omega) (tX9_refuse hsh h84)) (sC_1 hsh) (by decide +kernel) rfl rfl (Nat.le_of_ble_eq_true rfl) rfl ?_
          refine g_goto aX8_readFact_88 ?_
          exact tX8_readFact_J162 hsh hd0 hE
      · rw [if_neg hc57] at hE
        refine g_if_ne_f aX8_readFact_30 hc57 ?_
        refine g_ldan aX8_readFact_33 rfl ?_
        refine g_getR aX8_readFact_34 (sC_10 hsh) rfl ?_
        obtain ⟨r85, s86, h87, hE⟩ := i_bd_some hE
        refine g_calV (As := []) (rest := []) aX8_readFact_37 (i_X_mono (by omega) (tX9_sign hsh h87)) (sC_1 hsh) (by decide +kernel) rfl rfl (Nat.le_of_ble_eq_true rfl) rfl ?_
        refine g_bipush (x := 91) aX8_readFact_40 rfl ?_
        by_cases hc88 : r85 = 91
        · rw [if_pos hc88] at hE
          refine g_ic_eq_t aX8_readFact_42 hc88 ?_
          refine g_ldin aX8_readFact_67 rfl ?_
          refine g_bipush (x := 10) aX8_readFact_68 rfl ?_
          by_cases hc89 : p1 < 10
          · rw [if_pos hc89] at hE
            refine g_ic_lt_t aX8_readFact_70 hc89 ?_
            refine g_ldin aX8_readFact_91 rfl ?_
            by_cases hc90 : ((if ¬ r2 = 0 then 0 else 1) : Int32) = 0
            · rw [if_pos hc90] at hE
              refine g_if_eq_t aX8_readFact_92 hc90 ?_
              refine g_ldan aX8_readFact_118 rfl ?_
              refine g_getR aX8_readFact_119 (sC_10 hsh) rfl ?_
              refine g_bipush (x := 91) aX8_readFact_122 rfl ?_
              obtain ⟨r91, s92, h93, hE⟩ := i_bd_some hE
              refine g_calV (As := [.int 91]) (rest := []) aX8_readFact_124 (i_X_mono (by omega) (tX9_takeSign hsh h93)) (sC_1 hsh) (by decide +kernel) rfl rfl (Nat.le_of_ble_eq_true rfl) rfl ?_
              refine g_popi aX8_readFact_127 ?_
              refine g_ldan aX8_readFact_128 rfl ?_
              refine g_ldin aX8_readFact_129 rfl ?_
              refine g_iconst (x := 1) aX8_readFact_130 rfl ?_
              refine g_iadd aX8_readFact_131 ?_
              obtain ⟨r94, s95, h96, hE⟩ := i_bd_some hE
              refine g_calV (As := [.int (p1 + 1)]) (rest := []) aX8_readFact_132 (hrT _ _ _ _ h96) (sC_10 hsh) (by decide +kernel) rfl rfl (Nat.le_of_ble_eq_true rfl) rfl ?_
              refine g_ldan aX8_readFact_135 rfl ?_
              refine g_getR aX8_readFact_136 (sC_10 hsh) rfl ?_
              refine g_bipush (x := 93) aX8_readFact_139 rfl ?_
              obtain ⟨r97, s98, h99, hE⟩ := i_bd_some hE
              refine g_calV (As := [.int 93]) (rest := []) aX8_readFact_141 (i_X_mono (by omega) (tX9_takeSign hsh h99)) (sC_1 hsh) (by decide +kernel) rfl rfl (Nat.le_of_ble_eq_true rfl) rfl ?_
              by_cases hc100 : ¬ r97 = 0
              · rw [if_pos hc100] at hE
                refine g_if_ne_t aX8_readFact_144 hc100 ?_
                exact tX8_readFact_J162 hsh hd0 hE
              · rw [if_neg hc100] at hE
                refine g_if_ne_f aX8_readFact_144 hc100 ?_
                refine g_ldan aX8_readFact_147 rfl ?_
                refine g_getR aX8_readFact_148 (sC_10 hsh) rfl ?_
                refine g_ldan aX8_readFact_151 rfl ?_
                refine g_getR aX8_readFact_152 (sC_10 hsh) rfl ?_
                refine g_getI aX8_readFact_155 (sC_1 hsh) rfl ?_
                refine g_iconst (x := 0) aX8_readFact_158 rfl ?_
                obtain ⟨r101, s102, h103, hE⟩ := i_bd_some hE
                refine g_calV (As := [.int (s98.1 1 2), .int 0]) (rest := []) aX8_readFact_159 (i_X_mono (by omega) (tX9_refuse hsh h103)) (sC_1 hsh) (by decide +kernel) rfl rfl (Nat.le_of_ble_eq_true rfl) rfl ?_
                exact tX8_readFact_J162 hsh hd0 hE
            · rw [if_neg hc90] at hE
              refine g_if_eq_f aX8_readFact_92 hc90 ?_
              refine g_ldan aX8_readFact_95 rfl ?_
              refine g_getR aX8_readFact_96 (sC_10 hsh) rfl ?_
              obtain ⟨r104, s105, h106, hE⟩ := i_bd_some hE
              refine g_calV (As := []) (rest := []) aX8_readFact_99 (i_X_mono (by omega) (tX9_skipWord hsh h106)) (sC_1 hsh) (by decide +kernel) rfl rfl (Nat.le_of_ble_eq_true rfl) rfl ?_
              refine g_ldan aX8_readFact_102 rfl ?_
              refine g_ldin aX8_readFact_103 rfl ?_
              refine g_iconst (x := 1) aX8_readFact_104 rfl ?_
              refine g_iadd aX8_readFact_105 ?_
              obtain ⟨r107, s108, h109, hE⟩ := i_bd_some hE
              refine g_calV (As := [.int (p1 + 1)]) (rest := []) aX8_readFact_106 (hrF _ _ _ _ h109) (sC_10 hsh) (by decide +kernel) rfl rfl (Nat.le_of_ble_eq_true rfl) rfl ?_
              refine g_ldan aX8_readFact_109 rfl ?_
              refine g_iconst (x := 2) aX8_readFact_110 rfl ?_
              refine g_iconst (x := 0) aX8_readFact_111 rfl ?_
              obtain ⟨r110, s111, h112, hE⟩ := i_bd_some hE
              refine g_calV (As := [.int 2, .int 0]) (rest := []) aX8_readFact_112 (i_X_mono (by omega) (tX8_write hsh h112)) (sC_10 hsh) (by decide +kernel) rfl rfl (Nat.le_of_ble_eq_true rfl) rfl ?_
              refine g_goto aX8_readFact_115 ?_
              exact tX8_readFact_J162 hsh hd0 hE
          · rw [if_neg hc89] at hE
            refine g_ic_lt_f aX8_readFact_70 hc89 ?_
            refine g_ldan aX8_readFact_73 rfl ?_
            refine g_getR aX8_readFact_74 (sC_10 hsh) rfl ?_
            refine g_ldan aX8_readFact_77 rfl ?_
            refine g_getR aX8_readFact_78 (sC_10 hsh) rfl ?_
            refine g_getI aX8_readFact_81 (sC_1 hsh) rfl ?_
            refine g_iconst (x := 2) aX8_readFact_84 rfl ?_
            obtain ⟨r113, s114, h115, hE⟩ := i_bd_some hE
            refine g_calV (As := [.int (s86.1 1 2), .int 2]) (rest := []) aX8_readFact_85 (i_X_mono (by omega) (tX9_refuse hsh h115)) (sC_1 hsh) (by decide +kernel) rfl rfl (Nat.le_of_ble_eq_true rfl) rfl ?_
            refine g_goto aX8_readFact_88 ?_
            exact tX8_readFact_J162 hsh hd0 hE
        · rw [if_neg hc88] at hE
          refine g_ic_eq_f aX8_readFact_42 hc88 ?_
          refine g_ldan aX8_readFact_45 rfl ?_
          obtain ⟨r116, s117, h118, hE⟩ := i_bd_some hE
          refine g_calV (As := []) (rest := []) aX8_readFact_46 (i_X_mono (by omega) (tX8_readSum hsh h118)) (sC_10 hsh) (by decide +kernel) rfl rfl (Nat.le_of_ble_eq_true rfl) rfl ?_
          refine g_ldan aX8_readFact_49 rfl ?_
          obtain ⟨r119, s120, h121, hE⟩ := i_bd_some hE
          refine g_calV (As := []) (rest := []) aX8_readFact_50 (i_X_mono (by omega) (tX8_readComparing hsh h121)) (sC_10 hsh) (by decide +kernel) rfl rfl (Nat.le_of_ble_eq_true rfl) rfl ?_
          refine g_stin (loc2 := [.ref 10, .int p1, .int ((if ¬ r2 = 0 then 0 else 1) : Int32), .int r119]) aX8_readFact_53 (Nat.le_of_ble_eq_true rfl) rfl ?_
          refine g_ldan aX8_readFact_54 rfl ?_
          obtain ⟨r122, s123, h124, hE⟩ := i_bd_some hE
          refine g_calV (As := []) (rest := []) aX8_readFact_55 (i_X_mono (by omega) (tX8_readSum hsh h124)) (sC_10 hsh) (by decide +kernel) rfl rfl (Nat.le_of_ble_eq_true rfl) rfl ?_
          refine g_ldan aX8_readFact_58 rfl ?_
          refine g_ldin aX8_readFact_59 rfl ?_
          refine g_iconst (x := 0) aX8_readFact_60 rfl ?_
          obtain ⟨r125, s126, h127, hE⟩ := i_bd_some hE
          refine g_calV (As := [.int r119, .int 0]) (rest := []) aX8_readFact_61 (i_X_mono (by omega) (tX8_write hsh h127)) (sC_10 hsh) (by decide +kernel) rfl rfl (Nat.le_of_ble_eq_true rfl) rfl ?_
          refine g_goto aX8_readFact_64 ?_
          exact tX8_readFact_J162 hsh hd0 hE
    clear hE
    by_cases hc127 : ¬ r2 = 0
    · (try rw [if_pos hc127] at hJ)
      refine g_if_ne_t aX8_readFact_20 hc127 ?_
      refine g_iconst (x := 0) aX8_readFact_27 rfl ?_
      exact hJ
    · (try rw [if_neg hc127] at hJ)
      refine g_if_ne_f aX8_readFact_20 hc127 ?_
      refine g_iconst (x := 1) aX8_readFact_23 rfl ?_
      refine g_goto aX8_readFact_24 ?_
      exact hJ
  · rw [if_neg hc1] at hE
    refine g_if_eq_f aX8_readFact_7 hc1 ?_
    obtain ⟨rfl, rfl⟩ := i_some_inj hE
    exact g_vret aX8_readFact_10 rfl
theorem aX11_look_0 : i_at mX11_look.2.2.2.2.2 0 = some (.aload_n 0, 1, 0, 0, 0, 0) := by decide +kernel
theorem aX11_look_1 : i_at mX11_look.2.2.2.2.2 1 = some (.getfield 59, 3, 10, 6, 460, 0) := by decide +kernel
theorem aX11_look_4 : i_at mX11_look.2.2.2.2.2 4 = some (.getfield 95, 3, 9, 0, 347, 0) := by decide +kernel
theorem aX11_look_7 : i_at mX11_look.2.2.2.2.2 7 = some (.getfield 173, 3, 5, 0, 155, 0) := by decide +kernel
theorem aX11_look_10 : i_at mX11_look.2.2.2.2.2 10 = some (.ifCond .eq 12, 3, 22, 0, 0, 0) := by decide +kernel
theorem aX11_look_13 : i_at mX11_look.2.2.2.2.2 13 = some (.iload_n 1, 1, 0, 0, 0, 0) := by decide +kernel
theorem aX11_look_14 : i_at mX11_look.2.2.2.2.2 14 = some (.iconst 0, 1, 0, 0, 0, 0) := by decide +kernel
theorem aX11_look_15 : i_at mX11_look.2.2.2.2.2 15 = some (.iconst 1, 1, 0, 0, 0, 0) := by decide +kernel
theorem aX11_look_16 : i_at mX11_look.2.2.2.2.2 16 = some (.invokestatic 187, 3, 125, 3, 847, 0) := by decide +kernel
theorem aX11_look_19 : i_at mX11_look.2.2.2.2.2 19 = some (.ifCond .ne 5, 3, 24, 0, 0, 0) := by decide +kernel
theorem aX11_look_22 : i_at mX11_look.2.2.2.2.2 22 = some (.iconst (-1), 1, 0, 0, 0, 0) := by decide +kernel
theorem aX11_look_23 : i_at mX11_look.2.2.2.2.2 23 = some (.ireturn, 1, 0, 0, 0, 0) := by decide +kernel
theorem aX11_look_24 : i_at mX11_look.2.2.2.2.2 24 = some (.aload_n 0, 1, 0, 0, 0, 0) := by decide +kernel
theorem aX11_look_25 : i_at mX11_look.2.2.2.2.2 25 = some (.getfield 75, 3, 10, 8, 462, 0) := by decide +kernel
theorem aX11_look_28 : i_at mX11_look.2.2.2.2.2 28 = some (.aload_n 0, 1, 0, 0, 0, 0) := by decide +kernel
theorem aX11_look_29 : i_at mX11_look.2.2.2.2.2 29 = some (.getfield 120, 3, 10, 10, 464, 0) := by decide +kernel
theorem aX11_look_32 : i_at mX11_look.2.2.2.2.2 32 = some (.invokevirtual 269, 3, 19, 1, 1013, 0) := by decide +kernel
theorem aX11_look_35 : i_at mX11_look.2.2.2.2.2 35 = some (.aload_n 0, 1, 0, 0, 0, 0) := by decide +kernel
theorem aX11_look_36 : i_at mX11_look.2.2.2.2.2 36 = some (.getfield 75, 3, 10, 8, 462, 0) := by decide +kernel
theorem aX11_look_39 : i_at mX11_look.2.2.2.2.2 39 = some (.iload_n 1, 1, 0, 0, 0, 0) := by decide +kernel
theorem aX11_look_40 : i_at mX11_look.2.2.2.2.2 40 = some (.ifCond .ne 7, 3, 47, 0, 0, 0) := by decide +kernel
theorem aX11_look_43 : i_at mX11_look.2.2.2.2.2 43 = some (.iconst 1, 1, 0, 0, 0, 0) := by decide +kernel
theorem aX11_look_44 : i_at mX11_look.2.2.2.2.2 44 = some (.goto 4, 3, 48, 0, 0, 0) := by decide +kernel
theorem aX11_look_47 : i_at mX11_look.2.2.2.2.2 47 = some (.iconst 0, 1, 0, 0, 0, 0) := by decide +kernel
theorem aX11_look_48 : i_at mX11_look.2.2.2.2.2 48 = some (.invokevirtual 278, 3, 23, 1, 1035, 0) := by decide +kernel
theorem aX11_look_51 : i_at mX11_look.2.2.2.2.2 51 = some (.ireturn, 1, 0, 0, 0, 0) := by decide +kernel
noncomputable def fX11_look (sh : List kd) (σ : St) (p1 : Int32) : Option (Int32 × St) := if (σ.1 20 0) = 0 then some ((-1), σ) else i_bd (fX11_isWithin sh σ p1 0 1) (fun r2 s3 => if ¬ r2 = 0 then i_bd (fX3_hear sh s3 (s3.1 0 10)) (fun r6 s7 => i_bd (fX3_bestHour sh s7 ((if ¬ p1 = 0 then 0 else 1) : Int32)) (fun r9 s10 => some (r9, s10))) else some ((-1), s3))
set_option maxRecDepth 20000 in
set_option maxHeartbeats 2000000 in
theorem tX11_look {sh : List kd} {σ τ : St} {r : Int32} (hsh : cSh sh) {p1 : Int32} (hE : fX11_look sh σ p1 = some (r, τ)) : i_X 8 119 [.ref 0, .int p1] (s_h sh σ) 0 0 (some (.int r)) (s_h sh τ) := by
  refine g_X (M := mX11_look) (loc := [.ref 0, .int p1]) rfl (Nat.le_of_ble_eq_true rfl) rfl ?_
  unfold fX11_look at hE
  refine g_ldan aX11_look_0 rfl ?_
  refine g_getR aX11_look_1 (sC_0 hsh) rfl ?_
  refine g_getR aX11_look_4 ((wShB_19 hsh).1) rfl ?_
  refine g_getI aX11_look_7 ((rShB_20 hsh).1) rfl ?_
  by_cases hc1 : (σ.1 20 0) = 0
  · rw [if_pos hc1] at hE
    refine g_if_eq_t aX11_look_10 hc1 ?_
    refine g_iconst (x := (-1)) aX11_look_22 rfl ?_
    obtain ⟨rfl, rfl⟩ := i_some_inj hE
    exact g_iret aX11_look_23 rfl rfl
  · rw [if_neg hc1] at hE
    refine g_if_eq_f aX11_look_10 hc1 ?_
    refine g_ldin aX11_look_13 rfl ?_
    refine g_iconst (x := 0) aX11_look_14 rfl ?_
    refine g_iconst (x := 1) aX11_look_15 rfl ?_
    obtain ⟨r2, s3, h4, hE⟩ := i_bd_some hE
    refine g_calS (As := [.int p1, .int 0, .int 1]) (rest := []) aX11_look_16 (i_X_mono (by omega) (tX11_isWithin hsh h4)) rfl rfl (Nat.le_of_ble_eq_true rfl) rfl ?_
    by_cases hc5 : ¬ r2 = 0
    · rw [if_pos hc5] at hE
      refine g_if_ne_t aX11_look_19 hc5 ?_
      refine g_ldan aX11_look_24 rfl ?_
      refine g_getR aX11_look_25 (sC_0 hsh) rfl ?_
      refine g_ldan aX11_look_28 rfl ?_
      refine g_getI aX11_look_29 (sC_0 hsh) rfl ?_
      obtain ⟨r6, s7, h8, hE⟩ := i_bd_some hE
      refine g_calV (As := [.int (s3.1 0 10)]) (rest := []) aX11_look_32 (i_X_mono (by omega) (tX3_hear hsh h8)) (sC_143 hsh) (by decide +kernel) rfl rfl (Nat.le_of_ble_eq_true rfl) rfl ?_
      refine g_ldan aX11_look_35 rfl ?_
      refine g_getR aX11_look_36 (sC_0 hsh) rfl ?_
      refine g_ldin aX11_look_39 rfl ?_
      have hJ : g_R sh 7 mX11_look (some (.int r)) τ 48 [.ref 0, .int p1] [.int ((if ¬ p1 = 0 then 0 else 1) : Int32), .ref 143] (s7) := by
        obtain ⟨r9, s10, h11, hE⟩ := i_bd_some hE
        refine g_calV (As := [.int ((if ¬ p1 = 0 then 0 else 1) : Int32)]) (rest := []) aX11_look_48 (i_X_mono (by omega) (tX3_bestHour hsh h11)) (sC_143 hsh) (by decide +kernel) rfl rfl (Nat.le_of_ble_eq_true rfl) rfl ?_
        obtain ⟨rfl, rfl⟩ := i_some_inj hE
        exact g_iret aX11_look_51 rfl rfl
      clear hE
      by_cases hc11 : ¬ p1 = 0
      · (try rw [if_pos hc11] at hJ)
        refine g_if_ne_t aX11_look_40 hc11 ?_
        refine g_iconst (x := 0) aX11_look_47 rfl ?_
        exact hJ
      · (try rw [if_neg hc11] at hJ)
        refine g_if_ne_f aX11_look_40 hc11 ?_
        refine g_iconst (x := 1) aX11_look_43 rfl ?_
        refine g_goto aX11_look_44 ?_
        exact hJ
    · rw [if_neg hc5] at hE
      refine g_if_ne_f aX11_look_19 hc5 ?_
      refine g_iconst (x := (-1)) aX11_look_22 rfl ?_
      obtain ⟨rfl, rfl⟩ := i_some_inj hE
      exact g_iret aX11_look_23 rfl rfl
theorem aX8_readTest_0 : i_at mX8_readTest.2.2.2.2.2 0 = some (.iconst 0, 1, 0, 0, 0, 0) := by decide +kernel
theorem aX8_readTest_1 : i_at mX8_readTest.2.2.2.2.2 1 = some (.istore_n 2, 1, 0, 0, 0, 0) := by decide +kernel
theorem aX8_readTest_2 : i_at mX8_readTest.2.2.2.2.2 2 = some (.aload_n 0, 1, 0, 0, 0, 0) := by decide +kernel
theorem aX8_readTest_3 : i_at mX8_readTest.2.2.2.2.2 3 = some (.iload_n 1, 1, 0, 0, 0, 0) := by decide +kernel
theorem aX8_readTest_4 : i_at mX8_readTest.2.2.2.2.2 4 = some (.invokevirtual 103, 3, 68, 1, 696, 0) := by decide +kernel
theorem aX8_readTest_7 : i_at mX8_readTest.2.2.2.2.2 7 = some (.iconst 0, 1, 0, 0, 0, 0) := by decide +kernel
theorem aX8_readTest_8 : i_at mX8_readTest.2.2.2.2.2 8 = some (.istore_n 3, 1, 0, 0, 0, 0) := by decide +kernel
theorem aX8_readTest_9 : i_at mX8_readTest.2.2.2.2.2 9 = some (.iload_n 3, 1, 0, 0, 0, 0) := by decide +kernel
theorem aX8_readTest_10 : i_at mX8_readTest.2.2.2.2.2 10 = some (.sipush 400, 3, 0, 0, 0, 0) := by decide +kernel
theorem aX8_readTest_13 : i_at mX8_readTest.2.2.2.2.2 13 = some (.if_icmp .ge 76, 3, 89, 0, 0, 0) := by decide +kernel
theorem aX8_readTest_16 : i_at mX8_readTest.2.2.2.2.2 16 = some (.aload_n 0, 1, 0, 0, 0, 0) := by decide +kernel
theorem aX8_readTest_17 : i_at mX8_readTest.2.2.2.2.2 17 = some (.getfield 24, 3, 7, 0, 234, 0) := by decide +kernel
theorem aX8_readTest_20 : i_at mX8_readTest.2.2.2.2.2 20 = some (.getfield 65, 3, 8, 3, 135, 0) := by decide +kernel
theorem aX8_readTest_23 : i_at mX8_readTest.2.2.2.2.2 23 = some (.ifCond .ne 66, 3, 89, 0, 0, 0) := by decide +kernel
theorem aX8_readTest_26 : i_at mX8_readTest.2.2.2.2.2 26 = some (.aload_n 0, 1, 0, 0, 0, 0) := by decide +kernel
theorem aX8_readTest_27 : i_at mX8_readTest.2.2.2.2.2 27 = some (.getfield 24, 3, 7, 0, 234, 0) := by decide +kernel
theorem aX8_readTest_30 : i_at mX8_readTest.2.2.2.2.2 30 = some (.ldc 106, 2, 1, 5, 0, 0) := by decide +kernel
theorem aX8_readTest_32 : i_at mX8_readTest.2.2.2.2.2 32 = some (.invokevirtual 54, 3, 82, 1, 686, 0) := by decide +kernel
theorem aX8_readTest_35 : i_at mX8_readTest.2.2.2.2.2 35 = some (.ifCond .eq 18, 3, 53, 0, 0, 0) := by decide +kernel
theorem aX8_readTest_38 : i_at mX8_readTest.2.2.2.2.2 38 = some (.aload_n 0, 1, 0, 0, 0, 0) := by decide +kernel
theorem aX8_readTest_39 : i_at mX8_readTest.2.2.2.2.2 39 = some (.iload_n 1, 1, 0, 0, 0, 0) := by decide +kernel
theorem aX8_readTest_40 : i_at mX8_readTest.2.2.2.2.2 40 = some (.invokevirtual 103, 3, 68, 1, 696, 0) := by decide +kernel
theorem aX8_readTest_43 : i_at mX8_readTest.2.2.2.2.2 43 = some (.aload_n 0, 1, 0, 0, 0, 0) := by decide +kernel
theorem aX8_readTest_44 : i_at mX8_readTest.2.2.2.2.2 44 = some (.bipush 13, 2, 0, 0, 0, 0) := by decide +kernel
theorem aX8_readTest_46 : i_at mX8_readTest.2.2.2.2.2 46 = some (.iconst 0, 1, 0, 0, 0, 0) := by decide +kernel
theorem aX8_readTest_47 : i_at mX8_readTest.2.2.2.2.2 47 = some (.invokevirtual 108, 3, 73, 2, 677, 0) := by decide +kernel
theorem aX8_readTest_50 : i_at mX8_readTest.2.2.2.2.2 50 = some (.goto 33, 3, 83, 0, 0, 0) := by decide +kernel
theorem aX8_readTest_53 : i_at mX8_readTest.2.2.2.2.2 53 = some (.aload_n 0, 1, 0, 0, 0, 0) := by decide +kernel
theorem aX8_readTest_54 : i_at mX8_readTest.2.2.2.2.2 54 = some (.getfield 24, 3, 7, 0, 234, 0) := by decide +kernel
theorem aX8_readTest_57 : i_at mX8_readTest.2.2.2.2.2 57 = some (.ldc 111, 2, 1, 6, 0, 0) := by decide +kernel
theorem aX8_readTest_59 : i_at mX8_readTest.2.2.2.2.2 59 = some (.invokevirtual 54, 3, 82, 1, 686, 0) := by decide +kernel
theorem aX8_readTest_62 : i_at mX8_readTest.2.2.2.2.2 62 = some (.ifCond .eq 27, 3, 89, 0, 0, 0) := by decide +kernel
theorem aX8_readTest_65 : i_at mX8_readTest.2.2.2.2.2 65 = some (.iload_n 2, 1, 0, 0, 0, 0) := by decide +kernel
theorem aX8_readTest_66 : i_at mX8_readTest.2.2.2.2.2 66 = some (.ifCond .eq 10, 3, 76, 0, 0, 0) := by decide +kernel
theorem aX8_readTest_69 : i_at mX8_readTest.2.2.2.2.2 69 = some (.aload_n 0, 1, 0, 0, 0, 0) := by decide +kernel
theorem aX8_readTest_70 : i_at mX8_readTest.2.2.2.2.2 70 = some (.bipush 14, 2, 0, 0, 0, 0) := by decide +kernel
theorem aX8_readTest_72 : i_at mX8_readTest.2.2.2.2.2 72 = some (.iconst 0, 1, 0, 0, 0, 0) := by decide +kernel
theorem aX8_readTest_73 : i_at mX8_readTest.2.2.2.2.2 73 = some (.invokevirtual 108, 3, 73, 2, 677, 0) := by decide +kernel
theorem aX8_readTest_76 : i_at mX8_readTest.2.2.2.2.2 76 = some (.iconst 1, 1, 0, 0, 0, 0) := by decide +kernel
theorem aX8_readTest_77 : i_at mX8_readTest.2.2.2.2.2 77 = some (.istore_n 2, 1, 0, 0, 0, 0) := by decide +kernel
theorem aX8_readTest_78 : i_at mX8_readTest.2.2.2.2.2 78 = some (.aload_n 0, 1, 0, 0, 0, 0) := by decide +kernel
theorem aX8_readTest_79 : i_at mX8_readTest.2.2.2.2.2 79 = some (.iload_n 1, 1, 0, 0, 0, 0) := by decide +kernel
theorem aX8_readTest_80 : i_at mX8_readTest.2.2.2.2.2 80 = some (.invokevirtual 103, 3, 68, 1, 696, 0) := by decide +kernel
theorem aX8_readTest_83 : i_at mX8_readTest.2.2.2.2.2 83 = some (.iinc 3 1, 3, 0, 0, 0, 0) := by decide +kernel
theorem aX8_readTest_86 : i_at mX8_readTest.2.2.2.2.2 86 = some (.goto (-77), 3, 9, 0, 0, 0) := by decide +kernel
theorem aX8_readTest_89 : i_at mX8_readTest.2.2.2.2.2 89 = some (.iload_n 2, 1, 0, 0, 0, 0) := by decide +kernel
theorem aX8_readTest_90 : i_at mX8_readTest.2.2.2.2.2 90 = some (.ifCond .eq 10, 3, 100, 0, 0, 0) := by decide +kernel
theorem aX8_readTest_93 : i_at mX8_readTest.2.2.2.2.2 93 = some (.aload_n 0, 1, 0, 0, 0, 0) := by decide +kernel
theorem aX8_readTest_94 : i_at mX8_readTest.2.2.2.2.2 94 = some (.bipush 14, 2, 0, 0, 0, 0) := by decide +kernel
theorem aX8_readTest_96 : i_at mX8_readTest.2.2.2.2.2 96 = some (.iconst 0, 1, 0, 0, 0, 0) := by decide +kernel
theorem aX8_readTest_97 : i_at mX8_readTest.2.2.2.2.2 97 = some (.invokevirtual 108, 3, 73, 2, 677, 0) := by decide +kernel
theorem aX8_readTest_100 : i_at mX8_readTest.2.2.2.2.2 100 = some (.return_, 1, 0, 0, 0, 0) := by decide +kernel
noncomputable def fX8_readTest_J76 (sh : List kd) (rF : St → Int32 → Option (Unit × St)) (p1 : Int32) (x4 : Int32) (x5 : Int32) (k9 : Int32 → Int32 → St → Option (Unit × St)) (s121 : St) : Option (Unit × St) := i_bd (rF s121 p1) (fun r122 s123 => k9 1 (x5 + 1) s123)
noncomputable def fX8_readTest_L9 (sh : List kd) (rF : St → Int32 → Option (Unit × St)) (p1 : Int32) (k89 : Int32 → Int32 → St → Option (Unit × St)) : Nat → Int32 → Int32 → St → Option (Unit × St)
  | 0, _, _, _ => none
  | n60 + 1, x4, x5, s6 => if 400 ≤ x5 then k89 x4 x5 s6 else if ¬ (s6.1 1 3) = 0 then k89 x4 x5 s6 else i_bd (fX9_takeWord sh s6 5) (fun r63 s64 => if r63 = 0 then i_bd (fX9_takeWord sh s64 6) (fun r67 s68 => if r67 = 0 then k89 x4 x5 s68 else if x4 = 0 then fX8_readTest_J76 sh rF p1 x4 x5 (fX8_readTest_L9 sh rF p1 k89 n60) s68 else i_bd (fX8_write sh s68 14 0) (fun r126 s127 => fX8_readTest_J76 sh rF p1 x4 x5 (fX8_readTest_L9 sh rF p1 k89 n60) s127)) else i_bd (rF s64 p1) (fun r129 s130 => i_bd (fX8_write sh s130 13 0) (fun r132 s133 => (fX8_readTest_L9 sh rF p1 k89 n60 x4 (x5 + 1) s133))))
noncomputable def fX8_readTest_J100 (sh : List kd) (p1 : Int32) (x57 : Int32) (x58 : Int32) (s185 : St) : Option (Unit × St) := some ((), s185)
noncomputable def fX8_readTest_X89 (sh : List kd) (p1 : Int32) (x57 : Int32) (x58 : Int32) (s59 : St) : Option (Unit × St) := if x57 = 0 then fX8_readTest_J100 sh p1 x57 x58 s59 else i_bd (fX8_write sh s59 14 0) (fun r187 s188 => fX8_readTest_J100 sh p1 x57 x58 s188)
noncomputable def fX8_readTest_o (sh : List kd) (rF : St → Int32 → Option (Unit × St)) (σ : St) (p1 : Int32) : Option (Unit × St) := i_bd (rF σ p1) (fun r1 s2 => fX8_readTest_L9 sh rF p1 (fun (x57 : Int32) (x58 : Int32) (s59 : St) => fX8_readTest_X89 sh p1 x57 x58 s59) i_F 0 0 s2)
set_option maxRecDepth 20000 in
set_option maxHeartbeats 2000000 in
theorem tX8_readTest_J76 {sh : List kd} {τ : St} {r : Unit} (hsh : cSh sh) {d0 : Nat} (hd0 : 20 ≤ d0) {rF : St → Int32 → Option (Unit × St)} {p1 : Int32} {x4 : Int32} {x5 : Int32} {s121 : St} {k9 : Int32 → Int32 → St → Option (Unit × St)} (hrF : ∀ (σ τ : St) (p : Int32) (r : Unit), rF σ p = some (r, τ) → i_X d0 68 [.ref 10, .int p] (s_h sh σ) 0 0 none (s_h sh τ)) (hk9 : ∀ (x4 : Int32) (x5 : Int32) (s6 : St), k9 x4 x5 s6 = some (r, τ) → g_R sh d0 mX8_readTest none τ 9 [.ref 10, .int p1, .int x4, .int x5] [] (s6)) (hE : fX8_readTest_J76 sh rF p1 x4 x5 k9 s121 = some (r, τ)) : g_R sh d0 mX8_readTest none τ 76 [.ref 10, .int p1, .int x4, .int x5] [] (s121) := by
  unfold fX8_readTest_J76 at hE
  refine g_iconst (x := 1) aX8_readTest_76 rfl ?_
  refine g_stin (loc2 := [.ref 10, .int p1, .int 1, .int x5]) aX8_readTest_77 (Nat.le_of_ble_eq_true rfl) rfl ?_
  refine g_ldan aX8_readTest_78 rfl ?_
  refine g_ldin aX8_readTest_79 rfl ?_
  obtain ⟨r122, s123, h124, hE⟩ := i_bd_some hE
  refine g_calV (As := [.int p1]) (rest := []) aX8_readTest_80 (hrF _ _ _ _ h124) (sC_10 hsh) (by decide +kernel) rfl rfl (Nat.le_of_ble_eq_true rfl) rfl ?_
  refine g_iinc (y := 1) (loc2 := [.ref 10, .int p1, .int 1, .int (x5 + 1)]) aX8_readTest_83 rfl rfl rfl ?_
  refine g_goto aX8_readTest_86 ?_
  exact hk9 _ _ _ hE
set_option maxRecDepth 20000 in
set_option maxHeartbeats 2000000 in
theorem tX8_readTest_L9 {sh : List kd} {τ : St} {r : Unit} (hsh : cSh sh) {d0 : Nat} (hd0 : 20 ≤ d0) {rF : St → Int32 → Option (Unit × St)} {p1 : Int32} {k89 : Int32 → Int32 → St → Option (Unit × St)} (hrF : ∀ (σ τ : St) (p : Int32) (r : Unit), rF σ p = some (r, τ) → i_X d0 68 [.ref 10, .int p] (s_h sh σ) 0 0 none (s_h sh τ)) (hk89 : ∀ (x57 : Int32) (x58 : Int32) (s59 : St), k89 x57 x58 s59 = some (r, τ) → g_R sh d0 mX8_readTest none τ 89 [.ref 10, .int p1, .int x57, .int x58] [] (s59)) : ∀ (n0 : Nat) (x4 : Int32) (x5 : Int32) (s6 : St), fX8_readTest_L9 sh rF p1 k89 n0 x4 x5 s6 = some (r, τ) → g_R sh d0 mX8_readTest none τ 9 [.ref 10, .int p1, .int x4, .int x5] [] (s6) := by
  intro n0
  induction n0 with
  | zero => intro _ _ _ hE; cases hE
  | succ n60 ih =>
    intro x4 x5 s6 hE
    unfold fX8_readTest_L9 at hE
    refine g_ldin aX8_readTest_9 rfl ?_
    refine g_sipush (x := 400) aX8_readTest_10 rfl ?_
    by_cases hc61 : 400 ≤ x5
    · rw [if_pos hc61] at hE
      refine g_ic_ge_t aX8_readTest_13 hc61 ?_
      exact hk89 _ _ _ hE
    · rw [if_neg hc61] at hE
      refine g_ic_ge_f aX8_readTest_13 hc61 ?_
      refine g_ldan aX8_readTest_16 rfl ?_
      refine g_getR aX8_readTest_17 (sC_10 hsh) rfl ?_
      refine g_getI aX8_readTest_20 (sC_1 hsh) rfl ?_
      by_cases hc62 : ¬ (s6.1 1 3) = 0
      · rw [if_pos hc62] at hE
        refine g_if_ne_t aX8_readTest_23 hc62 ?_
        exact hk89 _ _ _ hE
      · rw [if_neg hc62] at hE
        refine g_if_ne_f aX8_readTest_23 hc62 ?_
        refine g_ldan aX8_readTest_26 rfl ?_
        refine g_getR aX8_readTest_27 (sC_10 hsh) rfl ?_
        refine g_ldcS aX8_readTest_30 rfl ?_
        obtain ⟨r63, s64, h65, hE⟩ := i_bd_some hE
        refine g_calV (As := [.ref (i_SB + 5)]) (rest := []) aX8_readTest_32 (i_X_mono (by omega) (tX9_takeWord hsh h65)) (sC_1 hsh) (by decide +kernel) rfl rfl (Nat.le_of_ble_eq_true rfl) rfl ?_
        by_cases hc66 : r63 = 0
        · rw [if_pos hc66] at hE
          refine g_if_eq_t aX8_readTest_35 hc66 ?_
          refine g_ldan aX8_readTest_53 rfl ?_
          refine g_getR aX8_readTest_54 (sC_10 hsh) rfl ?_
          refine g_ldcS aX8_readTest_57 rfl ?_
          obtain ⟨r67, s68, h69, hE⟩ := i_bd_some hE
          refine g_calV (As := [.ref (i_SB + 6)]) (rest := []) aX8_readTest_59 (i_X_mono (by omega) (tX9_takeWord hsh h69)) (sC_1 hsh) (by decide +kernel) rfl rfl (Nat.le_of_ble_eq_true rfl) rfl ?_
          by_cases hc70 : r67 = 0
          · rw [if_pos hc70] at hE
            refine g_if_eq_t aX8_readTest_62 hc70 ?_
            exact hk89 _ _ _ hE
          · rw [if_neg hc70] at hE
            refine g_if_eq_f aX8_readTest_62 hc70 ?_
            refine g_ldin aX8_readTest_65 rfl ?_
            by_cases hc125 : x4 = 0
            · rw [if_pos hc125] at hE
              refine g_if_eq_t aX8_readTest_66 hc125 ?_
              exact tX8_readTest_J76 hsh hd0 hrF ih hE
            · rw [if_neg hc125] at hE
              refine g_if_eq_f aX8_readTest_66 hc125 ?_
              refine g_ldan aX8_readTest_69 rfl ?_
              refine g_bipush (x := 14) aX8_readTest_70 rfl ?_
              refine g_iconst (x := 0) aX8_readTest_72 rfl ?_
              obtain ⟨r126, s127, h128, hE⟩ := i_bd_some hE
              refine g_calV (As := [.int 14, .int 0]) (rest := []) aX8_readTest_73 (i_X_mono (by omega) (tX8_write hsh h128)) (sC_10 hsh) (by decide +kernel) rfl rfl (Nat.le_of_ble_eq_true rfl) rfl ?_
              exact tX8_readTest_J76 hsh hd0 hrF ih hE
        · rw [if_neg hc66] at hE
          refine g_if_eq_f aX8_readTest_35 hc66 ?_
          refine g_ldan aX8_readTest_38 rfl ?_
          refine g_ldin aX8_readTest_39 rfl ?_
          obtain ⟨r129, s130, h131, hE⟩ := i_bd_some hE
          refine g_calV (As := [.int p1]) (rest := []) aX8_readTest_40 (hrF _ _ _ _ h131) (sC_10 hsh) (by decide +kernel) rfl rfl (Nat.le_of_ble_eq_true rfl) rfl ?_
          refine g_ldan aX8_readTest_43 rfl ?_
          refine g_bipush (x := 13) aX8_readTest_44 rfl ?_
          refine g_iconst (x := 0) aX8_readTest_46 rfl ?_
          obtain ⟨r132, s133, h134, hE⟩ := i_bd_some hE
          refine g_calV (As := [.int 13, .int 0]) (rest := []) aX8_readTest_47 (i_X_mono (by omega) (tX8_write hsh h134)) (sC_10 hsh) (by decide +kernel) rfl rfl (Nat.le_of_ble_eq_true rfl) rfl ?_
          refine g_goto aX8_readTest_50 ?_
          refine g_iinc (y := 1) (loc2 := [.ref 10, .int p1, .int x4, .int (x5 + 1)]) aX8_readTest_83 rfl rfl rfl ?_
          refine g_goto aX8_readTest_86 ?_
          exact ih _ _ _ hE
set_option maxRecDepth 20000 in
set_option maxHeartbeats 2000000 in
theorem tX8_readTest_J100 {sh : List kd} {τ : St} {r : Unit} (hsh : cSh sh) {d0 : Nat} (hd0 : 20 ≤ d0) {p1 : Int32} {x57 : Int32} {x58 : Int32} {s185 : St} (hE : fX8_readTest_J100 sh p1 x57 x58 s185 = some (r, τ)) : g_R sh d0 mX8_readTest none τ 100 [.ref 10, .int p1, .int x57, .int x58] [] (s185) := by
  unfold fX8_readTest_J100 at hE
  obtain ⟨rfl, rfl⟩ := i_some_inj hE
  exact g_vret aX8_readTest_100 rfl
set_option maxRecDepth 20000 in
set_option maxHeartbeats 2000000 in
theorem tX8_readTest_X89 {sh : List kd} {τ : St} {r : Unit} (hsh : cSh sh) {d0 : Nat} (hd0 : 20 ≤ d0) {p1 : Int32} {x57 : Int32} {x58 : Int32} {s59 : St} (hE : fX8_readTest_X89 sh p1 x57 x58 s59 = some (r, τ)) : g_R sh d0 mX8_readTest none τ 89 [.ref 10, .int p1, .int x57, .int x58] [] (s59) := by
  unfold fX8_readTest_X89 at hE
  refine g_ldin aX8_readTest_89 rfl ?_
  by_cases hc186 : x57 = 0
  · rw [if_pos hc186] at hE
    refine g_if_eq_t aX8_readTest_90 hc186 ?_
    exact tX8_readTest_J100 hsh hd0 hE
  · rw [if_neg hc186] at hE
    refine g_if_eq_f aX8_readTest_90 hc186 ?_
    refine g_ldan aX8_readTest_93 rfl ?_
    refine g_bipush (x := 14) aX8_readTest_94 rfl ?_
    refine g_iconst (x := 0) aX8_readTest_96 rfl ?_
    obtain ⟨r187, s188, h189, hE⟩ := i_bd_some hE
    refine g_calV (As := [.int 14, .int 0]) (rest := []) aX8_readTest_97 (i_X_mono (by omega) (tX8_write hsh h189)) (sC_10 hsh) (by decide +kernel) rfl rfl (Nat.le_of_ble_eq_true rfl) rfl ?_
    exact tX8_readTest_J100 hsh hd0 hE
set_option maxRecDepth 20000 in
set_option maxHeartbeats 2000000 in
theorem tX8_readTest_o {sh : List kd} {σ τ : St} {r : Unit} (hsh : cSh sh) {d0 : Nat} (hd0 : 20 ≤ d0) {rF : St → Int32 → Option (Unit × St)} (hrF : ∀ (σ τ : St) (p : Int32) (r : Unit), rF σ p = some (r, τ) → i_X d0 68 [.ref 10, .int p] (s_h sh σ) 0 0 none (s_h sh τ)) {p1 : Int32} (hE : fX8_readTest_o sh rF σ p1 = some (r, τ)) : i_X (d0 + 1) 67 [.ref 10, .int p1] (s_h sh σ) 0 0 none (s_h sh τ) := by
  refine g_X (M := mX8_readTest) (loc := [.ref 10, .int p1, .retAddr 0, .retAddr 0]) rfl (Nat.le_of_ble_eq_true rfl) rfl ?_
  unfold fX8_readTest_o at hE
  refine g_iconst (x := 0) aX8_readTest_0 rfl ?_
  refine g_stin (loc2 := [.ref 10, .int p1, .int 0, .retAddr 0]) aX8_readTest_1 (Nat.le_of_ble_eq_true rfl) rfl ?_
  refine g_ldan aX8_readTest_2 rfl ?_
  refine g_ldin aX8_readTest_3 rfl ?_
  obtain ⟨r1, s2, h3, hE⟩ := i_bd_some hE
  refine g_calV (As := [.int p1]) (rest := []) aX8_readTest_4 (hrF _ _ _ _ h3) (sC_10 hsh) (by decide +kernel) rfl rfl (Nat.le_of_ble_eq_true rfl) rfl ?_
  refine g_iconst (x := 0) aX8_readTest_7 rfl ?_
  refine g_stin (loc2 := [.ref 10, .int p1, .int 0, .int 0]) aX8_readTest_8 (Nat.le_of_ble_eq_true rfl) rfl ?_
  exact tX8_readTest_L9 hsh hd0 hrF (fun x57 x58 s59 hE => tX8_readTest_X89 hsh hd0 hE) i_F _ _ _ hE
/-- a FACT, n deep at most -/
noncomputable def rdF (sh : List kd) : Nat → St → Int32 → Option (Unit × St)
  | 0, _, _ => none
  | n + 1, σ, p => fX8_readFact_o sh (fun σ p => fX8_readTest_o sh (rdF sh n) σ p) (rdF sh n) σ p
set_option maxRecDepth 20000 in
set_option maxHeartbeats 2000000 in
theorem t_rdF {sh : List kd} (hsh : cSh sh) : ∀ (n : Nat) (σ τ : St) (p : Int32) (r : Unit), rdF sh n σ p = some (r, τ) → i_X (21 + 2 * n) 68 [.ref 10, .int p] (s_h sh σ) 0 0 none (s_h sh τ)
  | 0, _, _, _, _, h => by cases h
  | n + 1, σ, τ, p, r, h => by
    have ih := t_rdF hsh n
    have h2 := tX8_readFact_o hsh (d0 := 22 + 2 * n) (by omega) (rT := fun σ p => fX8_readTest_o sh (rdF sh n) σ p) (fun σ τ p r h => i_X_mono (by omega) (tX8_readTest_o hsh (d0 := 21 + 2 * n) (by omega) ih h)) (rF := rdF sh n) (fun σ τ p r h => i_X_mono (by omega) (ih σ τ p r h)) h
    exact i_X_mono (by omega) h2
noncomputable def fX8_readTest (sh : List kd) (σ : St) (p1 : Int32) : Option (Unit × St) := fX8_readTest_o sh (rdF sh 12) σ p1
set_option maxRecDepth 20000 in
set_option maxHeartbeats 2000000 in
theorem tX8_readTest {sh : List kd} {σ τ : St} {r : Unit} (hsh : cSh sh) {p1 : Int32} (hE : fX8_readTest sh σ p1 = some (r, τ)) : i_X 46 67 [.ref 10, .int p1] (s_h sh σ) 0 0 none (s_h sh τ) := tX8_readTest_o hsh (d0 := 45) (by omega) (t_rdF hsh 12) hE
theorem aX8_read_0 : i_at mX8_read.2.2.2.2.2 0 = some (.aload_n 0, 1, 0, 0, 0, 0) := by decide +kernel
theorem aX8_read_1 : i_at mX8_read.2.2.2.2.2 1 = some (.getfield 24, 3, 7, 0, 234, 0) := by decide +kernel
theorem aX8_read_4 : i_at mX8_read.2.2.2.2.2 4 = some (.invokevirtual 28, 3, 76, 0, 652, 0) := by decide +kernel
theorem aX8_read_7 : i_at mX8_read.2.2.2.2.2 7 = some (.aload_n 0, 1, 0, 0, 0, 0) := by decide +kernel
theorem aX8_read_8 : i_at mX8_read.2.2.2.2.2 8 = some (.iconst 0, 1, 0, 0, 0, 0) := by decide +kernel
theorem aX8_read_9 : i_at mX8_read.2.2.2.2.2 9 = some (.putfield 33, 3, 7, 5, 239, 0) := by decide +kernel
theorem aX8_read_12 : i_at mX8_read.2.2.2.2.2 12 = some (.aload_n 0, 1, 0, 0, 0, 0) := by decide +kernel
theorem aX8_read_13 : i_at mX8_read.2.2.2.2.2 13 = some (.iconst 0, 1, 0, 0, 0, 0) := by decide +kernel
theorem aX8_read_14 : i_at mX8_read.2.2.2.2.2 14 = some (.putfield 37, 3, 7, 6, 240, 0) := by decide +kernel
theorem aX8_read_17 : i_at mX8_read.2.2.2.2.2 17 = some (.aload_n 0, 1, 0, 0, 0, 0) := by decide +kernel
theorem aX8_read_18 : i_at mX8_read.2.2.2.2.2 18 = some (.iconst 0, 1, 0, 0, 0, 0) := by decide +kernel
theorem aX8_read_19 : i_at mX8_read.2.2.2.2.2 19 = some (.putfield 40, 3, 7, 7, 241, 0) := by decide +kernel
theorem aX8_read_22 : i_at mX8_read.2.2.2.2.2 22 = some (.iconst 0, 1, 0, 0, 0, 0) := by decide +kernel
theorem aX8_read_23 : i_at mX8_read.2.2.2.2.2 23 = some (.istore_n 1, 1, 0, 0, 0, 0) := by decide +kernel
theorem aX8_read_24 : i_at mX8_read.2.2.2.2.2 24 = some (.iload_n 1, 1, 0, 0, 0, 0) := by decide +kernel
theorem aX8_read_25 : i_at mX8_read.2.2.2.2.2 25 = some (.bipush 12, 2, 0, 0, 0, 0) := by decide +kernel
theorem aX8_read_27 : i_at mX8_read.2.2.2.2.2 27 = some (.if_icmp .gt 96, 3, 123, 0, 0, 0) := by decide +kernel
theorem aX8_read_30 : i_at mX8_read.2.2.2.2.2 30 = some (.aload_n 0, 1, 0, 0, 0, 0) := by decide +kernel
theorem aX8_read_31 : i_at mX8_read.2.2.2.2.2 31 = some (.invokevirtual 43, 3, 64, 0, 653, 0) := by decide +kernel
theorem aX8_read_34 : i_at mX8_read.2.2.2.2.2 34 = some (.aload_n 0, 1, 0, 0, 0, 0) := by decide +kernel
theorem aX8_read_35 : i_at mX8_read.2.2.2.2.2 35 = some (.invokevirtual 46, 3, 70, 0, 661, 0) := by decide +kernel
theorem aX8_read_38 : i_at mX8_read.2.2.2.2.2 38 = some (.aload_n 0, 1, 0, 0, 0, 0) := by decide +kernel
theorem aX8_read_39 : i_at mX8_read.2.2.2.2.2 39 = some (.invokevirtual 49, 3, 65, 0, 681, 0) := by decide +kernel
theorem aX8_read_42 : i_at mX8_read.2.2.2.2.2 42 = some (.aload_n 0, 1, 0, 0, 0, 0) := by decide +kernel
theorem aX8_read_43 : i_at mX8_read.2.2.2.2.2 43 = some (.getfield 24, 3, 7, 0, 234, 0) := by decide +kernel
theorem aX8_read_46 : i_at mX8_read.2.2.2.2.2 46 = some (.ldc 52, 2, 1, 3, 0, 0) := by decide +kernel
theorem aX8_read_48 : i_at mX8_read.2.2.2.2.2 48 = some (.invokevirtual 54, 3, 82, 1, 686, 0) := by decide +kernel
theorem aX8_read_51 : i_at mX8_read.2.2.2.2.2 51 = some (.ifCond .eq 8, 3, 59, 0, 0, 0) := by decide +kernel
theorem aX8_read_54 : i_at mX8_read.2.2.2.2.2 54 = some (.aload_n 0, 1, 0, 0, 0, 0) := by decide +kernel
theorem aX8_read_55 : i_at mX8_read.2.2.2.2.2 55 = some (.iconst 0, 1, 0, 0, 0, 0) := by decide +kernel
theorem aX8_read_56 : i_at mX8_read.2.2.2.2.2 56 = some (.invokevirtual 58, 3, 67, 1, 692, 0) := by decide +kernel
theorem aX8_read_59 : i_at mX8_read.2.2.2.2.2 59 = some (.aload_n 0, 1, 0, 0, 0, 0) := by decide +kernel
theorem aX8_read_60 : i_at mX8_read.2.2.2.2.2 60 = some (.invokevirtual 62, 3, 66, 0, 708, 0) := by decide +kernel
theorem aX8_read_63 : i_at mX8_read.2.2.2.2.2 63 = some (.aload_n 0, 1, 0, 0, 0, 0) := by decide +kernel
theorem aX8_read_64 : i_at mX8_read.2.2.2.2.2 64 = some (.getfield 24, 3, 7, 0, 234, 0) := by decide +kernel
theorem aX8_read_67 : i_at mX8_read.2.2.2.2.2 67 = some (.getfield 65, 3, 8, 3, 135, 0) := by decide +kernel
theorem aX8_read_70 : i_at mX8_read.2.2.2.2.2 70 = some (.ifCond .ne 53, 3, 123, 0, 0, 0) := by decide +kernel
theorem aX8_read_73 : i_at mX8_read.2.2.2.2.2 73 = some (.aload_n 0, 1, 0, 0, 0, 0) := by decide +kernel
theorem aX8_read_74 : i_at mX8_read.2.2.2.2.2 74 = some (.getfield 24, 3, 7, 0, 234, 0) := by decide +kernel
theorem aX8_read_77 : i_at mX8_read.2.2.2.2.2 77 = some (.invokevirtual 68, 3, 78, 0, 669, 0) := by decide +kernel
theorem aX8_read_80 : i_at mX8_read.2.2.2.2.2 80 = some (.iconst (-1), 1, 0, 0, 0, 0) := by decide +kernel
theorem aX8_read_81 : i_at mX8_read.2.2.2.2.2 81 = some (.if_icmp .ne 6, 3, 87, 0, 0, 0) := by decide +kernel
theorem aX8_read_84 : i_at mX8_read.2.2.2.2.2 84 = some (.goto 39, 3, 123, 0, 0, 0) := by decide +kernel
theorem aX8_read_87 : i_at mX8_read.2.2.2.2.2 87 = some (.aload_n 0, 1, 0, 0, 0, 0) := by decide +kernel
theorem aX8_read_88 : i_at mX8_read.2.2.2.2.2 88 = some (.getfield 24, 3, 7, 0, 234, 0) := by decide +kernel
theorem aX8_read_91 : i_at mX8_read.2.2.2.2.2 91 = some (.bipush 59, 2, 0, 0, 0, 0) := by decide +kernel
theorem aX8_read_93 : i_at mX8_read.2.2.2.2.2 93 = some (.invokevirtual 72, 3, 79, 1, 705, 0) := by decide +kernel
theorem aX8_read_96 : i_at mX8_read.2.2.2.2.2 96 = some (.ifCond .ne 21, 3, 117, 0, 0, 0) := by decide +kernel
theorem aX8_read_99 : i_at mX8_read.2.2.2.2.2 99 = some (.aload_n 0, 1, 0, 0, 0, 0) := by decide +kernel
theorem aX8_read_100 : i_at mX8_read.2.2.2.2.2 100 = some (.getfield 24, 3, 7, 0, 234, 0) := by decide +kernel
theorem aX8_read_103 : i_at mX8_read.2.2.2.2.2 103 = some (.aload_n 0, 1, 0, 0, 0, 0) := by decide +kernel
theorem aX8_read_104 : i_at mX8_read.2.2.2.2.2 104 = some (.getfield 24, 3, 7, 0, 234, 0) := by decide +kernel
theorem aX8_read_107 : i_at mX8_read.2.2.2.2.2 107 = some (.getfield 76, 3, 8, 2, 132, 0) := by decide +kernel
theorem aX8_read_110 : i_at mX8_read.2.2.2.2.2 110 = some (.iconst 0, 1, 0, 0, 0, 0) := by decide +kernel
theorem aX8_read_111 : i_at mX8_read.2.2.2.2.2 111 = some (.invokevirtual 79, 3, 77, 2, 659, 0) := by decide +kernel
theorem aX8_read_114 : i_at mX8_read.2.2.2.2.2 114 = some (.goto 9, 3, 123, 0, 0, 0) := by decide +kernel
theorem aX8_read_117 : i_at mX8_read.2.2.2.2.2 117 = some (.iinc 1 1, 3, 0, 0, 0, 0) := by decide +kernel
theorem aX8_read_120 : i_at mX8_read.2.2.2.2.2 120 = some (.goto (-96), 3, 24, 0, 0, 0) := by decide +kernel
theorem aX8_read_123 : i_at mX8_read.2.2.2.2.2 123 = some (.aload_n 0, 1, 0, 0, 0, 0) := by decide +kernel
theorem aX8_read_124 : i_at mX8_read.2.2.2.2.2 124 = some (.getfield 24, 3, 7, 0, 234, 0) := by decide +kernel
theorem aX8_read_127 : i_at mX8_read.2.2.2.2.2 127 = some (.getfield 65, 3, 8, 3, 135, 0) := by decide +kernel
theorem aX8_read_130 : i_at mX8_read.2.2.2.2.2 130 = some (.ireturn, 1, 0, 0, 0, 0) := by decide +kernel
noncomputable def fX8_read_J59 (sh : List kd) (x4 : Int32) (k84 : Int32 → St → Option (Int32 × St)) (k99 : Int32 → St → Option (Int32 × St)) (k123 : Int32 → St → Option (Int32 × St)) (k24 : Int32 → St → Option (Int32 × St)) (s226 : St) : Option (Int32 × St) := i_bd (fX8_closeClause sh s226) (fun r227 s228 => if ¬ (s228.1 1 3) = 0 then k123 x4 s228 else i_bd (fX9_sign sh s228) (fun r231 s232 => if ¬ r231 = (-1) then i_bd (fX9_takeSign sh s232 59) (fun r235 s236 => if ¬ r235 = 0 then k24 (x4 + 1) s236 else k99 x4 s236) else k84 x4 s232))
noncomputable def fX8_read_L24 (sh : List kd) (k84 : Int32 → St → Option (Int32 × St)) (k99 : Int32 → St → Option (Int32 × St)) (k123 : Int32 → St → Option (Int32 × St)) : Nat → Int32 → St → Option (Int32 × St)
  | 0, _, _ => none
  | n162 + 1, x4, s5 => if 12 < x4 then k123 x4 s5 else i_bd (fX8_openClause sh s5) (fun r164 s165 => i_bd (fX8_readSum sh s165) (fun r167 s168 => i_bd (fX8_closeSum sh s168) (fun r170 s171 => i_bd (fX9_takeWord sh s171 3) (fun r173 s174 => if r173 = 0 then fX8_read_J59 sh x4 k84 k99 k123 (fX8_read_L24 sh k84 k99 k123 n162) s174 else i_bd (fX8_readTest sh s174 0) (fun r240 s241 => fX8_read_J59 sh x4 k84 k99 k123 (fX8_read_L24 sh k84 k99 k123 n162) s241)))))
noncomputable def fX8_read_X84 (sh : List kd) (x56 : Int32) (s57 : St) : Option (Int32 × St) := some ((s57.1 1 3), s57)
noncomputable def fX8_read_X99 (sh : List kd) (x108 : Int32) (s109 : St) : Option (Int32 × St) := i_bd (fX9_refuse sh s109 (s109.1 1 2) 0) (fun r243 s244 => some ((s244.1 1 3), s244))
noncomputable def fX8_read_X123 (sh : List kd) (x160 : Int32) (s161 : St) : Option (Int32 × St) := some ((s161.1 1 3), s161)
noncomputable def fX8_read (sh : List kd) (σ : St) : Option (Int32 × St) := i_bd (fX9_rewind sh σ) (fun r1 s2 => fX8_read_L24 sh (fun (x56 : Int32) (s57 : St) => fX8_read_X84 sh x56 s57) (fun (x108 : Int32) (s109 : St) => fX8_read_X99 sh x108 s109) (fun (x160 : Int32) (s161 : St) => fX8_read_X123 sh x160 s161) i_F 0 (s_F (s_F (s_F s2 10 5 0) 10 6 0) 10 7 0))
set_option maxRecDepth 20000 in
set_option maxHeartbeats 2000000 in
theorem tX8_read_J59 {sh : List kd} {τ : St} {r : Int32} (hsh : cSh sh) {x4 : Int32} {s226 : St} {k84 : Int32 → St → Option (Int32 × St)} {k99 : Int32 → St → Option (Int32 × St)} {k123 : Int32 → St → Option (Int32 × St)} {k24 : Int32 → St → Option (Int32 × St)} (hk84 : ∀ (x56 : Int32) (s57 : St), k84 x56 s57 = some (r, τ) → g_R sh 46 mX8_read (some (.int r)) τ 84 [.ref 10, .int x56] [] (s57)) (hk99 : ∀ (x108 : Int32) (s109 : St), k99 x108 s109 = some (r, τ) → g_R sh 46 mX8_read (some (.int r)) τ 99 [.ref 10, .int x108] [] (s109)) (hk123 : ∀ (x160 : Int32) (s161 : St), k123 x160 s161 = some (r, τ) → g_R sh 46 mX8_read (some (.int r)) τ 123 [.ref 10, .int x160] [] (s161)) (hk24 : ∀ (x4 : Int32) (s5 : St), k24 x4 s5 = some (r, τ) → g_R sh 46 mX8_read (some (.int r)) τ 24 [.ref 10, .int x4] [] (s5)) (hE : fX8_read_J59 sh x4 k84 k99 k123 k24 s226 = some (r, τ)) : g_R sh 46 mX8_read (some (.int r)) τ 59 [.ref 10, .int x4] [] (s226) := by
  unfold fX8_read_J59 at hE
  refine g_ldan aX8_read_59 rfl ?_
  obtain ⟨r227, s228, h229, hE⟩ := i_bd_some hE
  refine g_calV (As := []) (rest := []) aX8_read_60 (i_X_mono (by omega) (tX8_closeClause hsh h229)) (sC_10 hsh) (by decide +kernel) rfl rfl (Nat.le_of_ble_eq_true rfl) rfl ?_
  refine g_ldan aX8_read_63 rfl ?_
  refine g_getR aX8_read_64 (sC_10 hsh) rfl ?_
  refine g_getI aX8_read_67 (sC_1 hsh) rfl ?_
  by_cases hc230 : ¬ (s228.1 1 3) = 0
  · rw [if_pos hc230] at hE
    refine g_if_ne_t aX8_read_70 hc230 ?_
    exact hk123 _ _ hE
  · rw [if_neg hc230] at hE
    refine g_if_ne_f aX8_read_70 hc230 ?_
    refine g_ldan aX8_read_73 rfl ?_
    refine g_getR aX8_read_74 (sC_10 hsh) rfl ?_
    obtain ⟨r231, s232, h233, hE⟩ := i_bd_some hE
    refine g_calV (As := []) (rest := []) aX8_read_77 (i_X_mono (by omega) (tX9_sign hsh h233)) (sC_1 hsh) (by decide +kernel) rfl rfl (Nat.le_of_ble_eq_true rfl) rfl ?_
    refine g_iconst (x := (-1)) aX8_read_80 rfl ?_
    by_cases hc234 : ¬ r231 = (-1)
    · rw [if_pos hc234] at hE
      refine g_ic_ne_t aX8_read_81 hc234 ?_
      refine g_ldan aX8_read_87 rfl ?_
      refine g_getR aX8_read_88 (sC_10 hsh) rfl ?_
      refine g_bipush (x := 59) aX8_read_91 rfl ?_
      obtain ⟨r235, s236, h237, hE⟩ := i_bd_some hE
      refine g_calV (As := [.int 59]) (rest := []) aX8_read_93 (i_X_mono (by omega) (tX9_takeSign hsh h237)) (sC_1 hsh) (by decide +kernel) rfl rfl (Nat.le_of_ble_eq_true rfl) rfl ?_
      by_cases hc238 : ¬ r235 = 0
      · rw [if_pos hc238] at hE
        refine g_if_ne_t aX8_read_96 hc238 ?_
        refine g_iinc (y := 1) (loc2 := [.ref 10, .int (x4 + 1)]) aX8_read_117 rfl rfl rfl ?_
        refine g_goto aX8_read_120 ?_
        exact hk24 _ _ hE
      · rw [if_neg hc238] at hE
        refine g_if_ne_f aX8_read_96 hc238 ?_
        exact hk99 _ _ hE
    · rw [if_neg hc234] at hE
      refine g_ic_ne_f aX8_read_81 hc234 ?_
      exact hk84 _ _ hE
set_option maxRecDepth 20000 in
set_option maxHeartbeats 2000000 in
theorem tX8_read_L24 {sh : List kd} {τ : St} {r : Int32} (hsh : cSh sh) {k84 : Int32 → St → Option (Int32 × St)} {k99 : Int32 → St → Option (Int32 × St)} {k123 : Int32 → St → Option (Int32 × St)} (hk84 : ∀ (x56 : Int32) (s57 : St), k84 x56 s57 = some (r, τ) → g_R sh 46 mX8_read (some (.int r)) τ 84 [.ref 10, .int x56] [] (s57)) (hk99 : ∀ (x108 : Int32) (s109 : St), k99 x108 s109 = some (r, τ) → g_R sh 46 mX8_read (some (.int r)) τ 99 [.ref 10, .int x108] [] (s109)) (hk123 : ∀ (x160 : Int32) (s161 : St), k123 x160 s161 = some (r, τ) → g_R sh 46 mX8_read (some (.int r)) τ 123 [.ref 10, .int x160] [] (s161)) : ∀ (n0 : Nat) (x4 : Int32) (s5 : St), fX8_read_L24 sh k84 k99 k123 n0 x4 s5 = some (r, τ) → g_R sh 46 mX8_read (some (.int r)) τ 24 [.ref 10, .int x4] [] (s5) := by
  intro n0
  induction n0 with
  | zero => intro _ _ hE; cases hE
  | succ n162 ih =>
    intro x4 s5 hE
    unfold fX8_read_L24 at hE
    refine g_ldin aX8_read_24 rfl ?_
    refine g_bipush (x := 12) aX8_read_25 rfl ?_
    by_cases hc163 : 12 < x4
    · rw [if_pos hc163] at hE
      refine g_ic_gt_t aX8_read_27 hc163 ?_
      exact hk123 _ _ hE
    · rw [if_neg hc163] at hE
      refine g_ic_gt_f aX8_read_27 hc163 ?_
      refine g_ldan aX8_read_30 rfl ?_
      obtain ⟨r164, s165, h166, hE⟩ := i_bd_some hE
      refine g_calV (As := []) (rest := []) aX8_read_31 (i_X_mono (by omega) (tX8_openClause hsh h166)) (sC_10 hsh) (by decide +kernel) rfl rfl (Nat.le_of_ble_eq_true rfl) rfl ?_
      refine g_ldan aX8_read_34 rfl ?_
      obtain ⟨r167, s168, h169, hE⟩ := i_bd_some hE
      refine g_calV (As := []) (rest := []) aX8_read_35 (i_X_mono (by omega) (tX8_readSum hsh h169)) (sC_10 hsh) (by decide +kernel) rfl rfl (Nat.le_of_ble_eq_true rfl) rfl ?_
      refine g_ldan aX8_read_38 rfl ?_
      obtain ⟨r170, s171, h172, hE⟩ := i_bd_some hE
      refine g_calV (As := []) (rest := []) aX8_read_39 (i_X_mono (by omega) (tX8_closeSum hsh h172)) (sC_10 hsh) (by decide +kernel) rfl rfl (Nat.le_of_ble_eq_true rfl) rfl ?_
      refine g_ldan aX8_read_42 rfl ?_
      refine g_getR aX8_read_43 (sC_10 hsh) rfl ?_
      refine g_ldcS aX8_read_46 rfl ?_
      obtain ⟨r173, s174, h175, hE⟩ := i_bd_some hE
      refine g_calV (As := [.ref (i_SB + 3)]) (rest := []) aX8_read_48 (i_X_mono (by omega) (tX9_takeWord hsh h175)) (sC_1 hsh) (by decide +kernel) rfl rfl (Nat.le_of_ble_eq_true rfl) rfl ?_
      by_cases hc239 : r173 = 0
      · rw [if_pos hc239] at hE
        refine g_if_eq_t aX8_read_51 hc239 ?_
        exact tX8_read_J59 hsh hk84 hk99 hk123 ih hE
      · rw [if_neg hc239] at hE
        refine g_if_eq_f aX8_read_51 hc239 ?_
        refine g_ldan aX8_read_54 rfl ?_
        refine g_iconst (x := 0) aX8_read_55 rfl ?_
        obtain ⟨r240, s241, h242, hE⟩ := i_bd_some hE
        refine g_calV (As := [.int 0]) (rest := []) aX8_read_56 (i_X_mono (by omega) (tX8_readTest hsh h242)) (sC_10 hsh) (by decide +kernel) rfl rfl (Nat.le_of_ble_eq_true rfl) rfl ?_
        exact tX8_read_J59 hsh hk84 hk99 hk123 ih hE
set_option maxRecDepth 20000 in
set_option maxHeartbeats 2000000 in
theorem tX8_read_X84 {sh : List kd} {τ : St} {r : Int32} (hsh : cSh sh) {x56 : Int32} {s57 : St} (hE : fX8_read_X84 sh x56 s57 = some (r, τ)) : g_R sh 46 mX8_read (some (.int r)) τ 84 [.ref 10, .int x56] [] (s57) := by
  unfold fX8_read_X84 at hE
  refine g_goto aX8_read_84 ?_
  refine g_ldan aX8_read_123 rfl ?_
  refine g_getR aX8_read_124 (sC_10 hsh) rfl ?_
  refine g_getI aX8_read_127 (sC_1 hsh) rfl ?_
  obtain ⟨rfl, rfl⟩ := i_some_inj hE
  exact g_iret aX8_read_130 rfl rfl
set_option maxRecDepth 20000 in
set_option maxHeartbeats 2000000 in
theorem tX8_read_X99 {sh : List kd} {τ : St} {r : Int32} (hsh : cSh sh) {x108 : Int32} {s109 : St} (hE : fX8_read_X99 sh x108 s109 = some (r, τ)) : g_R sh 46 mX8_read (some (.int r)) τ 99 [.ref 10, .int x108] [] (s109) := by
  unfold fX8_read_X99 at hE
  refine g_ldan aX8_read_99 rfl ?_
  refine g_getR aX8_read_100 (sC_10 hsh) rfl ?_
  refine g_ldan aX8_read_103 rfl ?_
  refine g_getR aX8_read_104 (sC_10 hsh) rfl ?_
  refine g_getI aX8_read_107 (sC_1 hsh) rfl ?_
  refine g_iconst (x := 0) aX8_read_110 rfl ?_
  obtain ⟨r243, s244, h245, hE⟩ := i_bd_some hE
  refine g_calV (As := [.int (s109.1 1 2), .int 0]) (rest := []) aX8_read_111 (i_X_mono (by omega) (tX9_refuse hsh h245)) (sC_1 hsh) (by decide +kernel) rfl rfl (Nat.le_of_ble_eq_true rfl) rfl ?_
  refine g_goto aX8_read_114 ?_
  refine g_ldan aX8_read_123 rfl ?_
  refine g_getR aX8_read_124 (sC_10 hsh) rfl ?_
  refine g_getI aX8_read_127 (sC_1 hsh) rfl ?_
  obtain ⟨rfl, rfl⟩ := i_some_inj hE
  exact g_iret aX8_read_130 rfl rfl
set_option maxRecDepth 20000 in
set_option maxHeartbeats 2000000 in
theorem tX8_read_X123 {sh : List kd} {τ : St} {r : Int32} (hsh : cSh sh) {x160 : Int32} {s161 : St} (hE : fX8_read_X123 sh x160 s161 = some (r, τ)) : g_R sh 46 mX8_read (some (.int r)) τ 123 [.ref 10, .int x160] [] (s161) := by
  unfold fX8_read_X123 at hE
  refine g_ldan aX8_read_123 rfl ?_
  refine g_getR aX8_read_124 (sC_10 hsh) rfl ?_
  refine g_getI aX8_read_127 (sC_1 hsh) rfl ?_
  obtain ⟨rfl, rfl⟩ := i_some_inj hE
  exact g_iret aX8_read_130 rfl rfl
set_option maxRecDepth 20000 in
set_option maxHeartbeats 2000000 in
theorem tX8_read {sh : List kd} {σ τ : St} {r : Int32} (hsh : cSh sh) (hE : fX8_read sh σ = some (r, τ)) : i_X 47 62 [.ref 10] (s_h sh σ) 0 0 (some (.int r)) (s_h sh τ) := by
  refine g_X (M := mX8_read) (loc := [.ref 10, .retAddr 0]) rfl (Nat.le_of_ble_eq_true rfl) rfl ?_
  unfold fX8_read at hE
  refine g_ldan aX8_read_0 rfl ?_
  refine g_getR aX8_read_1 (sC_10 hsh) rfl ?_
  obtain ⟨r1, s2, h3, hE⟩ := i_bd_some hE
  refine g_calV (As := []) (rest := []) aX8_read_4 (i_X_mono (by omega) (tX9_rewind hsh h3)) (sC_1 hsh) (by decide +kernel) rfl rfl (Nat.le_of_ble_eq_true rfl) rfl ?_
  refine g_ldan aX8_read_7 rfl ?_
  refine g_iconst (x := 0) aX8_read_8 rfl ?_
  refine g_putI aX8_read_9 (sC_10 hsh) rfl rfl ?_
  refine g_ldan aX8_read_12 rfl ?_
  refine g_iconst (x := 0) aX8_read_13 rfl ?_
  refine g_putI aX8_read_14 (sC_10 hsh) rfl rfl ?_
  refine g_ldan aX8_read_17 rfl ?_
  refine g_iconst (x := 0) aX8_read_18 rfl ?_
  refine g_putI aX8_read_19 (sC_10 hsh) rfl rfl ?_
  refine g_iconst (x := 0) aX8_read_22 rfl ?_
  refine g_stin (loc2 := [.ref 10, .int 0]) aX8_read_23 (Nat.le_of_ble_eq_true rfl) rfl ?_
  exact tX8_read_L24 hsh (fun x56 s57 hE => tX8_read_X84 hsh hE) (fun x108 s109 hE => tX8_read_X99 hsh hE) (fun x160 s161 hE => tX8_read_X123 hsh hE) i_F _ _ hE
