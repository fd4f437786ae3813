/-! ===== String's length and charAt of a constant ===== -/
theorem i_goodOf {Ts ws : List Cond} (hT : ∀ w ∈ i_tb, w ∈ Ts) (h : ∀ w ∈ ws, w ∈ i_tb) : GoodIn Ts ws := fun w hw => ⟨hT w (h w hw), good_of_word (List.mem_filter.mp (h w hw)).2⟩
theorem i_gV {own C : String} {ix : Nat} {y : MethodName} {cw : Cond} (h1 : Cond.methodLink own ix y ∈ i_tb) (h2 : Cond.instanceMethod y ∈ i_tb) (h3 : Cond.selects C y y ∈ i_tb) (h4 : Cond.initialized C ∈ i_tb) (h5 : cw ∈ i_tb) : GoodIn i_tb (wsV own ix C y (cw :: i_tb)) := by
  refine i_goodOf (fun _ h => h) (fun w hw => ?_)
  simp only [wsV, List.cons_append, List.nil_append, List.mem_cons] at hw
  rcases hw with rfl | rfl | rfl | rfl | rfl | hw <;> assumption
theorem i_gS {own : String} {ix : Nat} {y : MethodName} {cw : Cond} (h1 : Cond.methodLink own ix y ∈ i_tb) (h2 : Cond.static y ∈ i_tb) (h4 : Cond.initialized y.cls ∈ i_tb) (h5 : cw ∈ i_tb) : GoodIn i_tb (va_wsS own ix y (cw :: i_tb)) := by
  refine i_goodOf (fun _ h => h) (fun w hw => ?_)
  simp only [va_wsS, List.cons_append, List.nil_append, List.mem_cons] at hw
  rcases hw with rfl | rfl | rfl | rfl | hw <;> assumption
theorem i_gI {cw : Cond} (h5 : cw ∈ i_tb) : GoodIn i_tb (cw :: i_tb) := by
  refine i_goodOf (fun _ h => h) (fun w hw => ?_)
  rcases List.mem_cons.mp hw with rfl | hw <;> assumption
def i_no : Nat → Prop := fun _ => False
theorem i_Es_blind {sa sv : Nat → Nat} {av : List Value} : FrameBlind (va_Pc av (fun U => i_Es sa sv i_no U U.heap)) := fun a U g mk q => ⟨q.1, i_Es.same (u := U) (U := U.calling g mk a) rfl q.2⟩
set_option maxRecDepth 100000 in
theorem f_J0_length_8abf5_c : Cond.code yJ0_length_8abf5 cJ0_length_8abf5 1 (some .int) ∈ i_tb := i_tb_in (w := 539) (by decide +kernel)
set_option maxRecDepth 100000 in
theorem f_J0_length_8abf5_i : Cond.instanceMethod yJ0_length_8abf5 ∈ i_tb := i_tb_in (w := 537) (by decide +kernel)
set_option maxRecDepth 100000 in
theorem f_J0_length_8abf5_z : Cond.selects "java/lang/String" yJ0_length_8abf5 yJ0_length_8abf5 ∈ i_tb := i_tb_in (w := 538) (by decide +kernel)
set_option maxRecDepth 100000 in
theorem f_J0_coder_7d493_c : Cond.code yJ0_coder_7d493 cJ0_coder_7d493 1 (some .byte) ∈ i_tb := i_tb_in (w := 543) (by decide +kernel)
set_option maxRecDepth 100000 in
theorem f_J0_coder_7d493_i : Cond.instanceMethod yJ0_coder_7d493 ∈ i_tb := i_tb_in (w := 541) (by decide +kernel)
set_option maxRecDepth 100000 in
theorem f_J0_coder_7d493_z : Cond.selects "java/lang/String" yJ0_coder_7d493 yJ0_coder_7d493 ∈ i_tb := i_tb_in (w := 542) (by decide +kernel)
set_option maxRecDepth 100000 in
theorem f_J0_isLatin1_aae02_c : Cond.code yJ0_isLatin1_aae02 cJ0_isLatin1_aae02 1 (some .boolean) ∈ i_tb := i_tb_in (w := 553) (by decide +kernel)
set_option maxRecDepth 100000 in
theorem f_J0_isLatin1_aae02_i : Cond.instanceMethod yJ0_isLatin1_aae02 ∈ i_tb := i_tb_in (w := 551) (by decide +kernel)
set_option maxRecDepth 100000 in
theorem f_J0_isLatin1_aae02_z : Cond.selects "java/lang/String" yJ0_isLatin1_aae02 yJ0_isLatin1_aae02 ∈ i_tb := i_tb_in (w := 552) (by decide +kernel)
set_option maxRecDepth 100000 in
theorem f_J0_charAt_5068e_c : Cond.code yJ0_charAt_5068e cJ0_charAt_5068e 2 (some .char) ∈ i_tb := i_tb_in (w := 549) (by decide +kernel)
set_option maxRecDepth 100000 in
theorem f_J0_charAt_5068e_i : Cond.instanceMethod yJ0_charAt_5068e ∈ i_tb := i_tb_in (w := 547) (by decide +kernel)
set_option maxRecDepth 100000 in
theorem f_J0_charAt_5068e_z : Cond.selects "java/lang/String" yJ0_charAt_5068e yJ0_charAt_5068e ∈ i_tb := i_tb_in (w := 548) (by decide +kernel)
set_option maxRecDepth 100000 in
theorem f_J0_checkIndex_df160_c : Cond.code yJ0_checkIndex_df160 cJ0_checkIndex_df160 2 none ∈ i_tb := i_tb_in (w := 559) (by decide +kernel)
set_option maxRecDepth 100000 in
theorem f_J0_checkIndex_df160_s : Cond.static yJ0_checkIndex_df160 ∈ i_tb := i_tb_in (w := 558) (by decide +kernel)
set_option maxRecDepth 100000 in
theorem f_J3_checkIndex_8e157_c : Cond.code yJ3_checkIndex_8e157 cJ3_checkIndex_8e157 3 (some .int) ∈ i_tb := i_tb_in (w := 564) (by decide +kernel)
set_option maxRecDepth 100000 in
theorem f_J3_checkIndex_8e157_s : Cond.static yJ3_checkIndex_8e157 ∈ i_tb := i_tb_in (w := 563) (by decide +kernel)
set_option maxRecDepth 100000 in
theorem f_J1_charAt_3b067_c : Cond.code yJ1_charAt_3b067 cJ1_charAt_3b067 2 (some .char) ∈ i_tb := i_tb_in (w := 556) (by decide +kernel)
set_option maxRecDepth 100000 in
theorem f_J1_charAt_3b067_s : Cond.static yJ1_charAt_3b067 ∈ i_tb := i_tb_in (w := 555) (by decide +kernel)
set_option maxRecDepth 100000 in
theorem f_ini0 : Cond.initialized "java/lang/String" ∈ i_tb := i_tb_in (w := 103) (by decide +kernel)
set_option maxRecDepth 100000 in
theorem f_ini1 : Cond.initialized "java/lang/StringLatin1" ∈ i_tb := i_tb_in (w := 104) (by decide +kernel)
set_option maxRecDepth 100000 in
theorem f_ini2 : Cond.initialized "jdk/internal/util/Preconditions" ∈ i_tb := i_tb_in (w := 105) (by decide +kernel)
set_option maxRecDepth 100000 in
theorem f_lk_335 : Cond.methodLink RJ0 335 yJ0_coder_7d493 ∈ i_tb := i_tb_in (w := 540) (by decide +kernel)
set_option maxRecDepth 100000 in
theorem f_lk_492 : Cond.methodLink RJ0 492 yJ0_isLatin1_aae02 ∈ i_tb := i_tb_in (w := 550) (by decide +kernel)
set_option maxRecDepth 100000 in
theorem f_lk_495 : Cond.methodLink RJ0 495 yJ1_charAt_3b067 ∈ i_tb := i_tb_in (w := 554) (by decide +kernel)
set_option maxRecDepth 100000 in
theorem f_lk_9 : Cond.methodLink RJ1 9 yJ0_checkIndex_df160 ∈ i_tb := i_tb_in (w := 557) (by decide +kernel)
set_option maxRecDepth 100000 in
theorem f_lk_1059 : Cond.methodLink RJ0 1059 yJ3_checkIndex_8e157 ∈ i_tb := i_tb_in (w := 562) (by decide +kernel)
set_option maxRecDepth 100000 in
theorem f_fl_9 : Cond.fieldLink RJ0 9 "java/lang/String" "value" "[B" ∈ i_tb := i_tb_in (w := 1691) (by decide +kernel)
set_option maxRecDepth 100000 in
theorem f_fl_15 : Cond.fieldLink RJ0 15 "java/lang/String" "coder" "B" ∈ i_tb := i_tb_in (w := 1692) (by decide +kernel)
set_option maxRecDepth 100000 in
theorem f_fl_38 : Cond.fieldLink RJ0 38 "java/lang/String" "COMPACT_STRINGS" "Z" ∈ i_tb := i_tb_in (w := 544) (by decide +kernel)
set_option maxRecDepth 100000 in
theorem f_fl_1053 : Cond.fieldLink RJ0 1053 "jdk/internal/util/Preconditions" "SIOOBE_FORMATTER" "Ljava/util/function/BiFunction;" ∈ i_tb := i_tb_in (w := 560) (by decide +kernel)
theorem dJ0_length_8abf5_0 : decode cJ0_length_8abf5 0 = .ok (.aload_n 0, 1) := by decide +kernel
theorem dJ0_length_8abf5_1 : decode cJ0_length_8abf5 1 = .ok (.getfield 9, 3) := by decide +kernel
theorem dJ0_length_8abf5_4 : decode cJ0_length_8abf5 4 = .ok (.arraylength, 1) := by decide +kernel
theorem dJ0_length_8abf5_5 : decode cJ0_length_8abf5 5 = .ok (.aload_n 0, 1) := by decide +kernel
theorem dJ0_length_8abf5_6 : decode cJ0_length_8abf5 6 = .ok (.invokevirtual 335, 3) := by decide +kernel
theorem dJ0_length_8abf5_9 : decode cJ0_length_8abf5 9 = .ok (.ishr, 1) := by decide +kernel
theorem dJ0_length_8abf5_10 : decode cJ0_length_8abf5 10 = .ok (.ireturn, 1) := by decide +kernel
theorem dJ0_coder_7d493_0 : decode cJ0_coder_7d493 0 = .ok (.getstatic 38, 3) := by decide +kernel
theorem dJ0_coder_7d493_3 : decode cJ0_coder_7d493 3 = .ok (.ifCond .eq 10, 3) := by decide +kernel
theorem dJ0_coder_7d493_6 : decode cJ0_coder_7d493 6 = .ok (.aload_n 0, 1) := by decide +kernel
theorem dJ0_coder_7d493_7 : decode cJ0_coder_7d493 7 = .ok (.getfield 15, 3) := by decide +kernel
theorem dJ0_coder_7d493_10 : decode cJ0_coder_7d493 10 = .ok (.goto 4, 3) := by decide +kernel
theorem dJ0_coder_7d493_13 : decode cJ0_coder_7d493 13 = .ok (.iconst 1, 1) := by decide +kernel
theorem dJ0_coder_7d493_14 : decode cJ0_coder_7d493 14 = .ok (.ireturn, 1) := by decide +kernel
theorem dJ0_isLatin1_aae02_0 : decode cJ0_isLatin1_aae02 0 = .ok (.getstatic 38, 3) := by decide +kernel
theorem dJ0_isLatin1_aae02_3 : decode cJ0_isLatin1_aae02 3 = .ok (.ifCond .eq 14, 3) := by decide +kernel
theorem dJ0_isLatin1_aae02_6 : decode cJ0_isLatin1_aae02 6 = .ok (.aload_n 0, 1) := by decide +kernel
theorem dJ0_isLatin1_aae02_7 : decode cJ0_isLatin1_aae02 7 = .ok (.getfield 15, 3) := by decide +kernel
theorem dJ0_isLatin1_aae02_10 : decode cJ0_isLatin1_aae02 10 = .ok (.ifCond .ne 7, 3) := by decide +kernel
theorem dJ0_isLatin1_aae02_13 : decode cJ0_isLatin1_aae02 13 = .ok (.iconst 1, 1) := by decide +kernel
theorem dJ0_isLatin1_aae02_14 : decode cJ0_isLatin1_aae02 14 = .ok (.goto 4, 3) := by decide +kernel
theorem dJ0_isLatin1_aae02_17 : decode cJ0_isLatin1_aae02 17 = .ok (.iconst 0, 1) := by decide +kernel
theorem dJ0_isLatin1_aae02_18 : decode cJ0_isLatin1_aae02 18 = .ok (.ireturn, 1) := by decide +kernel
theorem dJ0_charAt_5068e_0 : decode cJ0_charAt_5068e 0 = .ok (.aload_n 0, 1) := by decide +kernel
theorem dJ0_charAt_5068e_1 : decode cJ0_charAt_5068e 1 = .ok (.invokevirtual 492, 3) := by decide +kernel
theorem dJ0_charAt_5068e_4 : decode cJ0_charAt_5068e 4 = .ok (.ifCond .eq 12, 3) := by decide +kernel
theorem dJ0_charAt_5068e_7 : decode cJ0_charAt_5068e 7 = .ok (.aload_n 0, 1) := by decide +kernel
theorem dJ0_charAt_5068e_8 : decode cJ0_charAt_5068e 8 = .ok (.getfield 9, 3) := by decide +kernel
theorem dJ0_charAt_5068e_11 : decode cJ0_charAt_5068e 11 = .ok (.iload_n 1, 1) := by decide +kernel
theorem dJ0_charAt_5068e_12 : decode cJ0_charAt_5068e 12 = .ok (.invokestatic 495, 3) := by decide +kernel
theorem dJ0_charAt_5068e_15 : decode cJ0_charAt_5068e 15 = .ok (.ireturn, 1) := by decide +kernel
theorem dJ0_charAt_5068e_16 : decode cJ0_charAt_5068e 16 = .ok (.aload_n 0, 1) := by decide +kernel
theorem dJ0_charAt_5068e_17 : decode cJ0_charAt_5068e 17 = .ok (.getfield 9, 3) := by decide +kernel
theorem dJ0_charAt_5068e_20 : decode cJ0_charAt_5068e 20 = .ok (.iload_n 1, 1) := by decide +kernel
theorem dJ0_charAt_5068e_21 : decode cJ0_charAt_5068e 21 = .ok (.invokestatic 498, 3) := by decide +kernel
theorem dJ0_charAt_5068e_24 : decode cJ0_charAt_5068e 24 = .ok (.ireturn, 1) := by decide +kernel
theorem dJ0_checkIndex_df160_0 : decode cJ0_checkIndex_df160 0 = .ok (.iload_n 0, 1) := by decide +kernel
theorem dJ0_checkIndex_df160_1 : decode cJ0_checkIndex_df160 1 = .ok (.iload_n 1, 1) := by decide +kernel
theorem dJ0_checkIndex_df160_2 : decode cJ0_checkIndex_df160 2 = .ok (.getstatic 1053, 3) := by decide +kernel
theorem dJ0_checkIndex_df160_5 : decode cJ0_checkIndex_df160 5 = .ok (.invokestatic 1059, 3) := by decide +kernel
theorem dJ0_checkIndex_df160_8 : decode cJ0_checkIndex_df160 8 = .ok (.pop, 1) := by decide +kernel
theorem dJ0_checkIndex_df160_9 : decode cJ0_checkIndex_df160 9 = .ok (.return_, 1) := by decide +kernel
theorem dJ3_checkIndex_8e157_0 : decode cJ3_checkIndex_8e157 0 = .ok (.iload_n 0, 1) := by decide +kernel
theorem dJ3_checkIndex_8e157_1 : decode cJ3_checkIndex_8e157 1 = .ok (.ifCond .lt 8, 3) := by decide +kernel
theorem dJ3_checkIndex_8e157_4 : decode cJ3_checkIndex_8e157 4 = .ok (.iload_n 0, 1) := by decide +kernel
theorem dJ3_checkIndex_8e157_5 : decode cJ3_checkIndex_8e157 5 = .ok (.iload_n 1, 1) := by decide +kernel
theorem dJ3_checkIndex_8e157_6 : decode cJ3_checkIndex_8e157 6 = .ok (.if_icmp .lt 10, 3) := by decide +kernel
theorem dJ3_checkIndex_8e157_9 : decode cJ3_checkIndex_8e157 9 = .ok (.aload_n 2, 1) := by decide +kernel
theorem dJ3_checkIndex_8e157_10 : decode cJ3_checkIndex_8e157 10 = .ok (.iload_n 0, 1) := by decide +kernel
theorem dJ3_checkIndex_8e157_11 : decode cJ3_checkIndex_8e157 11 = .ok (.iload_n 1, 1) := by decide +kernel
theorem dJ3_checkIndex_8e157_12 : decode cJ3_checkIndex_8e157 12 = .ok (.invokestatic 95, 3) := by decide +kernel
theorem dJ3_checkIndex_8e157_15 : decode cJ3_checkIndex_8e157 15 = .ok (.athrow, 1) := by decide +kernel
theorem dJ3_checkIndex_8e157_16 : decode cJ3_checkIndex_8e157 16 = .ok (.iload_n 0, 1) := by decide +kernel
theorem dJ3_checkIndex_8e157_17 : decode cJ3_checkIndex_8e157 17 = .ok (.ireturn, 1) := by decide +kernel
theorem dJ1_charAt_3b067_0 : decode cJ1_charAt_3b067 0 = .ok (.iload_n 1, 1) := by decide +kernel
theorem dJ1_charAt_3b067_1 : decode cJ1_charAt_3b067 1 = .ok (.aload_n 0, 1) := by decide +kernel
theorem dJ1_charAt_3b067_2 : decode cJ1_charAt_3b067 2 = .ok (.arraylength, 1) := by decide +kernel
theorem dJ1_charAt_3b067_3 : decode cJ1_charAt_3b067 3 = .ok (.invokestatic 9, 3) := by decide +kernel
theorem dJ1_charAt_3b067_6 : decode cJ1_charAt_3b067 6 = .ok (.aload_n 0, 1) := by decide +kernel
theorem dJ1_charAt_3b067_7 : decode cJ1_charAt_3b067 7 = .ok (.iload_n 1, 1) := by decide +kernel
theorem dJ1_charAt_3b067_8 : decode cJ1_charAt_3b067 8 = .ok (.baload, 1) := by decide +kernel
theorem dJ1_charAt_3b067_9 : decode cJ1_charAt_3b067 9 = .ok (.sipush 255, 3) := by decide +kernel
theorem dJ1_charAt_3b067_12 : decode cJ1_charAt_3b067 12 = .ok (.iand, 1) := by decide +kernel
theorem dJ1_charAt_3b067_13 : decode cJ1_charAt_3b067 13 = .ok (.i2c, 1) := by decide +kernel
theorem dJ1_charAt_3b067_14 : decode cJ1_charAt_3b067 14 = .ok (.ireturn, 1) := by decide +kernel
set_option maxRecDepth 100000 in
theorem i_c_J3_checkIndex_8e157 (l : Launch) (sa sv : Nat → Nat) {i n : Int32} {f : Value} (hf : f.category = 1) (h0 : ¬ i < 0) (h1 : i < n) : Met l yJ3_checkIndex_8e157 (.code yJ3_checkIndex_8e157 cJ3_checkIndex_8e157 3 (some .int) :: i_tb) ({ frames := 0, cells := 0, slots := 0, locals := 0 }) (va_Pc [.int i, .int n, f] (fun U => i_Es sa sv i_no U U.heap)) (vp_Si (fun r => r = i)) 0 0 i_no := by
  refine Met.ofW (cc := cJ3_checkIndex_8e157) (maxL := 3) (ret := (some .int)) (by decide +kernel) rfl ?_
  intro p e s m args below meth c s₁ B hml hv
  obtain ⟨rfl, hE⟩ := hv
  have hx := B.exec
  have hb := B.bytes
  have hr := B.returns
  have hts0 := atoms_spec (ws := .code yJ3_checkIndex_8e157 cJ3_checkIndex_8e157 3 (some .int) :: i_tb) B.pre
  have hts : ∀ w ∈ i_tb, w.before _ s = true := fun w h => hts0 w (List.mem_cons_of_mem _ h)
  have hown : s.vm.findClass RJ3 = some m.cls := findClass_of_methodNamed B.named
  have hlocks := B.notSynchronized
  have hS : va_S i_no s.heap s.heap [] := va_S.rf
  have hl := lv_entry ([.int i, .int n, f]) (n := 3) (by cases f <;> first | exact Nat.le_of_ble_eq_true rfl | (simp [Value.category] at hf; done))
  rw [lg_entry_eq]
  generalize (lg_sl ([.int i, .int n, f]) ++ List.replicate (3 - (lg_sl ([.int i, .int n, f])).length) Slot.unset).toArray = ls at hl ⊢
  have hl : lv_has ls 3 [(0, .int i), (1, .int n)] := lv_sub hl [0, 1] rfl
  refine lv_iload_n hx hb dJ3_checkIndex_8e157_0 rfl (lv_at hl 0 rfl) ?_
  refine lv_if_lt (tgt := 9) hx hb dJ3_checkIndex_8e157_1 (by decide) (fun q => absurd q h0) (fun _ => ?_)
  refine lv_iload_n hx hb dJ3_checkIndex_8e157_4 rfl (lv_at hl 0 rfl) ?_
  refine lv_iload_n hx hb dJ3_checkIndex_8e157_5 rfl (lv_at hl 1 rfl) ?_
  refine lv_icmp_lt (tgt := 16) hx hb dJ3_checkIndex_8e157_6 (by decide) (fun _ => ?_) (fun q => absurd h1 q)
  refine lv_iload_n hx hb dJ3_checkIndex_8e157_16 rfl (lv_at hl 0 rfl) ?_
  exact W.iret (v := i) hx hb hr (fun t ht hW => ⟨i, rfl, rfl, ht⟩) (fun _ h => by cases h) dJ3_checkIndex_8e157_17

set_option maxRecDepth 100000 in
theorem i_c_J0_checkIndex_df160 (l : Launch) (sa sv : Nat → Nat) {i n : Int32} (h0 : ¬ i < 0) (h1 : i < n) : Met l yJ0_checkIndex_df160 (.code yJ0_checkIndex_df160 cJ0_checkIndex_df160 2 none :: i_tb) ({ frames := 1, cells := 0, slots := 0, locals := 22 }) (va_Pc [.int i, .int n] (fun U => i_Es sa sv i_no U U.heap)) (va_Sv (fun _ => True)) 0 0 i_no := by
  refine Met.ofW (cc := cJ0_checkIndex_df160) (maxL := 2) (ret := none) (by decide +kernel) rfl ?_
  intro p e s m args below meth c s₁ B hml hv
  obtain ⟨rfl, hE⟩ := hv
  have hx := B.exec
  have hb := B.bytes
  have hr := B.returns
  have hts0 := atoms_spec (ws := .code yJ0_checkIndex_df160 cJ0_checkIndex_df160 2 none :: i_tb) B.pre
  have hts : ∀ w ∈ i_tb, w.before _ s = true := fun w h => hts0 w (List.mem_cons_of_mem _ h)
  have hown : s.vm.findClass RJ0 = some m.cls := findClass_of_methodNamed B.named
  have hlocks := B.notSynchronized
  have hS : va_S i_no s.heap s.heap [] := va_S.rf
  have hl := lv_entry ([.int i, .int n]) (n := 2) (Nat.le_of_ble_eq_true rfl)
  rw [lg_entry_eq]
  generalize (lg_sl ([.int i, .int n]) ++ List.replicate (2 - (lg_sl ([.int i, .int n])).length) Slot.unset).toArray = ls at hl ⊢
  have hl : lv_has ls 2 [(0, .int i), (1, .int n)] := hl
  have hk : ∀ f : Value, f.category = 1 → W p l e (headSpec (.code yJ0_checkIndex_df160 cJ0_checkIndex_df160 2 none :: i_tb) { frames := 1, cells := 0, slots := 0, locals := 22 }).room s m #[Value.int i, Value.int n] below meth c s.heap [] 0 0 (MQ below (va_Sv (fun _ => True)) #[Value.int i, Value.int n] s 0 0 i_no) (F0 m 5 ls [f, .int n, .int i]) := by
    intro f hf
    refine vp_callSi (rest := []) (W.runS (As := [.int i, .int n, f]) ⟨hx, hb, hml, hown, hts⟩ (i_c_J3_checkIndex_8e157 l sa sv (i := i) (n := n) (f := f) hf h0 h1) (va_cwS 3 hts (i_gS f_lk_1059 f_J3_checkIndex_8e157_s f_ini2 f_J3_checkIndex_8e157_c) rfl rfl rfl (by decide +kernel) ⟨Nat.le_of_ble_eq_true rfl, Nat.le_of_ble_eq_true rfl⟩) ⟨i_Es_blind, fun U hU hW => ⟨rfl, by show i_Es sa sv i_no U U.heap; rw [hU]; exact hE.warm hW (fun _ _ _ => rfl) (fun _ h => h)⟩⟩ rfl rfl hl.1 rfl (lv_room (Nat.le_of_ble_eq_true rfl)) dJ0_checkIndex_df160_5 ⟨Nat.le_refl _, Nat.le_refl _⟩) (fun r hr2 => ?_)
    refine lv_pop hx hb dJ0_checkIndex_df160_8 rfl ?_
    exact W.vret hx hb hr (fun t ht hW => ⟨rfl, trivial, ht⟩) (fun _ h => by cases h) dJ0_checkIndex_df160_9
  refine lv_iload_n hx hb dJ0_checkIndex_df160_0 rfl (lv_at hl 0 rfl) ?_
  refine lv_iload_n hx hb dJ0_checkIndex_df160_1 rfl (lv_at hl 1 rfl) ?_
  rcases hE.2.2 with hZ | ⟨t, hZ⟩
  · exact va_gets hx hb hZ hS hown (hts _ f_fl_1053) (fun _ h => h) dJ0_checkIndex_df160_2 (hk _ rfl)
  · exact va_gets hx hb hZ hS hown (hts _ f_fl_1053) (fun _ h => h) dJ0_checkIndex_df160_2 (hk _ rfl)

theorem i_ix_lt {j : Int32} {n : Nat} (hn : n < 2 ^ 31) (h0 : ¬ j < 0) (h1 : j.toNatClampNeg < n) : j < Int32.ofNat n := by
  obtain ⟨k, hk, rfl⟩ := vp_in_of (i_in h0 h1) hn
  exact nI_lt hk hn
theorem i_slen_lt : ∀ k, k < 28 → i_slen k < 2 ^ 31 := by decide +kernel
theorem i_schr_ok : ∀ k, k < 28 → ∀ j, j < i_slen k → ((i_schr k j &&& 255).toUInt32 % 65536).toInt32 = i_schr k j := by decide +kernel
theorem i_schr_n : ∀ k, k < 28 → ∀ j, j < i_slen k → narrow .char (.int (i_schr k j)) = .int (i_schr k j) := by decide +kernel
set_option maxRecDepth 100000 in
theorem i_c_J1_charAt_3b067 (l : Launch) (sa sv : Nat → Nat) {k : Nat} {i : Int32} (hk : k < 28) (h0 : ¬ i < 0) (h1 : i.toNatClampNeg < i_slen k) : Met l yJ1_charAt_3b067 (.code yJ1_charAt_3b067 cJ1_charAt_3b067 2 (some .char) :: i_tb) ({ frames := 2, cells := 0, slots := 0, locals := 43 }) (va_Pc [.ref (sv k), .int i] (fun U => i_Es sa sv i_no U U.heap)) (vp_Si (fun r => r = i_schr k i.toNatClampNeg)) 0 0 i_no := by
  refine Met.ofW (cc := cJ1_charAt_3b067) (maxL := 2) (ret := (some .char)) (by decide +kernel) rfl ?_
  intro p e s m args below meth c s₁ B hml hv
  obtain ⟨rfl, hE⟩ := hv
  have hx := B.exec
  have hb := B.bytes
  have hr := B.returns
  have hts0 := atoms_spec (ws := .code yJ1_charAt_3b067 cJ1_charAt_3b067 2 (some .char) :: i_tb) B.pre
  have hts : ∀ w ∈ i_tb, w.before _ s = true := fun w h => hts0 w (List.mem_cons_of_mem _ h)
  have hown : s.vm.findClass RJ1 = some m.cls := findClass_of_methodNamed B.named
  have hlocks := B.notSynchronized
  have hS : va_S i_no s.heap s.heap [] := va_S.rf
  have hl := lv_entry ([.ref (sv k), .int i]) (n := 2) (Nat.le_of_ble_eq_true rfl)
  rw [lg_entry_eq]
  generalize (lg_sl ([.ref (sv k), .int i]) ++ List.replicate (2 - (lg_sl ([.ref (sv k), .int i])).length) Slot.unset).toArray = ls at hl ⊢
  have hl : lv_has ls 2 [(0, .ref (sv k)), (1, .int i)] := hl
  refine lv_iload_n hx hb dJ1_charAt_3b067_0 rfl (lv_at hl 1 rfl) ?_
  refine lv_aload_n hx hb dJ1_charAt_3b067_1 rfl (lv_at hl 0 rfl) ?_
  refine va_tlen hx hb (hE.1 k hk).2.2.2.2 hS rfl dJ1_charAt_3b067_2 ?_
  refine va_csv (rest := []) (W.runS (As := [.int i, .int (Int32.ofNat (i_slen k))]) ⟨hx, hb, hml, hown, hts⟩ (i_c_J0_checkIndex_df160 l sa sv (i := i) (n := Int32.ofNat (i_slen k)) h0 (i_ix_lt (i_slen_lt k hk) h0 h1)) (va_cwS 2 hts (i_gS f_lk_9 f_J0_checkIndex_df160_s f_ini0 f_J0_checkIndex_df160_c) rfl rfl rfl (by decide +kernel) ⟨Nat.le_of_ble_eq_true rfl, Nat.le_of_ble_eq_true rfl⟩) ⟨i_Es_blind, fun U hU hW => ⟨rfl, by show i_Es sa sv i_no U U.heap; rw [hU]; exact hE.warm hW (fun _ _ _ => rfl) (fun _ h => h)⟩⟩ rfl rfl hl.1 rfl (lv_room (Nat.le_of_ble_eq_true rfl)) dJ1_charAt_3b067_3 ⟨Nat.le_refl _, Nat.le_refl _⟩) (fun _ => ?_)
  refine lv_aload_n hx hb dJ1_charAt_3b067_6 rfl (lv_at hl 0 rfl) ?_
  refine lv_iload_n hx hb dJ1_charAt_3b067_7 rfl (lv_at hl 1 rfl) ?_
  refine va_tb hx hb (hE.1 k hk).2.2.2.2 hS (i_in h0 h1) rfl dJ1_charAt_3b067_8 ?_
  refine lv_sipush (v := 255) hx hb dJ1_charAt_3b067_9 (by decide) ?_
  refine lv_iand hx hb dJ1_charAt_3b067_12 ?_
  refine lv_i2c hx hb dJ1_charAt_3b067_13 (i_schr_ok k hk _ h1) ?_
  exact W.zret (v := i_schr k i.toNatClampNeg) (ty := .char) hx hb hr (i_schr_n k hk _ h1) (fun t ht hW => ⟨i_schr k i.toNatClampNeg, rfl, rfl, ht⟩) (fun _ h => by cases h) dJ1_charAt_3b067_14

set_option maxRecDepth 100000 in
theorem i_c_J0_coder_7d493 (l : Launch) (sa sv : Nat → Nat) {k : Nat} (hk : k < 28) : Met l yJ0_coder_7d493 (.code yJ0_coder_7d493 cJ0_coder_7d493 1 (some .byte) :: i_tb) ({ frames := 0, cells := 0, slots := 0, locals := 0 }) (va_Pc [.ref (sa k)] (fun U => i_Es sa sv i_no U U.heap)) (vp_Si (fun r => r = 0)) 0 0 i_no := by
  refine Met.ofW (cc := cJ0_coder_7d493) (maxL := 1) (ret := (some .byte)) (by decide +kernel) rfl ?_
  intro p e s m args below meth c s₁ B hml hv
  obtain ⟨rfl, hE⟩ := hv
  have hx := B.exec
  have hb := B.bytes
  have hr := B.returns
  have hts0 := atoms_spec (ws := .code yJ0_coder_7d493 cJ0_coder_7d493 1 (some .byte) :: i_tb) B.pre
  have hts : ∀ w ∈ i_tb, w.before _ s = true := fun w h => hts0 w (List.mem_cons_of_mem _ h)
  have hown : s.vm.findClass RJ0 = some m.cls := findClass_of_methodNamed B.named
  have hlocks := B.notSynchronized
  have hS : va_S i_no s.heap s.heap [] := va_S.rf
  have hl := lv_entry ([.ref (sa k)]) (n := 1) (Nat.le_of_ble_eq_true rfl)
  rw [lg_entry_eq]
  generalize (lg_sl ([.ref (sa k)]) ++ List.replicate (1 - (lg_sl ([.ref (sa k)])).length) Slot.unset).toArray = ls at hl ⊢
  have hl : lv_has ls 1 [(0, .ref (sa k))] := hl
  refine va_gets hx hb hE.2.1 hS hown (hts _ f_fl_38) (fun _ h => h) dJ0_coder_7d493_0 ?_
  refine lv_if_eq (tgt := 13) hx hb dJ0_coder_7d493_3 (by decide) (fun q => absurd q (by decide)) (fun _ => ?_)
  refine lv_aload_n hx hb dJ0_coder_7d493_6 rfl (lv_at hl 0 rfl) ?_
  refine vk_getf hx hb (hE.1 k hk).2.2.1 hS hown (hts _ f_fl_15) (fun _ h => h) dJ0_coder_7d493_7 ?_
  refine lv_goto (tgt := 14) hx hb dJ0_coder_7d493_10 (by decide) ?_
  exact W.zret (v := 0) (ty := .byte) hx hb hr rfl (fun t ht hW => ⟨0, rfl, rfl, ht⟩) (fun _ h => by cases h) dJ0_coder_7d493_14

set_option maxRecDepth 100000 in
theorem i_c_J0_isLatin1_aae02 (l : Launch) (sa sv : Nat → Nat) {k : Nat} (hk : k < 28) : Met l yJ0_isLatin1_aae02 (.code yJ0_isLatin1_aae02 cJ0_isLatin1_aae02 1 (some .boolean) :: i_tb) ({ frames := 0, cells := 0, slots := 0, locals := 0 }) (va_Pc [.ref (sa k)] (fun U => i_Es sa sv i_no U U.heap)) (vp_Si (fun r => r = 1)) 0 0 i_no := by
  refine Met.ofW (cc := cJ0_isLatin1_aae02) (maxL := 1) (ret := (some .boolean)) (by decide +kernel) rfl ?_
  intro p e s m args below meth c s₁ B hml hv
  obtain ⟨rfl, hE⟩ := hv
  have hx := B.exec
  have hb := B.bytes
  have hr := B.returns
  have hts0 := atoms_spec (ws := .code yJ0_isLatin1_aae02 cJ0_isLatin1_aae02 1 (some .boolean) :: i_tb) B.pre
  have hts : ∀ w ∈ i_tb, w.before _ s = true := fun w h => hts0 w (List.mem_cons_of_mem _ h)
  have hown : s.vm.findClass RJ0 = some m.cls := findClass_of_methodNamed B.named
  have hlocks := B.notSynchronized
  have hS : va_S i_no s.heap s.heap [] := va_S.rf
  have hl := lv_entry ([.ref (sa k)]) (n := 1) (Nat.le_of_ble_eq_true rfl)
  rw [lg_entry_eq]
  generalize (lg_sl ([.ref (sa k)]) ++ List.replicate (1 - (lg_sl ([.ref (sa k)])).length) Slot.unset).toArray = ls at hl ⊢
  have hl : lv_has ls 1 [(0, .ref (sa k))] := hl
  refine va_gets hx hb hE.2.1 hS hown (hts _ f_fl_38) (fun _ h => h) dJ0_isLatin1_aae02_0 ?_
  refine lv_if_eq (tgt := 17) hx hb dJ0_isLatin1_aae02_3 (by decide) (fun q => absurd q (by decide)) (fun _ => ?_)
  refine lv_aload_n hx hb dJ0_isLatin1_aae02_6 rfl (lv_at hl 0 rfl) ?_
  refine vk_getf hx hb (hE.1 k hk).2.2.1 hS hown (hts _ f_fl_15) (fun _ h => h) dJ0_isLatin1_aae02_7 ?_
  refine lv_if_ne (tgt := 17) hx hb dJ0_isLatin1_aae02_10 (by decide) (fun q => absurd rfl q) (fun _ => ?_)
  refine lv_iconst (v := 1) hx hb dJ0_isLatin1_aae02_13 (by decide) ?_
  refine lv_goto (tgt := 18) hx hb dJ0_isLatin1_aae02_14 (by decide) ?_
  exact W.zret (v := 1) (ty := .boolean) hx hb hr rfl (fun t ht hW => ⟨1, rfl, rfl, ht⟩) (fun _ h => by cases h) dJ0_isLatin1_aae02_18

theorem i_shr0 (x : Int32) : x >>> ((0 : Int32) &&& 31) = x := by
  rw [show ((0 : Int32) &&& 31) = 0 by decide]
  exact Int32.shiftRight_zero
set_option maxRecDepth 100000 in
theorem i_c_J0_length_8abf5 (l : Launch) (sa sv : Nat → Nat) {k : Nat} (hk : k < 28) : Met l yJ0_length_8abf5 (.code yJ0_length_8abf5 cJ0_length_8abf5 1 (some .int) :: i_tb) ({ frames := 1, cells := 0, slots := 0, locals := 20 }) (va_Pc [.ref (sa k)] (fun U => i_Es sa sv i_no U U.heap)) (vp_Si (fun r => r = Int32.ofNat (i_slen k))) 0 0 i_no := by
  refine Met.ofW (cc := cJ0_length_8abf5) (maxL := 1) (ret := (some .int)) (by decide +kernel) rfl ?_
  intro p e s m args below meth c s₁ B hml hv
  obtain ⟨rfl, hE⟩ := hv
  have hx := B.exec
  have hb := B.bytes
  have hr := B.returns
  have hts0 := atoms_spec (ws := .code yJ0_length_8abf5 cJ0_length_8abf5 1 (some .int) :: i_tb) B.pre
  have hts : ∀ w ∈ i_tb, w.before _ s = true := fun w h => hts0 w (List.mem_cons_of_mem _ h)
  have hown : s.vm.findClass RJ0 = some m.cls := findClass_of_methodNamed B.named
  have hlocks := B.notSynchronized
  have hS : va_S i_no s.heap s.heap [] := va_S.rf
  have hl := lv_entry ([.ref (sa k)]) (n := 1) (Nat.le_of_ble_eq_true rfl)
  rw [lg_entry_eq]
  generalize (lg_sl ([.ref (sa k)]) ++ List.replicate (1 - (lg_sl ([.ref (sa k)])).length) Slot.unset).toArray = ls at hl ⊢
  have hl : lv_has ls 1 [(0, .ref (sa k))] := hl
  refine lv_aload_n hx hb dJ0_length_8abf5_0 rfl (lv_at hl 0 rfl) ?_
  refine vk_getf hx hb (hE.1 k hk).2.2.2.1 hS hown (hts _ f_fl_9) (fun _ h => h) dJ0_length_8abf5_1 ?_
  refine va_tlen hx hb (hE.1 k hk).2.2.2.2 hS rfl dJ0_length_8abf5_4 ?_
  refine lv_aload_n hx hb dJ0_length_8abf5_5 rfl (lv_at hl 0 rfl) ?_
  refine vp_callSi (rest := [.int (Int32.ofNat (i_slen k))]) (W.runV (As := []) (C := "java/lang/String") ⟨hx, hb, hml, hown, hts⟩ (i_c_J0_coder_7d493 l sa sv (k := k) hk) (cwV 0 hts (i_gV f_lk_335 f_J0_coder_7d493_i f_J0_coder_7d493_z f_ini0 f_J0_coder_7d493_c) rfl rfl rfl (by decide +kernel) ⟨Nat.le_of_ble_eq_true rfl, Nat.le_of_ble_eq_true rfl⟩) ⟨i_Es_blind, (by obtain ⟨cell, g1, g2, g3, -⟩ := (hE.1 k hk).2.1; exact ⟨cell, g1, g2, g3⟩), fun U hU hW => ⟨rfl, by show i_Es sa sv i_no U U.heap; rw [hU]; exact hE.warm hW (fun _ _ _ => rfl) (fun _ h => h)⟩⟩ rfl rfl hl.1 rfl (lv_room (Nat.le_of_ble_eq_true rfl)) dJ0_length_8abf5_6 ⟨Nat.le_refl _, Nat.le_refl _⟩) (fun r hr2 => ?_)
  subst hr2
  refine lv_ishr hx hb dJ0_length_8abf5_9 ?_
  exact W.iret (v := Int32.ofNat (i_slen k) >>> ((0 : Int32) &&& 31)) hx hb hr (fun t ht hW => ⟨_, rfl, i_shr0 _, ht⟩) (fun _ h => by cases h) dJ0_length_8abf5_10

set_option maxRecDepth 100000 in
theorem i_c_J0_charAt_5068e (l : Launch) (sa sv : Nat → Nat) {k : Nat} {i : Int32} (hk : k < 28) (h0 : ¬ i < 0) (h1 : i.toNatClampNeg < i_slen k) : Met l yJ0_charAt_5068e (.code yJ0_charAt_5068e cJ0_charAt_5068e 2 (some .char) :: i_tb) ({ frames := 3, cells := 0, slots := 0, locals := 64 }) (va_Pc [.ref (sa k), .int i] (fun U => i_Es sa sv i_no U U.heap)) (vp_Si (fun r => r = i_schr k i.toNatClampNeg)) 0 0 i_no := by
  refine Met.ofW (cc := cJ0_charAt_5068e) (maxL := 2) (ret := (some .char)) (by decide +kernel) rfl ?_
  intro p e s m args below meth c s₁ B hml hv
  obtain ⟨rfl, hE⟩ := hv
  have hx := B.exec
  have hb := B.bytes
  have hr := B.returns
  have hts0 := atoms_spec (ws := .code yJ0_charAt_5068e cJ0_charAt_5068e 2 (some .char) :: i_tb) B.pre
  have hts : ∀ w ∈ i_tb, w.before _ s = true := fun w h => hts0 w (List.mem_cons_of_mem _ h)
  have hown : s.vm.findClass RJ0 = some m.cls := findClass_of_methodNamed B.named
  have hlocks := B.notSynchronized
  have hS : va_S i_no s.heap s.heap [] := va_S.rf
  have hl := lv_entry ([.ref (sa k), .int i]) (n := 2) (Nat.le_of_ble_eq_true rfl)
  rw [lg_entry_eq]
  generalize (lg_sl ([.ref (sa k), .int i]) ++ List.replicate (2 - (lg_sl ([.ref (sa k), .int i])).length) Slot.unset).toArray = ls at hl ⊢
  have hl : lv_has ls 2 [(0, .ref (sa k)), (1, .int i)] := hl
  refine lv_aload_n hx hb dJ0_charAt_5068e_0 rfl (lv_at hl 0 rfl) ?_
  refine vp_callSi (rest := []) (W.runV (As := []) (C := "java/lang/String") ⟨hx, hb, hml, hown, hts⟩ (i_c_J0_isLatin1_aae02 l sa sv (k := k) hk) (cwV 0 hts (i_gV f_lk_492 f_J0_isLatin1_aae02_i f_J0_isLatin1_aae02_z f_ini0 f_J0_isLatin1_aae02_c) rfl rfl rfl (by decide +kernel) ⟨Nat.le_of_ble_eq_true rfl, Nat.le_of_ble_eq_true rfl⟩) ⟨i_Es_blind, (by obtain ⟨cell, g1, g2, g3, -⟩ := (hE.1 k hk).2.1; exact ⟨cell, g1, g2, g3⟩), fun U hU hW => ⟨rfl, by show i_Es sa sv i_no U U.heap; rw [hU]; exact hE.warm hW (fun _ _ _ => rfl) (fun _ h => h)⟩⟩ rfl rfl hl.1 rfl (lv_room (Nat.le_of_ble_eq_true rfl)) dJ0_charAt_5068e_1 ⟨Nat.le_refl _, Nat.le_refl _⟩) (fun r hr2 => ?_)
  subst hr2
  refine lv_if_eq (tgt := 16) hx hb dJ0_charAt_5068e_4 (by decide) (fun q => absurd q (by decide)) (fun _ => ?_)
  refine lv_aload_n hx hb dJ0_charAt_5068e_7 rfl (lv_at hl 0 rfl) ?_
  refine vk_getf hx hb (hE.1 k hk).2.2.2.1 hS hown (hts _ f_fl_9) (fun _ h => h) dJ0_charAt_5068e_8 ?_
  refine lv_iload_n hx hb dJ0_charAt_5068e_11 rfl (lv_at hl 1 rfl) ?_
  refine vp_callSi (rest := []) (W.runS (As := [.ref (sv k), .int i]) ⟨hx, hb, hml, hown, hts⟩ (i_c_J1_charAt_3b067 l sa sv (k := k) (i := i) hk h0 h1) (va_cwS 2 hts (i_gS f_lk_495 f_J1_charAt_3b067_s f_ini1 f_J1_charAt_3b067_c) rfl rfl rfl (by decide +kernel) ⟨Nat.le_of_ble_eq_true rfl, Nat.le_of_ble_eq_true rfl⟩) ⟨i_Es_blind, fun U hU hW => ⟨rfl, by show i_Es sa sv i_no U U.heap; rw [hU]; exact hE.warm hW (fun _ _ _ => rfl) (fun _ h => h)⟩⟩ rfl rfl hl.1 rfl (lv_room (Nat.le_of_ble_eq_true rfl)) dJ0_charAt_5068e_12 ⟨Nat.le_refl _, Nat.le_refl _⟩) (fun r hr2 => ?_)
  subst hr2
  exact W.zret (v := i_schr k i.toNatClampNeg) (ty := .char) hx hb hr (i_schr_n k hk _ h1) (fun t ht hW => ⟨i_schr k i.toNatClampNeg, rfl, rfl, ht⟩) (fun _ h => by cases h) dJ0_charAt_5068e_15

