/-! ===== the classes of the worlds: their words, fields, first values ===== -/
def i_clsok (a : Nat) (C : String) (T : u_T) (N : Nat) : Prop := (∀ w ∈ u_ws C T N, w ∈ i_tb) ∧ (∀ k, k < N → parseFieldDescriptor (T k).2.2.1 = some (i_ty a k)) ∧ (∀ x, x < N → ∀ y, y < N → x ≠ y → (T x).2.1 ≠ (T y).2.1) ∧ Cond.instantiable C N ∈ i_tb ∧ Cond.initialized C ∈ i_tb ∧ (∀ j, j < N → defaultValue (i_ty a j) = vp_V (i_dfl a) j) ∧ (i_dfl a).length = N ∧ ∀ v ∈ i_dfl a, i_okv 0 v
theorem i_tb_ws {ws : List Cond} (ps : List Nat) (hp : ws = ps.filterMap (fun i => lw_tbl[i]?)) (h : ws.all goodWord = true) : ∀ w ∈ ws, w ∈ i_tb := by
  intro w hw
  refine List.mem_filter.mpr ⟨?_, List.all_eq_true.mp h w hw⟩
  rw [hp] at hw
  obtain ⟨i, -, hi⟩ := List.mem_filterMap.mp hw
  exact List.mem_of_getElem? hi
theorem i_okd {a : Nat} (h : (i_dfl a).all (fun v => decide (v = .null) || (v.category == 2) || decide (v = .int 0)) = true) : ∀ v ∈ i_dfl a, i_okv 0 v := by
  intro v hv
  have := List.all_eq_true.mp h v hv
  cases v <;> first | trivial | (simp [Value.category] at this)
set_option maxRecDepth 100000 in
theorem i_cls0 : i_clsok 0 RX0 TX0 3 := ⟨i_tb_ws [270, 272, 274] (by decide +kernel) (by decide +kernel), tyX0_ok, nmX0, i_tb_in (w := 262) (by decide +kernel), i_tb_in (w := 96) (by decide +kernel), by decide +kernel, by decide +kernel, i_okd (by decide +kernel)⟩
set_option maxRecDepth 100000 in
theorem i_cls1 : i_clsok 1 RX1 TX1 2 := ⟨i_tb_ws [223, 225] (by decide +kernel) (by decide +kernel), tyX1_ok, nmX1, i_tb_in (w := 216) (by decide +kernel), i_tb_in (w := 94) (by decide +kernel), by decide +kernel, by decide +kernel, i_okd (by decide +kernel)⟩
set_option maxRecDepth 100000 in
theorem i_cls2 : i_clsok 2 RX3 TX3 7 := ⟨i_tb_ws [437, 439, 441, 443, 445, 447, 449] (by decide +kernel) (by decide +kernel), tyX3_ok, nmX3, i_tb_in (w := 420) (by decide +kernel), i_tb_in (w := 100) (by decide +kernel), by decide +kernel, by decide +kernel, i_okd (by decide +kernel)⟩
set_option maxRecDepth 100000 in
theorem i_cls3 : i_clsok 3 RX4 TX4 8 := ⟨i_tb_ws [325, 327, 329, 331, 333, 335, 337, 339] (by decide +kernel) (by decide +kernel), tyX4_ok, nmX4, i_tb_in (w := 287) (by decide +kernel), i_tb_in (w := 98) (by decide +kernel), by decide +kernel, by decide +kernel, i_okd (by decide +kernel)⟩
set_option maxRecDepth 100000 in
theorem i_cls4 : i_clsok 4 RX5 TX5 6 := ⟨i_tb_ws [406, 408, 410, 412, 414, 416] (by decide +kernel) (by decide +kernel), tyX5_ok, nmX5, i_tb_in (w := 393) (by decide +kernel), i_tb_in (w := 99) (by decide +kernel), by decide +kernel, by decide +kernel, i_okd (by decide +kernel)⟩
set_option maxRecDepth 100000 in
theorem i_cls5 : i_clsok 5 RX6 TX6 10 := ⟨i_tb_ws [194, 196, 198, 200, 202, 204, 206, 208, 210, 212] (by decide +kernel) (by decide +kernel), tyX6_ok, nmX6, i_tb_in (w := 148) (by decide +kernel), i_tb_in (w := 93) (by decide +kernel), by decide +kernel, by decide +kernel, i_okd (by decide +kernel)⟩
set_option maxRecDepth 100000 in
theorem i_cls6 : i_clsok 6 RX7 TX7 4 := ⟨i_tb_ws [740, 742, 744, 746] (by decide +kernel) (by decide +kernel), tyX7_ok, nmX7, i_tb_in (w := 717) (by decide +kernel), i_tb_in (w := 108) (by decide +kernel), by decide +kernel, by decide +kernel, i_okd (by decide +kernel)⟩
set_option maxRecDepth 100000 in
theorem i_cls7 : i_clsok 7 RX8 TX8 8 := ⟨i_tb_ws [242, 244, 246, 248, 250, 252, 254, 256] (by decide +kernel) (by decide +kernel), tyX8_ok, nmX8, i_tb_in (w := 229) (by decide +kernel), i_tb_in (w := 95) (by decide +kernel), by decide +kernel, by decide +kernel, i_okd (by decide +kernel)⟩
set_option maxRecDepth 100000 in
theorem i_cls8 : i_clsok 8 RX9 TX9 4 := ⟨i_tb_ws [137, 139, 141, 143] (by decide +kernel) (by decide +kernel), tyX9_ok, nmX9, i_tb_in (w := 121) (by decide +kernel), i_tb_in (w := 92) (by decide +kernel), by decide +kernel, by decide +kernel, i_okd (by decide +kernel)⟩
set_option maxRecDepth 100000 in
theorem i_cls9 : i_clsok 9 RX10 TX10 10 := ⟨i_tb_ws [371, 373, 375, 377, 379, 381, 383, 385, 387, 389] (by decide +kernel) (by decide +kernel), tyX10_ok, nmX10, i_tb_in (w := 279) (by decide +kernel), i_tb_in (w := 97) (by decide +kernel), by decide +kernel, by decide +kernel, i_okd (by decide +kernel)⟩
set_option maxRecDepth 100000 in
theorem i_cls10 : i_clsok 10 RX11 TX11 11 := ⟨i_tb_ws [465, 467, 469, 471, 473, 475, 477, 479, 481, 483, 485] (by decide +kernel) (by decide +kernel), tyX11_ok, nmX11, i_tb_in (w := 113) (by decide +kernel), i_tb_in (w := 91) (by decide +kernel), by decide +kernel, by decide +kernel, i_okd (by decide +kernel)⟩
set_option maxRecDepth 100000 in
theorem i_cls11 : i_clsok 11 RX12 TX12 53 := ⟨i_tb_ws [1140, 1142, 1144, 1146, 1148, 1150, 1152, 1154, 1156, 1158, 1160, 1162, 1164, 1166, 1168, 1170, 1172, 1174, 1176, 1178, 1180, 1182, 1184, 1186, 1188, 1190, 1192, 1194, 1196, 1198, 1200, 1202, 1204, 1206, 1208, 1210, 1212, 1214, 1216, 1218, 1220, 1222, 1224, 1226, 1228, 1230, 1232, 1234, 1236, 1238, 1240, 1242, 1244] (by decide +kernel) (by decide +kernel), tyX12_ok, nmX12, i_tb_in (w := 1083) (by decide +kernel), i_tb_in (w := 101) (by decide +kernel), by decide +kernel, by decide +kernel, i_okd (by decide +kernel)⟩
theorem i_cls {a : Nat} {C : String} {T : u_T} {N : Nat} (h : vwCl[a]? = some (C, T, N)) : i_clsok a C T N := by
  match a, h with
  | 0, h => cases h; exact i_cls0
  | 1, h => cases h; exact i_cls1
  | 2, h => cases h; exact i_cls2
  | 3, h => cases h; exact i_cls3
  | 4, h => cases h; exact i_cls4
  | 5, h => cases h; exact i_cls5
  | 6, h => cases h; exact i_cls6
  | 7, h => cases h; exact i_cls7
  | 8, h => cases h; exact i_cls8
  | 9, h => cases h; exact i_cls9
  | 10, h => cases h; exact i_cls10
  | 11, h => cases h; exact i_cls11
  | k + 12, h => simp [vwCl] at h
set_option maxRecDepth 100000 in
theorem i_w_max_s : Cond.static Lib.Math.max.name ∈ i_tb := i_tb_in (w := 810) (by decide +kernel)
set_option maxRecDepth 100000 in
theorem i_w_max_c : Cond.code Lib.Math.max.name Lib.Math.max.code 2 (some .int) ∈ i_tb := i_tb_in (w := 811) (by decide +kernel)
set_option maxRecDepth 100000 in
theorem i_w_min_s : Cond.static Lib.Math.min.name ∈ i_tb := i_tb_in (w := 729) (by decide +kernel)
set_option maxRecDepth 100000 in
theorem i_w_min_c : Cond.code Lib.Math.min.name Lib.Math.min.code 2 (some .int) ∈ i_tb := i_tb_in (w := 730) (by decide +kernel)
set_option maxRecDepth 100000 in
theorem i_w_math : Cond.initialized "java/lang/Math" ∈ i_tb := i_tb_in (w := 109) (by decide +kernel)
set_option maxRecDepth 100000 in
theorem i_w_sys : Cond.initialized "java/lang/System" ∈ i_tb := i_tb_in (w := 107) (by decide +kernel)
set_option maxRecDepth 100000 in
theorem i_w_cpn : Cond.native arraycopyName ∈ i_tb := i_tb_in (w := 636) (by decide +kernel)
set_option maxRecDepth 100000 in
theorem i_w_cps : Cond.static arraycopyName ∈ i_tb := i_tb_in (w := 635) (by decide +kernel)
set_option maxRecDepth 100000 in
theorem i_w_oi : Cond.instanceMethod objectInit ∈ i_tb := i_tb_in (w := 118) (by decide +kernel)
set_option maxRecDepth 100000 in
theorem i_w_oc : Cond.code objectInit ⟨#[0xb1]⟩ 1 none ∈ i_tb := i_tb_in (w := 119) (by decide +kernel)
