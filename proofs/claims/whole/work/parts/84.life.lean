/-! ===== a Life, a Realm are made ===== -/
theorem aX10i_0 : i_at mX10_init.2.2.2.2.2 0 = some (.aload_n 0, 1, 0, 0, 0, 0) := by decide +kernel
theorem aX10i_1 : i_at mX10_init.2.2.2.2.2 1 = some (.invokespecial 3, 3, 1000, 0, 283, 0) := by decide +kernel
theorem aX10i_4 : i_at mX10_init.2.2.2.2.2 4 = some (.aload_n 0, 1, 0, 0, 0, 0) := by decide +kernel
theorem aX10i_5 : i_at mX10_init.2.2.2.2.2 5 = some (.new 9, 3, 5, 0, 284, 0) := by decide +kernel
theorem aX10i_8 : i_at mX10_init.2.2.2.2.2 8 = some (.dup, 1, 0, 0, 0, 0) := by decide +kernel
theorem aX10i_9 : i_at mX10_init.2.2.2.2.2 9 = some (.invokespecial 11, 3, 50, 0, 2, 1) := by decide +kernel
theorem aX10i_12 : i_at mX10_init.2.2.2.2.2 12 = some (.putfield 12, 3, 9, 0, 343, 0) := by decide +kernel
theorem aX10i_15 : i_at mX10_init.2.2.2.2.2 15 = some (.aload_n 0, 1, 0, 0, 0, 0) := by decide +kernel
theorem aX10i_16 : i_at mX10_init.2.2.2.2.2 16 = some (.new 18, 3, 3, 0, 286, 0) := by decide +kernel
theorem aX10i_19 : i_at mX10_init.2.2.2.2.2 19 = some (.dup, 1, 0, 0, 0, 0) := by decide +kernel
theorem aX10i_20 : i_at mX10_init.2.2.2.2.2 20 = some (.invokespecial 20, 3, 25, 0, 3, 1) := by decide +kernel
theorem aX10i_23 : i_at mX10_init.2.2.2.2.2 23 = some (.putfield 21, 3, 9, 1, 348, 0) := by decide +kernel
theorem aX10i_26 : i_at mX10_init.2.2.2.2.2 26 = some (.aload_n 0, 1, 0, 0, 0, 0) := by decide +kernel
theorem aX10i_27 : i_at mX10_init.2.2.2.2.2 27 = some (.bipush 20, 2, 0, 0, 0, 0) := by decide +kernel
theorem aX10i_29 : i_at mX10_init.2.2.2.2.2 29 = some (.anewarray 18, 3, 3, 0, 286, 0) := by decide +kernel
theorem aX10i_32 : i_at mX10_init.2.2.2.2.2 32 = some (.putfield 25, 3, 9, 2, 352, 0) := by decide +kernel
theorem aX10i_35 : i_at mX10_init.2.2.2.2.2 35 = some (.aload_n 0, 1, 0, 0, 0, 0) := by decide +kernel
theorem aX10i_36 : i_at mX10_init.2.2.2.2.2 36 = some (.bipush 10, 2, 0, 0, 0, 0) := by decide +kernel
theorem aX10i_38 : i_at mX10_init.2.2.2.2.2 38 = some (.newarray .int, 2, 0, 0, 146, 0) := by decide +kernel
theorem aX10i_40 : i_at mX10_init.2.2.2.2.2 40 = some (.putfield 29, 3, 9, 5, 356, 0) := by decide +kernel
theorem aX10i_43 : i_at mX10_init.2.2.2.2.2 43 = some (.aload_n 0, 1, 0, 0, 0, 0) := by decide +kernel
theorem aX10i_44 : i_at mX10_init.2.2.2.2.2 44 = some (.bipush 10, 2, 0, 0, 0, 0) := by decide +kernel
theorem aX10i_46 : i_at mX10_init.2.2.2.2.2 46 = some (.newarray .int, 2, 0, 0, 146, 0) := by decide +kernel
theorem aX10i_48 : i_at mX10_init.2.2.2.2.2 48 = some (.putfield 33, 3, 9, 6, 359, 0) := by decide +kernel
theorem aX10i_51 : i_at mX10_init.2.2.2.2.2 51 = some (.aload_n 0, 1, 0, 0, 0, 0) := by decide +kernel
theorem aX10i_52 : i_at mX10_init.2.2.2.2.2 52 = some (.iconst (-1), 1, 0, 0, 0, 0) := by decide +kernel
theorem aX10i_53 : i_at mX10_init.2.2.2.2.2 53 = some (.putfield 36, 3, 9, 8, 365, 0) := by decide +kernel
theorem aX10i_56 : i_at mX10_init.2.2.2.2.2 56 = some (.iconst 0, 1, 0, 0, 0, 0) := by decide +kernel
theorem aX10i_57 : i_at mX10_init.2.2.2.2.2 57 = some (.istore_n 1, 1, 0, 0, 0, 0) := by decide +kernel
theorem aX10i_58 : i_at mX10_init.2.2.2.2.2 58 = some (.iload_n 1, 1, 0, 0, 0, 0) := by decide +kernel
theorem aX10i_59 : i_at mX10_init.2.2.2.2.2 59 = some (.aload_n 0, 1, 0, 0, 0, 0) := by decide +kernel
theorem aX10i_60 : i_at mX10_init.2.2.2.2.2 60 = some (.getfield 25, 3, 9, 2, 352, 0) := by decide +kernel
theorem aX10i_63 : i_at mX10_init.2.2.2.2.2 63 = some (.arraylength, 1, 0, 0, 0, 0) := by decide +kernel
theorem aX10i_64 : i_at mX10_init.2.2.2.2.2 64 = some (.if_icmp .ge 22, 3, 86, 0, 0, 0) := by decide +kernel
theorem aX10i_67 : i_at mX10_init.2.2.2.2.2 67 = some (.aload_n 0, 1, 0, 0, 0, 0) := by decide +kernel
theorem aX10i_68 : i_at mX10_init.2.2.2.2.2 68 = some (.getfield 25, 3, 9, 2, 352, 0) := by decide +kernel
theorem aX10i_71 : i_at mX10_init.2.2.2.2.2 71 = some (.iload_n 1, 1, 0, 0, 0, 0) := by decide +kernel
theorem aX10i_72 : i_at mX10_init.2.2.2.2.2 72 = some (.new 18, 3, 3, 0, 286, 0) := by decide +kernel
theorem aX10i_75 : i_at mX10_init.2.2.2.2.2 75 = some (.dup, 1, 0, 0, 0, 0) := by decide +kernel
theorem aX10i_76 : i_at mX10_init.2.2.2.2.2 76 = some (.invokespecial 20, 3, 25, 0, 3, 1) := by decide +kernel
theorem aX10i_79 : i_at mX10_init.2.2.2.2.2 79 = some (.aastore, 1, 0, 0, 0, 0) := by decide +kernel
theorem aX10i_80 : i_at mX10_init.2.2.2.2.2 80 = some (.iinc 1 1, 3, 0, 0, 0, 0) := by decide +kernel
theorem aX10i_83 : i_at mX10_init.2.2.2.2.2 83 = some (.goto (-25), 3, 58, 0, 0, 0) := by decide +kernel
theorem aX10i_86 : i_at mX10_init.2.2.2.2.2 86 = some (.return_, 1, 0, 0, 0, 0) := by decide +kernel
theorem aX6i_0 : i_at mX6_init.2.2.2.2.2 0 = some (.aload_n 0, 1, 0, 0, 0, 0) := by decide +kernel
theorem aX6i_1 : i_at mX6_init.2.2.2.2.2 1 = some (.invokespecial 3, 3, 1000, 0, 152, 0) := by decide +kernel
theorem aX6i_4 : i_at mX6_init.2.2.2.2.2 4 = some (.aload_n 0, 1, 0, 0, 0, 0) := by decide +kernel
theorem aX6i_5 : i_at mX6_init.2.2.2.2.2 5 = some (.bipush 6, 2, 0, 0, 0, 0) := by decide +kernel
theorem aX6i_7 : i_at mX6_init.2.2.2.2.2 7 = some (.newarray .int, 2, 0, 0, 146, 0) := by decide +kernel
theorem aX6i_9 : i_at mX6_init.2.2.2.2.2 9 = some (.putfield 9, 3, 5, 5, 175, 0) := by decide +kernel
theorem aX6i_12 : i_at mX6_init.2.2.2.2.2 12 = some (.aload_n 0, 1, 0, 0, 0, 0) := by decide +kernel
theorem aX6i_13 : i_at mX6_init.2.2.2.2.2 13 = some (.bipush 6, 2, 0, 0, 0, 0) := by decide +kernel
theorem aX6i_15 : i_at mX6_init.2.2.2.2.2 15 = some (.newarray .int, 2, 0, 0, 146, 0) := by decide +kernel
theorem aX6i_17 : i_at mX6_init.2.2.2.2.2 17 = some (.putfield 15, 3, 5, 6, 179, 0) := by decide +kernel
theorem aX6i_20 : i_at mX6_init.2.2.2.2.2 20 = some (.aload_n 0, 1, 0, 0, 0, 0) := by decide +kernel
theorem aX6i_21 : i_at mX6_init.2.2.2.2.2 21 = some (.bipush 12, 2, 0, 0, 0, 0) := by decide +kernel
theorem aX6i_23 : i_at mX6_init.2.2.2.2.2 23 = some (.newarray .int, 2, 0, 0, 146, 0) := by decide +kernel
theorem aX6i_25 : i_at mX6_init.2.2.2.2.2 25 = some (.putfield 18, 3, 5, 7, 183, 0) := by decide +kernel
theorem aX6i_28 : i_at mX6_init.2.2.2.2.2 28 = some (.aload_n 0, 1, 0, 0, 0, 0) := by decide +kernel
theorem aX6i_29 : i_at mX6_init.2.2.2.2.2 29 = some (.bipush 6, 2, 0, 0, 0, 0) := by decide +kernel
theorem aX6i_31 : i_at mX6_init.2.2.2.2.2 31 = some (.newarray .int, 2, 0, 0, 146, 0) := by decide +kernel
theorem aX6i_33 : i_at mX6_init.2.2.2.2.2 33 = some (.putfield 21, 3, 5, 8, 187, 0) := by decide +kernel
theorem aX6i_36 : i_at mX6_init.2.2.2.2.2 36 = some (.aload_n 0, 1, 0, 0, 0, 0) := by decide +kernel
theorem aX6i_37 : i_at mX6_init.2.2.2.2.2 37 = some (.bipush 6, 2, 0, 0, 0, 0) := by decide +kernel
theorem aX6i_39 : i_at mX6_init.2.2.2.2.2 39 = some (.newarray .int, 2, 0, 0, 146, 0) := by decide +kernel
theorem aX6i_41 : i_at mX6_init.2.2.2.2.2 41 = some (.putfield 24, 3, 5, 9, 190, 0) := by decide +kernel
theorem aX6i_44 : i_at mX6_init.2.2.2.2.2 44 = some (.return_, 1, 0, 0, 0, 0) := by decide +kernel
theorem aX4i_0 : i_at mX4_init.2.2.2.2.2 0 = some (.aload_n 0, 1, 0, 0, 0, 0) := by decide +kernel
theorem aX4i_1 : i_at mX4_init.2.2.2.2.2 1 = some (.invokespecial 3, 3, 1000, 0, 291, 0) := by decide +kernel
theorem aX4i_4 : i_at mX4_init.2.2.2.2.2 4 = some (.aload_n 0, 1, 0, 0, 0, 0) := by decide +kernel
theorem aX4i_5 : i_at mX4_init.2.2.2.2.2 5 = some (.iconst (-1), 1, 0, 0, 0, 0) := by decide +kernel
theorem aX4i_6 : i_at mX4_init.2.2.2.2.2 6 = some (.putfield 9, 3, 3, 1, 296, 0) := by decide +kernel
theorem aX4i_9 : i_at mX4_init.2.2.2.2.2 9 = some (.aload_n 0, 1, 0, 0, 0, 0) := by decide +kernel
theorem aX4i_10 : i_at mX4_init.2.2.2.2.2 10 = some (.iconst (-1), 1, 0, 0, 0, 0) := by decide +kernel
theorem aX4i_11 : i_at mX4_init.2.2.2.2.2 11 = some (.putfield 15, 3, 3, 2, 301, 0) := by decide +kernel
theorem aX4i_14 : i_at mX4_init.2.2.2.2.2 14 = some (.aload_n 0, 1, 0, 0, 0, 0) := by decide +kernel
theorem aX4i_15 : i_at mX4_init.2.2.2.2.2 15 = some (.bipush 6, 2, 0, 0, 0, 0) := by decide +kernel
theorem aX4i_17 : i_at mX4_init.2.2.2.2.2 17 = some (.newarray .int, 2, 0, 0, 146, 0) := by decide +kernel
theorem aX4i_19 : i_at mX4_init.2.2.2.2.2 19 = some (.putfield 18, 3, 3, 4, 309, 0) := by decide +kernel
theorem aX4i_22 : i_at mX4_init.2.2.2.2.2 22 = some (.aload_n 0, 1, 0, 0, 0, 0) := by decide +kernel
theorem aX4i_23 : i_at mX4_init.2.2.2.2.2 23 = some (.bipush 6, 2, 0, 0, 0, 0) := by decide +kernel
theorem aX4i_25 : i_at mX4_init.2.2.2.2.2 25 = some (.newarray .int, 2, 0, 0, 146, 0) := by decide +kernel
theorem aX4i_27 : i_at mX4_init.2.2.2.2.2 27 = some (.putfield 22, 3, 3, 5, 313, 0) := by decide +kernel
theorem aX4i_30 : i_at mX4_init.2.2.2.2.2 30 = some (.aload_n 0, 1, 0, 0, 0, 0) := by decide +kernel
theorem aX4i_31 : i_at mX4_init.2.2.2.2.2 31 = some (.bipush 6, 2, 0, 0, 0, 0) := by decide +kernel
theorem aX4i_33 : i_at mX4_init.2.2.2.2.2 33 = some (.newarray .int, 2, 0, 0, 146, 0) := by decide +kernel
theorem aX4i_35 : i_at mX4_init.2.2.2.2.2 35 = some (.putfield 25, 3, 3, 6, 318, 0) := by decide +kernel
theorem aX4i_38 : i_at mX4_init.2.2.2.2.2 38 = some (.aload_n 0, 1, 0, 0, 0, 0) := by decide +kernel
theorem aX4i_39 : i_at mX4_init.2.2.2.2.2 39 = some (.bipush 6, 2, 0, 0, 0, 0) := by decide +kernel
theorem aX4i_41 : i_at mX4_init.2.2.2.2.2 41 = some (.newarray .int, 2, 0, 0, 146, 0) := by decide +kernel
theorem aX4i_43 : i_at mX4_init.2.2.2.2.2 43 = some (.putfield 28, 3, 3, 7, 321, 0) := by decide +kernel
theorem aX4i_46 : i_at mX4_init.2.2.2.2.2 46 = some (.return_, 1, 0, 0, 0, 0) := by decide +kernel
theorem aX11m_0 : i_at mX11_image.2.2.2.2.2 0 = some (.iload_n 1, 1, 0, 0, 0, 0) := by decide +kernel
theorem aX11m_1 : i_at mX11_image.2.2.2.2.2 1 = some (.iconst 0, 1, 0, 0, 0, 0) := by decide +kernel
theorem aX11m_2 : i_at mX11_image.2.2.2.2.2 2 = some (.iconst 3, 1, 0, 0, 0, 0) := by decide +kernel
theorem aX11m_3 : i_at mX11_image.2.2.2.2.2 3 = some (.invokestatic 187, 3, 125, 3, 847, 0) := by decide +kernel
theorem aX11m_6 : i_at mX11_image.2.2.2.2.2 6 = some (.ifCond .ne 5, 3, 11, 0, 0, 0) := by decide +kernel
theorem aX11m_9 : i_at mX11_image.2.2.2.2.2 9 = some (.iconst (-1), 1, 0, 0, 0, 0) := by decide +kernel
theorem aX11m_10 : i_at mX11_image.2.2.2.2.2 10 = some (.ireturn, 1, 0, 0, 0, 0) := by decide +kernel
theorem aX11m_11 : i_at mX11_image.2.2.2.2.2 11 = some (.aload_n 0, 1, 0, 0, 0, 0) := by decide +kernel
theorem aX11m_12 : i_at mX11_image.2.2.2.2.2 12 = some (.getfield 79, 3, 10, 9, 463, 0) := by decide +kernel
theorem aX11m_15 : i_at mX11_image.2.2.2.2.2 15 = some (.iload_n 1, 1, 0, 0, 0, 0) := by decide +kernel
theorem aX11m_16 : i_at mX11_image.2.2.2.2.2 16 = some (.aaload, 1, 0, 0, 0, 0) := by decide +kernel
theorem aX11m_17 : i_at mX11_image.2.2.2.2.2 17 = some (.ifnonnull 16, 3, 33, 0, 0, 0) := by decide +kernel
theorem aX11m_20 : i_at mX11_image.2.2.2.2.2 20 = some (.aload_n 0, 1, 0, 0, 0, 0) := by decide +kernel
theorem aX11m_21 : i_at mX11_image.2.2.2.2.2 21 = some (.getfield 79, 3, 10, 9, 463, 0) := by decide +kernel
theorem aX11m_24 : i_at mX11_image.2.2.2.2.2 24 = some (.iload_n 1, 1, 0, 0, 0, 0) := by decide +kernel
theorem aX11m_25 : i_at mX11_image.2.2.2.2.2 25 = some (.new 56, 3, 9, 0, 278, 0) := by decide +kernel
theorem aX11m_28 : i_at mX11_image.2.2.2.2.2 28 = some (.dup, 1, 0, 0, 0, 0) := by decide +kernel
theorem aX11m_29 : i_at mX11_image.2.2.2.2.2 29 = some (.invokespecial 58, 3, 86, 0, 280, 0) := by decide +kernel
theorem aX11m_32 : i_at mX11_image.2.2.2.2.2 32 = some (.aastore, 1, 0, 0, 0, 0) := by decide +kernel
theorem aX11m_33 : i_at mX11_image.2.2.2.2.2 33 = some (.aload_n 0, 1, 0, 0, 0, 0) := by decide +kernel
theorem aX11m_34 : i_at mX11_image.2.2.2.2.2 34 = some (.getfield 79, 3, 10, 9, 463, 0) := by decide +kernel
theorem aX11m_37 : i_at mX11_image.2.2.2.2.2 37 = some (.iload_n 1, 1, 0, 0, 0, 0) := by decide +kernel
theorem aX11m_38 : i_at mX11_image.2.2.2.2.2 38 = some (.aaload, 1, 0, 0, 0, 0) := by decide +kernel
theorem aX11m_39 : i_at mX11_image.2.2.2.2.2 39 = some (.aload_n 0, 1, 0, 0, 0, 0) := by decide +kernel
theorem aX11m_40 : i_at mX11_image.2.2.2.2.2 40 = some (.getfield 59, 3, 10, 6, 460, 0) := by decide +kernel
theorem aX11m_43 : i_at mX11_image.2.2.2.2.2 43 = some (.invokevirtual 300, 3, 89, 1, 1072, 0) := by decide +kernel
theorem aX11m_46 : i_at mX11_image.2.2.2.2.2 46 = some (.aload_n 0, 1, 0, 0, 0, 0) := by decide +kernel
theorem aX11m_47 : i_at mX11_image.2.2.2.2.2 47 = some (.getfield 59, 3, 10, 6, 460, 0) := by decide +kernel
theorem aX11m_50 : i_at mX11_image.2.2.2.2.2 50 = some (.getfield 102, 3, 9, 1, 351, 0) := by decide +kernel
theorem aX11m_53 : i_at mX11_image.2.2.2.2.2 53 = some (.getfield 177, 3, 3, 0, 295, 0) := by decide +kernel
theorem aX11m_56 : i_at mX11_image.2.2.2.2.2 56 = some (.ireturn, 1, 0, 0, 0, 0) := by decide +kernel
def lifeK (q : Nat) : iH := [.inr (3, [.int 0, .int (-1), .int (-1), .int 0, .ref (q + 1), .ref (q + 2), .ref (q + 3), .ref (q + 4)]), .inl (.int, 6, .inl (fun _ => 0)), .inl (.int, 6, .inl (fun _ => 0)), .inl (.int, 6, .inl (fun _ => 0)), .inl (.int, 6, .inl (fun _ => 0))]
def realmK (q : Nat) : iH := [.inr (5, [.int 0, .int 0, .int 0, .int 0, .int 0, .ref (q + 1), .ref (q + 2), .ref (q + 3), .ref (q + 4), .ref (q + 5)]), .inl (.int, 6, .inl (fun _ => 0)), .inl (.int, 6, .inl (fun _ => 0)), .inl (.int, 12, .inl (fun _ => 0)), .inl (.int, 6, .inl (fun _ => 0)), .inl (.int, 6, .inl (fun _ => 0))]
theorem E_at {H E : iH} {k i : Nat} {x : iC} (hi : i = H.length + k) (hk : E[k]? = some x) : (H ++ E)[i]? = some x := by
  rw [hi, List.getElem?_append_right (by omega), show H.length + k - H.length = k by omega]
  exact hk
theorem E_set {H E : iH} {k i : Nat} {x : iC} (hi : i = H.length + k) : (H ++ E).set i x = H ++ E.set k x := by
  rw [hi, List.set_append_right _ _ (by omega), show H.length + k - H.length = k by omega]
section PE
variable {d : Nat} {M : iM} {mc ms : Nat} {v : Option Value} {h' H E E2 : iH} {pc : Nat} {loc st : List Value} {c s : Nat} {l a b w : Nat} {z : Int}
theorem p_putE {k i k0 : Nat} {x : Value} {fs : List Value} (hat : i_at M.2.2.2.2.2 pc = some (.putfield k0, l, a, b, w, z)) (hi : i = H.length + k) (hk : E[k]? = some (.inr (a, fs))) (hx : i_okf (i_ty a b) x = true) (hb : b < fs.length) (hE : E.set k (.inr (a, fs.set b x)) = E2) (kk : p_R d M mc ms v h' (pc + 3) loc st (H ++ E2) c s) : p_R d M mc ms v h' pc loc (x :: .ref i :: st) (H ++ E) c s := p_put hat (E_at hi hk) hx hb (by rw [E_set hi, hE]) kk
theorem p_getE {k i k0 : Nat} {x : Value} {fs : List Value} (hat : i_at M.2.2.2.2.2 pc = some (.getfield k0, l, a, b, w, z)) (hi : i = H.length + k) (hk : E[k]? = some (.inr (a, fs))) (hb : fs[b]? = some x) (kk : p_R d M mc ms v h' (pc + 3) loc (x :: st) (H ++ E) c s) : p_R d M mc ms v h' pc loc (.ref i :: st) (H ++ E) c s := p_get hat (E_at hi hk) hb kk
theorem p_newA {n r : Nat} (hat : i_at M.2.2.2.2.2 pc = some (.newarray .int, l, a, b, w, z)) (hn : n ≤ 60000) (hr : r = H.length + E.length) (hb : r < i_SB) (hc : c + 1 ≤ mc) (hs : s + n ≤ ms) (hE : E ++ [.inl (.int, n, .inl (fun _ => 0))] = E2) (kk : p_R d M mc ms v h' (pc + 2) loc (.ref r :: st) (H ++ E2) (c + 1) (s + n)) : p_R d M mc ms v h' pc loc (.int (nI n) :: st) (H ++ E) c s := by
  subst hE
  have hl : (H ++ E).length = r := by rw [List.length_append, hr]
  have hcl : (nI n).toNatClampNeg = n := nI_clamp (by omega)
  refine p_n (pc2 := pc + 2) (loc2 := loc) (st2 := .ref r :: st) (h2 := H ++ (E ++ [.inl (.int, n, .inl (fun _ => 0))])) (dc := 1) (ds := n) hat ?_ hc hs kk
  simp only [i_nw, hcl, hl]
  rw [if_pos ⟨hb, nI_pos (by omega), hn⟩, List.append_assoc]
theorem p_newQ {n r : Nat} {k0 : Nat} (hat : i_at M.2.2.2.2.2 pc = some (.anewarray k0, l, 3, b, w, z)) (hn : n ≤ 60000) (hr : r = H.length + E.length) (hb : r < i_SB) (hc : c + 1 ≤ mc) (hs : s + n ≤ ms) (hE : E ++ [.inl (.object RX4, n, .inr (.inr (.inr (.inr (fun _ => none)))))] = E2) (kk : p_R d M mc ms v h' (pc + 3) loc (.ref r :: st) (H ++ E2) (c + 1) (s + n)) : p_R d M mc ms v h' pc loc (.int (nI n) :: st) (H ++ E) c s := by
  subst hE
  have hl : (H ++ E).length = r := by rw [List.length_append, hr]
  have hcl : (nI n).toNatClampNeg = n := nI_clamp (by omega)
  refine p_n (pc2 := pc + 3) (loc2 := loc) (st2 := .ref r :: st) (h2 := H ++ (E ++ [.inl (.object RX4, n, .inr (.inr (.inr (.inr (fun _ => none)))))])) (dc := 1) (ds := n) hat ?_ hc hs kk
  simp only [i_nw, hcl, hl]
  rw [if_pos ⟨hb, nI_pos (by omega), hn⟩, List.append_assoc]
theorem p_newO {r m : Nat} {k0 : Nat} (hat : i_at M.2.2.2.2.2 pc = some (.new k0, l, a, b, w, z)) (hr : r = H.length + E.length) (hb : r < i_SB) (hm : (i_dfl a).length = m) (hc : c + 1 ≤ mc) (hs : s + m ≤ ms) (hE : E ++ [.inr (a, i_dfl a)] = E2) (kk : p_R d M mc ms v h' (pc + 3) loc (.ref r :: st) (H ++ E2) (c + 1) (s + m)) : p_R d M mc ms v h' pc loc st (H ++ E) c s := by
  subst hE
  have hl : (H ++ E).length = r := by rw [List.length_append, hr]
  refine p_n (pc2 := pc + 3) (loc2 := loc) (st2 := .ref r :: st) (h2 := H ++ (E ++ [.inr (a, i_dfl a)])) (dc := 1) (ds := m) hat ?_ hc hs kk
  simp only [i_nw, hl]
  rw [if_pos hb, List.append_assoc, hm]
end PE
theorem lifeInit {H : iH} {q : Nat} (hq : H.length = q) (hb : q + 5 < i_SB) : i_X 1 25 [.ref q] (H ++ [.inr (3, [.int 0, .int 0, .int 0, .int 0, .null, .null, .null, .null])]) 4 24 none (H ++ lifeK q) := by
  refine p_X (M := mX4_init) (loc := [.ref q]) rfl (Nat.le_of_ble_eq_true rfl) rfl ?_
  refine p_s aX4i_0 rfl ?_
  refine p_s (pc2 := 4) (st2 := []) aX4i_1 rfl ?_
  refine p_s aX4i_4 rfl ?_
  refine p_s (st2 := [.int (-1), .ref q]) aX4i_5 rfl ?_
  refine p_putE (k := 0) aX4i_6 hq.symm rfl rfl (Nat.le_of_ble_eq_true rfl) rfl ?_
  refine p_s aX4i_9 rfl ?_
  refine p_s (st2 := [.int (-1), .ref q]) aX4i_10 rfl ?_
  refine p_putE (k := 0) aX4i_11 hq.symm rfl rfl (Nat.le_of_ble_eq_true rfl) rfl ?_
  refine p_s aX4i_14 rfl ?_
  refine p_s (st2 := [.int (nI 6), .ref q]) aX4i_15 rfl ?_
  refine p_newA (n := 6) (r := q + 1) aX4i_17 (by omega) (by rw [hq]; rfl) (by omega) (by omega) (by omega) rfl ?_
  refine p_putE (k := 0) aX4i_19 hq.symm rfl rfl (Nat.le_of_ble_eq_true rfl) rfl ?_
  refine p_s aX4i_22 rfl ?_
  refine p_s (st2 := [.int (nI 6), .ref q]) aX4i_23 rfl ?_
  refine p_newA (n := 6) (r := q + 2) aX4i_25 (by omega) (by rw [hq]; rfl) (by omega) (by omega) (by omega) rfl ?_
  refine p_putE (k := 0) aX4i_27 hq.symm rfl rfl (Nat.le_of_ble_eq_true rfl) rfl ?_
  refine p_s aX4i_30 rfl ?_
  refine p_s (st2 := [.int (nI 6), .ref q]) aX4i_31 rfl ?_
  refine p_newA (n := 6) (r := q + 3) aX4i_33 (by omega) (by rw [hq]; rfl) (by omega) (by omega) (by omega) rfl ?_
  refine p_putE (k := 0) aX4i_35 hq.symm rfl rfl (Nat.le_of_ble_eq_true rfl) rfl ?_
  refine p_s aX4i_38 rfl ?_
  refine p_s (st2 := [.int (nI 6), .ref q]) aX4i_39 rfl ?_
  refine p_newA (n := 6) (r := q + 4) aX4i_41 (by omega) (by rw [hq]; rfl) (by omega) (by omega) (by omega) rfl ?_
  refine p_putE (k := 0) aX4i_43 hq.symm rfl rfl (Nat.le_of_ble_eq_true rfl) rfl ?_
  exact p_r aX4i_46 ⟨rfl, rfl, rfl, rfl⟩ (Nat.le_refl _) (Nat.le_refl _)
theorem realmInit {H : iH} {q : Nat} (hq : H.length = q) (hb : q + 6 < i_SB) : i_X 1 50 [.ref q] (H ++ [.inr (5, [.int 0, .int 0, .int 0, .int 0, .int 0, .null, .null, .null, .null, .null])]) 5 36 none (H ++ realmK q) := by
  refine p_X (M := mX6_init) (loc := [.ref q]) rfl (Nat.le_of_ble_eq_true rfl) rfl ?_
  refine p_s aX6i_0 rfl ?_
  refine p_s (pc2 := 4) (st2 := []) aX6i_1 rfl ?_
  refine p_s aX6i_4 rfl ?_
  refine p_s (st2 := [.int (nI 6), .ref q]) aX6i_5 rfl ?_
  refine p_newA (n := 6) (r := q + 1) aX6i_7 (by omega) (by rw [hq]; rfl) (by omega) (by omega) (by omega) rfl ?_
  refine p_putE (k := 0) aX6i_9 hq.symm rfl rfl (Nat.le_of_ble_eq_true rfl) rfl ?_
  refine p_s aX6i_12 rfl ?_
  refine p_s (st2 := [.int (nI 6), .ref q]) aX6i_13 rfl ?_
  refine p_newA (n := 6) (r := q + 2) aX6i_15 (by omega) (by rw [hq]; rfl) (by omega) (by omega) (by omega) rfl ?_
  refine p_putE (k := 0) aX6i_17 hq.symm rfl rfl (Nat.le_of_ble_eq_true rfl) rfl ?_
  refine p_s aX6i_20 rfl ?_
  refine p_s (st2 := [.int (nI 12), .ref q]) aX6i_21 rfl ?_
  refine p_newA (n := 12) (r := q + 3) aX6i_23 (by omega) (by rw [hq]; rfl) (by omega) (by omega) (by omega) rfl ?_
  refine p_putE (k := 0) aX6i_25 hq.symm rfl rfl (Nat.le_of_ble_eq_true rfl) rfl ?_
  refine p_s aX6i_28 rfl ?_
  refine p_s (st2 := [.int (nI 6), .ref q]) aX6i_29 rfl ?_
  refine p_newA (n := 6) (r := q + 4) aX6i_31 (by omega) (by rw [hq]; rfl) (by omega) (by omega) (by omega) rfl ?_
  refine p_putE (k := 0) aX6i_33 hq.symm rfl rfl (Nat.le_of_ble_eq_true rfl) rfl ?_
  refine p_s aX6i_36 rfl ?_
  refine p_s (st2 := [.int (nI 6), .ref q]) aX6i_37 rfl ?_
  refine p_newA (n := 6) (r := q + 5) aX6i_39 (by omega) (by rw [hq]; rfl) (by omega) (by omega) (by omega) rfl ?_
  refine p_putE (k := 0) aX6i_41 hq.symm rfl rfl (Nat.le_of_ble_eq_true rfl) rfl ?_
  exact p_r aX6i_44 ⟨rfl, rfl, rfl, rfl⟩ (Nat.le_refl _) (Nat.le_refl _)
