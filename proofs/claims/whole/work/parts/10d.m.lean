theorem ns_X5_24 : (RX5, 24, yX11_within, "WhoseStreet") ∈ zNs := by decide +kernel
def f_X5_compare (N : Nat) (v0 : Nat) (v1 : Int32) (v2 : Int32) (v3 : Int32) (h : zH) : Option (Int32) := zlet ((v1 * 31) + v2 : Int32) fun x1 => zlet ((v1 * 31) + v3 : Int32) fun x2 => (gR h v0 5 0).bind fun r3 => (aN h r3).bind fun x4 => if (p_X11_within x1 0 (x4 - 1)) = 0 then (some (-1)) else ((gR h v0 5 0).bind fun r6 => (aN h r6).bind fun x7 => if (p_X11_within x2 0 (x7 - 1)) = 0 then (some (-1)) else ((gR h v0 5 0).bind fun r9 => (aI h r9 x1).bind fun x10 => if x10 = (-1) then (some (-1)) else ((gR h v0 5 0).bind fun r12 => (aI h r12 x2).bind fun x13 => if x13 = (-1) then (some (-1)) else ((gR h v0 5 0).bind fun r15 => (aI h r15 x2).bind fun x16 => (gR h v0 5 0).bind fun r17 => (aI h r17 x1).bind fun x18 => if x16 < x18 then ((gR h v0 5 0).bind fun r20 => (aI h r20 x2).bind fun x21 => (gR h v0 5 1).bind fun r22 => (aI h r22 x1).bind fun x23 => (gR h v0 5 0).bind fun r24 => (aI h r24 x1).bind fun x25 => (gR h v0 5 1).bind fun r26 => (aI h r26 x2).bind fun x27 => if (lg_cmp ((x21.toInt64) * (x23.toInt64)) ((x25.toInt64) * (x27.toInt64))) < 0 then (some 2) else (some 1)) else (some 0)))))
set_option maxRecDepth 100000 in
set_option maxHeartbeats 4000000 in
theorem k_X5_compare {N : Nat} {v0 : Nat} {v1 : Int32} {v2 : Int32} {v3 : Int32} {h : zH} {r : Int32} (H : f_X5_compare N v0 v1 v2 v3 h = some r) : zOk 1 0 0 yX5_compare cX5_compare 6 (some .int) [.ref v0, .int v1, .int v2, .int v3] h (some (.int r)) h := by
  refine zOk.of (by decide) (Nat.le_of_ble_eq_true rfl) ?_
  unfold f_X5_compare at H
  refine z_iload_n (pc := 0) 1 dX5_compare_0 rfl rfl ?_
  refine z_bipush (pc := 1) (x := 31) dX5_compare_1 zc_bipush_31 ?_
  refine z_imul (pc := 3) dX5_compare_3 ?_
  refine z_iload_n (pc := 4) 2 dX5_compare_4 rfl rfl ?_
  refine z_iadd (pc := 5) dX5_compare_5 ?_
  obtain ⟨x1, ex1, H⟩ := zletE H
  refine z_nmI ex1 ?_
  refine z_istore (pc := 6) (lv' := [(4, .int x1), (0, .ref v0), (1, .int v1), (2, .int v2), (3, .int v3)]) dX5_compare_6 (by decide) rfl ?_
  refine z_iload_n (pc := 8) 2 dX5_compare_8 rfl rfl ?_
  refine z_bipush (pc := 9) (x := 31) dX5_compare_9 zc_bipush_31 ?_
  refine z_imul (pc := 11) dX5_compare_11 ?_
  refine z_iload_n (pc := 12) 4 dX5_compare_12 rfl rfl ?_
  refine z_iadd (pc := 13) dX5_compare_13 ?_
  obtain ⟨x2, ex2, H⟩ := zletE H
  refine z_nmI ex2 ?_
  refine z_istore (pc := 14) (lv' := [(5, .int x2), (4, .int x1), (0, .ref v0), (1, .int v1), (2, .int v2), (3, .int v3)]) dX5_compare_14 (by decide) rfl ?_
  refine z_iload (pc := 16) 1 dX5_compare_16 rfl ?_
  refine z_iconst (pc := 18) (x := 0) dX5_compare_18 zc_iconst_0 ?_
  refine z_aload_n (pc := 19) 2 dX5_compare_19 rfl rfl ?_
  obtain ⟨r3, er3, H⟩ := zbind H
  refine z_getR (pc := 20) dX5_compare_20 fd_X5_11 er3 ?_
  obtain ⟨x4, ex4, H⟩ := zbind H
  refine z_alen (pc := 23) dX5_compare_23 ex4 ?_
  refine z_iconst (pc := 24) (x := 1) dX5_compare_24 zc_iconst_1 ?_
  refine z_isub (pc := 25) dX5_compare_25 ?_
  refine z_callSN (pc := 26) (mc := 0) (ms := 0) (d' := 0) (mc' := 0) (ms' := 0) (rest := []) [.int x1, .int 0, .int (x4 - 1)] dX5_compare_26 md_X11_within ns_X5_24 sm_X11_within rfl rfl (Nat.le_of_ble_eq_true rfl) (by omega) (k_X11_within x1 0 (x4 - 1) h _ rfl) ?_
  refine z_if_eq (pc := 29) 48 dX5_compare_29 (by decide) (fun c5 => ?_) (fun c5 => ?_)
  · rw [if_pos c5] at H
    refine z_iconst (pc := 48) (x := (-1)) dX5_compare_48 zc_iconst_m1 ?_
    cases H
    exact z_ireturn rfl dX5_compare_49
  · rw [if_neg c5] at H
    refine z_iload (pc := 32) 0 dX5_compare_32 rfl ?_
    refine z_iconst (pc := 34) (x := 0) dX5_compare_34 zc_iconst_0 ?_
    refine z_aload_n (pc := 35) 2 dX5_compare_35 rfl rfl ?_
    obtain ⟨r6, er6, H⟩ := zbind H
    refine z_getR (pc := 36) dX5_compare_36 fd_X5_11 er6 ?_
    obtain ⟨x7, ex7, H⟩ := zbind H
    refine z_alen (pc := 39) dX5_compare_39 ex7 ?_
    refine z_iconst (pc := 40) (x := 1) dX5_compare_40 zc_iconst_1 ?_
    refine z_isub (pc := 41) dX5_compare_41 ?_
    refine z_callSN (pc := 42) (mc := 0) (ms := 0) (d' := 0) (mc' := 0) (ms' := 0) (rest := []) [.int x2, .int 0, .int (x7 - 1)] dX5_compare_42 md_X11_within ns_X5_24 sm_X11_within rfl rfl (Nat.le_of_ble_eq_true rfl) (by omega) (k_X11_within x2 0 (x7 - 1) h _ rfl) ?_
    refine z_if_ne (pc := 45) 50 dX5_compare_45 (by decide) (fun c8 => ?_) (fun c8 => ?_)
    · rw [if_neg c8] at H
      refine z_aload_n (pc := 50) 2 dX5_compare_50 rfl rfl ?_
      obtain ⟨r9, er9, H⟩ := zbind H
      refine z_getR (pc := 51) dX5_compare_51 fd_X5_11 er9 ?_
      refine z_iload (pc := 54) 1 dX5_compare_54 rfl ?_
      obtain ⟨x10, ex10, H⟩ := zbind H
      refine z_iaload (pc := 56) dX5_compare_56 ex10 ?_
      refine z_iconst (pc := 57) (x := (-1)) dX5_compare_57 zc_iconst_m1 ?_
      refine z_icmp_eq (pc := 58) 72 dX5_compare_58 (by decide) (fun c11 => ?_) (fun c11 => ?_)
      · rw [if_pos c11] at H
        refine z_iconst (pc := 72) (x := (-1)) dX5_compare_72 zc_iconst_m1 ?_
        cases H
        exact z_ireturn rfl dX5_compare_73
      · rw [if_neg c11] at H
        refine z_aload_n (pc := 61) 2 dX5_compare_61 rfl rfl ?_
        obtain ⟨r12, er12, H⟩ := zbind H
        refine z_getR (pc := 62) dX5_compare_62 fd_X5_11 er12 ?_
        refine z_iload (pc := 65) 0 dX5_compare_65 rfl ?_
        obtain ⟨x13, ex13, H⟩ := zbind H
        refine z_iaload (pc := 67) dX5_compare_67 ex13 ?_
        refine z_iconst (pc := 68) (x := (-1)) dX5_compare_68 zc_iconst_m1 ?_
        refine z_icmp_ne (pc := 69) 74 dX5_compare_69 (by decide) (fun c14 => ?_) (fun c14 => ?_)
        · rw [if_neg c14] at H
          refine z_aload_n (pc := 74) 2 dX5_compare_74 rfl rfl ?_
          obtain ⟨r15, er15, H⟩ := zbind H
          refine z_getR (pc := 75) dX5_compare_75 fd_X5_11 er15 ?_
          refine z_iload (pc := 78) 0 dX5_compare_78 rfl ?_
          obtain ⟨x16, ex16, H⟩ := zbind H
          refine z_iaload (pc := 80) dX5_compare_80 ex16 ?_
          refine z_aload_n (pc := 81) 2 dX5_compare_81 rfl rfl ?_
          obtain ⟨r17, er17, H⟩ := zbind H
          refine z_getR (pc := 82) dX5_compare_82 fd_X5_11 er17 ?_
          refine z_iload (pc := 85) 1 dX5_compare_85 rfl ?_
          obtain ⟨x18, ex18, H⟩ := zbind H
          refine z_iaload (pc := 87) dX5_compare_87 ex18 ?_
          refine z_icmp_lt (pc := 88) 93 dX5_compare_88 (by decide) (fun c19 => ?_) (fun c19 => ?_)
          · rw [if_pos c19] at H
            refine z_aload_n (pc := 93) 2 dX5_compare_93 rfl rfl ?_
            obtain ⟨r20, er20, H⟩ := zbind H
            refine z_getR (pc := 94) dX5_compare_94 fd_X5_11 er20 ?_
            refine z_iload (pc := 97) 0 dX5_compare_97 rfl ?_
            obtain ⟨x21, ex21, H⟩ := zbind H
            refine z_iaload (pc := 99) dX5_compare_99 ex21 ?_
            refine z_i2l (pc := 100) dX5_compare_100 ?_
            refine z_aload_n (pc := 101) 2 dX5_compare_101 rfl rfl ?_
            obtain ⟨r22, er22, H⟩ := zbind H
            refine z_getR (pc := 102) dX5_compare_102 fd_X5_15 er22 ?_
            refine z_iload (pc := 105) 1 dX5_compare_105 rfl ?_
            obtain ⟨x23, ex23, H⟩ := zbind H
            refine z_iaload (pc := 107) dX5_compare_107 ex23 ?_
            refine z_i2l (pc := 108) dX5_compare_108 ?_
            refine z_lmul (pc := 109) dX5_compare_109 ?_
            refine z_aload_n (pc := 110) 2 dX5_compare_110 rfl rfl ?_
            obtain ⟨r24, er24, H⟩ := zbind H
            refine z_getR (pc := 111) dX5_compare_111 fd_X5_11 er24 ?_
            refine z_iload (pc := 114) 1 dX5_compare_114 rfl ?_
            obtain ⟨x25, ex25, H⟩ := zbind H
            refine z_iaload (pc := 116) dX5_compare_116 ex25 ?_
            refine z_i2l (pc := 117) dX5_compare_117 ?_
            refine z_aload_n (pc := 118) 2 dX5_compare_118 rfl rfl ?_
            obtain ⟨r26, er26, H⟩ := zbind H
            refine z_getR (pc := 119) dX5_compare_119 fd_X5_15 er26 ?_
            refine z_iload (pc := 122) 0 dX5_compare_122 rfl ?_
            obtain ⟨x27, ex27, H⟩ := zbind H
            refine z_iaload (pc := 124) dX5_compare_124 ex27 ?_
            refine z_i2l (pc := 125) dX5_compare_125 ?_
            refine z_lmul (pc := 126) dX5_compare_126 ?_
            refine z_lcmp (pc := 127) dX5_compare_127 ?_
            refine z_if_lt (pc := 128) 135 dX5_compare_128 (by decide) (fun c28 => ?_) (fun c28 => ?_)
            · rw [if_pos c28] at H
              refine z_iconst (pc := 135) (x := 2) dX5_compare_135 zc_iconst_2 ?_
              cases H
              exact z_ireturn rfl dX5_compare_136
            · rw [if_neg c28] at H
              refine z_iconst (pc := 131) (x := 1) dX5_compare_131 zc_iconst_1 ?_
              refine z_goto (pc := 132) 136 dX5_compare_132 (by decide) ?_
              cases H
              exact z_ireturn rfl dX5_compare_136
          · rw [if_neg c19] at H
            refine z_iconst (pc := 91) (x := 0) dX5_compare_91 zc_iconst_0 ?_
            cases H
            exact z_ireturn rfl dX5_compare_92
        · rw [if_pos c14] at H
          refine z_iconst (pc := 72) (x := (-1)) dX5_compare_72 zc_iconst_m1 ?_
          cases H
          exact z_ireturn rfl dX5_compare_73
    · rw [if_pos c8] at H
      refine z_iconst (pc := 48) (x := (-1)) dX5_compare_48 zc_iconst_m1 ?_
      cases H
      exact z_ireturn rfl dX5_compare_49

theorem zc_bipush_50 : (Int8.ofInt (50)).toInt32 = (50 : Int32) := by decide
theorem ml_X6_3 : Cond.methodLink RX6 3 objectInit ∈ zB := zmem 562 (by decide +kernel) rfl
theorem fd_X6_15 : zFd RX6 15 6 0 (.int) true "WhoseStreet$Meeting" := zFd.of cl_6 (by decide) (zmem 563 (by decide +kernel) rfl) rfl rfl rfl
theorem fd_X6_21 : zFd RX6 21 6 2 (.int) true "WhoseStreet$Meeting" := zFd.of cl_6 (by decide) (zmem 568 (by decide +kernel) rfl) rfl rfl rfl
theorem fd_X6_24 : zFd RX6 24 6 3 (.int) true "WhoseStreet$Meeting" := zFd.of cl_6 (by decide) (zmem 570 (by decide +kernel) rfl) rfl rfl rfl
def f_X6_init (N : Nat) (v0 : Nat) (v1 : Int32) (v2 : Int32) (v3 : Int32) (v4 : Int32) (v5 : Int32) (v6 : Int32) (h : zH) : Option (zH) := (pF h v0 6 10 (.int 50)).bind fun h1 => (pF h1 v0 6 0 (.int v1)).bind fun h2 => (pF h2 v0 6 1 (.int v2)).bind fun h3 => (pF h3 v0 6 2 (.int v3)).bind fun h4 => (pF h4 v0 6 3 (.int v4)).bind fun h5 => (pF h5 v0 6 4 (.int v5)).bind fun h6 => (if (v6 &&& 1) = 0 then (some 0) else (some 1) : Option (Int32)).bind fun m7 => (pZ h6 v0 6 5 m7).bind fun h9 => (pF h9 v0 6 6 (.int (v6 >>> (1 &&& 31)))).bind fun h10 => some h10
set_option maxRecDepth 100000 in
set_option maxHeartbeats 4000000 in
theorem k_X6_init {N : Nat} {v0 : Nat} {v1 : Int32} {v2 : Int32} {v3 : Int32} {v4 : Int32} {v5 : Int32} {v6 : Int32} {h : zH} {r : zH} (H : f_X6_init N v0 v1 v2 v3 v4 v5 v6 h = some r) : zOk 1 0 0 yX6_init cX6_init 7 none [.ref v0, .int v1, .int v2, .int v3, .int v4, .int v5, .int v6] h none r := by
  refine zOk.of (by decide) (Nat.le_of_ble_eq_true rfl) ?_
  unfold f_X6_init at H
  refine z_aload_n (pc := 0) 0 dX6_init_0 rfl rfl ?_
  refine z_objInit (pc := 1) dX6_init_1 ml_X6_3 im_object cd_object (by omega) (Nat.le_of_ble_eq_true rfl) ?_
  refine z_aload_n (pc := 4) 0 dX6_init_4 rfl rfl ?_
  refine z_bipush (pc := 5) (x := 50) dX6_init_5 zc_bipush_50 ?_
  obtain ⟨h1, eh1, H⟩ := zbind H
  refine z_put (pc := 7) dX6_init_7 fd_X6_9 rfl rfl eh1 ?_
  refine z_aload_n (pc := 10) 0 dX6_init_10 rfl rfl ?_
  refine z_iload_n (pc := 11) 1 dX6_init_11 rfl rfl ?_
  obtain ⟨h2, eh2, H⟩ := zbind H
  refine z_putF (pc := 12) dX6_init_12 fd_X6_15 rfl rfl rfl eh2 ?_
  refine z_aload_n (pc := 15) 0 dX6_init_15 rfl rfl ?_
  refine z_iload_n (pc := 16) 2 dX6_init_16 rfl rfl ?_
  obtain ⟨h3, eh3, H⟩ := zbind H
  refine z_putF (pc := 17) dX6_init_17 fd_X6_18 rfl rfl rfl eh3 ?_
  refine z_aload_n (pc := 20) 0 dX6_init_20 rfl rfl ?_
  refine z_iload_n (pc := 21) 3 dX6_init_21 rfl rfl ?_
  obtain ⟨h4, eh4, H⟩ := zbind H
  refine z_putF (pc := 22) dX6_init_22 fd_X6_21 rfl rfl rfl eh4 ?_
  refine z_aload_n (pc := 25) 0 dX6_init_25 rfl rfl ?_
  refine z_iload (pc := 26) 4 dX6_init_26 rfl ?_
  obtain ⟨h5, eh5, H⟩ := zbind H
  refine z_putF (pc := 28) dX6_init_28 fd_X6_24 rfl rfl rfl eh5 ?_
  refine z_aload_n (pc := 31) 0 dX6_init_31 rfl rfl ?_
  refine z_iload (pc := 32) 5 dX6_init_32 rfl ?_
  obtain ⟨h6, eh6, H⟩ := zbind H
  refine z_putF (pc := 34) dX6_init_34 fd_X6_27 rfl rfl rfl eh6 ?_
  refine z_aload_n (pc := 37) 0 dX6_init_37 rfl rfl ?_
  refine z_iload (pc := 38) 6 dX6_init_38 rfl ?_
  refine z_iconst (pc := 40) (x := 1) dX6_init_40 zc_iconst_1 ?_
  refine z_iand (pc := 41) dX6_init_41 ?_
  obtain ⟨m7, em7, H⟩ := zbind H
  have Jm7 : zW yX6_init cX6_init 7 none 1 0 0 50 [(0, .ref v0), (6, .int v6)] [.int m7, .ref v0] h6 none r := by
    obtain ⟨h9, eh9, H⟩ := zbind H
    refine z_putF (pc := 50) dX6_init_50 fd_X6_30 rfl (pZ_n eh9) (pZ_f eh9) (pZ_p eh9) ?_
    refine z_aload_n (pc := 53) 0 dX6_init_53 rfl rfl ?_
    refine z_iload (pc := 54) 1 dX6_init_54 rfl ?_
    refine z_iconst (pc := 56) (x := 1) dX6_init_56 zc_iconst_1 ?_
    refine z_ishr (pc := 57) dX6_init_57 ?_
    obtain ⟨h10, eh10, H⟩ := zbind H
    refine z_putF (pc := 58) dX6_init_58 fd_X6_34 rfl rfl rfl eh10 ?_
    cases H
    exact z_return rfl dX6_init_61
  refine z_if_eq (pc := 42) 49 dX6_init_42 (by decide) (fun c8 => ?_) (fun c8 => ?_)
  · rw [if_pos c8] at em7
    refine z_iconst (pc := 49) (x := 0) dX6_init_49 zc_iconst_0 ?_
    cases em7
    exact z_sub [0, 6] rfl Jm7
  · rw [if_neg c8] at em7
    refine z_iconst (pc := 45) (x := 1) dX6_init_45 zc_iconst_1 ?_
    refine z_goto (pc := 46) 50 dX6_init_46 (by decide) ?_
    cases em7
    exact z_sub [0, 6] rfl Jm7

theorem zc_sipush_1000 : (Int16.ofInt (1000)).toInt32 = (1000 : Int32) := by decide
theorem ml_X7_3 : Cond.methodLink RX7 3 objectInit ∈ zB := zmem 274 (by decide +kernel) rfl
theorem ac_long : Cond.arrayClass (zaty 1) ∈ zB := zmem 268 (by decide +kernel) rfl
theorem fd_X7_11 : zFd RX7 11 7 0 (.array .long) true "WhoseStreet$Reader" := zFd.of cl_7 (by decide) (zmem 275 (by decide +kernel) rfl) rfl rfl rfl
theorem fd_X7_17 : zFd RX7 17 7 1 (.array .int) true "WhoseStreet$Reader" := zFd.of cl_7 (by decide) (zmem 276 (by decide +kernel) rfl) rfl rfl rfl
theorem fd_X7_21 : zFd RX7 21 7 2 (.array .int) true "WhoseStreet$Reader" := zFd.of cl_7 (by decide) (zmem 277 (by decide +kernel) rfl) rfl rfl rfl
def f_X7_init (N : Nat) (v0 : Nat) (h : zH) : Option (zH) := zlet (znew h (zblank 1 8) : zH) fun h1 => (pF h1 v0 7 0 (.ref h.1.1)).bind fun h2 => zlet (znew h2 (zblank 0 1000) : zH) fun h3 => (pF h3 v0 7 1 (.ref h2.1.1)).bind fun h4 => zlet (znew h4 (zblank 0 32) : zH) fun h5 => (pF h5 v0 7 2 (.ref h4.1.1)).bind fun h6 => some h6
set_option maxRecDepth 100000 in
set_option maxHeartbeats 4000000 in
theorem k_X7_init {N : Nat} {v0 : Nat} {h : zH} {r : zH} (H : f_X7_init N v0 h = some r) : zOk 1 3 1040 yX7_init cX7_init 1 none [.ref v0] h none r := by
  refine zOk.of (by decide) (Nat.le_of_ble_eq_true rfl) ?_
  unfold f_X7_init at H
  refine z_aload_n (pc := 0) 0 dX7_init_0 rfl rfl ?_
  refine z_objInit (pc := 1) dX7_init_1 ml_X7_3 im_object cd_object (by omega) (Nat.le_of_ble_eq_true rfl) ?_
  refine z_aload_n (pc := 4) 0 dX7_init_4 rfl rfl ?_
  refine z_bipush (pc := 5) (x := 8) dX7_init_5 zc_bipush_8 ?_
  refine z_newarray (pc := 7) (mc := 2) (ms := 1032) (N := 8) 1 (by decide) dX7_init_7 rfl ac_long (by decide) (by decide) (by decide) ?_
  obtain ⟨h1, eh1, H⟩ := zletE H
  refine z_nmH eh1 ?_
  obtain ⟨h2, eh2, H⟩ := zbind H
  refine z_putF (pc := 9) dX7_init_9 fd_X7_11 rfl rfl rfl eh2 ?_
  refine z_aload_n (pc := 12) 0 dX7_init_12 rfl rfl ?_
  refine z_sipush (pc := 13) (x := 1000) dX7_init_13 zc_sipush_1000 ?_
  refine z_newarray (pc := 16) (mc := 1) (ms := 32) (N := 1000) 0 (by decide) dX7_init_16 rfl ac_int (by decide) (by decide) (by decide) ?_
  obtain ⟨h3, eh3, H⟩ := zletE H
  refine z_nmH eh3 ?_
  obtain ⟨h4, eh4, H⟩ := zbind H
  refine z_putF (pc := 18) dX7_init_18 fd_X7_17 rfl rfl rfl eh4 ?_
  refine z_aload_n (pc := 21) 0 dX7_init_21 rfl rfl ?_
  refine z_bipush (pc := 22) (x := 32) dX7_init_22 zc_bipush_32 ?_
  refine z_newarray (pc := 24) (mc := 0) (ms := 0) (N := 32) 0 (by decide) dX7_init_24 rfl ac_int (by decide) (by decide) (by decide) ?_
  obtain ⟨h5, eh5, H⟩ := zletE H
  refine z_nmH eh5 ?_
  obtain ⟨h6, eh6, H⟩ := zbind H
  refine z_putF (pc := 26) dX7_init_26 fd_X7_21 rfl rfl rfl eh6 ?_
  cases H
  exact z_return rfl dX7_init_29

theorem zc_bipush_97 : (Int8.ofInt (97)).toInt32 = (97 : Int32) := by decide
theorem zc_bipush_122 : (Int8.ofInt (122)).toInt32 = (122 : Int32) := by decide
theorem fd_X9_39 : zFd RX9 39 9 2 (.int) false "WhoseStreet$Tape" := zFd.of cl_9 (by decide) (zmem 239 (by decide +kernel) rfl) rfl rfl rfl
theorem fd_X9_9 : zFd RX9 9 9 0 (.array .byte) true "WhoseStreet$Tape" := zFd.of cl_9 (by decide) (zmem 237 (by decide +kernel) rfl) rfl rfl rfl
def f_X9_isLetter (N : Nat) (v0 : Nat) (v1 : Int32) (h : zH) : Option (Int32) := if v1 < 0 then (some 0) else ((gI h v0 9 2).bind fun x2 => if x2 ≤ v1 then (some 0) else (if 1000 ≤ v1 then (some 0) else ((gR h v0 9 0).bind fun r5 => (aB h r5 v1).bind fun x6 => if x6 < 97 then (some 0) else ((gR h v0 9 0).bind fun r8 => (aB h r8 v1).bind fun x9 => if 122 < x9 then (some 0) else (some 1)))))
set_option maxRecDepth 100000 in
set_option maxHeartbeats 4000000 in
theorem k_X9_isLetter {N : Nat} {v0 : Nat} {v1 : Int32} {h : zH} {r : Int32} (H : f_X9_isLetter N v0 v1 h = some r) : zOk 0 0 0 yX9_isLetter cX9_isLetter 2 (some .boolean) [.ref v0, .int v1] h (some (.int r)) h := by
  refine zOk.of (by decide) (Nat.le_of_ble_eq_true rfl) ?_
  unfold f_X9_isLetter at H
  refine z_iload_n (pc := 0) 1 dX9_isLetter_0 rfl rfl ?_
  refine z_if_lt (pc := 1) 45 dX9_isLetter_1 (by decide) (fun c1 => ?_) (fun c1 => ?_)
  · rw [if_pos c1] at H
    refine z_iconst (pc := 45) (x := 0) dX9_isLetter_45 zc_iconst_0 ?_
    cases H
    exact z_zreturn rfl dX9_isLetter_46 (by decide)
  · rw [if_neg c1] at H
    refine z_iload_n (pc := 4) 1 dX9_isLetter_4 rfl rfl ?_
    refine z_aload_n (pc := 5) 0 dX9_isLetter_5 rfl rfl ?_
    obtain ⟨x2, ex2, H⟩ := zbind H
    refine z_getI (pc := 6) dX9_isLetter_6 fd_X9_39 ex2 ?_
    refine z_icmp_ge (pc := 9) 45 dX9_isLetter_9 (by decide) (fun c3 => ?_) (fun c3 => ?_)
    · rw [if_pos c3] at H
      refine z_iconst (pc := 45) (x := 0) dX9_isLetter_45 zc_iconst_0 ?_
      cases H
      exact z_zreturn rfl dX9_isLetter_46 (by decide)
    · rw [if_neg c3] at H
      refine z_iload_n (pc := 12) 1 dX9_isLetter_12 rfl rfl ?_
      refine z_sipush (pc := 13) (x := 1000) dX9_isLetter_13 zc_sipush_1000 ?_
      refine z_icmp_ge (pc := 16) 45 dX9_isLetter_16 (by decide) (fun c4 => ?_) (fun c4 => ?_)
      · rw [if_pos c4] at H
        refine z_iconst (pc := 45) (x := 0) dX9_isLetter_45 zc_iconst_0 ?_
        cases H
        exact z_zreturn rfl dX9_isLetter_46 (by decide)
      · rw [if_neg c4] at H
        refine z_aload_n (pc := 19) 0 dX9_isLetter_19 rfl rfl ?_
        obtain ⟨r5, er5, H⟩ := zbind H
        refine z_getR (pc := 20) dX9_isLetter_20 fd_X9_9 er5 ?_
        refine z_iload_n (pc := 23) 1 dX9_isLetter_23 rfl rfl ?_
        obtain ⟨x6, ex6, H⟩ := zbind H
        refine z_baload (pc := 24) dX9_isLetter_24 ex6 ?_
        refine z_bipush (pc := 25) (x := 97) dX9_isLetter_25 zc_bipush_97 ?_
        refine z_icmp_lt (pc := 27) 45 dX9_isLetter_27 (by decide) (fun c7 => ?_) (fun c7 => ?_)
        · rw [if_pos c7] at H
          refine z_iconst (pc := 45) (x := 0) dX9_isLetter_45 zc_iconst_0 ?_
          cases H
          exact z_zreturn rfl dX9_isLetter_46 (by decide)
        · rw [if_neg c7] at H
          refine z_aload_n (pc := 30) 0 dX9_isLetter_30 rfl rfl ?_
          obtain ⟨r8, er8, H⟩ := zbind H
          refine z_getR (pc := 31) dX9_isLetter_31 fd_X9_9 er8 ?_
          refine z_iload_n (pc := 34) 1 dX9_isLetter_34 rfl rfl ?_
          obtain ⟨x9, ex9, H⟩ := zbind H
          refine z_baload (pc := 35) dX9_isLetter_35 ex9 ?_
          refine z_bipush (pc := 36) (x := 122) dX9_isLetter_36 zc_bipush_122 ?_
          refine z_icmp_gt (pc := 38) 45 dX9_isLetter_38 (by decide) (fun c10 => ?_) (fun c10 => ?_)
          · rw [if_pos c10] at H
            refine z_iconst (pc := 45) (x := 0) dX9_isLetter_45 zc_iconst_0 ?_
            cases H
            exact z_zreturn rfl dX9_isLetter_46 (by decide)
          · rw [if_neg c10] at H
            refine z_iconst (pc := 41) (x := 1) dX9_isLetter_41 zc_iconst_1 ?_
            refine z_goto (pc := 42) 46 dX9_isLetter_42 (by decide) ?_
            cases H
            exact z_zreturn rfl dX9_isLetter_46 (by decide)

theorem kl_X9_85 : Cond.constantLong RX9 85 32 ∈ zB := zmem 236 (by decide +kernel) rfl
def p_X9_withLetter (v0 : Int64) (v2 : Int32) : Int64 := (v0 * 32) + (((v2 - 97) + 1).toInt64)
set_option maxRecDepth 100000 in
set_option maxHeartbeats 4000000 in
theorem k_X9_withLetter (v0 : Int64) (v2 : Int32) (h : zH) (r : Int64) (H : p_X9_withLetter v0 v2 = r) : zOk 0 0 0 yX9_withLetter cX9_withLetter 3 (some .long) [.long v0, .int v2] h (some (.long r)) h := by
  refine zOk.of (by decide) (Nat.le_of_ble_eq_true rfl) ?_
  unfold p_X9_withLetter at H
  refine z_lload_n (pc := 0) 0 dX9_withLetter_0 rfl rfl ?_
  refine z_ldc2 (pc := 1) (x := 32) dX9_withLetter_1 kl_X9_85 ?_
  refine z_lmul (pc := 4) dX9_withLetter_4 ?_
  refine z_iload_n (pc := 5) 1 dX9_withLetter_5 rfl rfl ?_
  refine z_bipush (pc := 6) (x := 97) dX9_withLetter_6 zc_bipush_97 ?_
  refine z_isub (pc := 8) dX9_withLetter_8 ?_
  refine z_iconst (pc := 9) (x := 1) dX9_withLetter_9 zc_iconst_1 ?_
  refine z_iadd (pc := 10) dX9_withLetter_10 ?_
  refine z_i2l (pc := 11) dX9_withLetter_11 ?_
  refine z_ladd (pc := 12) dX9_withLetter_12 ?_
  subst H
  exact z_lreturn rfl dX9_withLetter_13

theorem zc_sipush_200 : (Int16.ofInt (200)).toInt32 = (200 : Int32) := by decide
theorem fd_X9_13 : zFd RX9 13 9 1 (.array .long) true "WhoseStreet$Tape" := zFd.of cl_9 (by decide) (zmem 238 (by decide +kernel) rfl) rfl rfl rfl
def f_X9_wordOf_L2 (N : Nat) (v0 : Nat) (v1 : Int64) (h : zH) : Nat → Int32 → Option ((Unit) ⊕ (Int32))
  | 0, _ => none
  | n + 1, v3 => (gR h v0 9 1).bind fun r1 => (aN h r1).bind fun x2 => if x2 ≤ v3 then (some (.inl ())) else ((gR h v0 9 1).bind fun r4 => (aL h r4 v3).bind fun x5 => if (lg_cmp x5 v1) = 0 then (some (.inr v3)) else (f_X9_wordOf_L2 N v0 v1 h n (v3 + 1)))
set_option maxRecDepth 100000 in
set_option maxHeartbeats 4000000 in
theorem s_X9_wordOf_L2 {d mc ms N : Nat} {vv : Option Value} {hh : zH} {v0 : Nat} {v1 : Int64} {h : zH} (hd0 : 0 ≤ d) : ∀ (n : Nat) (v3 : Int32) (m : (Unit) ⊕ (Int32)), f_X9_wordOf_L2 N v0 v1 h n v3 = some m → (∀ s, m = .inl s → zW yX9_wordOf cX9_wordOf 4 (some .int) d mc ms 30 [] [] h vv hh) → (∀ r, m = .inr r → vv = (some (.int r)) ∧ hh = h) → zW yX9_wordOf cX9_wordOf 4 (some .int) d mc ms 2 [(0, .ref v0), (1, .long v1), (3, .int v3)] [] h vv hh := by
  intro n
  induction n with
  | zero =>
    intro v3 m H
    cases H
  | succ n ih =>
    intro v3 m H KE KR
    unfold f_X9_wordOf_L2 at H
    refine z_iload_n (pc := 2) 2 dX9_wordOf_2 rfl rfl ?_
    refine z_aload_n (pc := 3) 0 dX9_wordOf_3 rfl rfl ?_
    obtain ⟨r1, er1, H⟩ := zbind H
    refine z_getR (pc := 4) dX9_wordOf_4 fd_X9_13 er1 ?_
    obtain ⟨x2, ex2, H⟩ := zbind H
    refine z_alen (pc := 7) dX9_wordOf_7 ex2 ?_
    refine z_icmp_ge (pc := 8) 30 dX9_wordOf_8 (by decide) (fun c3 => ?_) (fun c3 => ?_)
    · rw [if_pos c3] at H
      cases H
      exact z_sub [] rfl (KE _ rfl)
    · rw [if_neg c3] at H
      refine z_aload_n (pc := 11) 0 dX9_wordOf_11 rfl rfl ?_
      obtain ⟨r4, er4, H⟩ := zbind H
      refine z_getR (pc := 12) dX9_wordOf_12 fd_X9_13 er4 ?_
      refine z_iload_n (pc := 15) 2 dX9_wordOf_15 rfl rfl ?_
      obtain ⟨x5, ex5, H⟩ := zbind H
      refine z_laload (pc := 16) dX9_wordOf_16 ex5 ?_
      refine z_lload_n (pc := 17) 1 dX9_wordOf_17 rfl rfl ?_
      refine z_lcmp (pc := 18) dX9_wordOf_18 ?_
      refine z_if_ne (pc := 19) 24 dX9_wordOf_19 (by decide) (fun c6 => ?_) (fun c6 => ?_)
      · rw [if_neg c6] at H
        refine z_iinc (pc := 24) (x' := v3 + 1) (lv' := [(3, .int (v3 + 1)), (0, .ref v0), (1, .long v1)]) 2 dX9_wordOf_24 rfl (by rfl) (by decide) rfl ?_
        refine z_goto (pc := 27) 2 dX9_wordOf_27 (by decide) ?_
        exact z_sub [1, 2, 0] rfl (ih (v3 + 1) _ H KE KR)
      · rw [if_pos c6] at H
        refine z_iload_n (pc := 22) 2 dX9_wordOf_22 rfl rfl ?_
        cases H
        obtain ⟨e8, e9⟩ := KR _ rfl
        subst e8
        subst e9
        exact z_ireturn rfl dX9_wordOf_23
def f_X9_wordOf (N : Nat) (v0 : Nat) (v1 : Int64) (h : zH) : Option (Int32) := (f_X9_wordOf_L2 N v0 v1 h N 0).bind fun m7 => zsum m7 fun s8 => some 200
set_option maxRecDepth 100000 in
set_option maxHeartbeats 4000000 in
theorem k_X9_wordOf {N : Nat} {v0 : Nat} {v1 : Int64} {h : zH} {r : Int32} (H : f_X9_wordOf N v0 v1 h = some r) : zOk 0 0 0 yX9_wordOf cX9_wordOf 4 (some .int) [.ref v0, .long v1] h (some (.int r)) h := by
  refine zOk.of (by decide) (Nat.le_of_ble_eq_true rfl) ?_
  unfold f_X9_wordOf at H
  refine z_iconst (pc := 0) (x := 0) dX9_wordOf_0 zc_iconst_0 ?_
  refine z_istore_n (pc := 1) (lv' := [(3, .int 0), (0, .ref v0), (1, .long v1)]) dX9_wordOf_1 rfl (by decide) rfl ?_
  obtain ⟨m7, em7, H⟩ := zbind H
  refine z_sub [1, 2, 0] rfl (s_X9_wordOf_L2 (by omega) N 0 _ em7 ?_ ?_)
  · intro s8 e9
    subst e9
    have H := zsumL H
    refine z_sipush (pc := 30) (x := 200) dX9_wordOf_30 zc_sipush_200 ?_
    cases H
    exact z_ireturn rfl dX9_wordOf_33
  · intro r e9
    subst e9
    have H := zsumR H
    cases H
    exact ⟨rfl, rfl⟩

theorem zc_sipush_203 : (Int16.ofInt (203)).toInt32 = (203 : Int32) := by decide
theorem fd_X9_74 : zFd RX9 74 9 7 (.long) false "WhoseStreet$Tape" := zFd.of cl_9 (by decide) (zmem 248 (by decide +kernel) rfl) rfl rfl rfl
theorem fd_X9_43 : zFd RX9 43 9 3 (.int) false "WhoseStreet$Tape" := zFd.of cl_9 (by decide) (zmem 241 (by decide +kernel) rfl) rfl rfl rfl
theorem md_X9_isLetter : zMd yX9_isLetter cX9_isLetter 2 1 (some .boolean) := ⟨zmem 732 (by decide +kernel) rfl, zmem 114 (by decide +kernel) rfl, by decide, by decide, by decide +kernel, by decide⟩
theorem ml_X9_55 : Cond.methodLink RX9 55 yX9_isLetter ∈ zB := zmem 729 (by decide +kernel) rfl
theorem im_X9_isLetter : Cond.instanceMethod yX9_isLetter ∈ zB := zmem 731 (by decide +kernel) rfl
theorem se_X9_isLetter : Cond.selects yX9_isLetter.cls yX9_isLetter yX9_isLetter ∈ zB := zmem 6 (by decide +kernel) rfl
theorem fd_X9_49 : zFd RX9 49 9 5 (.int) false "WhoseStreet$Tape" := zFd.of cl_9 (by decide) (zmem 244 (by decide +kernel) rfl) rfl rfl rfl
theorem md_X9_withLetter : zMd yX9_withLetter cX9_withLetter 3 2 (some .long) := ⟨zmem 235 (by decide +kernel) rfl, zmem 114 (by decide +kernel) rfl, by decide, by decide, by decide +kernel, by decide⟩
theorem ml_X9_29 : Cond.methodLink RX9 29 yX9_withLetter ∈ zB := zmem 233 (by decide +kernel) rfl
theorem sm_X9_withLetter : Cond.static yX9_withLetter ∈ zB := zmem 234 (by decide +kernel) rfl
theorem md_X9_wordOf : zMd yX9_wordOf cX9_wordOf 4 1 (some .int) := ⟨zmem 740 (by decide +kernel) rfl, zmem 114 (by decide +kernel) rfl, by decide, by decide, by decide +kernel, by decide⟩
theorem ml_X9_78 : Cond.methodLink RX9 78 yX9_wordOf ∈ zB := zmem 737 (by decide +kernel) rfl
theorem im_X9_wordOf : Cond.instanceMethod yX9_wordOf ∈ zB := zmem 739 (by decide +kernel) rfl
theorem se_X9_wordOf : Cond.selects yX9_wordOf.cls yX9_wordOf yX9_wordOf ∈ zB := zmem 8 (by decide +kernel) rfl
theorem fd_X9_52 : zFd RX9 52 9 4 (.int) false "WhoseStreet$Tape" := zFd.of cl_9 (by decide) (zmem 243 (by decide +kernel) rfl) rfl rfl rfl
def f_X9_takeWord_L5 (N : Nat) (v0 : Nat) : Nat → zH → Option (zH)
  | 0, _ => none
  | n + 1, h => (gI h v0 9 3).bind fun x2 => (gI h v0 9 2).bind fun x3 => if x3 ≤ x2 then (some h) else ((gI h v0 9 3).bind fun x5 => zif (zob h v0 9) <| (f_X9_isLetter N v0 x5 h).bind fun q7 => if q7 = 0 then (some h) else ((gI h v0 9 3).bind fun x9 => (gI h v0 9 5).bind fun x10 => (if 8 ≤ (x9 - x10) then (some h) else ((gL h v0 9 7).bind fun x13 => (gR h v0 9 0).bind fun r14 => (gI h v0 9 3).bind fun x15 => (aB h r14 x15).bind fun x16 => (pF h v0 9 7 (.long (p_X9_withLetter x13 ((x16.toUInt32 % 65536).toInt32)))).bind fun h17 => some h17) : Option (zH)).bind fun m11 => (gI m11 v0 9 3).bind fun x18 => (pF m11 v0 9 3 (.int (x18 + 1))).bind fun h19 => f_X9_takeWord_L5 N v0 n h19))
set_option maxRecDepth 100000 in
set_option maxHeartbeats 4000000 in
theorem s_X9_takeWord_L5 {d mc ms N : Nat} {vv : Option Value} {hh : zH} {v0 : Nat} (hd0 : 1 ≤ d) : ∀ (n : Nat)  (h : zH) (m : zH), f_X9_takeWord_L5 N v0 n h = some m → (zW yX9_takeWord cX9_takeWord 1 none d mc ms 75 [(0, .ref v0)] [] m vv hh) → zW yX9_takeWord cX9_takeWord 1 none d mc ms 5 [(0, .ref v0)] [] h vv hh := by
  intro n
  induction n with
  | zero =>
    intro  h m H
    cases H
  | succ n ih =>
    intro  h m H KE
    unfold f_X9_takeWord_L5 at H
    refine z_aload_n (pc := 5) 0 dX9_takeWord_5 rfl rfl ?_
    obtain ⟨x2, ex2, H⟩ := zbind H
    refine z_getI (pc := 6) dX9_takeWord_6 fd_X9_43 ex2 ?_
    refine z_aload_n (pc := 9) 0 dX9_takeWord_9 rfl rfl ?_
    obtain ⟨x3, ex3, H⟩ := zbind H
    refine z_getI (pc := 10) dX9_takeWord_10 fd_X9_39 ex3 ?_
    refine z_icmp_ge (pc := 13) 75 dX9_takeWord_13 (by decide) (fun c4 => ?_) (fun c4 => ?_)
    · rw [if_pos c4] at H
      cases H
      exact z_sub [0] rfl (KE)
    · rw [if_neg c4] at H
      refine z_aload_n (pc := 16) 0 dX9_takeWord_16 rfl rfl ?_
      refine z_aload_n (pc := 17) 0 dX9_takeWord_17 rfl rfl ?_
      obtain ⟨x5, ex5, H⟩ := zbind H
      refine z_getI (pc := 18) dX9_takeWord_18 fd_X9_43 ex5 ?_
      obtain ⟨z6, H⟩ := zifE H
      obtain ⟨q7, eq7, H⟩ := zbind H
      refine z_callV (pc := 21) (mc := mc) (ms := ms) (d' := 0) (mc' := 0) (ms' := 0) (rest := []) [.int x5] dX9_takeWord_21 md_X9_isLetter ml_X9_55 im_X9_isLetter se_X9_isLetter rfl z6 rfl rfl (Nat.le_of_ble_eq_true rfl) (by omega) (k_X9_isLetter eq7) ?_
      refine z_if_eq (pc := 24) 75 dX9_takeWord_24 (by decide) (fun c8 => ?_) (fun c8 => ?_)
      · rw [if_pos c8] at H
        cases H
        exact z_sub [0] rfl (KE)
      · rw [if_neg c8] at H
        refine z_aload_n (pc := 27) 0 dX9_takeWord_27 rfl rfl ?_
        obtain ⟨x9, ex9, H⟩ := zbind H
        refine z_getI (pc := 28) dX9_takeWord_28 fd_X9_43 ex9 ?_
        refine z_aload_n (pc := 31) 0 dX9_takeWord_31 rfl rfl ?_
        obtain ⟨x10, ex10, H⟩ := zbind H
        refine z_getI (pc := 32) dX9_takeWord_32 fd_X9_49 ex10 ?_
        refine z_isub (pc := 35) dX9_takeWord_35 ?_
        refine z_bipush (pc := 36) (x := 8) dX9_takeWord_36 zc_bipush_8 ?_
        obtain ⟨m11, em11, H⟩ := zbind H
        have Jm11 : zW yX9_takeWord cX9_takeWord 1 none d mc ms 62 [(0, .ref v0)] [] m11 vv hh := by
          refine z_aload_n (pc := 62) 0 dX9_takeWord_62 rfl rfl ?_
          refine z_dup (pc := 63) dX9_takeWord_63 rfl ?_
          obtain ⟨x18, ex18, H⟩ := zbind H
          refine z_getI (pc := 64) dX9_takeWord_64 fd_X9_43 ex18 ?_
          refine z_iconst (pc := 67) (x := 1) dX9_takeWord_67 zc_iconst_1 ?_
          refine z_iadd (pc := 68) dX9_takeWord_68 ?_
          obtain ⟨h19, eh19, H⟩ := zbind H
          refine z_put (pc := 69) dX9_takeWord_69 fd_X9_43 rfl rfl eh19 ?_
          refine z_goto (pc := 72) 5 dX9_takeWord_72 (by decide) ?_
          exact z_sub [0] rfl (ih h19 _ H KE)
        refine z_icmp_ge (pc := 38) 62 dX9_takeWord_38 (by decide) (fun c12 => ?_) (fun c12 => ?_)
        · rw [if_pos c12] at em11
          cases em11
          exact z_sub [0] rfl Jm11
        · rw [if_neg c12] at em11
          refine z_aload_n (pc := 41) 0 dX9_takeWord_41 rfl rfl ?_
          refine z_aload_n (pc := 42) 0 dX9_takeWord_42 rfl rfl ?_
          obtain ⟨x13, ex13, em11⟩ := zbind em11
          refine z_getL (pc := 43) dX9_takeWord_43 fd_X9_74 ex13 ?_
          refine z_aload_n (pc := 46) 0 dX9_takeWord_46 rfl rfl ?_
          obtain ⟨r14, er14, em11⟩ := zbind em11
          refine z_getR (pc := 47) dX9_takeWord_47 fd_X9_9 er14 ?_
          refine z_aload_n (pc := 50) 0 dX9_takeWord_50 rfl rfl ?_
          obtain ⟨x15, ex15, em11⟩ := zbind em11
          refine z_getI (pc := 51) dX9_takeWord_51 fd_X9_43 ex15 ?_
          obtain ⟨x16, ex16, em11⟩ := zbind em11
          refine z_baload (pc := 54) dX9_takeWord_54 ex16 ?_
          refine z_i2c (pc := 55) dX9_takeWord_55 ?_
          refine z_callS (pc := 56) (mc := mc) (ms := ms) (d' := 0) (mc' := 0) (ms' := 0) (rest := [.ref v0]) [.long x13, .int ((x16.toUInt32 % 65536).toInt32)] dX9_takeWord_56 md_X9_withLetter ml_X9_29 sm_X9_withLetter rfl rfl (Nat.le_of_ble_eq_true rfl) (by omega) (k_X9_withLetter x13 ((x16.toUInt32 % 65536).toInt32) h _ rfl) ?_
          obtain ⟨h17, eh17, em11⟩ := zbind em11
          refine z_put (pc := 59) dX9_takeWord_59 fd_X9_74 rfl rfl eh17 ?_
          cases em11
          exact z_sub [0] rfl Jm11
def f_X9_takeWord (N : Nat) (v0 : Nat) (h : zH) : Option (zH) := (pF h v0 9 7 (.long 0)).bind fun h1 => (f_X9_takeWord_L5 N v0 N h1).bind fun m20 => (gI m20 v0 9 3).bind fun x21 => (gI m20 v0 9 5).bind fun x22 => if (x21 - x22) ≤ 8 then ((gL m20 v0 9 7).bind fun x24 => zif (zob m20 v0 9) <| (f_X9_wordOf N v0 x24 m20).bind fun q26 => (pF m20 v0 9 4 (.int q26)).bind fun h27 => some h27) else ((pF m20 v0 9 4 (.int 203)).bind fun h28 => some h28)
set_option maxRecDepth 100000 in
set_option maxHeartbeats 4000000 in
theorem k_X9_takeWord {N : Nat} {v0 : Nat} {h : zH} {r : zH} (H : f_X9_takeWord N v0 h = some r) : zOk 1 0 0 yX9_takeWord cX9_takeWord 1 none [.ref v0] h none r := by
  refine zOk.of (by decide) (Nat.le_of_ble_eq_true rfl) ?_
  unfold f_X9_takeWord at H
  refine z_aload_n (pc := 0) 0 dX9_takeWord_0 rfl rfl ?_
  refine z_lconst (pc := 1) (x := 0) dX9_takeWord_1 (by decide) ?_
  obtain ⟨h1, eh1, H⟩ := zbind H
  refine z_put (pc := 2) dX9_takeWord_2 fd_X9_74 rfl rfl eh1 ?_
  obtain ⟨m20, em20, H⟩ := zbind H
  refine z_sub [0] rfl (s_X9_takeWord_L5 (by omega) N h1 _ em20 ?_)
  refine z_aload_n (pc := 75) 0 dX9_takeWord_75 rfl rfl ?_
  refine z_aload_n (pc := 76) 0 dX9_takeWord_76 rfl rfl ?_
  obtain ⟨x21, ex21, H⟩ := zbind H
  refine z_getI (pc := 77) dX9_takeWord_77 fd_X9_43 ex21 ?_
  refine z_aload_n (pc := 80) 0 dX9_takeWord_80 rfl rfl ?_
  obtain ⟨x22, ex22, H⟩ := zbind H
  refine z_getI (pc := 81) dX9_takeWord_81 fd_X9_49 ex22 ?_
  refine z_isub (pc := 84) dX9_takeWord_84 ?_
  refine z_bipush (pc := 85) (x := 8) dX9_takeWord_85 zc_bipush_8 ?_
  refine z_icmp_le (pc := 87) 96 dX9_takeWord_87 (by decide) (fun c23 => ?_) (fun c23 => ?_)
  · rw [if_pos c23] at H
    refine z_aload_n (pc := 96) 0 dX9_takeWord_96 rfl rfl ?_
    refine z_aload_n (pc := 97) 0 dX9_takeWord_97 rfl rfl ?_
    obtain ⟨x24, ex24, H⟩ := zbind H
    refine z_getL (pc := 98) dX9_takeWord_98 fd_X9_74 ex24 ?_
    obtain ⟨z25, H⟩ := zifE H
    obtain ⟨q26, eq26, H⟩ := zbind H
    refine z_callV (pc := 101) (mc := 0) (ms := 0) (d' := 0) (mc' := 0) (ms' := 0) (rest := [.ref v0]) [.long x24] dX9_takeWord_101 md_X9_wordOf ml_X9_78 im_X9_wordOf se_X9_wordOf rfl z25 rfl rfl (Nat.le_of_ble_eq_true rfl) (by omega) (k_X9_wordOf eq26) ?_
    obtain ⟨h27, eh27, H⟩ := zbind H
    refine z_put (pc := 104) dX9_takeWord_104 fd_X9_52 rfl rfl eh27 ?_
    cases H
    exact z_return rfl dX9_takeWord_107
  · rw [if_neg c23] at H
    refine z_sipush (pc := 90) (x := 203) dX9_takeWord_90 zc_sipush_203 ?_
    refine z_goto (pc := 93) 104 dX9_takeWord_93 (by decide) ?_
    obtain ⟨h28, eh28, H⟩ := zbind H
    refine z_put (pc := 104) dX9_takeWord_104 fd_X9_52 rfl rfl eh28 ?_
    cases H
    exact z_return rfl dX9_takeWord_107

theorem zc_bipush_48 : (Int8.ofInt (48)).toInt32 = (48 : Int32) := by decide
theorem zc_bipush_57 : (Int8.ofInt (57)).toInt32 = (57 : Int32) := by decide
def f_X9_isDigit (N : Nat) (v0 : Nat) (v1 : Int32) (h : zH) : Option (Int32) := if v1 < 0 then (some 0) else ((gI h v0 9 2).bind fun x2 => if x2 ≤ v1 then (some 0) else (if 1000 ≤ v1 then (some 0) else ((gR h v0 9 0).bind fun r5 => (aB h r5 v1).bind fun x6 => if x6 < 48 then (some 0) else ((gR h v0 9 0).bind fun r8 => (aB h r8 v1).bind fun x9 => if 57 < x9 then (some 0) else (some 1)))))
set_option maxRecDepth 100000 in
set_option maxHeartbeats 4000000 in
theorem k_X9_isDigit {N : Nat} {v0 : Nat} {v1 : Int32} {h : zH} {r : Int32} (H : f_X9_isDigit N v0 v1 h = some r) : zOk 0 0 0 yX9_isDigit cX9_isDigit 2 (some .boolean) [.ref v0, .int v1] h (some (.int r)) h := by
  refine zOk.of (by decide) (Nat.le_of_ble_eq_true rfl) ?_
  unfold f_X9_isDigit at H
  refine z_iload_n (pc := 0) 1 dX9_isDigit_0 rfl rfl ?_
  refine z_if_lt (pc := 1) 45 dX9_isDigit_1 (by decide) (fun c1 => ?_) (fun c1 => ?_)
  · rw [if_pos c1] at H
    refine z_iconst (pc := 45) (x := 0) dX9_isDigit_45 zc_iconst_0 ?_
    cases H
    exact z_zreturn rfl dX9_isDigit_46 (by decide)
  · rw [if_neg c1] at H
    refine z_iload_n (pc := 4) 1 dX9_isDigit_4 rfl rfl ?_
    refine z_aload_n (pc := 5) 0 dX9_isDigit_5 rfl rfl ?_
    obtain ⟨x2, ex2, H⟩ := zbind H
    refine z_getI (pc := 6) dX9_isDigit_6 fd_X9_39 ex2 ?_
    refine z_icmp_ge (pc := 9) 45 dX9_isDigit_9 (by decide) (fun c3 => ?_) (fun c3 => ?_)
    · rw [if_pos c3] at H
      refine z_iconst (pc := 45) (x := 0) dX9_isDigit_45 zc_iconst_0 ?_
      cases H
      exact z_zreturn rfl dX9_isDigit_46 (by decide)
    · rw [if_neg c3] at H
      refine z_iload_n (pc := 12) 1 dX9_isDigit_12 rfl rfl ?_
      refine z_sipush (pc := 13) (x := 1000) dX9_isDigit_13 zc_sipush_1000 ?_
      refine z_icmp_ge (pc := 16) 45 dX9_isDigit_16 (by decide) (fun c4 => ?_) (fun c4 => ?_)
      · rw [if_pos c4] at H
        refine z_iconst (pc := 45) (x := 0) dX9_isDigit_45 zc_iconst_0 ?_
        cases H
        exact z_zreturn rfl dX9_isDigit_46 (by decide)
      · rw [if_neg c4] at H
        refine z_aload_n (pc := 19) 0 dX9_isDigit_19 rfl rfl ?_
        obtain ⟨r5, er5, H⟩ := zbind H
        refine z_getR (pc := 20) dX9_isDigit_20 fd_X9_9 er5 ?_
        refine z_iload_n (pc := 23) 1 dX9_isDigit_23 rfl rfl ?_
        obtain ⟨x6, ex6, H⟩ := zbind H
        refine z_baload (pc := 24) dX9_isDigit_24 ex6 ?_
        refine z_bipush (pc := 25) (x := 48) dX9_isDigit_25 zc_bipush_48 ?_
        refine z_icmp_lt (pc := 27) 45 dX9_isDigit_27 (by decide) (fun c7 => ?_) (fun c7 => ?_)
        · rw [if_pos c7] at H
          refine z_iconst (pc := 45) (x := 0) dX9_isDigit_45 zc_iconst_0 ?_
          cases H
          exact z_zreturn rfl dX9_isDigit_46 (by decide)
        · rw [if_neg c7] at H
          refine z_aload_n (pc := 30) 0 dX9_isDigit_30 rfl rfl ?_
          obtain ⟨r8, er8, H⟩ := zbind H
          refine z_getR (pc := 31) dX9_isDigit_31 fd_X9_9 er8 ?_
          refine z_iload_n (pc := 34) 1 dX9_isDigit_34 rfl rfl ?_
          obtain ⟨x9, ex9, H⟩ := zbind H
          refine z_baload (pc := 35) dX9_isDigit_35 ex9 ?_
          refine z_bipush (pc := 36) (x := 57) dX9_isDigit_36 zc_bipush_57 ?_
          refine z_icmp_gt (pc := 38) 45 dX9_isDigit_38 (by decide) (fun c10 => ?_) (fun c10 => ?_)
          · rw [if_pos c10] at H
            refine z_iconst (pc := 45) (x := 0) dX9_isDigit_45 zc_iconst_0 ?_
            cases H
            exact z_zreturn rfl dX9_isDigit_46 (by decide)
          · rw [if_neg c10] at H
            refine z_iconst (pc := 41) (x := 1) dX9_isDigit_41 zc_iconst_1 ?_
            refine z_goto (pc := 42) 46 dX9_isDigit_42 (by decide) ?_
            cases H
            exact z_zreturn rfl dX9_isDigit_46 (by decide)

theorem zc_sipush_201 : (Int16.ofInt (201)).toInt32 = (201 : Int32) := by decide
theorem fd_X9_82 : zFd RX9 82 9 6 (.int) false "WhoseStreet$Tape" := zFd.of cl_9 (by decide) (zmem 246 (by decide +kernel) rfl) rfl rfl rfl
theorem md_X9_isDigit : zMd yX9_isDigit cX9_isDigit 2 1 (some .boolean) := ⟨zmem 744 (by decide +kernel) rfl, zmem 114 (by decide +kernel) rfl, by decide, by decide, by decide +kernel, by decide⟩
theorem ml_X9_62 : Cond.methodLink RX9 62 yX9_isDigit ∈ zB := zmem 741 (by decide +kernel) rfl
theorem im_X9_isDigit : Cond.instanceMethod yX9_isDigit ∈ zB := zmem 743 (by decide +kernel) rfl
theorem se_X9_isDigit : Cond.selects yX9_isDigit.cls yX9_isDigit yX9_isDigit ∈ zB := zmem 9 (by decide +kernel) rfl
def f_X9_takeNumber_L5 (N : Nat) (v0 : Nat) : Nat → zH → Option (zH)
  | 0, _ => none
  | n + 1, h => (gI h v0 9 3).bind fun x2 => (gI h v0 9 2).bind fun x3 => if x3 ≤ x2 then (some h) else ((gI h v0 9 3).bind fun x5 => zif (zob h v0 9) <| (f_X9_isDigit N v0 x5 h).bind fun q7 => if q7 = 0 then (some h) else ((gI h v0 9 3).bind fun x9 => (gI h v0 9 5).bind fun x10 => (if 4 ≤ (x9 - x10) then (some h) else ((gI h v0 9 6).bind fun x13 => (gR h v0 9 0).bind fun r14 => (gI h v0 9 3).bind fun x15 => (aB h r14 x15).bind fun x16 => (pF h v0 9 6 (.int (((x13 * 10) + x16) - 48))).bind fun h17 => some h17) : Option (zH)).bind fun m11 => (gI m11 v0 9 3).bind fun x18 => (pF m11 v0 9 3 (.int (x18 + 1))).bind fun h19 => f_X9_takeNumber_L5 N v0 n h19))
set_option maxRecDepth 100000 in
set_option maxHeartbeats 4000000 in
theorem s_X9_takeNumber_L5 {d mc ms N : Nat} {vv : Option Value} {hh : zH} {v0 : Nat} (hd0 : 1 ≤ d) : ∀ (n : Nat)  (h : zH) (m : zH), f_X9_takeNumber_L5 N v0 n h = some m → (zW yX9_takeNumber cX9_takeNumber 1 none d mc ms 77 [(0, .ref v0)] [] m vv hh) → zW yX9_takeNumber cX9_takeNumber 1 none d mc ms 5 [(0, .ref v0)] [] h vv hh := by
  intro n
  induction n with
  | zero =>
    intro  h m H
    cases H
  | succ n ih =>
    intro  h m H KE
    unfold f_X9_takeNumber_L5 at H
    refine z_aload_n (pc := 5) 0 dX9_takeNumber_5 rfl rfl ?_
    obtain ⟨x2, ex2, H⟩ := zbind H
    refine z_getI (pc := 6) dX9_takeNumber_6 fd_X9_43 ex2 ?_
    refine z_aload_n (pc := 9) 0 dX9_takeNumber_9 rfl rfl ?_
    obtain ⟨x3, ex3, H⟩ := zbind H
    refine z_getI (pc := 10) dX9_takeNumber_10 fd_X9_39 ex3 ?_
    refine z_icmp_ge (pc := 13) 77 dX9_takeNumber_13 (by decide) (fun c4 => ?_) (fun c4 => ?_)
    · rw [if_pos c4] at H
      cases H
      exact z_sub [0] rfl (KE)
    · rw [if_neg c4] at H
      refine z_aload_n (pc := 16) 0 dX9_takeNumber_16 rfl rfl ?_
      refine z_aload_n (pc := 17) 0 dX9_takeNumber_17 rfl rfl ?_
      obtain ⟨x5, ex5, H⟩ := zbind H
      refine z_getI (pc := 18) dX9_takeNumber_18 fd_X9_43 ex5 ?_
      obtain ⟨z6, H⟩ := zifE H
      obtain ⟨q7, eq7, H⟩ := zbind H
      refine z_callV (pc := 21) (mc := mc) (ms := ms) (d' := 0) (mc' := 0) (ms' := 0) (rest := []) [.int x5] dX9_takeNumber_21 md_X9_isDigit ml_X9_62 im_X9_isDigit se_X9_isDigit rfl z6 rfl rfl (Nat.le_of_ble_eq_true rfl) (by omega) (k_X9_isDigit eq7) ?_
      refine z_if_eq (pc := 24) 77 dX9_takeNumber_24 (by decide) (fun c8 => ?_) (fun c8 => ?_)
      · rw [if_pos c8] at H
        cases H
        exact z_sub [0] rfl (KE)
      · rw [if_neg c8] at H
        refine z_aload_n (pc := 27) 0 dX9_takeNumber_27 rfl rfl ?_
        obtain ⟨x9, ex9, H⟩ := zbind H
        refine z_getI (pc := 28) dX9_takeNumber_28 fd_X9_43 ex9 ?_
        refine z_aload_n (pc := 31) 0 dX9_takeNumber_31 rfl rfl ?_
        obtain ⟨x10, ex10, H⟩ := zbind H
        refine z_getI (pc := 32) dX9_takeNumber_32 fd_X9_49 ex10 ?_
        refine z_isub (pc := 35) dX9_takeNumber_35 ?_
        refine z_iconst (pc := 36) (x := 4) dX9_takeNumber_36 zc_iconst_4 ?_
        obtain ⟨m11, em11, H⟩ := zbind H
        have Jm11 : zW yX9_takeNumber cX9_takeNumber 1 none d mc ms 64 [(0, .ref v0)] [] m11 vv hh := by
          refine z_aload_n (pc := 64) 0 dX9_takeNumber_64 rfl rfl ?_
          refine z_dup (pc := 65) dX9_takeNumber_65 rfl ?_
          obtain ⟨x18, ex18, H⟩ := zbind H
          refine z_getI (pc := 66) dX9_takeNumber_66 fd_X9_43 ex18 ?_
          refine z_iconst (pc := 69) (x := 1) dX9_takeNumber_69 zc_iconst_1 ?_
          refine z_iadd (pc := 70) dX9_takeNumber_70 ?_
          obtain ⟨h19, eh19, H⟩ := zbind H
          refine z_put (pc := 71) dX9_takeNumber_71 fd_X9_43 rfl rfl eh19 ?_
          refine z_goto (pc := 74) 5 dX9_takeNumber_74 (by decide) ?_
          exact z_sub [0] rfl (ih h19 _ H KE)
        refine z_icmp_ge (pc := 37) 64 dX9_takeNumber_37 (by decide) (fun c12 => ?_) (fun c12 => ?_)
        · rw [if_pos c12] at em11
          cases em11
          exact z_sub [0] rfl Jm11
        · rw [if_neg c12] at em11
          refine z_aload_n (pc := 40) 0 dX9_takeNumber_40 rfl rfl ?_
          refine z_aload_n (pc := 41) 0 dX9_takeNumber_41 rfl rfl ?_
          obtain ⟨x13, ex13, em11⟩ := zbind em11
          refine z_getI (pc := 42) dX9_takeNumber_42 fd_X9_82 ex13 ?_
          refine z_bipush (pc := 45) (x := 10) dX9_takeNumber_45 zc_bipush_10 ?_
          refine z_imul (pc := 47) dX9_takeNumber_47 ?_
          refine z_aload_n (pc := 48) 0 dX9_takeNumber_48 rfl rfl ?_
          obtain ⟨r14, er14, em11⟩ := zbind em11
          refine z_getR (pc := 49) dX9_takeNumber_49 fd_X9_9 er14 ?_
          refine z_aload_n (pc := 52) 0 dX9_takeNumber_52 rfl rfl ?_
          obtain ⟨x15, ex15, em11⟩ := zbind em11
          refine z_getI (pc := 53) dX9_takeNumber_53 fd_X9_43 ex15 ?_
          obtain ⟨x16, ex16, em11⟩ := zbind em11
          refine z_baload (pc := 56) dX9_takeNumber_56 ex16 ?_
          refine z_iadd (pc := 57) dX9_takeNumber_57 ?_
          refine z_bipush (pc := 58) (x := 48) dX9_takeNumber_58 zc_bipush_48 ?_
          refine z_isub (pc := 60) dX9_takeNumber_60 ?_
          obtain ⟨h17, eh17, em11⟩ := zbind em11
          refine z_put (pc := 61) dX9_takeNumber_61 fd_X9_82 rfl rfl eh17 ?_
          cases em11
          exact z_sub [0] rfl Jm11
def f_X9_takeNumber (N : Nat) (v0 : Nat) (h : zH) : Option (zH) := (pF h v0 9 6 (.int 0)).bind fun h1 => (f_X9_takeNumber_L5 N v0 N h1).bind fun m20 => (gI m20 v0 9 3).bind fun x21 => (gI m20 v0 9 5).bind fun x22 => if (x21 - x22) ≤ 4 then ((pF m20 v0 9 4 (.int 201)).bind fun h24 => some h24) else ((pF m20 v0 9 4 (.int 203)).bind fun h25 => some h25)
set_option maxRecDepth 100000 in
set_option maxHeartbeats 4000000 in
theorem k_X9_takeNumber {N : Nat} {v0 : Nat} {h : zH} {r : zH} (H : f_X9_takeNumber N v0 h = some r) : zOk 1 0 0 yX9_takeNumber cX9_takeNumber 1 none [.ref v0] h none r := by
  refine zOk.of (by decide) (Nat.le_of_ble_eq_true rfl) ?_
  unfold f_X9_takeNumber at H
  refine z_aload_n (pc := 0) 0 dX9_takeNumber_0 rfl rfl ?_
  refine z_iconst (pc := 1) (x := 0) dX9_takeNumber_1 zc_iconst_0 ?_
  obtain ⟨h1, eh1, H⟩ := zbind H
  refine z_put (pc := 2) dX9_takeNumber_2 fd_X9_82 rfl rfl eh1 ?_
  obtain ⟨m20, em20, H⟩ := zbind H
  refine z_sub [0] rfl (s_X9_takeNumber_L5 (by omega) N h1 _ em20 ?_)
  refine z_aload_n (pc := 77) 0 dX9_takeNumber_77 rfl rfl ?_
  refine z_aload_n (pc := 78) 0 dX9_takeNumber_78 rfl rfl ?_
  obtain ⟨x21, ex21, H⟩ := zbind H
  refine z_getI (pc := 79) dX9_takeNumber_79 fd_X9_43 ex21 ?_
  refine z_aload_n (pc := 82) 0 dX9_takeNumber_82 rfl rfl ?_
  obtain ⟨x22, ex22, H⟩ := zbind H
  refine z_getI (pc := 83) dX9_takeNumber_83 fd_X9_49 ex22 ?_
  refine z_isub (pc := 86) dX9_takeNumber_86 ?_
  refine z_iconst (pc := 87) (x := 4) dX9_takeNumber_87 zc_iconst_4 ?_
  refine z_icmp_le (pc := 88) 97 dX9_takeNumber_88 (by decide) (fun c23 => ?_) (fun c23 => ?_)
  · rw [if_pos c23] at H
    refine z_sipush (pc := 97) (x := 201) dX9_takeNumber_97 zc_sipush_201 ?_
    obtain ⟨h24, eh24, H⟩ := zbind H
    refine z_put (pc := 100) dX9_takeNumber_100 fd_X9_52 rfl rfl eh24 ?_
    cases H
    exact z_return rfl dX9_takeNumber_103
  · rw [if_neg c23] at H
    refine z_sipush (pc := 91) (x := 203) dX9_takeNumber_91 zc_sipush_203 ?_
    refine z_goto (pc := 94) 100 dX9_takeNumber_94 (by decide) ?_
    obtain ⟨h25, eh25, H⟩ := zbind H
    refine z_put (pc := 100) dX9_takeNumber_100 fd_X9_52 rfl rfl eh25 ?_
    cases H
    exact z_return rfl dX9_takeNumber_103

theorem fd_X7_35 : zFd RX7 35 7 8 (.int) false "WhoseStreet$Reader" := zFd.of cl_7 (by decide) (zmem 283 (by decide +kernel) rfl) rfl rfl rfl
theorem fd_X7_24 : zFd RX7 24 7 3 (.object "WhoseStreet$Tape") false "WhoseStreet$Reader" := zFd.of cl_7 (by decide) (zmem 278 (by decide +kernel) rfl) rfl rfl rfl
theorem fd_X7_129 : zFd RX7 129 9 5 (.int) false "WhoseStreet$Tape" := zFd.of cl_9 (by decide) (zmem 245 (by decide +kernel) rfl) rfl rfl rfl
def f_X7_wrong (N : Nat) (v0 : Nat) (v1 : Int32) (h : zH) : Option (zH) := (gI h v0 7 8).bind fun x1 => if x1 = 0 then ((gR h v0 7 3).bind fun r3 => (gI h r3 9 5).bind fun x4 => (pF h v0 7 8 (.int (v1 + (16 * x4)))).bind fun h5 => some h5) else (some h)
set_option maxRecDepth 100000 in
set_option maxHeartbeats 4000000 in
theorem k_X7_wrong {N : Nat} {v0 : Nat} {v1 : Int32} {h : zH} {r : zH} (H : f_X7_wrong N v0 v1 h = some r) : zOk 0 0 0 yX7_wrong cX7_wrong 2 none [.ref v0, .int v1] h none r := by
  refine zOk.of (by decide) (Nat.le_of_ble_eq_true rfl) ?_
  unfold f_X7_wrong at H
  refine z_aload_n (pc := 0) 0 dX7_wrong_0 rfl rfl ?_
  obtain ⟨x1, ex1, H⟩ := zbind H
  refine z_getI (pc := 1) dX7_wrong_1 fd_X7_35 ex1 ?_
  refine z_if_ne (pc := 4) 23 dX7_wrong_4 (by decide) (fun c2 => ?_) (fun c2 => ?_)
  · rw [if_neg c2] at H
    cases H
    exact z_return rfl dX7_wrong_23
  · rw [if_pos c2] at H
    refine z_aload_n (pc := 7) 0 dX7_wrong_7 rfl rfl ?_
    refine z_iload_n (pc := 8) 1 dX7_wrong_8 rfl rfl ?_
    refine z_bipush (pc := 9) (x := 16) dX7_wrong_9 zc_bipush_16 ?_
    refine z_aload_n (pc := 11) 0 dX7_wrong_11 rfl rfl ?_
    obtain ⟨r3, er3, H⟩ := zbind H
    refine z_getR (pc := 12) dX7_wrong_12 fd_X7_24 er3 ?_
    obtain ⟨x4, ex4, H⟩ := zbind H
    refine z_getI (pc := 15) dX7_wrong_15 fd_X7_129 ex4 ?_
    refine z_imul (pc := 18) dX7_wrong_18 ?_
    refine z_iadd (pc := 19) dX7_wrong_19 ?_
    obtain ⟨h5, eh5, H⟩ := zbind H
    refine z_put (pc := 20) dX7_wrong_20 fd_X7_35 rfl rfl eh5 ?_
    cases H
    exact z_return rfl dX7_wrong_23

theorem fd_X7_32 : zFd RX7 32 7 5 (.int) false "WhoseStreet$Reader" := zFd.of cl_7 (by decide) (zmem 280 (by decide +kernel) rfl) rfl rfl rfl
def f_X7_write (N : Nat) (v0 : Nat) (v1 : Int32) (h : zH) : Option (zH) := (gI h v0 7 5).bind fun x1 => (gR h v0 7 1).bind fun r2 => (aN h r2).bind fun x3 => if x3 ≤ x1 then (some h) else ((gR h v0 7 1).bind fun r5 => (gI h v0 7 5).bind fun x6 => (sI h r5 x6 v1).bind fun h7 => (gI h7 v0 7 5).bind fun x8 => (pF h7 v0 7 5 (.int (x8 + 1))).bind fun h9 => some h9)
set_option maxRecDepth 100000 in
set_option maxHeartbeats 4000000 in
theorem k_X7_write {N : Nat} {v0 : Nat} {v1 : Int32} {h : zH} {r : zH} (H : f_X7_write N v0 v1 h = some r) : zOk 0 0 0 yX7_write cX7_write 2 none [.ref v0, .int v1] h none r := by
  refine zOk.of (by decide) (Nat.le_of_ble_eq_true rfl) ?_
  unfold f_X7_write at H
  refine z_aload_n (pc := 0) 0 dX7_write_0 rfl rfl ?_
  obtain ⟨x1, ex1, H⟩ := zbind H
  refine z_getI (pc := 1) dX7_write_1 fd_X7_32 ex1 ?_
  refine z_aload_n (pc := 4) 0 dX7_write_4 rfl rfl ?_
  obtain ⟨r2, er2, H⟩ := zbind H
  refine z_getR (pc := 5) dX7_write_5 fd_X7_17 er2 ?_
  obtain ⟨x3, ex3, H⟩ := zbind H
  refine z_alen (pc := 8) dX7_write_8 ex3 ?_
  refine z_icmp_ge (pc := 9) 32 dX7_write_9 (by decide) (fun c4 => ?_) (fun c4 => ?_)
  · rw [if_pos c4] at H
    cases H
    exact z_return rfl dX7_write_32
  · rw [if_neg c4] at H
    refine z_aload_n (pc := 12) 0 dX7_write_12 rfl rfl ?_
    obtain ⟨r5, er5, H⟩ := zbind H
    refine z_getR (pc := 13) dX7_write_13 fd_X7_17 er5 ?_
    refine z_aload_n (pc := 16) 0 dX7_write_16 rfl rfl ?_
    obtain ⟨x6, ex6, H⟩ := zbind H
    refine z_getI (pc := 17) dX7_write_17 fd_X7_32 ex6 ?_
    refine z_iload_n (pc := 20) 1 dX7_write_20 rfl rfl ?_
    obtain ⟨h7, eh7, H⟩ := zbind H
    refine z_iastore (pc := 21) dX7_write_21 eh7 ?_
    refine z_aload_n (pc := 22) 0 dX7_write_22 rfl rfl ?_
    refine z_dup (pc := 23) dX7_write_23 rfl ?_
    obtain ⟨x8, ex8, H⟩ := zbind H
    refine z_getI (pc := 24) dX7_write_24 fd_X7_32 ex8 ?_
    refine z_iconst (pc := 27) (x := 1) dX7_write_27 zc_iconst_1 ?_
    refine z_iadd (pc := 28) dX7_write_28 ?_
    obtain ⟨h9, eh9, H⟩ := zbind H
    refine z_put (pc := 29) dX7_write_29 fd_X7_32 rfl rfl eh9 ?_
    cases H
    exact z_return rfl dX7_write_32

theorem fd_X7_28 : zFd RX7 28 7 4 (.int) false "WhoseStreet$Reader" := zFd.of cl_7 (by decide) (zmem 279 (by decide +kernel) rfl) rfl rfl rfl
def f_X7_nameOf_L2 (N : Nat) (v0 : Nat) (v1 : Int64) (h : zH) : Nat → Int32 → Option ((Unit) ⊕ (Int32))
  | 0, _ => none
  | n + 1, v3 => (gI h v0 7 4).bind fun x1 => if x1 ≤ v3 then (some (.inl ())) else (if 8 ≤ v3 then (some (.inl ())) else ((gR h v0 7 0).bind fun r4 => (aL h r4 v3).bind fun x5 => if (lg_cmp x5 v1) = 0 then (some (.inr v3)) else (f_X7_nameOf_L2 N v0 v1 h n (v3 + 1))))
set_option maxRecDepth 100000 in
set_option maxHeartbeats 4000000 in
theorem s_X7_nameOf_L2 {d mc ms N : Nat} {vv : Option Value} {hh : zH} {v0 : Nat} {v1 : Int64} {h : zH} (hd0 : 0 ≤ d) : ∀ (n : Nat) (v3 : Int32) (m : (Unit) ⊕ (Int32)), f_X7_nameOf_L2 N v0 v1 h n v3 = some m → (∀ s, m = .inl s → zW yX7_nameOf cX7_nameOf 4 (some .int) d mc ms 35 [] [] h vv hh) → (∀ r, m = .inr r → vv = (some (.int r)) ∧ hh = h) → zW yX7_nameOf cX7_nameOf 4 (some .int) d mc ms 2 [(0, .ref v0), (1, .long v1), (3, .int v3)] [] h vv hh := by
  intro n
  induction n with
  | zero =>
    intro v3 m H
    cases H
  | succ n ih =>
    intro v3 m H KE KR
    unfold f_X7_nameOf_L2 at H
    refine z_iload_n (pc := 2) 2 dX7_nameOf_2 rfl rfl ?_
    refine z_aload_n (pc := 3) 0 dX7_nameOf_3 rfl rfl ?_
    obtain ⟨x1, ex1, H⟩ := zbind H
    refine z_getI (pc := 4) dX7_nameOf_4 fd_X7_28 ex1 ?_
    refine z_icmp_ge (pc := 7) 35 dX7_nameOf_7 (by decide) (fun c2 => ?_) (fun c2 => ?_)
    · rw [if_pos c2] at H
      cases H
      exact z_sub [] rfl (KE _ rfl)
    · rw [if_neg c2] at H
      refine z_iload_n (pc := 10) 2 dX7_nameOf_10 rfl rfl ?_
      refine z_bipush (pc := 11) (x := 8) dX7_nameOf_11 zc_bipush_8 ?_
      refine z_icmp_ge (pc := 13) 35 dX7_nameOf_13 (by decide) (fun c3 => ?_) (fun c3 => ?_)
      · rw [if_pos c3] at H
        cases H
        exact z_sub [] rfl (KE _ rfl)
      · rw [if_neg c3] at H
        refine z_aload_n (pc := 16) 0 dX7_nameOf_16 rfl rfl ?_
        obtain ⟨r4, er4, H⟩ := zbind H
        refine z_getR (pc := 17) dX7_nameOf_17 fd_X7_11 er4 ?_
        refine z_iload_n (pc := 20) 2 dX7_nameOf_20 rfl rfl ?_
        obtain ⟨x5, ex5, H⟩ := zbind H
        refine z_laload (pc := 21) dX7_nameOf_21 ex5 ?_
        refine z_lload_n (pc := 22) 1 dX7_nameOf_22 rfl rfl ?_
        refine z_lcmp (pc := 23) dX7_nameOf_23 ?_
        refine z_if_ne (pc := 24) 29 dX7_nameOf_24 (by decide) (fun c6 => ?_) (fun c6 => ?_)
        · rw [if_neg c6] at H
          refine z_iinc (pc := 29) (x' := v3 + 1) (lv' := [(3, .int (v3 + 1)), (0, .ref v0), (1, .long v1)]) 2 dX7_nameOf_29 rfl (by rfl) (by decide) rfl ?_
          refine z_goto (pc := 32) 2 dX7_nameOf_32 (by decide) ?_
          exact z_sub [1, 2, 0] rfl (ih (v3 + 1) _ H KE KR)
        · rw [if_pos c6] at H
          refine z_iload_n (pc := 27) 2 dX7_nameOf_27 rfl rfl ?_
          cases H
          obtain ⟨e8, e9⟩ := KR _ rfl
          subst e8
          subst e9
          exact z_ireturn rfl dX7_nameOf_28
def f_X7_nameOf (N : Nat) (v0 : Nat) (v1 : Int64) (h : zH) : Option (Int32) := (f_X7_nameOf_L2 N v0 v1 h N 0).bind fun m7 => zsum m7 fun s8 => some (-1)
set_option maxRecDepth 100000 in
set_option maxHeartbeats 4000000 in
theorem k_X7_nameOf {N : Nat} {v0 : Nat} {v1 : Int64} {h : zH} {r : Int32} (H : f_X7_nameOf N v0 v1 h = some r) : zOk 0 0 0 yX7_nameOf cX7_nameOf 4 (some .int) [.ref v0, .long v1] h (some (.int r)) h := by
  refine zOk.of (by decide) (Nat.le_of_ble_eq_true rfl) ?_
  unfold f_X7_nameOf at H
  refine z_iconst (pc := 0) (x := 0) dX7_nameOf_0 zc_iconst_0 ?_
  refine z_istore_n (pc := 1) (lv' := [(3, .int 0), (0, .ref v0), (1, .long v1)]) dX7_nameOf_1 rfl (by decide) rfl ?_
  obtain ⟨m7, em7, H⟩ := zbind H
  refine z_sub [1, 2, 0] rfl (s_X7_nameOf_L2 (by omega) N 0 _ em7 ?_ ?_)
  · intro s8 e9
    subst e9
    have H := zsumL H
    refine z_iconst (pc := 35) (x := (-1)) dX7_nameOf_35 zc_iconst_m1 ?_
    cases H
    exact z_ireturn rfl dX7_nameOf_36
  · intro r e9
    subst e9
    have H := zsumR H
    cases H
    exact ⟨rfl, rfl⟩

theorem fd_X7_96 : zFd RX7 96 7 6 (.int) false "WhoseStreet$Reader" := zFd.of cl_7 (by decide) (zmem 281 (by decide +kernel) rfl) rfl rfl rfl
def f_X7_hold (N : Nat) (v0 : Nat) (v1 : Int32) (h : zH) : Option (zH) := (gI h v0 7 6).bind fun x1 => (gR h v0 7 2).bind fun r2 => (aN h r2).bind fun x3 => if x3 ≤ x1 then (some h) else ((gR h v0 7 2).bind fun r5 => (gI h v0 7 6).bind fun x6 => (sI h r5 x6 v1).bind fun h7 => (gI h7 v0 7 6).bind fun x8 => (pF h7 v0 7 6 (.int (x8 + 1))).bind fun h9 => some h9)
set_option maxRecDepth 100000 in
set_option maxHeartbeats 4000000 in
theorem k_X7_hold {N : Nat} {v0 : Nat} {v1 : Int32} {h : zH} {r : zH} (H : f_X7_hold N v0 v1 h = some r) : zOk 0 0 0 yX7_hold cX7_hold 2 none [.ref v0, .int v1] h none r := by
  refine zOk.of (by decide) (Nat.le_of_ble_eq_true rfl) ?_
  unfold f_X7_hold at H
  refine z_aload_n (pc := 0) 0 dX7_hold_0 rfl rfl ?_
  obtain ⟨x1, ex1, H⟩ := zbind H
  refine z_getI (pc := 1) dX7_hold_1 fd_X7_96 ex1 ?_
  refine z_aload_n (pc := 4) 0 dX7_hold_4 rfl rfl ?_
  obtain ⟨r2, er2, H⟩ := zbind H
  refine z_getR (pc := 5) dX7_hold_5 fd_X7_21 er2 ?_
  obtain ⟨x3, ex3, H⟩ := zbind H
  refine z_alen (pc := 8) dX7_hold_8 ex3 ?_
  refine z_icmp_ge (pc := 9) 32 dX7_hold_9 (by decide) (fun c4 => ?_) (fun c4 => ?_)
  · rw [if_pos c4] at H
    cases H
    exact z_return rfl dX7_hold_32
  · rw [if_neg c4] at H
    refine z_aload_n (pc := 12) 0 dX7_hold_12 rfl rfl ?_
    obtain ⟨r5, er5, H⟩ := zbind H
    refine z_getR (pc := 13) dX7_hold_13 fd_X7_21 er5 ?_
    refine z_aload_n (pc := 16) 0 dX7_hold_16 rfl rfl ?_
    obtain ⟨x6, ex6, H⟩ := zbind H
    refine z_getI (pc := 17) dX7_hold_17 fd_X7_96 ex6 ?_
    refine z_iload_n (pc := 20) 1 dX7_hold_20 rfl rfl ?_
    obtain ⟨h7, eh7, H⟩ := zbind H
    refine z_iastore (pc := 21) dX7_hold_21 eh7 ?_
    refine z_aload_n (pc := 22) 0 dX7_hold_22 rfl rfl ?_
    refine z_dup (pc := 23) dX7_hold_23 rfl ?_
    obtain ⟨x8, ex8, H⟩ := zbind H
    refine z_getI (pc := 24) dX7_hold_24 fd_X7_96 ex8 ?_
    refine z_iconst (pc := 27) (x := 1) dX7_hold_27 zc_iconst_1 ?_
    refine z_iadd (pc := 28) dX7_hold_28 ?_
    obtain ⟨h9, eh9, H⟩ := zbind H
    refine z_put (pc := 29) dX7_hold_29 fd_X7_96 rfl rfl eh9 ?_
    cases H
    exact z_return rfl dX7_hold_32

def f_X7_lastWaiting (N : Nat) (v0 : Nat) (h : zH) : Option (Int32) := (gI h v0 7 6).bind fun x1 => if x1 ≤ 0 then (some (-1)) else ((gI h v0 7 6).bind fun x3 => (gR h v0 7 2).bind fun r4 => (aN h r4).bind fun x5 => if x5 < x3 then (some (-1)) else ((gR h v0 7 2).bind fun r7 => (gI h v0 7 6).bind fun x8 => (aI h r7 (x8 - 1)).bind fun x9 => some x9))
set_option maxRecDepth 100000 in
set_option maxHeartbeats 4000000 in
theorem k_X7_lastWaiting {N : Nat} {v0 : Nat} {h : zH} {r : Int32} (H : f_X7_lastWaiting N v0 h = some r) : zOk 0 0 0 yX7_lastWaiting cX7_lastWaiting 1 (some .int) [.ref v0] h (some (.int r)) h := by
  refine zOk.of (by decide) (Nat.le_of_ble_eq_true rfl) ?_
  unfold f_X7_lastWaiting at H
  refine z_aload_n (pc := 0) 0 dX7_lastWaiting_0 rfl rfl ?_
  obtain ⟨x1, ex1, H⟩ := zbind H
  refine z_getI (pc := 1) dX7_lastWaiting_1 fd_X7_96 ex1 ?_
  refine z_if_le (pc := 4) 33 dX7_lastWaiting_4 (by decide) (fun c2 => ?_) (fun c2 => ?_)
  · rw [if_pos c2] at H
    refine z_iconst (pc := 33) (x := (-1)) dX7_lastWaiting_33 zc_iconst_m1 ?_
    cases H
    exact z_ireturn rfl dX7_lastWaiting_34
  · rw [if_neg c2] at H
    refine z_aload_n (pc := 7) 0 dX7_lastWaiting_7 rfl rfl ?_
    obtain ⟨x3, ex3, H⟩ := zbind H
    refine z_getI (pc := 8) dX7_lastWaiting_8 fd_X7_96 ex3 ?_
    refine z_aload_n (pc := 11) 0 dX7_lastWaiting_11 rfl rfl ?_
    obtain ⟨r4, er4, H⟩ := zbind H
    refine z_getR (pc := 12) dX7_lastWaiting_12 fd_X7_21 er4 ?_
    obtain ⟨x5, ex5, H⟩ := zbind H
    refine z_alen (pc := 15) dX7_lastWaiting_15 ex5 ?_
    refine z_icmp_gt (pc := 16) 33 dX7_lastWaiting_16 (by decide) (fun c6 => ?_) (fun c6 => ?_)
    · rw [if_pos c6] at H
      refine z_iconst (pc := 33) (x := (-1)) dX7_lastWaiting_33 zc_iconst_m1 ?_
      cases H
      exact z_ireturn rfl dX7_lastWaiting_34
    · rw [if_neg c6] at H
      refine z_aload_n (pc := 19) 0 dX7_lastWaiting_19 rfl rfl ?_
      obtain ⟨r7, er7, H⟩ := zbind H
      refine z_getR (pc := 20) dX7_lastWaiting_20 fd_X7_21 er7 ?_
      refine z_aload_n (pc := 23) 0 dX7_lastWaiting_23 rfl rfl ?_
      obtain ⟨x8, ex8, H⟩ := zbind H
      refine z_getI (pc := 24) dX7_lastWaiting_24 fd_X7_96 ex8 ?_
      refine z_iconst (pc := 27) (x := 1) dX7_lastWaiting_27 zc_iconst_1 ?_
      refine z_isub (pc := 28) dX7_lastWaiting_28 ?_
      obtain ⟨x9, ex9, H⟩ := zbind H
      refine z_iaload (pc := 29) dX7_lastWaiting_29 ex9 ?_
      refine z_goto (pc := 30) 34 dX7_lastWaiting_30 (by decide) ?_
      cases H
      exact z_ireturn rfl dX7_lastWaiting_34

theorem zc_sipush_30009 : (Int16.ofInt (30009)).toInt32 = (30009 : Int32) := by decide
theorem md_X7_lastWaiting : zMd yX7_lastWaiting cX7_lastWaiting 1 0 (some .int) := ⟨zmem 864 (by decide +kernel) rfl, zmem 119 (by decide +kernel) rfl, by decide, by decide, by decide +kernel, by decide⟩
theorem ml_X7_125 : Cond.methodLink RX7 125 yX7_lastWaiting ∈ zB := zmem 861 (by decide +kernel) rfl
theorem im_X7_lastWaiting : Cond.instanceMethod yX7_lastWaiting ∈ zB := zmem 863 (by decide +kernel) rfl
theorem se_X7_lastWaiting : Cond.selects yX7_lastWaiting.cls yX7_lastWaiting yX7_lastWaiting ∈ zB := zmem 24 (by decide +kernel) rfl
theorem md_X7_write : zMd yX7_write cX7_write 2 1 none := ⟨zmem 818 (by decide +kernel) rfl, zmem 119 (by decide +kernel) rfl, by decide, by decide, by decide +kernel, by decide⟩
theorem ml_X7_57 : Cond.methodLink RX7 57 yX7_write ∈ zB := zmem 815 (by decide +kernel) rfl
theorem im_X7_write : Cond.instanceMethod yX7_write ∈ zB := zmem 817 (by decide +kernel) rfl
theorem se_X7_write : Cond.selects yX7_write.cls yX7_write yX7_write ∈ zB := zmem 13 (by decide +kernel) rfl
theorem fd_X7_99 : zFd RX7 99 7 7 (.int) false "WhoseStreet$Reader" := zFd.of cl_7 (by decide) (zmem 282 (by decide +kernel) rfl) rfl rfl rfl
def f_X7_writeNots_L2 (N : Nat) (v0 : Nat) : Nat → Int32 → zH → Option (zH)
  | 0, _, _ => none
  | n + 1, v1, h => if 4 ≤ v1 then (some h) else (zif (zob h v0 7) <| (f_X7_lastWaiting N v0 h).bind fun q3 => if q3 = 9 then (zif (zob h v0 7) <| (f_X7_write N v0 30009 h).bind fun h6 => (gI h6 v0 7 6).bind fun x7 => (pF h6 v0 7 6 (.int (x7 - 1))).bind fun h8 => (gI h8 v0 7 7).bind fun x9 => (pF h8 v0 7 7 (.int (x9 - 1))).bind fun h10 => f_X7_writeNots_L2 N v0 n (v1 + 1) h10) else (some h))
set_option maxRecDepth 100000 in
set_option maxHeartbeats 4000000 in
theorem s_X7_writeNots_L2 {d mc ms N : Nat} {vv : Option Value} {hh : zH} {v0 : Nat} (hd0 : 1 ≤ d) : ∀ (n : Nat) (v1 : Int32) (h : zH) (m : zH), f_X7_writeNots_L2 N v0 n v1 h = some m → (zW yX7_writeNots cX7_writeNots 2 none d mc ms 49 [] [] m vv hh) → zW yX7_writeNots cX7_writeNots 2 none d mc ms 2 [(0, .ref v0), (1, .int v1)] [] h vv hh := by
  intro n
  induction n with
  | zero =>
    intro v1 h m H
    cases H
  | succ n ih =>
    intro v1 h m H KE
    unfold f_X7_writeNots_L2 at H
    refine z_iload_n (pc := 2) 1 dX7_writeNots_2 rfl rfl ?_
    refine z_iconst (pc := 3) (x := 4) dX7_writeNots_3 zc_iconst_4 ?_
    refine z_icmp_ge (pc := 4) 49 dX7_writeNots_4 (by decide) (fun c1 => ?_) (fun c1 => ?_)
    · rw [if_pos c1] at H
      cases H
      exact z_sub [] rfl (KE)
    · rw [if_neg c1] at H
      refine z_aload_n (pc := 7) 0 dX7_writeNots_7 rfl rfl ?_
      obtain ⟨z2, H⟩ := zifE H
      obtain ⟨q3, eq3, H⟩ := zbind H
      refine z_callV (pc := 8) (mc := mc) (ms := ms) (d' := 0) (mc' := 0) (ms' := 0) (rest := []) [] dX7_writeNots_8 md_X7_lastWaiting ml_X7_125 im_X7_lastWaiting se_X7_lastWaiting rfl z2 rfl rfl (Nat.le_of_ble_eq_true rfl) (by omega) (k_X7_lastWaiting eq3) ?_
      refine z_bipush (pc := 11) (x := 9) dX7_writeNots_11 zc_bipush_9 ?_
      refine z_icmp_ne (pc := 13) 49 dX7_writeNots_13 (by decide) (fun c4 => ?_) (fun c4 => ?_)
      · rw [if_neg c4] at H
        cases H
        exact z_sub [] rfl (KE)
      · rw [if_pos c4] at H
        refine z_aload_n (pc := 16) 0 dX7_writeNots_16 rfl rfl ?_
        refine z_sipush (pc := 17) (x := 30009) dX7_writeNots_17 zc_sipush_30009 ?_
        obtain ⟨z5, H⟩ := zifE H
        obtain ⟨h6, eh6, H⟩ := zbind H
        refine z_callV (pc := 20) (mc := mc) (ms := ms) (d' := 0) (mc' := 0) (ms' := 0) (rest := []) [.int 30009] dX7_writeNots_20 md_X7_write ml_X7_57 im_X7_write se_X7_write rfl z5 rfl rfl (Nat.le_of_ble_eq_true rfl) (by omega) (k_X7_write eh6) ?_
        refine z_aload_n (pc := 23) 0 dX7_writeNots_23 rfl rfl ?_
        refine z_dup (pc := 24) dX7_writeNots_24 rfl ?_
        obtain ⟨x7, ex7, H⟩ := zbind H
        refine z_getI (pc := 25) dX7_writeNots_25 fd_X7_96 ex7 ?_
        refine z_iconst (pc := 28) (x := 1) dX7_writeNots_28 zc_iconst_1 ?_
        refine z_isub (pc := 29) dX7_writeNots_29 ?_
        obtain ⟨h8, eh8, H⟩ := zbind H
        refine z_put (pc := 30) dX7_writeNots_30 fd_X7_96 rfl rfl eh8 ?_
        refine z_aload_n (pc := 33) 0 dX7_writeNots_33 rfl rfl ?_
        refine z_dup (pc := 34) dX7_writeNots_34 rfl ?_
        obtain ⟨x9, ex9, H⟩ := zbind H
        refine z_getI (pc := 35) dX7_writeNots_35 fd_X7_99 ex9 ?_
        refine z_iconst (pc := 38) (x := 1) dX7_writeNots_38 zc_iconst_1 ?_
        refine z_isub (pc := 39) dX7_writeNots_39 ?_
        obtain ⟨h10, eh10, H⟩ := zbind H
        refine z_put (pc := 40) dX7_writeNots_40 fd_X7_99 rfl rfl eh10 ?_
        refine z_iinc (pc := 43) (x' := v1 + 1) (lv' := [(1, .int (v1 + 1)), (0, .ref v0)]) 1 dX7_writeNots_43 rfl (by rfl) (by decide) rfl ?_
        refine z_goto (pc := 46) 2 dX7_writeNots_46 (by decide) ?_
        exact z_sub [1, 0] rfl (ih (v1 + 1) h10 _ H KE)
def f_X7_writeNots (N : Nat) (v0 : Nat) (h : zH) : Option (zH) := (f_X7_writeNots_L2 N v0 N 0 h).bind fun m11 => some m11
set_option maxRecDepth 100000 in
set_option maxHeartbeats 4000000 in
theorem k_X7_writeNots {N : Nat} {v0 : Nat} {h : zH} {r : zH} (H : f_X7_writeNots N v0 h = some r) : zOk 1 0 0 yX7_writeNots cX7_writeNots 2 none [.ref v0] h none r := by
  refine zOk.of (by decide) (Nat.le_of_ble_eq_true rfl) ?_
  unfold f_X7_writeNots at H
  refine z_iconst (pc := 0) (x := 0) dX7_writeNots_0 zc_iconst_0 ?_
  refine z_istore_n (pc := 1) (lv' := [(1, .int 0), (0, .ref v0)]) dX7_writeNots_1 rfl (by decide) rfl ?_
  obtain ⟨m11, em11, H⟩ := zbind H
  refine z_sub [1, 0] rfl (s_X7_writeNots_L2 (by omega) N 0 h _ em11 ?_)
  cases H
  exact z_return rfl dX7_writeNots_49

def p_X7_rank (v0 : Int32) : Int32 := if v0 = 7 then (1) else (if v0 = 8 then (1) else (if v0 = 42 then (4) else (if v0 = 43 then (3) else (if v0 = 45 then (3) else (if v0 = 60 then (2) else (if v0 = 61 then (2) else (0)))))))
set_option maxRecDepth 100000 in
set_option maxHeartbeats 4000000 in
theorem k_X7_rank (v0 : Int32) (h : zH) (r : Int32) (H : p_X7_rank v0 = r) : zOk 0 0 0 yX7_rank cX7_rank 1 (some .int) [.int v0] h (some (.int r)) h := by
  refine zOk.of (by decide) (Nat.le_of_ble_eq_true rfl) ?_
  unfold p_X7_rank at H
  refine z_iload_n (pc := 0) 0 dX7_rank_0 rfl rfl ?_
  by_cases c1 : v0 = 7
  · rw [if_pos c1] at H
    refine z_lsw (pc := 1) (off := 67) 68 dX7_rank_1 (by decide) (by rw [c1]; decide) (by decide) ?_
    refine z_iconst (pc := 68) (x := 1) dX7_rank_68 zc_iconst_1 ?_
    subst H
    exact z_ireturn rfl dX7_rank_69
  rw [if_neg c1] at H
  by_cases c2 : v0 = 8
  · rw [if_pos c2] at H
    refine z_lsw (pc := 1) (off := 67) 68 dX7_rank_1 (by decide) (by rw [c2]; decide) (by decide) ?_
    refine z_iconst (pc := 68) (x := 1) dX7_rank_68 zc_iconst_1 ?_
    subst H
    exact z_ireturn rfl dX7_rank_69
  rw [if_neg c2] at H
  by_cases c3 : v0 = 42
  · rw [if_pos c3] at H
    refine z_lsw (pc := 1) (off := 73) 74 dX7_rank_1 (by decide) (by rw [c3]; decide) (by decide) ?_
    refine z_iconst (pc := 74) (x := 4) dX7_rank_74 zc_iconst_4 ?_
    subst H
    exact z_ireturn rfl dX7_rank_75
  rw [if_neg c3] at H
  by_cases c4 : v0 = 43
  · rw [if_pos c4] at H
    refine z_lsw (pc := 1) (off := 71) 72 dX7_rank_1 (by decide) (by rw [c4]; decide) (by decide) ?_
    refine z_iconst (pc := 72) (x := 3) dX7_rank_72 zc_iconst_3 ?_
    subst H
    exact z_ireturn rfl dX7_rank_73
  rw [if_neg c4] at H
  by_cases c5 : v0 = 45
  · rw [if_pos c5] at H
    refine z_lsw (pc := 1) (off := 71) 72 dX7_rank_1 (by decide) (by rw [c5]; decide) (by decide) ?_
    refine z_iconst (pc := 72) (x := 3) dX7_rank_72 zc_iconst_3 ?_
    subst H
    exact z_ireturn rfl dX7_rank_73
  rw [if_neg c5] at H
  by_cases c6 : v0 = 60
  · rw [if_pos c6] at H
    refine z_lsw (pc := 1) (off := 69) 70 dX7_rank_1 (by decide) (by rw [c6]; decide) (by decide) ?_
    refine z_iconst (pc := 70) (x := 2) dX7_rank_70 zc_iconst_2 ?_
    subst H
    exact z_ireturn rfl dX7_rank_71
  rw [if_neg c6] at H
  by_cases c7 : v0 = 61
  · rw [if_pos c7] at H
    refine z_lsw (pc := 1) (off := 69) 70 dX7_rank_1 (by decide) (by rw [c7]; decide) (by decide) ?_
    refine z_iconst (pc := 70) (x := 2) dX7_rank_70 zc_iconst_2 ?_
    subst H
    exact z_ireturn rfl dX7_rank_71
  rw [if_neg c7] at H
  refine z_lsw (pc := 1) (off := 75) 76 dX7_rank_1 (by decide) (by show Op.lookupswitch.offset [(7, 67), (8, 67), (42, 73), (43, 71), (45, 71), (60, 69), (61, 69)] 75 v0.toInt = 75; rw [lv_osw c1 (by decide), lv_osw c2 (by decide), lv_osw c3 (by decide), lv_osw c4 (by decide), lv_osw c5 (by decide), lv_osw c6 (by decide), lv_osw c7 (by decide)]; rfl) (by decide) ?_
  refine z_iconst (pc := 76) (x := 0) dX7_rank_76 zc_iconst_0 ?_
  subst H
  exact z_ireturn rfl dX7_rank_77

theorem md_X7_rank : zMd yX7_rank cX7_rank 1 1 (some .int) := ⟨zmem 875 (by decide +kernel) rfl, zmem 119 (by decide +kernel) rfl, by decide, by decide, by decide +kernel, by decide⟩
theorem ml_X7_109 : Cond.methodLink RX7 109 yX7_rank ∈ zB := zmem 873 (by decide +kernel) rfl
theorem sm_X7_rank : Cond.static yX7_rank ∈ zB := zmem 874 (by decide +kernel) rfl
def f_X7_writeWaiting_L2 (N : Nat) (v0 : Nat) (v1 : Int32) : Nat → Int32 → zH → Option (zH)
  | 0, _, _ => none
  | n + 1, v2, h => (gR h v0 7 2).bind fun r1 => (aN h r1).bind fun x2 => if x2 ≤ v2 then (some h) else (zif (zob h v0 7) <| (f_X7_lastWaiting N v0 h).bind fun q5 => if (p_X7_rank q5) < v1 then (some h) else (zif (zob h v0 7) <| (f_X7_lastWaiting N v0 h).bind fun q8 => zif (zob h v0 7) <| (f_X7_write N v0 (30000 + q8) h).bind fun h10 => (gI h10 v0 7 6).bind fun x11 => (pF h10 v0 7 6 (.int (x11 - 1))).bind fun h12 => f_X7_writeWaiting_L2 N v0 v1 n (v2 + 1) h12))
set_option maxRecDepth 100000 in
set_option maxHeartbeats 4000000 in
theorem s_X7_writeWaiting_L2 {d mc ms N : Nat} {vv : Option Value} {hh : zH} {v0 : Nat} {v1 : Int32} (hd0 : 1 ≤ d) : ∀ (n : Nat) (v2 : Int32) (h : zH) (m : zH), f_X7_writeWaiting_L2 N v0 v1 n v2 h = some m → (zW yX7_writeWaiting cX7_writeWaiting 3 none d mc ms 50 [] [] m vv hh) → zW yX7_writeWaiting cX7_writeWaiting 3 none d mc ms 2 [(0, .ref v0), (1, .int v1), (2, .int v2)] [] h vv hh := by
  intro n
  induction n with
  | zero =>
    intro v2 h m H
    cases H
  | succ n ih =>
    intro v2 h m H KE
    unfold f_X7_writeWaiting_L2 at H
    refine z_iload_n (pc := 2) 2 dX7_writeWaiting_2 rfl rfl ?_
    refine z_aload_n (pc := 3) 0 dX7_writeWaiting_3 rfl rfl ?_
    obtain ⟨r1, er1, H⟩ := zbind H
    refine z_getR (pc := 4) dX7_writeWaiting_4 fd_X7_21 er1 ?_
    obtain ⟨x2, ex2, H⟩ := zbind H
    refine z_alen (pc := 7) dX7_writeWaiting_7 ex2 ?_
    refine z_icmp_ge (pc := 8) 50 dX7_writeWaiting_8 (by decide) (fun c3 => ?_) (fun c3 => ?_)
    · rw [if_pos c3] at H
      cases H
      exact z_sub [] rfl (KE)
    · rw [if_neg c3] at H
      refine z_aload_n (pc := 11) 0 dX7_writeWaiting_11 rfl rfl ?_
      obtain ⟨z4, H⟩ := zifE H
      obtain ⟨q5, eq5, H⟩ := zbind H
      refine z_callV (pc := 12) (mc := mc) (ms := ms) (d' := 0) (mc' := 0) (ms' := 0) (rest := []) [] dX7_writeWaiting_12 md_X7_lastWaiting ml_X7_125 im_X7_lastWaiting se_X7_lastWaiting rfl z4 rfl rfl (Nat.le_of_ble_eq_true rfl) (by omega) (k_X7_lastWaiting eq5) ?_
      refine z_callS (pc := 15) (mc := mc) (ms := ms) (d' := 0) (mc' := 0) (ms' := 0) (rest := []) [.int q5] dX7_writeWaiting_15 md_X7_rank ml_X7_109 sm_X7_rank rfl rfl (Nat.le_of_ble_eq_true rfl) (by omega) (k_X7_rank q5 h _ rfl) ?_
      refine z_iload_n (pc := 18) 1 dX7_writeWaiting_18 rfl rfl ?_
      refine z_icmp_lt (pc := 19) 50 dX7_writeWaiting_19 (by decide) (fun c6 => ?_) (fun c6 => ?_)
      · rw [if_pos c6] at H
        cases H
        exact z_sub [] rfl (KE)
      · rw [if_neg c6] at H
        refine z_aload_n (pc := 22) 0 dX7_writeWaiting_22 rfl rfl ?_
        refine z_sipush (pc := 23) (x := 30000) dX7_writeWaiting_23 zc_sipush_30000 ?_
        refine z_aload_n (pc := 26) 0 dX7_writeWaiting_26 rfl rfl ?_
        obtain ⟨z7, H⟩ := zifE H
        obtain ⟨q8, eq8, H⟩ := zbind H
        refine z_callV (pc := 27) (mc := mc) (ms := ms) (d' := 0) (mc' := 0) (ms' := 0) (rest := [.int 30000, .ref v0]) [] dX7_writeWaiting_27 md_X7_lastWaiting ml_X7_125 im_X7_lastWaiting se_X7_lastWaiting rfl z7 rfl rfl (Nat.le_of_ble_eq_true rfl) (by omega) (k_X7_lastWaiting eq8) ?_
        refine z_iadd (pc := 30) dX7_writeWaiting_30 ?_
        obtain ⟨z9, H⟩ := zifE H
        obtain ⟨h10, eh10, H⟩ := zbind H
        refine z_callV (pc := 31) (mc := mc) (ms := ms) (d' := 0) (mc' := 0) (ms' := 0) (rest := []) [.int (30000 + q8)] dX7_writeWaiting_31 md_X7_write ml_X7_57 im_X7_write se_X7_write rfl z9 rfl rfl (Nat.le_of_ble_eq_true rfl) (by omega) (k_X7_write eh10) ?_
        refine z_aload_n (pc := 34) 0 dX7_writeWaiting_34 rfl rfl ?_
        refine z_dup (pc := 35) dX7_writeWaiting_35 rfl ?_
        obtain ⟨x11, ex11, H⟩ := zbind H
        refine z_getI (pc := 36) dX7_writeWaiting_36 fd_X7_96 ex11 ?_
        refine z_iconst (pc := 39) (x := 1) dX7_writeWaiting_39 zc_iconst_1 ?_
        refine z_isub (pc := 40) dX7_writeWaiting_40 ?_
        obtain ⟨h12, eh12, H⟩ := zbind H
        refine z_put (pc := 41) dX7_writeWaiting_41 fd_X7_96 rfl rfl eh12 ?_
        refine z_iinc (pc := 44) (x' := v2 + 1) (lv' := [(2, .int (v2 + 1)), (0, .ref v0), (1, .int v1)]) 2 dX7_writeWaiting_44 rfl (by rfl) (by decide) rfl ?_
        refine z_goto (pc := 47) 2 dX7_writeWaiting_47 (by decide) ?_
        exact z_sub [1, 2, 0] rfl (ih (v2 + 1) h12 _ H KE)
def f_X7_writeWaiting (N : Nat) (v0 : Nat) (v1 : Int32) (h : zH) : Option (zH) := (f_X7_writeWaiting_L2 N v0 v1 N 0 h).bind fun m13 => some m13
set_option maxRecDepth 100000 in
set_option maxHeartbeats 4000000 in
theorem k_X7_writeWaiting {N : Nat} {v0 : Nat} {v1 : Int32} {h : zH} {r : zH} (H : f_X7_writeWaiting N v0 v1 h = some r) : zOk 1 0 0 yX7_writeWaiting cX7_writeWaiting 3 none [.ref v0, .int v1] h none r := by
  refine zOk.of (by decide) (Nat.le_of_ble_eq_true rfl) ?_
  unfold f_X7_writeWaiting at H
  refine z_iconst (pc := 0) (x := 0) dX7_writeWaiting_0 zc_iconst_0 ?_
  refine z_istore_n (pc := 1) (lv' := [(2, .int 0), (0, .ref v0), (1, .int v1)]) dX7_writeWaiting_1 rfl (by decide) rfl ?_
  obtain ⟨m13, em13, H⟩ := zbind H
  refine z_sub [1, 2, 0] rfl (s_X7_writeWaiting_L2 (by omega) N 0 h _ em13 ?_)
  cases H
  exact z_return rfl dX7_writeWaiting_50

theorem ml_X8_3 : Cond.methodLink RX8 3 objectInit ∈ zB := zmem 153 (by decide +kernel) rfl
def f_X8_init (N : Nat) (v0 : Nat) (h : zH) : Option (Unit) := some ()
set_option maxRecDepth 100000 in
set_option maxHeartbeats 4000000 in
theorem k_X8_init {N : Nat} {v0 : Nat} {h : zH} {r : Unit} (H : f_X8_init N v0 h = some r) : zOk 1 0 0 yX8_init cX8_init 1 none [.ref v0] h none h := by
  refine zOk.of (by decide) (Nat.le_of_ble_eq_true rfl) ?_
  unfold f_X8_init at H
  refine z_aload_n (pc := 0) 0 dX8_init_0 rfl rfl ?_
  refine z_objInit (pc := 1) dX8_init_1 ml_X8_3 im_object cd_object (by omega) (Nat.le_of_ble_eq_true rfl) ?_
  cases H
  exact z_return rfl dX8_init_4

theorem fd_X8_103 : zFd RX8 103 6 7 (.int) false "WhoseStreet$Meeting" := zFd.of cl_6 (by decide) (zmem 579 (by decide +kernel) rfl) rfl rfl rfl
theorem fd_X8_49 : zFd RX8 49 8 0 (.int) false "WhoseStreet$Ride" := zFd.of cl_8 (by decide) (zmem 154 (by decide +kernel) rfl) rfl rfl rfl
theorem fd_X8_53 : zFd RX8 53 8 1 (.int) false "WhoseStreet$Ride" := zFd.of cl_8 (by decide) (zmem 156 (by decide +kernel) rfl) rfl rfl rfl
theorem fd_X8_106 : zFd RX8 106 6 8 (.int) false "WhoseStreet$Meeting" := zFd.of cl_6 (by decide) (zmem 581 (by decide +kernel) rfl) rfl rfl rfl
def f_X8_sees (N : Nat) (v0 : Nat) (v1 : Nat) (h : zH) : Option (Int32) := (gI h v1 6 7).bind fun x1 => (if x1 = 0 then (some 0) else ((gI h v0 8 0).bind fun x4 => (gI h v1 6 7).bind fun x5 => if x5 ≤ x4 then (some 0) else ((gI h v0 8 1).bind fun x7 => (gI h v1 6 8).bind fun x8 => if x8 ≤ x7 then (some 0) else ((gI h v1 6 7).bind fun x10 => (gI h v0 8 1).bind fun x11 => (gI h v1 6 8).bind fun x12 => (gI h v0 8 0).bind fun x13 => (gI h v0 8 0).bind fun x14 => (gI h v0 8 1).bind fun x15 => if (x14 * x15) < ((x10 * x11) + (x12 * x13)) then (some 0) else (some 1)))) : Option (Int32)).bind fun m2 => (gI h v0 8 0).bind fun x17 => if 0 ≤ x17 then (some 0) else ((gI h v0 8 1).bind fun x19 => if 0 ≤ x19 then (some 0) else (if m2 = 0 then (some 1) else (some 0)))
set_option maxRecDepth 100000 in
set_option maxHeartbeats 4000000 in
theorem k_X8_sees {N : Nat} {v0 : Nat} {v1 : Nat} {h : zH} {r : Int32} (H : f_X8_sees N v0 v1 h = some r) : zOk 0 0 0 yX8_sees cX8_sees 3 (some .boolean) [.ref v0, .ref v1] h (some (.int r)) h := by
  refine zOk.of (by decide) (Nat.le_of_ble_eq_true rfl) ?_
  unfold f_X8_sees at H
  refine z_aload_n (pc := 0) 1 dX8_sees_0 rfl rfl ?_
  obtain ⟨x1, ex1, H⟩ := zbind H
  refine z_getI (pc := 1) dX8_sees_1 fd_X8_103 ex1 ?_
  obtain ⟨m2, em2, H⟩ := zbind H
  have Jm2 : zW yX8_sees cX8_sees 3 (some .boolean) 0 0 0 65 [(0, .ref v0)] [.int m2] h (some (.int r)) h := by
    refine z_istore_n (pc := 65) (lv' := [(2, .int m2), (0, .ref v0)]) dX8_sees_65 rfl (by decide) rfl ?_
    refine z_aload_n (pc := 66) 1 dX8_sees_66 rfl rfl ?_
    obtain ⟨x17, ex17, H⟩ := zbind H
    refine z_getI (pc := 67) dX8_sees_67 fd_X8_49 ex17 ?_
    refine z_if_ge (pc := 70) 88 dX8_sees_70 (by decide) (fun c18 => ?_) (fun c18 => ?_)
    · rw [if_pos c18] at H
      refine z_iconst (pc := 88) (x := 0) dX8_sees_88 zc_iconst_0 ?_
      cases H
      exact z_zreturn rfl dX8_sees_89 (by decide)
    · rw [if_neg c18] at H
      refine z_aload_n (pc := 73) 1 dX8_sees_73 rfl rfl ?_
      obtain ⟨x19, ex19, H⟩ := zbind H
      refine z_getI (pc := 74) dX8_sees_74 fd_X8_53 ex19 ?_
      refine z_if_ge (pc := 77) 88 dX8_sees_77 (by decide) (fun c20 => ?_) (fun c20 => ?_)
      · rw [if_pos c20] at H
        refine z_iconst (pc := 88) (x := 0) dX8_sees_88 zc_iconst_0 ?_
        cases H
        exact z_zreturn rfl dX8_sees_89 (by decide)
      · rw [if_neg c20] at H
        refine z_iload_n (pc := 80) 0 dX8_sees_80 rfl rfl ?_
        refine z_if_ne (pc := 81) 88 dX8_sees_81 (by decide) (fun c21 => ?_) (fun c21 => ?_)
        · rw [if_neg c21] at H
          refine z_iconst (pc := 88) (x := 0) dX8_sees_88 zc_iconst_0 ?_
          cases H
          exact z_zreturn rfl dX8_sees_89 (by decide)
        · rw [if_pos c21] at H
          refine z_iconst (pc := 84) (x := 1) dX8_sees_84 zc_iconst_1 ?_
          refine z_goto (pc := 85) 89 dX8_sees_85 (by decide) ?_
          cases H
          exact z_zreturn rfl dX8_sees_89 (by decide)
  refine z_if_eq (pc := 4) 64 dX8_sees_4 (by decide) (fun c3 => ?_) (fun c3 => ?_)
  · rw [if_pos c3] at em2
    refine z_iconst (pc := 64) (x := 0) dX8_sees_64 zc_iconst_0 ?_
    cases em2
    exact z_sub [0] rfl Jm2
  · rw [if_neg c3] at em2
    refine z_aload_n (pc := 7) 0 dX8_sees_7 rfl rfl ?_
    obtain ⟨x4, ex4, em2⟩ := zbind em2
    refine z_getI (pc := 8) dX8_sees_8 fd_X8_49 ex4 ?_
    refine z_aload_n (pc := 11) 1 dX8_sees_11 rfl rfl ?_
    obtain ⟨x5, ex5, em2⟩ := zbind em2
    refine z_getI (pc := 12) dX8_sees_12 fd_X8_103 ex5 ?_
    refine z_icmp_ge (pc := 15) 64 dX8_sees_15 (by decide) (fun c6 => ?_) (fun c6 => ?_)
    · rw [if_pos c6] at em2
      refine z_iconst (pc := 64) (x := 0) dX8_sees_64 zc_iconst_0 ?_
      cases em2
      exact z_sub [0] rfl Jm2
    · rw [if_neg c6] at em2
      refine z_aload_n (pc := 18) 0 dX8_sees_18 rfl rfl ?_
      obtain ⟨x7, ex7, em2⟩ := zbind em2
      refine z_getI (pc := 19) dX8_sees_19 fd_X8_53 ex7 ?_
      refine z_aload_n (pc := 22) 1 dX8_sees_22 rfl rfl ?_
      obtain ⟨x8, ex8, em2⟩ := zbind em2
      refine z_getI (pc := 23) dX8_sees_23 fd_X8_106 ex8 ?_
      refine z_icmp_ge (pc := 26) 64 dX8_sees_26 (by decide) (fun c9 => ?_) (fun c9 => ?_)
      · rw [if_pos c9] at em2
        refine z_iconst (pc := 64) (x := 0) dX8_sees_64 zc_iconst_0 ?_
        cases em2
        exact z_sub [0] rfl Jm2
      · rw [if_neg c9] at em2
        refine z_aload_n (pc := 29) 1 dX8_sees_29 rfl rfl ?_
        obtain ⟨x10, ex10, em2⟩ := zbind em2
        refine z_getI (pc := 30) dX8_sees_30 fd_X8_103 ex10 ?_
        refine z_aload_n (pc := 33) 0 dX8_sees_33 rfl rfl ?_
        obtain ⟨x11, ex11, em2⟩ := zbind em2
        refine z_getI (pc := 34) dX8_sees_34 fd_X8_53 ex11 ?_
        refine z_imul (pc := 37) dX8_sees_37 ?_
        refine z_aload_n (pc := 38) 1 dX8_sees_38 rfl rfl ?_
        obtain ⟨x12, ex12, em2⟩ := zbind em2
        refine z_getI (pc := 39) dX8_sees_39 fd_X8_106 ex12 ?_
        refine z_aload_n (pc := 42) 0 dX8_sees_42 rfl rfl ?_
        obtain ⟨x13, ex13, em2⟩ := zbind em2
        refine z_getI (pc := 43) dX8_sees_43 fd_X8_49 ex13 ?_
        refine z_imul (pc := 46) dX8_sees_46 ?_
        refine z_iadd (pc := 47) dX8_sees_47 ?_
        refine z_aload_n (pc := 48) 0 dX8_sees_48 rfl rfl ?_
        obtain ⟨x14, ex14, em2⟩ := zbind em2
        refine z_getI (pc := 49) dX8_sees_49 fd_X8_49 ex14 ?_
        refine z_aload_n (pc := 52) 0 dX8_sees_52 rfl rfl ?_
        obtain ⟨x15, ex15, em2⟩ := zbind em2
        refine z_getI (pc := 53) dX8_sees_53 fd_X8_53 ex15 ?_
        refine z_imul (pc := 56) dX8_sees_56 ?_
        refine z_icmp_gt (pc := 57) 64 dX8_sees_57 (by decide) (fun c16 => ?_) (fun c16 => ?_)
        · rw [if_pos c16] at em2
          refine z_iconst (pc := 64) (x := 0) dX8_sees_64 zc_iconst_0 ?_
          cases em2
          exact z_sub [0] rfl Jm2
        · rw [if_neg c16] at em2
          refine z_iconst (pc := 60) (x := 1) dX8_sees_60 zc_iconst_1 ?_
          refine z_goto (pc := 61) 65 dX8_sees_61 (by decide) ?_
          cases em2
          exact z_sub [0] rfl Jm2

theorem fd_X8_25 : zFd RX8 25 8 4 (.int) false "WhoseStreet$Ride" := zFd.of cl_8 (by decide) (zmem 160 (by decide +kernel) rfl) rfl rfl rfl
theorem fd_X8_54 : zFd RX8 54 8 3 (.int) false "WhoseStreet$Ride" := zFd.of cl_8 (by decide) (zmem 159 (by decide +kernel) rfl) rfl rfl rfl
def f_X8_notice (N : Nat) (v0 : Nat) (v1 : Int32) (h : zH) : Option (zH) := if v1 = 0 then (some h) else ((gI h v0 8 4).bind fun x2 => if x2 = (-1) then ((gI h v0 8 3).bind fun x4 => (pF h v0 8 4 (.int x4)).bind fun h5 => some h5) else (some h))
set_option maxRecDepth 100000 in
set_option maxHeartbeats 4000000 in
theorem k_X8_notice {N : Nat} {v0 : Nat} {v1 : Int32} {h : zH} {r : zH} (H : f_X8_notice N v0 v1 h = some r) : zOk 0 0 0 yX8_notice cX8_notice 2 none [.ref v0, .int v1] h none r := by
  refine zOk.of (by decide) (Nat.le_of_ble_eq_true rfl) ?_
  unfold f_X8_notice at H
  refine z_iload_n (pc := 0) 1 dX8_notice_0 rfl rfl ?_
  refine z_if_eq (pc := 1) 20 dX8_notice_1 (by decide) (fun c1 => ?_) (fun c1 => ?_)
  · rw [if_pos c1] at H
    cases H
    exact z_return rfl dX8_notice_20
  · rw [if_neg c1] at H
    refine z_aload_n (pc := 4) 0 dX8_notice_4 rfl rfl ?_
    obtain ⟨x2, ex2, H⟩ := zbind H
    refine z_getI (pc := 5) dX8_notice_5 fd_X8_25 ex2 ?_
    refine z_iconst (pc := 8) (x := (-1)) dX8_notice_8 zc_iconst_m1 ?_
    refine z_icmp_ne (pc := 9) 20 dX8_notice_9 (by decide) (fun c3 => ?_) (fun c3 => ?_)
    · rw [if_neg c3] at H
      cases H
      exact z_return rfl dX8_notice_20
    · rw [if_pos c3] at H
      refine z_aload_n (pc := 12) 0 dX8_notice_12 rfl rfl ?_
      refine z_aload_n (pc := 13) 0 dX8_notice_13 rfl rfl ?_
      obtain ⟨x4, ex4, H⟩ := zbind H
      refine z_getI (pc := 14) dX8_notice_14 fd_X8_54 ex4 ?_
      obtain ⟨h5, eh5, H⟩ := zbind H
      refine z_put (pc := 17) dX8_notice_17 fd_X8_25 rfl rfl eh5 ?_
      cases H
      exact z_return rfl dX8_notice_20

def f_X11_up (N : Nat) (v0 : Int32) (v1 : Int32) (h : zH) : Option (Int32) := if 0 < v1 then (zdiv v1 <| some (((v0 + v1) - 1) / v1)) else (some 0)
set_option maxRecDepth 100000 in
set_option maxHeartbeats 4000000 in
theorem k_X11_up {N : Nat} {v0 : Int32} {v1 : Int32} {h : zH} {r : Int32} (H : f_X11_up N v0 v1 h = some r) : zOk 0 0 0 yX11_up cX11_up 2 (some .int) [.int v0, .int v1] h (some (.int r)) h := by
  refine zOk.of (by decide) (Nat.le_of_ble_eq_true rfl) ?_
  unfold f_X11_up at H
  refine z_iload_n (pc := 0) 1 dX11_up_0 rfl rfl ?_
  refine z_if_gt (pc := 1) 8 dX11_up_1 (by decide) (fun c1 => ?_) (fun c1 => ?_)
  · rw [if_pos c1] at H
    refine z_iload_n (pc := 8) 0 dX11_up_8 rfl rfl ?_
    refine z_iload_n (pc := 9) 1 dX11_up_9 rfl rfl ?_
    refine z_iadd (pc := 10) dX11_up_10 ?_
    refine z_iconst (pc := 11) (x := 1) dX11_up_11 zc_iconst_1 ?_
    refine z_isub (pc := 12) dX11_up_12 ?_
    refine z_iload_n (pc := 13) 1 dX11_up_13 rfl rfl ?_
    obtain ⟨z2, H⟩ := zdivE H
    refine z_idiv (pc := 14) dX11_up_14 z2 ?_
    cases H
    exact z_ireturn rfl dX11_up_15
  · rw [if_neg c1] at H
    refine z_iconst (pc := 4) (x := 0) dX11_up_4 zc_iconst_0 ?_
    refine z_goto (pc := 5) 15 dX11_up_5 (by decide) ?_
    cases H
    exact z_ireturn rfl dX11_up_15

theorem fs_X8_94 : Cond.fieldLink RX8 94 "WhoseStreet$Ride" "BRAKES" "[I" ∈ zB := zmem 658 (by decide +kernel) rfl
theorem fd_X8_33 : zFd RX8 33 8 2 (.int) false "WhoseStreet$Ride" := zFd.of cl_8 (by decide) (zmem 158 (by decide +kernel) rfl) rfl rfl rfl
theorem ml_X8_98 : Cond.methodLink RX8 98 Lib.Math.max.name ∈ zB := zmem 660 (by decide +kernel) rfl
def f_X8_brake (N : Nat) (v0 : Nat) (v1 : Int32) (h : zH) : Option (zH) := if v1 < 0 then (some h) else ((aN h (h.1.2 0)).bind fun x2 => if x2 ≤ v1 then (some h) else ((gI h v0 8 2).bind fun x4 => (aI h (h.1.2 0) v1).bind fun x5 => (pF h v0 8 2 (.int (if 0 < (x4 - x5) then (x4 - x5) else 0))).bind fun h6 => some h6))
set_option maxRecDepth 100000 in
set_option maxHeartbeats 4000000 in
theorem k_X8_brake {N : Nat} {v0 : Nat} {v1 : Int32} {h : zH} {r : zH} (H : f_X8_brake N v0 v1 h = some r) : zOk 1 0 0 yX8_brake cX8_brake 2 none [.ref v0, .int v1] h none r := by
  refine zOk.of (by decide) (Nat.le_of_ble_eq_true rfl) ?_
  unfold f_X8_brake at H
  refine z_iload_n (pc := 0) 1 dX8_brake_0 rfl rfl ?_
  refine z_if_lt (pc := 1) 30 dX8_brake_1 (by decide) (fun c1 => ?_) (fun c1 => ?_)
  · rw [if_pos c1] at H
    cases H
    exact z_return rfl dX8_brake_30
  · rw [if_neg c1] at H
    refine z_iload_n (pc := 4) 1 dX8_brake_4 rfl rfl ?_
    refine z_brakes (pc := 5) dX8_brake_5 fs_X8_94 ?_
    obtain ⟨x2, ex2, H⟩ := zbind H
    refine z_alen (pc := 8) dX8_brake_8 ex2 ?_
    refine z_icmp_ge (pc := 9) 30 dX8_brake_9 (by decide) (fun c3 => ?_) (fun c3 => ?_)
    · rw [if_pos c3] at H
      cases H
      exact z_return rfl dX8_brake_30
    · rw [if_neg c3] at H
      refine z_aload_n (pc := 12) 0 dX8_brake_12 rfl rfl ?_
      refine z_iconst (pc := 13) (x := 0) dX8_brake_13 zc_iconst_0 ?_
      refine z_aload_n (pc := 14) 0 dX8_brake_14 rfl rfl ?_
      obtain ⟨x4, ex4, H⟩ := zbind H
      refine z_getI (pc := 15) dX8_brake_15 fd_X8_33 ex4 ?_
      refine z_brakes (pc := 18) dX8_brake_18 fs_X8_94 ?_
      refine z_iload_n (pc := 21) 1 dX8_brake_21 rfl rfl ?_
      obtain ⟨x5, ex5, H⟩ := zbind H
      refine z_iaload (pc := 22) dX8_brake_22 ex5 ?_
      refine z_isub (pc := 23) dX8_brake_23 ?_
      refine z_mmax (pc := 24) dX8_brake_24 ml_X8_98 mx_1 mx_2 mx_3 (by omega) (Nat.le_of_ble_eq_true rfl) ?_
      obtain ⟨h6, eh6, H⟩ := zbind H
      refine z_put (pc := 27) dX8_brake_27 fd_X8_33 rfl rfl eh6 ?_
      cases H
      exact z_return rfl dX8_brake_30

