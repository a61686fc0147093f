theorem zc_iconst_1 : Int32.ofInt (1) = (1 : Int32) := by decide
theorem zc_iconst_2 : Int32.ofInt (2) = (2 : Int32) := by decide
theorem zc_iconst_4 : Int32.ofInt (4) = (4 : Int32) := by decide
theorem zc_bipush_8 : (Int8.ofInt (8)).toInt32 = (8 : Int32) := by decide
theorem zc_bipush_16 : (Int8.ofInt (16)).toInt32 = (16 : Int32) := by decide
theorem zc_bipush_63 : (Int8.ofInt (63)).toInt32 = (63 : Int32) := by decide
theorem ki_J6_265 : Cond.constant RJ6 265 1431655765 ∈ zB := zmem 1154 (by decide +kernel) rfl
theorem ki_J6_266 : Cond.constant RJ6 266 858993459 ∈ zB := zmem 1155 (by decide +kernel) rfl
theorem ki_J6_267 : Cond.constant RJ6 267 252645135 ∈ zB := zmem 1156 (by decide +kernel) rfl
def p_J6_bitCount_0f7a4 (v0 : Int32) : Int32 := zlet (v0 - (((v0.toUInt32 >>> ((1 : Int32).toUInt32 &&& Int32.toUInt32 31)).toInt32) &&& 1431655765) : Int32) fun x1 => zlet ((x1 &&& 858993459) + (((x1.toUInt32 >>> ((2 : Int32).toUInt32 &&& Int32.toUInt32 31)).toInt32) &&& 858993459) : Int32) fun x2 => zlet ((x2 + ((x2.toUInt32 >>> ((4 : Int32).toUInt32 &&& Int32.toUInt32 31)).toInt32)) &&& 252645135 : Int32) fun x3 => zlet (x3 + ((x3.toUInt32 >>> ((8 : Int32).toUInt32 &&& Int32.toUInt32 31)).toInt32) : Int32) fun x4 => zlet (x4 + ((x4.toUInt32 >>> ((16 : Int32).toUInt32 &&& Int32.toUInt32 31)).toInt32) : Int32) fun x5 => x5 &&& 63
set_option maxRecDepth 100000 in
set_option maxHeartbeats 4000000 in
theorem k_J6_bitCount_0f7a4 (v0 : Int32) (h : zH) (r : Int32) (H : p_J6_bitCount_0f7a4 v0 = r) : zOk 0 0 0 yJ6_bitCount_0f7a4 cJ6_bitCount_0f7a4 1 (some .int) [.int v0] h (some (.int r)) h := by
  refine zOk.of (by decide) (Nat.le_of_ble_eq_true rfl) ?_
  unfold p_J6_bitCount_0f7a4 at H
  refine z_iload_n (pc := 0) 0 dJ6_bitCount_0f7a4_0 rfl rfl ?_
  refine z_iload_n (pc := 1) 0 dJ6_bitCount_0f7a4_1 rfl rfl ?_
  refine z_iconst (pc := 2) (x := 1) dJ6_bitCount_0f7a4_2 zc_iconst_1 ?_
  refine z_iushr (pc := 3) dJ6_bitCount_0f7a4_3 ?_
  refine z_ldcw (pc := 4) (x := 1431655765) dJ6_bitCount_0f7a4_4 ki_J6_265 ?_
  refine z_iand (pc := 7) dJ6_bitCount_0f7a4_7 ?_
  refine z_isub (pc := 8) dJ6_bitCount_0f7a4_8 ?_
  obtain ⟨x1, ex1, H⟩ := zletE H
  refine z_nmI ex1 ?_
  refine z_istore_n (pc := 9) (lv' := [(0, .int x1)]) dJ6_bitCount_0f7a4_9 rfl (by decide) rfl ?_
  refine z_iload_n (pc := 10) 0 dJ6_bitCount_0f7a4_10 rfl rfl ?_
  refine z_ldcw (pc := 11) (x := 858993459) dJ6_bitCount_0f7a4_11 ki_J6_266 ?_
  refine z_iand (pc := 14) dJ6_bitCount_0f7a4_14 ?_
  refine z_iload_n (pc := 15) 0 dJ6_bitCount_0f7a4_15 rfl rfl ?_
  refine z_iconst (pc := 16) (x := 2) dJ6_bitCount_0f7a4_16 zc_iconst_2 ?_
  refine z_iushr (pc := 17) dJ6_bitCount_0f7a4_17 ?_
  refine z_ldcw (pc := 18) (x := 858993459) dJ6_bitCount_0f7a4_18 ki_J6_266 ?_
  refine z_iand (pc := 21) dJ6_bitCount_0f7a4_21 ?_
  refine z_iadd (pc := 22) dJ6_bitCount_0f7a4_22 ?_
  obtain ⟨x2, ex2, H⟩ := zletE H
  refine z_nmI ex2 ?_
  refine z_istore_n (pc := 23) (lv' := [(0, .int x2)]) dJ6_bitCount_0f7a4_23 rfl (by decide) rfl ?_
  refine z_iload_n (pc := 24) 0 dJ6_bitCount_0f7a4_24 rfl rfl ?_
  refine z_iload_n (pc := 25) 0 dJ6_bitCount_0f7a4_25 rfl rfl ?_
  refine z_iconst (pc := 26) (x := 4) dJ6_bitCount_0f7a4_26 zc_iconst_4 ?_
  refine z_iushr (pc := 27) dJ6_bitCount_0f7a4_27 ?_
  refine z_iadd (pc := 28) dJ6_bitCount_0f7a4_28 ?_
  refine z_ldcw (pc := 29) (x := 252645135) dJ6_bitCount_0f7a4_29 ki_J6_267 ?_
  refine z_iand (pc := 32) dJ6_bitCount_0f7a4_32 ?_
  obtain ⟨x3, ex3, H⟩ := zletE H
  refine z_nmI ex3 ?_
  refine z_istore_n (pc := 33) (lv' := [(0, .int x3)]) dJ6_bitCount_0f7a4_33 rfl (by decide) rfl ?_
  refine z_iload_n (pc := 34) 0 dJ6_bitCount_0f7a4_34 rfl rfl ?_
  refine z_iload_n (pc := 35) 0 dJ6_bitCount_0f7a4_35 rfl rfl ?_
  refine z_bipush (pc := 36) (x := 8) dJ6_bitCount_0f7a4_36 zc_bipush_8 ?_
  refine z_iushr (pc := 38) dJ6_bitCount_0f7a4_38 ?_
  refine z_iadd (pc := 39) dJ6_bitCount_0f7a4_39 ?_
  obtain ⟨x4, ex4, H⟩ := zletE H
  refine z_nmI ex4 ?_
  refine z_istore_n (pc := 40) (lv' := [(0, .int x4)]) dJ6_bitCount_0f7a4_40 rfl (by decide) rfl ?_
  refine z_iload_n (pc := 41) 0 dJ6_bitCount_0f7a4_41 rfl rfl ?_
  refine z_iload_n (pc := 42) 0 dJ6_bitCount_0f7a4_42 rfl rfl ?_
  refine z_bipush (pc := 43) (x := 16) dJ6_bitCount_0f7a4_43 zc_bipush_16 ?_
  refine z_iushr (pc := 45) dJ6_bitCount_0f7a4_45 ?_
  refine z_iadd (pc := 46) dJ6_bitCount_0f7a4_46 ?_
  obtain ⟨x5, ex5, H⟩ := zletE H
  refine z_nmI ex5 ?_
  refine z_istore_n (pc := 47) (lv' := [(0, .int x5)]) dJ6_bitCount_0f7a4_47 rfl (by decide) rfl ?_
  refine z_iload_n (pc := 48) 0 dJ6_bitCount_0f7a4_48 rfl rfl ?_
  refine z_bipush (pc := 49) (x := 63) dJ6_bitCount_0f7a4_49 zc_bipush_63 ?_
  refine z_iand (pc := 51) dJ6_bitCount_0f7a4_51 ?_
  subst H
  exact z_ireturn rfl dJ6_bitCount_0f7a4_52

theorem zc_iconst_0 : Int32.ofInt (0) = (0 : Int32) := by decide
def f_J7_fill_53178_L5 (N : Nat) (v0 : Nat) (v1 : Int32) (v3 : Int32) : Nat → Int32 → zH → Option (zH)
  | 0, _, _ => none
  | n + 1, v2, h => if v3 ≤ v2 then (some h) else ((sI h v0 v2 v1).bind fun h3 => f_J7_fill_53178_L5 N v0 v1 v3 n (v2 + 1) h3)
set_option maxRecDepth 100000 in
set_option maxHeartbeats 4000000 in
theorem s_J7_fill_53178_L5 {d mc ms N : Nat} {vv : Option Value} {hh : zH} {v0 : Nat} {v1 : Int32} {v3 : Int32} (hd0 : 0 ≤ d) : ∀ (n : Nat) (v2 : Int32) (h : zH) (m : zH), f_J7_fill_53178_L5 N v0 v1 v3 n v2 h = some m → (zW yJ7_fill_53178 cJ7_fill_53178 4 none d mc ms 20 [] [] m vv hh) → zW yJ7_fill_53178 cJ7_fill_53178 4 none d mc ms 5 [(0, .ref v0), (1, .int v1), (2, .int v2), (3, .int v3)] [] h vv hh := by
  intro n
  induction n with
  | zero =>
    intro v2 h m H
    cases H
  | succ n ih =>
    intro v2 h m H KE
    unfold f_J7_fill_53178_L5 at H
    refine z_iload_n (pc := 5) 2 dJ7_fill_53178_5 rfl rfl ?_
    refine z_iload_n (pc := 6) 3 dJ7_fill_53178_6 rfl rfl ?_
    refine z_icmp_ge (pc := 7) 20 dJ7_fill_53178_7 (by decide) (fun c2 => ?_) (fun c2 => ?_)
    · rw [if_pos c2] at H
      cases H
      exact z_sub [] rfl (KE)
    · rw [if_neg c2] at H
      refine z_aload_n (pc := 10) 0 dJ7_fill_53178_10 rfl rfl ?_
      refine z_iload_n (pc := 11) 2 dJ7_fill_53178_11 rfl rfl ?_
      refine z_iload_n (pc := 12) 1 dJ7_fill_53178_12 rfl rfl ?_
      obtain ⟨h3, eh3, H⟩ := zbind H
      refine z_iastore (pc := 13) dJ7_fill_53178_13 eh3 ?_
      refine z_iinc (pc := 14) (x' := v2 + 1) (lv' := [(2, .int (v2 + 1)), (0, .ref v0), (1, .int v1), (3, .int v3)]) 2 dJ7_fill_53178_14 rfl (by rfl) (by decide) rfl ?_
      refine z_goto (pc := 17) 5 dJ7_fill_53178_17 (by decide) ?_
      exact z_sub [1, 2, 0, 3] rfl (ih (v2 + 1) h3 _ H KE)
def f_J7_fill_53178 (N : Nat) (v0 : Nat) (v1 : Int32) (h : zH) : Option (zH) := (aN h v0).bind fun x1 => (f_J7_fill_53178_L5 N v0 v1 x1 N 0 h).bind fun m4 => some m4
set_option maxRecDepth 100000 in
set_option maxHeartbeats 4000000 in
theorem k_J7_fill_53178 {N : Nat} {v0 : Nat} {v1 : Int32} {h : zH} {r : zH} (H : f_J7_fill_53178 N v0 v1 h = some r) : zOk 0 0 0 yJ7_fill_53178 cJ7_fill_53178 4 none [.ref v0, .int v1] h none r := by
  refine zOk.of (by decide) (Nat.le_of_ble_eq_true rfl) ?_
  unfold f_J7_fill_53178 at H
  refine z_iconst (pc := 0) (x := 0) dJ7_fill_53178_0 zc_iconst_0 ?_
  refine z_istore_n (pc := 1) (lv' := [(2, .int 0), (0, .ref v0), (1, .int v1)]) dJ7_fill_53178_1 rfl (by decide) rfl ?_
  refine z_aload_n (pc := 2) 1 dJ7_fill_53178_2 rfl rfl ?_
  obtain ⟨x1, ex1, H⟩ := zbind H
  refine z_alen (pc := 3) dJ7_fill_53178_3 ex1 ?_
  refine z_istore_n (pc := 4) (lv' := [(3, .int x1), (2, .int 0), (0, .ref v0), (1, .int v1)]) dJ7_fill_53178_4 rfl (by decide) rfl ?_
  obtain ⟨m4, em4, H⟩ := zbind H
  refine z_sub [2, 3, 1, 0] rfl (s_J7_fill_53178_L5 (by omega) N 0 h _ em4 ?_)
  cases H
  exact z_return rfl dJ7_fill_53178_20

theorem zc_bipush_80 : (Int8.ofInt (80)).toInt32 = (80 : Int32) := by decide
theorem zc_sipush_128 : (Int16.ofInt (128)).toInt32 = (128 : Int32) := by decide
theorem ml_X0_3 : Cond.methodLink RX0 3 objectInit ∈ zB := zmem 356 (by decide +kernel) rfl
theorem im_object : Cond.instanceMethod objectInit ∈ zB := zmem 144 (by decide +kernel) rfl
theorem cd_object : Cond.code objectInit ⟨#[0xb1]⟩ 1 none ∈ zB := zmem 145 (by decide +kernel) rfl
theorem ck_X0_11 : Cond.classLink RX0 11 RX6 ∈ zB := zmem 357 (by decide +kernel) rfl
theorem fd_X0_13 : zFd RX0 13 0 0 (.array (.object "WhoseStreet$Meeting")) true "WhoseStreet$Bench" := zFd.of cl_0 (by decide) (zmem 358 (by decide +kernel) rfl) rfl rfl rfl
theorem ac_int : Cond.arrayClass (zaty 0) ∈ zB := zmem 303 (by decide +kernel) rfl
theorem fd_X0_17 : zFd RX0 17 0 1 (.array .int) true "WhoseStreet$Bench" := zFd.of cl_0 (by decide) (zmem 359 (by decide +kernel) rfl) rfl rfl rfl
theorem ac_boolean : Cond.arrayClass (zaty 3) ∈ zB := zmem 382 (by decide +kernel) rfl
theorem fd_X0_21 : zFd RX0 21 0 2 (.array .boolean) true "WhoseStreet$Bench" := zFd.of cl_0 (by decide) (zmem 360 (by decide +kernel) rfl) rfl rfl rfl
theorem fd_X0_25 : zFd RX0 25 0 3 (.array .int) true "WhoseStreet$Bench" := zFd.of cl_0 (by decide) (zmem 361 (by decide +kernel) rfl) rfl rfl rfl
theorem fd_X0_28 : zFd RX0 28 0 4 (.array .int) true "WhoseStreet$Bench" := zFd.of cl_0 (by decide) (zmem 362 (by decide +kernel) rfl) rfl rfl rfl
def f_X0_init_L59 (N : Nat) (v0 : Nat) (v2 : Int32) : Nat → Int32 → Int32 → zH → Option (Int32 × zH)
  | 0, _, _, _ => none
  | n + 1, v1, v3, h => if 16 ≤ v3 then (some (v1, h)) else (if (v3 - v2) = 8 then (f_X0_init_L59 N v0 v2 n v1 (v3 + 1) h) else (if 128 ≤ v1 then (f_X0_init_L59 N v0 v2 n v1 (v3 + 1) h) else ((gR h v0 0 3).bind fun r15 => (sI h r15 v1 ((1 <<< (v2 &&& 31)) ||| (1 <<< (v3 &&& 31)))).bind fun h16 => f_X0_init_L59 N v0 v2 n (v1 + 1) (v3 + 1) h16)))
def f_X0_init_L51 (N : Nat) (v0 : Nat) : Nat → Int32 → Int32 → zH → Option (zH)
  | 0, _, _, _ => none
  | n + 1, v1, v2, h => if 16 ≤ v2 then (some h) else ((f_X0_init_L59 N v0 v2 N v1 v2 h).bind fun m17 => f_X0_init_L51 N v0 n m17.1 (v2 + 1) m17.2)
set_option maxRecDepth 100000 in
set_option maxHeartbeats 4000000 in
theorem s_X0_init_L59 {d mc ms N : Nat} {vv : Option Value} {hh : zH} {v0 : Nat} {v2 : Int32} (hd0 : 1 ≤ d) : ∀ (n : Nat) (v1 : Int32) (v3 : Int32) (h : zH) (m : Int32 × zH), f_X0_init_L59 N v0 v2 n v1 v3 h = some m → (zW yX0_init cX0_init 4 none d mc ms 102 [(0, .ref v0), (1, .int m.1), (2, .int v2)] [] m.2 vv hh) → zW yX0_init cX0_init 4 none d mc ms 59 [(0, .ref v0), (1, .int v1), (2, .int v2), (3, .int v3)] [] h vv hh := by
  intro n
  induction n with
  | zero =>
    intro v1 v3 h m H
    cases H
  | succ n ih =>
    intro v1 v3 h m H KE
    unfold f_X0_init_L59 at H
    refine z_iload_n (pc := 59) 3 dX0_init_59 rfl rfl ?_
    refine z_bipush (pc := 60) (x := 16) dX0_init_60 zc_bipush_16 ?_
    refine z_icmp_ge (pc := 62) 102 dX0_init_62 (by decide) (fun c12 => ?_) (fun c12 => ?_)
    · rw [if_pos c12] at H
      cases H
      exact z_sub [0, 1, 2] rfl (KE)
    · rw [if_neg c12] at H
      refine z_iload_n (pc := 65) 3 dX0_init_65 rfl rfl ?_
      refine z_iload_n (pc := 66) 2 dX0_init_66 rfl rfl ?_
      refine z_isub (pc := 67) dX0_init_67 ?_
      refine z_bipush (pc := 68) (x := 8) dX0_init_68 zc_bipush_8 ?_
      refine z_icmp_eq (pc := 70) 96 dX0_init_70 (by decide) (fun c13 => ?_) (fun c13 => ?_)
      · rw [if_pos c13] at H
        refine z_iinc (pc := 96) (x' := v3 + 1) (lv' := [(3, .int (v3 + 1)), (0, .ref v0), (1, .int v1), (2, .int v2)]) 3 dX0_init_96 rfl (by rfl) (by decide) rfl ?_
        refine z_goto (pc := 99) 59 dX0_init_99 (by decide) ?_
        exact z_sub [1, 2, 3, 0] rfl (ih v1 (v3 + 1) h _ H KE)
      · rw [if_neg c13] at H
        refine z_iload_n (pc := 73) 1 dX0_init_73 rfl rfl ?_
        refine z_sipush (pc := 74) (x := 128) dX0_init_74 zc_sipush_128 ?_
        refine z_icmp_ge (pc := 77) 96 dX0_init_77 (by decide) (fun c14 => ?_) (fun c14 => ?_)
        · rw [if_pos c14] at H
          refine z_iinc (pc := 96) (x' := v3 + 1) (lv' := [(3, .int (v3 + 1)), (0, .ref v0), (1, .int v1), (2, .int v2)]) 3 dX0_init_96 rfl (by rfl) (by decide) rfl ?_
          refine z_goto (pc := 99) 59 dX0_init_99 (by decide) ?_
          exact z_sub [1, 2, 3, 0] rfl (ih v1 (v3 + 1) h _ H KE)
        · rw [if_neg c14] at H
          refine z_aload_n (pc := 80) 0 dX0_init_80 rfl rfl ?_
          obtain ⟨r15, er15, H⟩ := zbind H
          refine z_getR (pc := 81) dX0_init_81 fd_X0_25 er15 ?_
          refine z_iload_n (pc := 84) 1 dX0_init_84 rfl rfl ?_
          refine z_iconst (pc := 85) (x := 1) dX0_init_85 zc_iconst_1 ?_
          refine z_iload_n (pc := 86) 2 dX0_init_86 rfl rfl ?_
          refine z_ishl (pc := 87) dX0_init_87 ?_
          refine z_iconst (pc := 88) (x := 1) dX0_init_88 zc_iconst_1 ?_
          refine z_iload_n (pc := 89) 3 dX0_init_89 rfl rfl ?_
          refine z_ishl (pc := 90) dX0_init_90 ?_
          refine z_ior (pc := 91) dX0_init_91 ?_
          obtain ⟨h16, eh16, H⟩ := zbind H
          refine z_iastore (pc := 92) dX0_init_92 eh16 ?_
          refine z_iinc (pc := 93) (x' := v1 + 1) (lv' := [(1, .int (v1 + 1)), (0, .ref v0), (2, .int v2), (3, .int v3)]) 1 dX0_init_93 rfl (by rfl) (by decide) rfl ?_
          refine z_iinc (pc := 96) (x' := v3 + 1) (lv' := [(3, .int (v3 + 1)), (1, .int (v1 + 1)), (0, .ref v0), (2, .int v2)]) 3 dX0_init_96 rfl (by rfl) (by decide) rfl ?_
          refine z_goto (pc := 99) 59 dX0_init_99 (by decide) ?_
          exact z_sub [2, 1, 3, 0] rfl (ih (v1 + 1) (v3 + 1) h16 _ H KE)
set_option maxRecDepth 100000 in
set_option maxHeartbeats 4000000 in
theorem s_X0_init_L51 {d mc ms N : Nat} {vv : Option Value} {hh : zH} {v0 : Nat} (hd0 : 1 ≤ d) : ∀ (n : Nat) (v1 : Int32) (v2 : Int32) (h : zH) (m : zH), f_X0_init_L51 N v0 n v1 v2 h = some m → (zW yX0_init cX0_init 4 none d mc ms 108 [] [] m vv hh) → zW yX0_init cX0_init 4 none d mc ms 51 [(0, .ref v0), (1, .int v1), (2, .int v2)] [] h vv hh := by
  intro n
  induction n with
  | zero =>
    intro v1 v2 h m H
    cases H
  | succ n ih =>
    intro v1 v2 h m H KE
    unfold f_X0_init_L51 at H
    refine z_iload_n (pc := 51) 2 dX0_init_51 rfl rfl ?_
    refine z_bipush (pc := 52) (x := 16) dX0_init_52 zc_bipush_16 ?_
    refine z_icmp_ge (pc := 54) 108 dX0_init_54 (by decide) (fun c11 => ?_) (fun c11 => ?_)
    · rw [if_pos c11] at H
      cases H
      exact z_sub [] rfl (KE)
    · rw [if_neg c11] at H
      refine z_iload_n (pc := 57) 2 dX0_init_57 rfl rfl ?_
      refine z_istore_n (pc := 58) (lv' := [(3, .int v2), (0, .ref v0), (1, .int v1), (2, .int v2)]) dX0_init_58 rfl (by decide) rfl ?_
      obtain ⟨m17, em17, H⟩ := zbind H
      refine z_sub [1, 2, 3, 0] rfl (s_X0_init_L59 (by omega) N v1 v2 h _ em17 ?_)
      refine z_iinc (pc := 102) (x' := v2 + 1) (lv' := [(2, .int (v2 + 1)), (0, .ref v0), (1, .int m17.1)]) 2 dX0_init_102 rfl (by rfl) (by decide) rfl ?_
      refine z_goto (pc := 105) 51 dX0_init_105 (by decide) ?_
      exact z_sub [1, 2, 0] rfl (ih m17.1 (v2 + 1) m17.2 _ H KE)
def f_X0_init (N : Nat) (v0 : Nat) (h : zH) : Option (zH) := zlet (znew h (zblank 4 80) : zH) fun h1 => (pF h1 v0 0 0 (.ref h.1.1)).bind fun h2 => zlet (znew h2 (zblank 0 80) : zH) fun h3 => (pF h3 v0 0 1 (.ref h2.1.1)).bind fun h4 => zlet (znew h4 (zblank 3 80) : zH) fun h5 => (pF h5 v0 0 2 (.ref h4.1.1)).bind fun h6 => zlet (znew h6 (zblank 0 128) : zH) fun h7 => (pF h7 v0 0 3 (.ref h6.1.1)).bind fun h8 => zlet (znew h8 (zblank 0 128) : zH) fun h9 => (pF h9 v0 0 4 (.ref h8.1.1)).bind fun h10 => (f_X0_init_L51 N v0 N 0 0 h10).bind fun m18 => some m18
set_option maxRecDepth 100000 in
set_option maxHeartbeats 4000000 in
theorem k_X0_init {N : Nat} {v0 : Nat} {h : zH} {r : zH} (H : f_X0_init N v0 h = some r) : zOk 1 5 496 yX0_init cX0_init 4 none [.ref v0] h none r := by
  refine zOk.of (by decide) (Nat.le_of_ble_eq_true rfl) ?_
  unfold f_X0_init at H
  refine z_aload_n (pc := 0) 0 dX0_init_0 rfl rfl ?_
  refine z_objInit (pc := 1) dX0_init_1 ml_X0_3 im_object cd_object (by omega) (Nat.le_of_ble_eq_true rfl) ?_
  refine z_aload_n (pc := 4) 0 dX0_init_4 rfl rfl ?_
  refine z_bipush (pc := 5) (x := 80) dX0_init_5 zc_bipush_80 ?_
  refine z_anewarray (pc := 7) (mc := 4) (ms := 416) (N := 80) 4 (Or.inl ⟨rfl, rfl⟩) dX0_init_7 ck_X0_11 (by decide) (by decide) (by decide) ?_
  obtain ⟨h1, eh1, H⟩ := zletE H
  refine z_nmH eh1 ?_
  obtain ⟨h2, eh2, H⟩ := zbind H
  refine z_putF (pc := 10) dX0_init_10 fd_X0_13 rfl rfl rfl eh2 ?_
  refine z_aload_n (pc := 13) 0 dX0_init_13 rfl rfl ?_
  refine z_bipush (pc := 14) (x := 80) dX0_init_14 zc_bipush_80 ?_
  refine z_newarray (pc := 16) (mc := 3) (ms := 336) (N := 80) 0 (by decide) dX0_init_16 rfl ac_int (by decide) (by decide) (by decide) ?_
  obtain ⟨h3, eh3, H⟩ := zletE H
  refine z_nmH eh3 ?_
  obtain ⟨h4, eh4, H⟩ := zbind H
  refine z_putF (pc := 18) dX0_init_18 fd_X0_17 rfl rfl rfl eh4 ?_
  refine z_aload_n (pc := 21) 0 dX0_init_21 rfl rfl ?_
  refine z_bipush (pc := 22) (x := 80) dX0_init_22 zc_bipush_80 ?_
  refine z_newarray (pc := 24) (mc := 2) (ms := 256) (N := 80) 3 (by decide) dX0_init_24 rfl ac_boolean (by decide) (by decide) (by decide) ?_
  obtain ⟨h5, eh5, H⟩ := zletE H
  refine z_nmH eh5 ?_
  obtain ⟨h6, eh6, H⟩ := zbind H
  refine z_putF (pc := 26) dX0_init_26 fd_X0_21 rfl rfl rfl eh6 ?_
  refine z_aload_n (pc := 29) 0 dX0_init_29 rfl rfl ?_
  refine z_sipush (pc := 30) (x := 128) dX0_init_30 zc_sipush_128 ?_
  refine z_newarray (pc := 33) (mc := 1) (ms := 128) (N := 128) 0 (by decide) dX0_init_33 rfl ac_int (by decide) (by decide) (by decide) ?_
  obtain ⟨h7, eh7, H⟩ := zletE H
  refine z_nmH eh7 ?_
  obtain ⟨h8, eh8, H⟩ := zbind H
  refine z_putF (pc := 35) dX0_init_35 fd_X0_25 rfl rfl rfl eh8 ?_
  refine z_aload_n (pc := 38) 0 dX0_init_38 rfl rfl ?_
  refine z_sipush (pc := 39) (x := 128) dX0_init_39 zc_sipush_128 ?_
  refine z_newarray (pc := 42) (mc := 0) (ms := 0) (N := 128) 0 (by decide) dX0_init_42 rfl ac_int (by decide) (by decide) (by decide) ?_
  obtain ⟨h9, eh9, H⟩ := zletE H
  refine z_nmH eh9 ?_
  obtain ⟨h10, eh10, H⟩ := zbind H
  refine z_putF (pc := 44) dX0_init_44 fd_X0_28 rfl rfl rfl eh10 ?_
  refine z_iconst (pc := 47) (x := 0) dX0_init_47 zc_iconst_0 ?_
  refine z_istore_n (pc := 48) (lv' := [(1, .int 0), (0, .ref v0)]) dX0_init_48 rfl (by decide) rfl ?_
  refine z_iconst (pc := 49) (x := 0) dX0_init_49 zc_iconst_0 ?_
  refine z_istore_n (pc := 50) (lv' := [(2, .int 0), (1, .int 0), (0, .ref v0)]) dX0_init_50 rfl (by decide) rfl ?_
  obtain ⟨m18, em18, H⟩ := zbind H
  refine z_sub [2, 1, 0] rfl (s_X0_init_L51 (by omega) N 0 0 h10 _ em18 ?_)
  cases H
  exact z_return rfl dX0_init_108

theorem fd_X0_31 : zFd RX0 31 0 5 (.int) false "WhoseStreet$Bench" := zFd.of cl_0 (by decide) (zmem 363 (by decide +kernel) rfl) rfl rfl rfl
def f_X0_add (N : Nat) (v0 : Nat) (v1 : Nat) (v2 : Int32) (v3 : Int32) (h : zH) : Option (Int32 × zH) := (gI h v0 0 5).bind fun x1 => if x1 < 80 then ((gR h v0 0 0).bind fun r3 => (gI h v0 0 5).bind fun x4 => (sQ h r3 x4 v1).bind fun h5 => (gR h5 v0 0 1).bind fun r6 => (gI h5 v0 0 5).bind fun x7 => (sI h5 r6 x7 v2).bind fun h8 => (gR h8 v0 0 2).bind fun r9 => (gI h8 v0 0 5).bind fun x10 => (sZ h8 r9 x10 v3).bind fun h11 => (gI h11 v0 0 5).bind fun x12 => (pF h11 v0 0 5 (.int (x12 + 1))).bind fun h13 => some (1, h13)) else (some (0, h))
set_option maxRecDepth 100000 in
set_option maxHeartbeats 4000000 in
theorem k_X0_add {N : Nat} {v0 : Nat} {v1 : Nat} {v2 : Int32} {v3 : Int32} {h : zH} {r : Int32 × zH} (H : f_X0_add N v0 v1 v2 v3 h = some r) : zOk 0 0 0 yX0_add cX0_add 4 (some .boolean) [.ref v0, .ref v1, .int v2, .int v3] h (some (.int r.1)) r.2 := by
  refine zOk.of (by decide) (Nat.le_of_ble_eq_true rfl) ?_
  unfold f_X0_add at H
  refine z_aload_n (pc := 0) 0 dX0_add_0 rfl rfl ?_
  obtain ⟨x1, ex1, H⟩ := zbind H
  refine z_getI (pc := 1) dX0_add_1 fd_X0_31 ex1 ?_
  refine z_bipush (pc := 4) (x := 80) dX0_add_4 zc_bipush_80 ?_
  refine z_icmp_lt (pc := 6) 11 dX0_add_6 (by decide) (fun c2 => ?_) (fun c2 => ?_)
  · rw [if_pos c2] at H
    refine z_aload_n (pc := 11) 0 dX0_add_11 rfl rfl ?_
    obtain ⟨r3, er3, H⟩ := zbind H
    refine z_getR (pc := 12) dX0_add_12 fd_X0_13 er3 ?_
    refine z_aload_n (pc := 15) 0 dX0_add_15 rfl rfl ?_
    obtain ⟨x4, ex4, H⟩ := zbind H
    refine z_getI (pc := 16) dX0_add_16 fd_X0_31 ex4 ?_
    refine z_aload_n (pc := 19) 1 dX0_add_19 rfl rfl ?_
    obtain ⟨h5, eh5, H⟩ := zbind H
    refine z_aastore (pc := 20) dX0_add_20 eh5 ?_
    refine z_aload_n (pc := 21) 0 dX0_add_21 rfl rfl ?_
    obtain ⟨r6, er6, H⟩ := zbind H
    refine z_getR (pc := 22) dX0_add_22 fd_X0_17 er6 ?_
    refine z_aload_n (pc := 25) 0 dX0_add_25 rfl rfl ?_
    obtain ⟨x7, ex7, H⟩ := zbind H
    refine z_getI (pc := 26) dX0_add_26 fd_X0_31 ex7 ?_
    refine z_iload_n (pc := 29) 2 dX0_add_29 rfl rfl ?_
    obtain ⟨h8, eh8, H⟩ := zbind H
    refine z_iastore (pc := 30) dX0_add_30 eh8 ?_
    refine z_aload_n (pc := 31) 0 dX0_add_31 rfl rfl ?_
    obtain ⟨r9, er9, H⟩ := zbind H
    refine z_getR (pc := 32) dX0_add_32 fd_X0_21 er9 ?_
    refine z_aload_n (pc := 35) 0 dX0_add_35 rfl rfl ?_
    obtain ⟨x10, ex10, H⟩ := zbind H
    refine z_getI (pc := 36) dX0_add_36 fd_X0_31 ex10 ?_
    refine z_iload_n (pc := 39) 3 dX0_add_39 rfl rfl ?_
    obtain ⟨h11, eh11, H⟩ := zbind H
    refine z_zastore (pc := 40) dX0_add_40 eh11 ?_
    refine z_aload_n (pc := 41) 0 dX0_add_41 rfl rfl ?_
    refine z_dup (pc := 42) dX0_add_42 rfl ?_
    obtain ⟨x12, ex12, H⟩ := zbind H
    refine z_getI (pc := 43) dX0_add_43 fd_X0_31 ex12 ?_
    refine z_iconst (pc := 46) (x := 1) dX0_add_46 zc_iconst_1 ?_
    refine z_iadd (pc := 47) dX0_add_47 ?_
    obtain ⟨h13, eh13, H⟩ := zbind H
    refine z_put (pc := 48) dX0_add_48 fd_X0_31 rfl rfl eh13 ?_
    refine z_iconst (pc := 51) (x := 1) dX0_add_51 zc_iconst_1 ?_
    cases H
    exact z_zreturn rfl dX0_add_52 (by decide)
  · rw [if_neg c2] at H
    refine z_iconst (pc := 9) (x := 0) dX0_add_9 zc_iconst_0 ?_
    cases H
    exact z_zreturn rfl dX0_add_10 (by decide)

def f_X0_toldBy_L4 (N : Nat) (v0 : Nat) (v1 : Int32) (h : zH) : Nat → Int32 → Int32 → Option (Int32)
  | 0, _, _ => none
  | n + 1, v2, v3 => (gI h v0 0 5).bind fun x1 => if x1 ≤ v3 then (some v2) else (if 80 ≤ v3 then (some v2) else ((gR h v0 0 1).bind fun r4 => (aI h r4 v3).bind fun x5 => if v1 < x5 then (f_X0_toldBy_L4 N v0 v1 h n v2 (v3 + 1)) else (f_X0_toldBy_L4 N v0 v1 h n (v2 + 1) (v3 + 1))))
set_option maxRecDepth 100000 in
set_option maxHeartbeats 4000000 in
theorem s_X0_toldBy_L4 {d mc ms N : Nat} {vv : Option Value} {hh : zH} {v0 : Nat} {v1 : Int32} {h : zH} (hd0 : 0 ≤ d) : ∀ (n : Nat) (v2 : Int32) (v3 : Int32) (m : Int32), f_X0_toldBy_L4 N v0 v1 h n v2 v3 = some m → (zW yX0_toldBy cX0_toldBy 4 (some .int) d mc ms 37 [(2, .int m)] [] h vv hh) → zW yX0_toldBy cX0_toldBy 4 (some .int) d mc ms 4 [(0, .ref v0), (1, .int v1), (2, .int v2), (3, .int v3)] [] h vv hh := by
  intro n
  induction n with
  | zero =>
    intro v2 v3 m H
    cases H
  | succ n ih =>
    intro v2 v3 m H KE
    unfold f_X0_toldBy_L4 at H
    refine z_iload_n (pc := 4) 3 dX0_toldBy_4 rfl rfl ?_
    refine z_aload_n (pc := 5) 0 dX0_toldBy_5 rfl rfl ?_
    obtain ⟨x1, ex1, H⟩ := zbind H
    refine z_getI (pc := 6) dX0_toldBy_6 fd_X0_31 ex1 ?_
    refine z_icmp_ge (pc := 9) 37 dX0_toldBy_9 (by decide) (fun c2 => ?_) (fun c2 => ?_)
    · rw [if_pos c2] at H
      cases H
      exact z_sub [2] rfl (KE)
    · rw [if_neg c2] at H
      refine z_iload_n (pc := 12) 3 dX0_toldBy_12 rfl rfl ?_
      refine z_bipush (pc := 13) (x := 80) dX0_toldBy_13 zc_bipush_80 ?_
      refine z_icmp_ge (pc := 15) 37 dX0_toldBy_15 (by decide) (fun c3 => ?_) (fun c3 => ?_)
      · rw [if_pos c3] at H
        cases H
        exact z_sub [2] rfl (KE)
      · rw [if_neg c3] at H
        refine z_aload_n (pc := 18) 0 dX0_toldBy_18 rfl rfl ?_
        obtain ⟨r4, er4, H⟩ := zbind H
        refine z_getR (pc := 19) dX0_toldBy_19 fd_X0_17 er4 ?_
        refine z_iload_n (pc := 22) 3 dX0_toldBy_22 rfl rfl ?_
        obtain ⟨x5, ex5, H⟩ := zbind H
        refine z_iaload (pc := 23) dX0_toldBy_23 ex5 ?_
        refine z_iload_n (pc := 24) 1 dX0_toldBy_24 rfl rfl ?_
        refine z_icmp_gt (pc := 25) 31 dX0_toldBy_25 (by decide) (fun c6 => ?_) (fun c6 => ?_)
        · rw [if_pos c6] at H
          refine z_iinc (pc := 31) (x' := v3 + 1) (lv' := [(3, .int (v3 + 1)), (0, .ref v0), (1, .int v1), (2, .int v2)]) 3 dX0_toldBy_31 rfl (by rfl) (by decide) rfl ?_
          refine z_goto (pc := 34) 4 dX0_toldBy_34 (by decide) ?_
          exact z_sub [1, 2, 3, 0] rfl (ih v2 (v3 + 1) _ H KE)
        · rw [if_neg c6] at H
          refine z_iinc (pc := 28) (x' := v2 + 1) (lv' := [(2, .int (v2 + 1)), (0, .ref v0), (1, .int v1), (3, .int v3)]) 2 dX0_toldBy_28 rfl (by rfl) (by decide) rfl ?_
          refine z_iinc (pc := 31) (x' := v3 + 1) (lv' := [(3, .int (v3 + 1)), (2, .int (v2 + 1)), (0, .ref v0), (1, .int v1)]) 3 dX0_toldBy_31 rfl (by rfl) (by decide) rfl ?_
          refine z_goto (pc := 34) 4 dX0_toldBy_34 (by decide) ?_
          exact z_sub [2, 3, 1, 0] rfl (ih (v2 + 1) (v3 + 1) _ H KE)
def f_X0_toldBy (N : Nat) (v0 : Nat) (v1 : Int32) (h : zH) : Option (Int32) := (f_X0_toldBy_L4 N v0 v1 h N 0 0).bind fun m7 => some m7
set_option maxRecDepth 100000 in
set_option maxHeartbeats 4000000 in
theorem k_X0_toldBy {N : Nat} {v0 : Nat} {v1 : Int32} {h : zH} {r : Int32} (H : f_X0_toldBy N v0 v1 h = some r) : zOk 0 0 0 yX0_toldBy cX0_toldBy 4 (some .int) [.ref v0, .int v1] h (some (.int r)) h := by
  refine zOk.of (by decide) (Nat.le_of_ble_eq_true rfl) ?_
  unfold f_X0_toldBy at H
  refine z_iconst (pc := 0) (x := 0) dX0_toldBy_0 zc_iconst_0 ?_
  refine z_istore_n (pc := 1) (lv' := [(2, .int 0), (0, .ref v0), (1, .int v1)]) dX0_toldBy_1 rfl (by decide) rfl ?_
  refine z_iconst (pc := 2) (x := 0) dX0_toldBy_2 zc_iconst_0 ?_
  refine z_istore_n (pc := 3) (lv' := [(3, .int 0), (2, .int 0), (0, .ref v0), (1, .int v1)]) dX0_toldBy_3 rfl (by decide) rfl ?_
  obtain ⟨m7, em7, H⟩ := zbind H
  refine z_sub [2, 3, 1, 0] rfl (s_X0_toldBy_L4 (by omega) N 0 0 _ em7 ?_)
  refine z_iload_n (pc := 37) 0 dX0_toldBy_37 rfl rfl ?_
  cases H
  exact z_ireturn rfl dX0_toldBy_38

def p_X11_within (v0 : Int32) (v1 : Int32) (v2 : Int32) : Int32 := if v0 < v1 then (0) else (if v2 < v0 then (0) else (1))
set_option maxRecDepth 100000 in
set_option maxHeartbeats 4000000 in
theorem k_X11_within (v0 : Int32) (v1 : Int32) (v2 : Int32) (h : zH) (r : Int32) (H : p_X11_within v0 v1 v2 = r) : zOk 0 0 0 yX11_within cX11_within 3 (some .boolean) [.int v0, .int v1, .int v2] h (some (.int r)) h := by
  refine zOk.of (by decide) (Nat.le_of_ble_eq_true rfl) ?_
  unfold p_X11_within at H
  refine z_iload_n (pc := 0) 0 dX11_within_0 rfl rfl ?_
  refine z_iload_n (pc := 1) 1 dX11_within_1 rfl rfl ?_
  refine z_icmp_lt (pc := 2) 14 dX11_within_2 (by decide) (fun c1 => ?_) (fun c1 => ?_)
  · rw [if_pos c1] at H
    refine z_iconst (pc := 14) (x := 0) dX11_within_14 zc_iconst_0 ?_
    subst H
    exact z_zreturn rfl dX11_within_15 (by decide)
  · rw [if_neg c1] at H
    refine z_iload_n (pc := 5) 0 dX11_within_5 rfl rfl ?_
    refine z_iload_n (pc := 6) 2 dX11_within_6 rfl rfl ?_
    refine z_icmp_gt (pc := 7) 14 dX11_within_7 (by decide) (fun c2 => ?_) (fun c2 => ?_)
    · rw [if_pos c2] at H
      refine z_iconst (pc := 14) (x := 0) dX11_within_14 zc_iconst_0 ?_
      subst H
      exact z_zreturn rfl dX11_within_15 (by decide)
    · rw [if_neg c2] at H
      refine z_iconst (pc := 10) (x := 1) dX11_within_10 zc_iconst_1 ?_
      refine z_goto (pc := 11) 15 dX11_within_11 (by decide) ?_
      subst H
      exact z_zreturn rfl dX11_within_15 (by decide)

def p_X6_bit (v0 : Int32) (v1 : Int32) : Int32 := if v1 = 0 then (0) else (1 <<< (v0 &&& 31))
set_option maxRecDepth 100000 in
set_option maxHeartbeats 4000000 in
theorem k_X6_bit (v0 : Int32) (v1 : Int32) (h : zH) (r : Int32) (H : p_X6_bit v0 v1 = r) : zOk 0 0 0 yX6_bit cX6_bit 2 (some .int) [.int v0, .int v1] h (some (.int r)) h := by
  refine zOk.of (by decide) (Nat.le_of_ble_eq_true rfl) ?_
  unfold p_X6_bit at H
  refine z_iload_n (pc := 0) 1 dX6_bit_0 rfl rfl ?_
  refine z_if_eq (pc := 1) 10 dX6_bit_1 (by decide) (fun c1 => ?_) (fun c1 => ?_)
  · rw [if_pos c1] at H
    refine z_iconst (pc := 10) (x := 0) dX6_bit_10 zc_iconst_0 ?_
    subst H
    exact z_ireturn rfl dX6_bit_11
  · rw [if_neg c1] at H
    refine z_iconst (pc := 4) (x := 1) dX6_bit_4 zc_iconst_1 ?_
    refine z_iload_n (pc := 5) 0 dX6_bit_5 rfl rfl ?_
    refine z_ishl (pc := 6) dX6_bit_6 ?_
    refine z_goto (pc := 7) 11 dX6_bit_7 (by decide) ?_
    subst H
    exact z_ireturn rfl dX6_bit_11

theorem zc_iconst_m1 : Int32.ofInt (-1) = (-1 : Int32) := by decide
theorem zc_bipush_60 : (Int8.ofInt (60)).toInt32 = (60 : Int32) := by decide
theorem fd_X6_37 : zFd RX6 37 6 11 (.int) false "WhoseStreet$Meeting" := zFd.of cl_6 (by decide) (zmem 587 (by decide +kernel) rfl) rfl rfl rfl
def f_X6_end (N : Nat) (v0 : Nat) (h : zH) : Option (Int32) := (gI h v0 6 11).bind fun x1 => if x1 = (-1) then (some 60) else ((gI h v0 6 11).bind fun x3 => some x3)
set_option maxRecDepth 100000 in
set_option maxHeartbeats 4000000 in
theorem k_X6_end {N : Nat} {v0 : Nat} {h : zH} {r : Int32} (H : f_X6_end N v0 h = some r) : zOk 0 0 0 yX6_end cX6_end 1 (some .int) [.ref v0] h (some (.int r)) h := by
  refine zOk.of (by decide) (Nat.le_of_ble_eq_true rfl) ?_
  unfold f_X6_end at H
  refine z_aload_n (pc := 0) 0 dX6_end_0 rfl rfl ?_
  obtain ⟨x1, ex1, H⟩ := zbind H
  refine z_getI (pc := 1) dX6_end_1 fd_X6_37 ex1 ?_
  refine z_iconst (pc := 4) (x := (-1)) dX6_end_4 zc_iconst_m1 ?_
  refine z_icmp_ne (pc := 5) 13 dX6_end_5 (by decide) (fun c2 => ?_) (fun c2 => ?_)
  · rw [if_neg c2] at H
    refine z_aload_n (pc := 13) 0 dX6_end_13 rfl rfl ?_
    obtain ⟨x3, ex3, H⟩ := zbind H
    refine z_getI (pc := 14) dX6_end_14 fd_X6_37 ex3 ?_
    cases H
    exact z_ireturn rfl dX6_end_17
  · rw [if_pos c2] at H
    refine z_bipush (pc := 8) (x := 60) dX6_end_8 zc_bipush_60 ?_
    refine z_goto (pc := 10) 17 dX6_end_10 (by decide) ?_
    cases H
    exact z_ireturn rfl dX6_end_17

theorem fd_X6_42 : zFd RX6 42 6 12 (.int) false "WhoseStreet$Meeting" := zFd.of cl_6 (by decide) (zmem 591 (by decide +kernel) rfl) rfl rfl rfl
theorem md_X6_end : zMd yX6_end cX6_end 1 0 (some .int) := ⟨zmem 691 (by decide +kernel) rfl, zmem 128 (by decide +kernel) rfl, by decide, by decide, by decide +kernel, by decide⟩
theorem ml_X6_45 : Cond.methodLink RX6 45 yX6_end ∈ zB := zmem 688 (by decide +kernel) rfl
theorem im_X6_end : Cond.instanceMethod yX6_end ∈ zB := zmem 689 (by decide +kernel) rfl
theorem se_X6_end : Cond.selects yX6_end.cls yX6_end yX6_end ∈ zB := zmem 690 (by decide +kernel) rfl
def f_X6_seen (N : Nat) (v0 : Nat) (h : zH) : Option (Int32) := (gI h v0 6 12).bind fun x1 => if x1 = (-1) then (some 0) else (zif (zob h v0 6) <| (f_X6_end N v0 h).bind fun q4 => (gI h v0 6 12).bind fun x5 => some (q4 - x5))
set_option maxRecDepth 100000 in
set_option maxHeartbeats 4000000 in
theorem k_X6_seen {N : Nat} {v0 : Nat} {h : zH} {r : Int32} (H : f_X6_seen N v0 h = some r) : zOk 1 0 0 yX6_seen cX6_seen 1 (some .int) [.ref v0] h (some (.int r)) h := by
  refine zOk.of (by decide) (Nat.le_of_ble_eq_true rfl) ?_
  unfold f_X6_seen at H
  refine z_aload_n (pc := 0) 0 dX6_seen_0 rfl rfl ?_
  obtain ⟨x1, ex1, H⟩ := zbind H
  refine z_getI (pc := 1) dX6_seen_1 fd_X6_42 ex1 ?_
  refine z_iconst (pc := 4) (x := (-1)) dX6_seen_4 zc_iconst_m1 ?_
  refine z_icmp_ne (pc := 5) 12 dX6_seen_5 (by decide) (fun c2 => ?_) (fun c2 => ?_)
  · rw [if_neg c2] at H
    refine z_aload_n (pc := 12) 0 dX6_seen_12 rfl rfl ?_
    obtain ⟨z3, H⟩ := zifE H
    obtain ⟨q4, eq4, H⟩ := zbind H
    refine z_callV (pc := 13) (mc := 0) (ms := 0) (d' := 0) (mc' := 0) (ms' := 0) (rest := []) [] dX6_seen_13 md_X6_end ml_X6_45 im_X6_end se_X6_end rfl z3 rfl rfl (Nat.le_of_ble_eq_true rfl) (by omega) (k_X6_end eq4) ?_
    refine z_aload_n (pc := 16) 0 dX6_seen_16 rfl rfl ?_
    obtain ⟨x5, ex5, H⟩ := zbind H
    refine z_getI (pc := 17) dX6_seen_17 fd_X6_42 ex5 ?_
    refine z_isub (pc := 20) dX6_seen_20 ?_
    cases H
    exact z_ireturn rfl dX6_seen_21
  · rw [if_pos c2] at H
    refine z_iconst (pc := 8) (x := 0) dX6_seen_8 zc_iconst_0 ?_
    refine z_goto (pc := 9) 21 dX6_seen_9 (by decide) ?_
    cases H
    exact z_ireturn rfl dX6_seen_21

theorem zc_bipush_100 : (Int8.ofInt (100)).toInt32 = (100 : Int32) := by decide
theorem zc_iconst_3 : Int32.ofInt (3) = (3 : Int32) := by decide
theorem zc_iconst_5 : Int32.ofInt (5) = (5 : Int32) := by decide
theorem zc_bipush_6 : (Int8.ofInt (6)).toInt32 = (6 : Int32) := by decide
theorem zc_bipush_7 : (Int8.ofInt (7)).toInt32 = (7 : Int32) := by decide
theorem zc_bipush_10 : (Int8.ofInt (10)).toInt32 = (10 : Int32) := by decide
theorem fd_X6_18 : zFd RX6 18 6 1 (.int) true "WhoseStreet$Meeting" := zFd.of cl_6 (by decide) (zmem 565 (by decide +kernel) rfl) rfl rfl rfl
theorem md_X6_bit : zMd yX6_bit cX6_bit 2 2 (some .int) := ⟨zmem 698 (by decide +kernel) rfl, zmem 128 (by decide +kernel) rfl, by decide, by decide, by decide +kernel, by decide⟩
theorem ml_X6_49 : Cond.methodLink RX6 49 yX6_bit ∈ zB := zmem 696 (by decide +kernel) rfl
theorem sm_X6_bit : Cond.static yX6_bit ∈ zB := zmem 697 (by decide +kernel) rfl
theorem fd_X6_34 : zFd RX6 34 6 6 (.int) true "WhoseStreet$Meeting" := zFd.of cl_6 (by decide) (zmem 576 (by decide +kernel) rfl) rfl rfl rfl
theorem md_X6_seen : zMd yX6_seen cX6_seen 1 0 (some .int) := ⟨zmem 687 (by decide +kernel) rfl, zmem 128 (by decide +kernel) rfl, by decide, by decide, by decide +kernel, by decide⟩
theorem ml_X6_53 : Cond.methodLink RX6 53 yX6_seen ∈ zB := zmem 699 (by decide +kernel) rfl
theorem im_X6_seen : Cond.instanceMethod yX6_seen ∈ zB := zmem 685 (by decide +kernel) rfl
theorem se_X6_seen : Cond.selects yX6_seen.cls yX6_seen yX6_seen ∈ zB := zmem 686 (by decide +kernel) rfl
theorem fd_X6_30 : zFd RX6 30 6 5 (.boolean) true "WhoseStreet$Meeting" := zFd.of cl_6 (by decide) (zmem 574 (by decide +kernel) rfl) rfl rfl rfl
theorem fd_X6_56 : zFd RX6 56 6 7 (.int) false "WhoseStreet$Meeting" := zFd.of cl_6 (by decide) (zmem 577 (by decide +kernel) rfl) rfl rfl rfl
theorem fd_X6_59 : zFd RX6 59 6 9 (.int) false "WhoseStreet$Meeting" := zFd.of cl_6 (by decide) (zmem 582 (by decide +kernel) rfl) rfl rfl rfl
theorem fd_X6_9 : zFd RX6 9 6 10 (.int) false "WhoseStreet$Meeting" := zFd.of cl_6 (by decide) (zmem 585 (by decide +kernel) rfl) rfl rfl rfl
def f_X6_signs (N : Nat) (v0 : Nat) (h : zH) : Option (Int32) := (gI h v0 6 1).bind fun x1 => (if x1 ≤ 100 then (some 0) else (some 1) : Option (Int32)).bind fun m2 => (gI h v0 6 6).bind fun x4 => (if x4 = 1 then (some 1) else (some 0) : Option (Int32)).bind fun m5 => (gI h v0 6 6).bind fun x7 => (if x7 = 2 then (some 1) else (some 0) : Option (Int32)).bind fun m8 => zif (zob h v0 6) <| (f_X6_seen N v0 h).bind fun q11 => (if q11 < 2 then (some 0) else (some 1) : Option (Int32)).bind fun m12 => (gI h v0 6 5).bind fun x14 => (gI h v0 6 7).bind fun x15 => (if x15 = 0 then (some 0) else (some 1) : Option (Int32)).bind fun m16 => (gI h v0 6 9).bind fun x18 => (if x18 = 0 then (some 0) else (some 1) : Option (Int32)).bind fun m19 => (gI h v0 6 10).bind fun x21 => (if 10 ≤ x21 then (some 0) else (some 1) : Option (Int32)).bind fun m22 => some ((((((((p_X6_bit 0 m2) ||| (p_X6_bit 1 m5)) ||| (p_X6_bit 2 m8)) ||| (p_X6_bit 3 m12)) ||| (p_X6_bit 4 x14)) ||| (p_X6_bit 5 m16)) ||| (p_X6_bit 6 m19)) ||| (p_X6_bit 7 m22))
set_option maxRecDepth 100000 in
set_option maxHeartbeats 4000000 in
theorem k_X6_signs {N : Nat} {v0 : Nat} {h : zH} {r : Int32} (H : f_X6_signs N v0 h = some r) : zOk 2 0 0 yX6_signs cX6_signs 1 (some .int) [.ref v0] h (some (.int r)) h := by
  refine zOk.of (by decide) (Nat.le_of_ble_eq_true rfl) ?_
  unfold f_X6_signs at H
  refine z_iconst (pc := 0) (x := 0) dX6_signs_0 zc_iconst_0 ?_
  refine z_aload_n (pc := 1) 0 dX6_signs_1 rfl rfl ?_
  obtain ⟨x1, ex1, H⟩ := zbind H
  refine z_getI (pc := 2) dX6_signs_2 fd_X6_18 ex1 ?_
  refine z_bipush (pc := 5) (x := 100) dX6_signs_5 zc_bipush_100 ?_
  obtain ⟨m2, em2, H⟩ := zbind H
  have Jm2 : zW yX6_signs cX6_signs 1 (some .int) 2 0 0 15 [(0, .ref v0)] [.int m2, .int 0] h (some (.int r)) h := by
    refine z_callS (pc := 15) (mc := 0) (ms := 0) (d' := 0) (mc' := 0) (ms' := 0) (rest := []) [.int 0, .int m2] dX6_signs_15 md_X6_bit ml_X6_49 sm_X6_bit rfl rfl (Nat.le_of_ble_eq_true rfl) (by omega) (k_X6_bit 0 m2 h _ rfl) ?_
    refine z_iconst (pc := 18) (x := 1) dX6_signs_18 zc_iconst_1 ?_
    refine z_aload_n (pc := 19) 0 dX6_signs_19 rfl rfl ?_
    obtain ⟨x4, ex4, H⟩ := zbind H
    refine z_getI (pc := 20) dX6_signs_20 fd_X6_34 ex4 ?_
    refine z_iconst (pc := 23) (x := 1) dX6_signs_23 zc_iconst_1 ?_
    obtain ⟨m5, em5, H⟩ := zbind H
    have Jm5 : zW yX6_signs cX6_signs 1 (some .int) 2 0 0 32 [(0, .ref v0)] [.int m5, .int 1, .int (p_X6_bit 0 m2)] h (some (.int r)) h := by
      refine z_callS (pc := 32) (mc := 0) (ms := 0) (d' := 0) (mc' := 0) (ms' := 0) (rest := [.int (p_X6_bit 0 m2)]) [.int 1, .int m5] dX6_signs_32 md_X6_bit ml_X6_49 sm_X6_bit rfl rfl (Nat.le_of_ble_eq_true rfl) (by omega) (k_X6_bit 1 m5 h _ rfl) ?_
      refine z_ior (pc := 35) dX6_signs_35 ?_
      refine z_iconst (pc := 36) (x := 2) dX6_signs_36 zc_iconst_2 ?_
      refine z_aload_n (pc := 37) 0 dX6_signs_37 rfl rfl ?_
      obtain ⟨x7, ex7, H⟩ := zbind H
      refine z_getI (pc := 38) dX6_signs_38 fd_X6_34 ex7 ?_
      refine z_iconst (pc := 41) (x := 2) dX6_signs_41 zc_iconst_2 ?_
      obtain ⟨m8, em8, H⟩ := zbind H
      have Jm8 : zW yX6_signs cX6_signs 1 (some .int) 2 0 0 50 [(0, .ref v0)] [.int m8, .int 2, .int ((p_X6_bit 0 m2) ||| (p_X6_bit 1 m5))] h (some (.int r)) h := by
        refine z_callS (pc := 50) (mc := 0) (ms := 0) (d' := 0) (mc' := 0) (ms' := 0) (rest := [.int ((p_X6_bit 0 m2) ||| (p_X6_bit 1 m5))]) [.int 2, .int m8] dX6_signs_50 md_X6_bit ml_X6_49 sm_X6_bit rfl rfl (Nat.le_of_ble_eq_true rfl) (by omega) (k_X6_bit 2 m8 h _ rfl) ?_
        refine z_ior (pc := 53) dX6_signs_53 ?_
        refine z_iconst (pc := 54) (x := 3) dX6_signs_54 zc_iconst_3 ?_
        refine z_aload_n (pc := 55) 0 dX6_signs_55 rfl rfl ?_
        obtain ⟨z10, H⟩ := zifE H
        obtain ⟨q11, eq11, H⟩ := zbind H
        refine z_callV (pc := 56) (mc := 0) (ms := 0) (d' := 1) (mc' := 0) (ms' := 0) (rest := [.int 3, .int (((p_X6_bit 0 m2) ||| (p_X6_bit 1 m5)) ||| (p_X6_bit 2 m8))]) [] dX6_signs_56 md_X6_seen ml_X6_53 im_X6_seen se_X6_seen rfl z10 rfl rfl (Nat.le_of_ble_eq_true rfl) (by omega) (k_X6_seen eq11) ?_
        refine z_iconst (pc := 59) (x := 2) dX6_signs_59 zc_iconst_2 ?_
        obtain ⟨m12, em12, H⟩ := zbind H
        have Jm12 : zW yX6_signs cX6_signs 1 (some .int) 2 0 0 68 [(0, .ref v0)] [.int m12, .int 3, .int (((p_X6_bit 0 m2) ||| (p_X6_bit 1 m5)) ||| (p_X6_bit 2 m8))] h (some (.int r)) h := by
          refine z_callS (pc := 68) (mc := 0) (ms := 0) (d' := 0) (mc' := 0) (ms' := 0) (rest := [.int (((p_X6_bit 0 m2) ||| (p_X6_bit 1 m5)) ||| (p_X6_bit 2 m8))]) [.int 3, .int m12] dX6_signs_68 md_X6_bit ml_X6_49 sm_X6_bit rfl rfl (Nat.le_of_ble_eq_true rfl) (by omega) (k_X6_bit 3 m12 h _ rfl) ?_
          refine z_ior (pc := 71) dX6_signs_71 ?_
          refine z_iconst (pc := 72) (x := 4) dX6_signs_72 zc_iconst_4 ?_
          refine z_aload_n (pc := 73) 0 dX6_signs_73 rfl rfl ?_
          obtain ⟨x14, ex14, H⟩ := zbind H
          refine z_getI (pc := 74) dX6_signs_74 fd_X6_30 ex14 ?_
          refine z_callS (pc := 77) (mc := 0) (ms := 0) (d' := 0) (mc' := 0) (ms' := 0) (rest := [.int ((((p_X6_bit 0 m2) ||| (p_X6_bit 1 m5)) ||| (p_X6_bit 2 m8)) ||| (p_X6_bit 3 m12))]) [.int 4, .int x14] dX6_signs_77 md_X6_bit ml_X6_49 sm_X6_bit rfl rfl (Nat.le_of_ble_eq_true rfl) (by omega) (k_X6_bit 4 x14 h _ rfl) ?_
          refine z_ior (pc := 80) dX6_signs_80 ?_
          refine z_iconst (pc := 81) (x := 5) dX6_signs_81 zc_iconst_5 ?_
          refine z_aload_n (pc := 82) 0 dX6_signs_82 rfl rfl ?_
          obtain ⟨x15, ex15, H⟩ := zbind H
          refine z_getI (pc := 83) dX6_signs_83 fd_X6_56 ex15 ?_
          obtain ⟨m16, em16, H⟩ := zbind H
          have Jm16 : zW yX6_signs cX6_signs 1 (some .int) 2 0 0 94 [(0, .ref v0)] [.int m16, .int 5, .int (((((p_X6_bit 0 m2) ||| (p_X6_bit 1 m5)) ||| (p_X6_bit 2 m8)) ||| (p_X6_bit 3 m12)) ||| (p_X6_bit 4 x14))] h (some (.int r)) h := by
            refine z_callS (pc := 94) (mc := 0) (ms := 0) (d' := 0) (mc' := 0) (ms' := 0) (rest := [.int (((((p_X6_bit 0 m2) ||| (p_X6_bit 1 m5)) ||| (p_X6_bit 2 m8)) ||| (p_X6_bit 3 m12)) ||| (p_X6_bit 4 x14))]) [.int 5, .int m16] dX6_signs_94 md_X6_bit ml_X6_49 sm_X6_bit rfl rfl (Nat.le_of_ble_eq_true rfl) (by omega) (k_X6_bit 5 m16 h _ rfl) ?_
            refine z_ior (pc := 97) dX6_signs_97 ?_
            refine z_bipush (pc := 98) (x := 6) dX6_signs_98 zc_bipush_6 ?_
            refine z_aload_n (pc := 100) 0 dX6_signs_100 rfl rfl ?_
            obtain ⟨x18, ex18, H⟩ := zbind H
            refine z_getI (pc := 101) dX6_signs_101 fd_X6_59 ex18 ?_
            obtain ⟨m19, em19, H⟩ := zbind H
            have Jm19 : zW yX6_signs cX6_signs 1 (some .int) 2 0 0 112 [(0, .ref v0)] [.int m19, .int 6, .int ((((((p_X6_bit 0 m2) ||| (p_X6_bit 1 m5)) ||| (p_X6_bit 2 m8)) ||| (p_X6_bit 3 m12)) ||| (p_X6_bit 4 x14)) ||| (p_X6_bit 5 m16))] h (some (.int r)) h := by
              refine z_callS (pc := 112) (mc := 0) (ms := 0) (d' := 0) (mc' := 0) (ms' := 0) (rest := [.int ((((((p_X6_bit 0 m2) ||| (p_X6_bit 1 m5)) ||| (p_X6_bit 2 m8)) ||| (p_X6_bit 3 m12)) ||| (p_X6_bit 4 x14)) ||| (p_X6_bit 5 m16))]) [.int 6, .int m19] dX6_signs_112 md_X6_bit ml_X6_49 sm_X6_bit rfl rfl (Nat.le_of_ble_eq_true rfl) (by omega) (k_X6_bit 6 m19 h _ rfl) ?_
              refine z_ior (pc := 115) dX6_signs_115 ?_
              refine z_bipush (pc := 116) (x := 7) dX6_signs_116 zc_bipush_7 ?_
              refine z_aload_n (pc := 118) 0 dX6_signs_118 rfl rfl ?_
              obtain ⟨x21, ex21, H⟩ := zbind H
              refine z_getI (pc := 119) dX6_signs_119 fd_X6_9 ex21 ?_
              refine z_bipush (pc := 122) (x := 10) dX6_signs_122 zc_bipush_10 ?_
              obtain ⟨m22, em22, H⟩ := zbind H
              have Jm22 : zW yX6_signs cX6_signs 1 (some .int) 2 0 0 132 [] [.int m22, .int 7, .int (((((((p_X6_bit 0 m2) ||| (p_X6_bit 1 m5)) ||| (p_X6_bit 2 m8)) ||| (p_X6_bit 3 m12)) ||| (p_X6_bit 4 x14)) ||| (p_X6_bit 5 m16)) ||| (p_X6_bit 6 m19))] h (some (.int r)) h := by
                refine z_callS (pc := 132) (mc := 0) (ms := 0) (d' := 0) (mc' := 0) (ms' := 0) (rest := [.int (((((((p_X6_bit 0 m2) ||| (p_X6_bit 1 m5)) ||| (p_X6_bit 2 m8)) ||| (p_X6_bit 3 m12)) ||| (p_X6_bit 4 x14)) ||| (p_X6_bit 5 m16)) ||| (p_X6_bit 6 m19))]) [.int 7, .int m22] dX6_signs_132 md_X6_bit ml_X6_49 sm_X6_bit rfl rfl (Nat.le_of_ble_eq_true rfl) (by omega) (k_X6_bit 7 m22 h _ rfl) ?_
                refine z_ior (pc := 135) dX6_signs_135 ?_
                cases H
                exact z_ireturn rfl dX6_signs_136
              refine z_icmp_ge (pc := 124) 131 dX6_signs_124 (by decide) (fun c23 => ?_) (fun c23 => ?_)
              · rw [if_pos c23] at em22
                refine z_iconst (pc := 131) (x := 0) dX6_signs_131 zc_iconst_0 ?_
                cases em22
                exact z_sub [] rfl Jm22
              · rw [if_neg c23] at em22
                refine z_iconst (pc := 127) (x := 1) dX6_signs_127 zc_iconst_1 ?_
                refine z_goto (pc := 128) 132 dX6_signs_128 (by decide) ?_
                cases em22
                exact z_sub [] rfl Jm22
            refine z_if_eq (pc := 104) 111 dX6_signs_104 (by decide) (fun c20 => ?_) (fun c20 => ?_)
            · rw [if_pos c20] at em19
              refine z_iconst (pc := 111) (x := 0) dX6_signs_111 zc_iconst_0 ?_
              cases em19
              exact z_sub [0] rfl Jm19
            · rw [if_neg c20] at em19
              refine z_iconst (pc := 107) (x := 1) dX6_signs_107 zc_iconst_1 ?_
              refine z_goto (pc := 108) 112 dX6_signs_108 (by decide) ?_
              cases em19
              exact z_sub [0] rfl Jm19
          refine z_if_eq (pc := 86) 93 dX6_signs_86 (by decide) (fun c17 => ?_) (fun c17 => ?_)
          · rw [if_pos c17] at em16
            refine z_iconst (pc := 93) (x := 0) dX6_signs_93 zc_iconst_0 ?_
            cases em16
            exact z_sub [0] rfl Jm16
          · rw [if_neg c17] at em16
            refine z_iconst (pc := 89) (x := 1) dX6_signs_89 zc_iconst_1 ?_
            refine z_goto (pc := 90) 94 dX6_signs_90 (by decide) ?_
            cases em16
            exact z_sub [0] rfl Jm16
        refine z_icmp_lt (pc := 60) 67 dX6_signs_60 (by decide) (fun c13 => ?_) (fun c13 => ?_)
        · rw [if_pos c13] at em12
          refine z_iconst (pc := 67) (x := 0) dX6_signs_67 zc_iconst_0 ?_
          cases em12
          exact z_sub [0] rfl Jm12
        · rw [if_neg c13] at em12
          refine z_iconst (pc := 63) (x := 1) dX6_signs_63 zc_iconst_1 ?_
          refine z_goto (pc := 64) 68 dX6_signs_64 (by decide) ?_
          cases em12
          exact z_sub [0] rfl Jm12
      refine z_icmp_ne (pc := 42) 49 dX6_signs_42 (by decide) (fun c9 => ?_) (fun c9 => ?_)
      · rw [if_neg c9] at em8
        refine z_iconst (pc := 49) (x := 0) dX6_signs_49 zc_iconst_0 ?_
        cases em8
        exact z_sub [0] rfl Jm8
      · rw [if_pos c9] at em8
        refine z_iconst (pc := 45) (x := 1) dX6_signs_45 zc_iconst_1 ?_
        refine z_goto (pc := 46) 50 dX6_signs_46 (by decide) ?_
        cases em8
        exact z_sub [0] rfl Jm8
    refine z_icmp_ne (pc := 24) 31 dX6_signs_24 (by decide) (fun c6 => ?_) (fun c6 => ?_)
    · rw [if_neg c6] at em5
      refine z_iconst (pc := 31) (x := 0) dX6_signs_31 zc_iconst_0 ?_
      cases em5
      exact z_sub [0] rfl Jm5
    · rw [if_pos c6] at em5
      refine z_iconst (pc := 27) (x := 1) dX6_signs_27 zc_iconst_1 ?_
      refine z_goto (pc := 28) 32 dX6_signs_28 (by decide) ?_
      cases em5
      exact z_sub [0] rfl Jm5
  refine z_icmp_le (pc := 7) 14 dX6_signs_7 (by decide) (fun c3 => ?_) (fun c3 => ?_)
  · rw [if_pos c3] at em2
    refine z_iconst (pc := 14) (x := 0) dX6_signs_14 zc_iconst_0 ?_
    cases em2
    exact z_sub [0] rfl Jm2
  · rw [if_neg c3] at em2
    refine z_iconst (pc := 10) (x := 1) dX6_signs_10 zc_iconst_1 ?_
    refine z_goto (pc := 11) 15 dX6_signs_11 (by decide) ?_
    cases em2
    exact z_sub [0] rfl Jm2

theorem zc_sipush_255 : (Int16.ofInt (255)).toInt32 = (255 : Int32) := by decide
theorem md_X6_signs : zMd yX6_signs cX6_signs 1 0 (some .int) := ⟨zmem 695 (by decide +kernel) rfl, zmem 128 (by decide +kernel) rfl, by decide, by decide, by decide +kernel, by decide⟩
theorem ml_X6_62 : Cond.methodLink RX6 62 yX6_signs ∈ zB := zmem 1003 (by decide +kernel) rfl
theorem im_X6_signs : Cond.instanceMethod yX6_signs ∈ zB := zmem 693 (by decide +kernel) rfl
theorem se_X6_signs : Cond.selects yX6_signs.cls yX6_signs yX6_signs ∈ zB := zmem 694 (by decide +kernel) rfl
def f_X6_words (N : Nat) (v0 : Nat) (h : zH) : Option (Int32) := zif (zob h v0 6) <| (f_X6_signs N v0 h).bind fun q2 => some (q2 ||| (((q2 ^^^ (-1)) &&& 255) <<< (8 &&& 31)))
set_option maxRecDepth 100000 in
set_option maxHeartbeats 4000000 in
theorem k_X6_words {N : Nat} {v0 : Nat} {h : zH} {r : Int32} (H : f_X6_words N v0 h = some r) : zOk 3 0 0 yX6_words cX6_words 2 (some .int) [.ref v0] h (some (.int r)) h := by
  refine zOk.of (by decide) (Nat.le_of_ble_eq_true rfl) ?_
  unfold f_X6_words at H
  refine z_aload_n (pc := 0) 0 dX6_words_0 rfl rfl ?_
  obtain ⟨z1, H⟩ := zifE H
  obtain ⟨q2, eq2, H⟩ := zbind H
  refine z_callV (pc := 1) (mc := 0) (ms := 0) (d' := 2) (mc' := 0) (ms' := 0) (rest := []) [] dX6_words_1 md_X6_signs ml_X6_62 im_X6_signs se_X6_signs rfl z1 rfl rfl (Nat.le_of_ble_eq_true rfl) (by omega) (k_X6_signs eq2) ?_
  refine z_istore_n (pc := 4) (lv' := [(1, .int q2), (0, .ref v0)]) dX6_words_4 rfl (by decide) rfl ?_
  refine z_iload_n (pc := 5) 0 dX6_words_5 rfl rfl ?_
  refine z_iload_n (pc := 6) 0 dX6_words_6 rfl rfl ?_
  refine z_iconst (pc := 7) (x := (-1)) dX6_words_7 zc_iconst_m1 ?_
  refine z_ixor (pc := 8) dX6_words_8 ?_
  refine z_sipush (pc := 9) (x := 255) dX6_words_9 zc_sipush_255 ?_
  refine z_iand (pc := 12) dX6_words_12 ?_
  refine z_bipush (pc := 13) (x := 8) dX6_words_13 zc_bipush_8 ?_
  refine z_ishl (pc := 15) dX6_words_15 ?_
  refine z_ior (pc := 16) dX6_words_16 ?_
  cases H
  exact z_ireturn rfl dX6_words_17

def p_X0_isSo (v0 : Int32) (v1 : Int32) : Int32 := if (v1 &&& v0) = v0 then (1) else (0)
set_option maxRecDepth 100000 in
set_option maxHeartbeats 4000000 in
theorem k_X0_isSo (v0 : Int32) (v1 : Int32) (h : zH) (r : Int32) (H : p_X0_isSo v0 v1 = r) : zOk 0 0 0 yX0_isSo cX0_isSo 2 (some .boolean) [.int v0, .int v1] h (some (.int r)) h := by
  refine zOk.of (by decide) (Nat.le_of_ble_eq_true rfl) ?_
  unfold p_X0_isSo at H
  refine z_iload_n (pc := 0) 1 dX0_isSo_0 rfl rfl ?_
  refine z_iload_n (pc := 1) 0 dX0_isSo_1 rfl rfl ?_
  refine z_iand (pc := 2) dX0_isSo_2 ?_
  refine z_iload_n (pc := 3) 0 dX0_isSo_3 rfl rfl ?_
  refine z_icmp_ne (pc := 4) 11 dX0_isSo_4 (by decide) (fun c1 => ?_) (fun c1 => ?_)
  · rw [if_neg c1] at H
    refine z_iconst (pc := 11) (x := 0) dX0_isSo_11 zc_iconst_0 ?_
    subst H
    exact z_zreturn rfl dX0_isSo_12 (by decide)
  · rw [if_pos c1] at H
    refine z_iconst (pc := 7) (x := 1) dX0_isSo_7 zc_iconst_1 ?_
    refine z_goto (pc := 8) 12 dX0_isSo_8 (by decide) ?_
    subst H
    exact z_zreturn rfl dX0_isSo_12 (by decide)

theorem fd_X0_46 : zFd RX0 46 0 6 (.int) false "WhoseStreet$Bench" := zFd.of cl_0 (by decide) (zmem 365 (by decide +kernel) rfl) rfl rfl rfl
theorem md_X0_isSo : zMd yX0_isSo cX0_isSo 2 2 (some .boolean) := ⟨zmem 1010 (by decide +kernel) rfl, zmem 121 (by decide +kernel) rfl, by decide, by decide, by decide +kernel, by decide⟩
theorem ml_X0_49 : Cond.methodLink RX0 49 yX0_isSo ∈ zB := zmem 1008 (by decide +kernel) rfl
theorem sm_X0_isSo : Cond.static yX0_isSo ∈ zB := zmem 1009 (by decide +kernel) rfl
def f_X0_keepThoseOf_L5 (N : Nat) (v0 : Nat) (v1 : Int32) (v2 : Int32) : Nat → Int32 → Int32 → zH → Option (Int32 × zH)
  | 0, _, _, _ => none
  | n + 1, v3, v4, h => (gI h v0 0 6).bind fun x1 => if x1 ≤ v4 then (some (v3, h)) else (if 128 ≤ v4 then (some (v3, h)) else ((gR h v0 0 4).bind fun r4 => (aI h r4 v4).bind fun x5 => if (p_X0_isSo x5 v1) = v2 then ((gR h v0 0 4).bind fun r7 => (gR h v0 0 4).bind fun r8 => (aI h r8 v4).bind fun x9 => (sI h r7 v3 x9).bind fun h10 => f_X0_keepThoseOf_L5 N v0 v1 v2 n (v3 + 1) (v4 + 1) h10) else (f_X0_keepThoseOf_L5 N v0 v1 v2 n v3 (v4 + 1) h)))
set_option maxRecDepth 100000 in
set_option maxHeartbeats 4000000 in
theorem s_X0_keepThoseOf_L5 {d mc ms N : Nat} {vv : Option Value} {hh : zH} {v0 : Nat} {v1 : Int32} {v2 : Int32} (hd0 : 1 ≤ d) : ∀ (n : Nat) (v3 : Int32) (v4 : Int32) (h : zH) (m : Int32 × zH), f_X0_keepThoseOf_L5 N v0 v1 v2 n v3 v4 h = some m → (zW yX0_keepThoseOf cX0_keepThoseOf 5 none d mc ms 59 [(0, .ref v0), (3, .int m.1)] [] m.2 vv hh) → zW yX0_keepThoseOf cX0_keepThoseOf 5 none d mc ms 5 [(0, .ref v0), (1, .int v1), (2, .int v2), (3, .int v3), (4, .int v4)] [] h vv hh := by
  intro n
  induction n with
  | zero =>
    intro v3 v4 h m H
    cases H
  | succ n ih =>
    intro v3 v4 h m H KE
    unfold f_X0_keepThoseOf_L5 at H
    refine z_iload (pc := 5) 4 dX0_keepThoseOf_5 rfl ?_
    refine z_aload_n (pc := 7) 0 dX0_keepThoseOf_7 rfl rfl ?_
    obtain ⟨x1, ex1, H⟩ := zbind H
    refine z_getI (pc := 8) dX0_keepThoseOf_8 fd_X0_46 ex1 ?_
    refine z_icmp_ge (pc := 11) 59 dX0_keepThoseOf_11 (by decide) (fun c2 => ?_) (fun c2 => ?_)
    · rw [if_pos c2] at H
      cases H
      exact z_sub [0, 3] rfl (KE)
    · rw [if_neg c2] at H
      refine z_iload (pc := 14) 4 dX0_keepThoseOf_14 rfl ?_
      refine z_sipush (pc := 16) (x := 128) dX0_keepThoseOf_16 zc_sipush_128 ?_
      refine z_icmp_ge (pc := 19) 59 dX0_keepThoseOf_19 (by decide) (fun c3 => ?_) (fun c3 => ?_)
      · rw [if_pos c3] at H
        cases H
        exact z_sub [0, 3] rfl (KE)
      · rw [if_neg c3] at H
        refine z_aload_n (pc := 22) 0 dX0_keepThoseOf_22 rfl rfl ?_
        obtain ⟨r4, er4, H⟩ := zbind H
        refine z_getR (pc := 23) dX0_keepThoseOf_23 fd_X0_28 er4 ?_
        refine z_iload (pc := 26) 4 dX0_keepThoseOf_26 rfl ?_
        obtain ⟨x5, ex5, H⟩ := zbind H
        refine z_iaload (pc := 28) dX0_keepThoseOf_28 ex5 ?_
        refine z_iload_n (pc := 29) 1 dX0_keepThoseOf_29 rfl rfl ?_
        refine z_callS (pc := 30) (mc := mc) (ms := ms) (d' := 0) (mc' := 0) (ms' := 0) (rest := []) [.int x5, .int v1] dX0_keepThoseOf_30 md_X0_isSo ml_X0_49 sm_X0_isSo rfl rfl (Nat.le_of_ble_eq_true rfl) (by omega) (k_X0_isSo x5 v1 h _ rfl) ?_
        refine z_iload_n (pc := 33) 2 dX0_keepThoseOf_33 rfl rfl ?_
        refine z_icmp_ne (pc := 34) 53 dX0_keepThoseOf_34 (by decide) (fun c6 => ?_) (fun c6 => ?_)
        · rw [if_neg c6] at H
          refine z_iinc (pc := 53) (x' := v4 + 1) (lv' := [(4, .int (v4 + 1)), (0, .ref v0), (1, .int v1), (2, .int v2), (3, .int v3)]) 4 dX0_keepThoseOf_53 rfl (by rfl) (by decide) rfl ?_
          refine z_goto (pc := 56) 5 dX0_keepThoseOf_56 (by decide) ?_
          exact z_sub [1, 2, 3, 4, 0] rfl (ih v3 (v4 + 1) h _ H KE)
        · rw [if_pos c6] at H
          refine z_aload_n (pc := 37) 0 dX0_keepThoseOf_37 rfl rfl ?_
          obtain ⟨r7, er7, H⟩ := zbind H
          refine z_getR (pc := 38) dX0_keepThoseOf_38 fd_X0_28 er7 ?_
          refine z_iload_n (pc := 41) 3 dX0_keepThoseOf_41 rfl rfl ?_
          refine z_aload_n (pc := 42) 0 dX0_keepThoseOf_42 rfl rfl ?_
          obtain ⟨r8, er8, H⟩ := zbind H
          refine z_getR (pc := 43) dX0_keepThoseOf_43 fd_X0_28 er8 ?_
          refine z_iload (pc := 46) 4 dX0_keepThoseOf_46 rfl ?_
          obtain ⟨x9, ex9, H⟩ := zbind H
          refine z_iaload (pc := 48) dX0_keepThoseOf_48 ex9 ?_
          obtain ⟨h10, eh10, H⟩ := zbind H
          refine z_iastore (pc := 49) dX0_keepThoseOf_49 eh10 ?_
          refine z_iinc (pc := 50) (x' := v3 + 1) (lv' := [(3, .int (v3 + 1)), (0, .ref v0), (1, .int v1), (2, .int v2), (4, .int v4)]) 3 dX0_keepThoseOf_50 rfl (by rfl) (by decide) rfl ?_
          refine z_iinc (pc := 53) (x' := v4 + 1) (lv' := [(4, .int (v4 + 1)), (3, .int (v3 + 1)), (0, .ref v0), (1, .int v1), (2, .int v2)]) 4 dX0_keepThoseOf_53 rfl (by rfl) (by decide) rfl ?_
          refine z_goto (pc := 56) 5 dX0_keepThoseOf_56 (by decide) ?_
          exact z_sub [2, 3, 4, 1, 0] rfl (ih (v3 + 1) (v4 + 1) h10 _ H KE)
def f_X0_keepThoseOf (N : Nat) (v0 : Nat) (v1 : Int32) (v2 : Int32) (h : zH) : Option (zH) := (f_X0_keepThoseOf_L5 N v0 v1 v2 N 0 0 h).bind fun m11 => (pF m11.2 v0 0 6 (.int m11.1)).bind fun h12 => some h12
set_option maxRecDepth 100000 in
set_option maxHeartbeats 4000000 in
theorem k_X0_keepThoseOf {N : Nat} {v0 : Nat} {v1 : Int32} {v2 : Int32} {h : zH} {r : zH} (H : f_X0_keepThoseOf N v0 v1 v2 h = some r) : zOk 1 0 0 yX0_keepThoseOf cX0_keepThoseOf 5 none [.ref v0, .int v1, .int v2] h none r := by
  refine zOk.of (by decide) (Nat.le_of_ble_eq_true rfl) ?_
  unfold f_X0_keepThoseOf at H
  refine z_iconst (pc := 0) (x := 0) dX0_keepThoseOf_0 zc_iconst_0 ?_
  refine z_istore_n (pc := 1) (lv' := [(3, .int 0), (0, .ref v0), (1, .int v1), (2, .int v2)]) dX0_keepThoseOf_1 rfl (by decide) rfl ?_
  refine z_iconst (pc := 2) (x := 0) dX0_keepThoseOf_2 zc_iconst_0 ?_
  refine z_istore (pc := 3) (lv' := [(4, .int 0), (3, .int 0), (0, .ref v0), (1, .int v1), (2, .int v2)]) dX0_keepThoseOf_3 (by decide) rfl ?_
  obtain ⟨m11, em11, H⟩ := zbind H
  refine z_sub [2, 3, 4, 1, 0] rfl (s_X0_keepThoseOf_L5 (by omega) N 0 0 h _ em11 ?_)
  refine z_aload_n (pc := 59) 0 dX0_keepThoseOf_59 rfl rfl ?_
  refine z_iload_n (pc := 60) 1 dX0_keepThoseOf_60 rfl rfl ?_
  obtain ⟨h12, eh12, H⟩ := zbind H
  refine z_put (pc := 61) dX0_keepThoseOf_61 fd_X0_46 rfl rfl eh12 ?_
  cases H
  exact z_return rfl dX0_keepThoseOf_64

theorem md_X11_within : zMd yX11_within cX11_within 3 3 (some .boolean) := ⟨zmem 549 (by decide +kernel) rfl, zmem 112 (by decide +kernel) rfl, by decide, by decide, by decide +kernel, by decide⟩
theorem ns_X0_63 : (RX0, 63, yX11_within, "WhoseStreet") ∈ zNs := by decide +kernel
theorem sm_X11_within : Cond.static yX11_within ∈ zB := zmem 548 (by decide +kernel) rfl
theorem md_X6_words : zMd yX6_words cX6_words 2 0 (some .int) := ⟨zmem 1002 (by decide +kernel) rfl, zmem 128 (by decide +kernel) rfl, by decide, by decide, by decide +kernel, by decide⟩
theorem ml_X0_42 : Cond.methodLink RX0 42 yX6_words ∈ zB := zmem 999 (by decide +kernel) rfl
theorem im_X6_words : Cond.instanceMethod yX6_words ∈ zB := zmem 1000 (by decide +kernel) rfl
theorem se_X6_words : Cond.selects yX6_words.cls yX6_words yX6_words ∈ zB := zmem 1001 (by decide +kernel) rfl
theorem md_X0_keepThoseOf : zMd yX0_keepThoseOf cX0_keepThoseOf 5 2 none := ⟨zmem 1007 (by decide +kernel) rfl, zmem 121 (by decide +kernel) rfl, by decide, by decide, by decide +kernel, by decide⟩
theorem ml_X0_67 : Cond.methodLink RX0 67 yX0_keepThoseOf ∈ zB := zmem 1004 (by decide +kernel) rfl
theorem im_X0_keepThoseOf : Cond.instanceMethod yX0_keepThoseOf ∈ zB := zmem 1006 (by decide +kernel) rfl
theorem se_X0_keepThoseOf : Cond.selects yX0_keepThoseOf.cls yX0_keepThoseOf yX0_keepThoseOf ∈ zB := zmem 39 (by decide +kernel) rfl
def f_X0_ruleOut_L2 (N : Nat) (v0 : Nat) (v1 : Int32) (v2 : Int32) : Nat → Int32 → zH → Option (zH)
  | 0, _, _ => none
  | n + 1, v3, h => (gI h v0 0 5).bind fun x1 => if x1 ≤ v3 then (some h) else (if 80 ≤ v3 then (some h) else ((gR h v0 0 0).bind fun r4 => (aQ h r4 v3).bind fun x5 => zopt x5 (f_X0_ruleOut_L2 N v0 v1 v2 n (v3 + 1) h) (fun a6 => (gR h v0 0 1).bind fun r8 => (aI h r8 v3).bind fun x9 => if (p_X11_within x9 v1 v2) = 0 then (f_X0_ruleOut_L2 N v0 v1 v2 n (v3 + 1) h) else (zif (zob h a6 6) <| (f_X6_words N a6 h).bind fun q12 => (gR h v0 0 2).bind fun r13 => (aZ h r13 v3).bind fun x14 => zif (zob h v0 0) <| (f_X0_keepThoseOf N v0 q12 x14 h).bind fun h16 => f_X0_ruleOut_L2 N v0 v1 v2 n (v3 + 1) h16))))
set_option maxRecDepth 100000 in
set_option maxHeartbeats 4000000 in
theorem s_X0_ruleOut_L2 {d mc ms N : Nat} {vv : Option Value} {hh : zH} {v0 : Nat} {v1 : Int32} {v2 : Int32} (hd0 : 4 ≤ d) : ∀ (n : Nat) (v3 : Int32) (h : zH) (m : zH), f_X0_ruleOut_L2 N v0 v1 v2 n v3 h = some m → (zW yX0_ruleOut cX0_ruleOut 5 none d mc ms 64 [] [] m vv hh) → zW yX0_ruleOut cX0_ruleOut 5 none d mc ms 2 [(0, .ref v0), (1, .int v1), (2, .int v2), (3, .int v3)] [] h vv hh := by
  intro n
  induction n with
  | zero =>
    intro v3 h m H
    cases H
  | succ n ih =>
    intro v3 h m H KE
    unfold f_X0_ruleOut_L2 at H
    refine z_iload_n (pc := 2) 3 dX0_ruleOut_2 rfl rfl ?_
    refine z_aload_n (pc := 3) 0 dX0_ruleOut_3 rfl rfl ?_
    obtain ⟨x1, ex1, H⟩ := zbind H
    refine z_getI (pc := 4) dX0_ruleOut_4 fd_X0_31 ex1 ?_
    refine z_icmp_ge (pc := 7) 64 dX0_ruleOut_7 (by decide) (fun c2 => ?_) (fun c2 => ?_)
    · rw [if_pos c2] at H
      cases H
      exact z_sub [] rfl (KE)
    · rw [if_neg c2] at H
      refine z_iload_n (pc := 10) 3 dX0_ruleOut_10 rfl rfl ?_
      refine z_bipush (pc := 11) (x := 80) dX0_ruleOut_11 zc_bipush_80 ?_
      refine z_icmp_ge (pc := 13) 64 dX0_ruleOut_13 (by decide) (fun c3 => ?_) (fun c3 => ?_)
      · rw [if_pos c3] at H
        cases H
        exact z_sub [] rfl (KE)
      · rw [if_neg c3] at H
        refine z_aload_n (pc := 16) 0 dX0_ruleOut_16 rfl rfl ?_
        obtain ⟨r4, er4, H⟩ := zbind H
        refine z_getR (pc := 17) dX0_ruleOut_17 fd_X0_13 er4 ?_
        refine z_iload_n (pc := 20) 3 dX0_ruleOut_20 rfl rfl ?_
        obtain ⟨x5, ex5, H⟩ := zbind H
        refine z_aaload (pc := 21) dX0_ruleOut_21 ex5 ?_
        refine z_astoreQ (pc := 22) (lv' := [(4, va_rf x5), (0, .ref v0), (1, .int v1), (2, .int v2), (3, .int v3)]) dX0_ruleOut_22 (by decide) rfl ?_
        refine z_aloadQ (pc := 24) 0 dX0_ruleOut_24 rfl ?_
        refine z_ifnull (pc := 26) 58 dX0_ruleOut_26 (by decide) (fun c7 => ?_) (fun a6 c7 => ?_)
        · subst c7
          have H := zoptN H
          refine z_iinc (pc := 58) (x' := v3 + 1) (lv' := [(3, .int (v3 + 1)), (4, va_rf none), (0, .ref v0), (1, .int v1), (2, .int v2)]) 4 dX0_ruleOut_58 rfl (by rfl) (by decide) rfl ?_
          refine z_goto (pc := 61) 2 dX0_ruleOut_61 (by decide) ?_
          exact z_sub [2, 3, 4, 0] rfl (ih (v3 + 1) h _ H KE)
        · subst c7
          have H := zoptS H
          refine z_sub (lv' := [(4, .ref a6), (0, .ref v0), (1, .int v1), (2, .int v2), (3, .int v3)]) [0, 1, 2, 3, 4] rfl ?_
          refine z_aload_n (pc := 29) 1 dX0_ruleOut_29 rfl rfl ?_
          obtain ⟨r8, er8, H⟩ := zbind H
          refine z_getR (pc := 30) dX0_ruleOut_30 fd_X0_17 er8 ?_
          refine z_iload_n (pc := 33) 4 dX0_ruleOut_33 rfl rfl ?_
          obtain ⟨x9, ex9, H⟩ := zbind H
          refine z_iaload (pc := 34) dX0_ruleOut_34 ex9 ?_
          refine z_iload_n (pc := 35) 2 dX0_ruleOut_35 rfl rfl ?_
          refine z_iload_n (pc := 36) 3 dX0_ruleOut_36 rfl rfl ?_
          refine z_callSN (pc := 37) (mc := mc) (ms := ms) (d' := 0) (mc' := 0) (ms' := 0) (rest := []) [.int x9, .int v1, .int v2] dX0_ruleOut_37 md_X11_within ns_X0_63 sm_X11_within rfl rfl (Nat.le_of_ble_eq_true rfl) (by omega) (k_X11_within x9 v1 v2 h _ rfl) ?_
          refine z_if_eq (pc := 40) 58 dX0_ruleOut_40 (by decide) (fun c10 => ?_) (fun c10 => ?_)
          · rw [if_pos c10] at H
            refine z_iinc (pc := 58) (x' := v3 + 1) (lv' := [(3, .int (v3 + 1)), (4, .ref a6), (0, .ref v0), (1, .int v1), (2, .int v2)]) 4 dX0_ruleOut_58 rfl (by rfl) (by decide) rfl ?_
            refine z_goto (pc := 61) 2 dX0_ruleOut_61 (by decide) ?_
            exact z_sub [2, 3, 4, 0] rfl (ih (v3 + 1) h _ H KE)
          · rw [if_neg c10] at H
            refine z_aload_n (pc := 43) 1 dX0_ruleOut_43 rfl rfl ?_
            refine z_aload (pc := 44) 0 dX0_ruleOut_44 rfl ?_
            obtain ⟨z11, H⟩ := zifE H
            obtain ⟨q12, eq12, H⟩ := zbind H
            refine z_callV (pc := 46) (mc := mc) (ms := ms) (d' := 3) (mc' := 0) (ms' := 0) (rest := [.ref v0]) [] dX0_ruleOut_46 md_X6_words ml_X0_42 im_X6_words se_X6_words rfl z11 rfl rfl (Nat.le_of_ble_eq_true rfl) (by omega) (k_X6_words eq12) ?_
            refine z_aload_n (pc := 49) 1 dX0_ruleOut_49 rfl rfl ?_
            obtain ⟨r13, er13, H⟩ := zbind H
            refine z_getR (pc := 50) dX0_ruleOut_50 fd_X0_21 er13 ?_
            refine z_iload_n (pc := 53) 4 dX0_ruleOut_53 rfl rfl ?_
            obtain ⟨x14, ex14, H⟩ := zbind H
            refine z_zaload (pc := 54) dX0_ruleOut_54 ex14 ?_
            obtain ⟨z15, H⟩ := zifE H
            obtain ⟨h16, eh16, H⟩ := zbind H
            refine z_callV (pc := 55) (mc := mc) (ms := ms) (d' := 1) (mc' := 0) (ms' := 0) (rest := []) [.int q12, .int x14] dX0_ruleOut_55 md_X0_keepThoseOf ml_X0_67 im_X0_keepThoseOf se_X0_keepThoseOf rfl z15 rfl rfl (Nat.le_of_ble_eq_true rfl) (by omega) (k_X0_keepThoseOf eh16) ?_
            refine z_iinc (pc := 58) (x' := v3 + 1) (lv' := [(3, .int (v3 + 1)), (4, .ref a6), (0, .ref v0), (1, .int v1), (2, .int v2)]) 4 dX0_ruleOut_58 rfl (by rfl) (by decide) rfl ?_
            refine z_goto (pc := 61) 2 dX0_ruleOut_61 (by decide) ?_
            exact z_sub [2, 3, 4, 0] rfl (ih (v3 + 1) h16 _ H KE)
def f_X0_ruleOut (N : Nat) (v0 : Nat) (v1 : Int32) (v2 : Int32) (h : zH) : Option (zH) := (f_X0_ruleOut_L2 N v0 v1 v2 N 0 h).bind fun m17 => some m17
set_option maxRecDepth 100000 in
set_option maxHeartbeats 4000000 in
theorem k_X0_ruleOut {N : Nat} {v0 : Nat} {v1 : Int32} {v2 : Int32} {h : zH} {r : zH} (H : f_X0_ruleOut N v0 v1 v2 h = some r) : zOk 4 0 0 yX0_ruleOut cX0_ruleOut 5 none [.ref v0, .int v1, .int v2] h none r := by
  refine zOk.of (by decide) (Nat.le_of_ble_eq_true rfl) ?_
  unfold f_X0_ruleOut at H
  refine z_iconst (pc := 0) (x := 0) dX0_ruleOut_0 zc_iconst_0 ?_
  refine z_istore_n (pc := 1) (lv' := [(3, .int 0), (0, .ref v0), (1, .int v1), (2, .int v2)]) dX0_ruleOut_1 rfl (by decide) rfl ?_
  obtain ⟨m17, em17, H⟩ := zbind H
  refine z_sub [1, 2, 3, 0] rfl (s_X0_ruleOut_L2 (by omega) N 0 h _ em17 ?_)
  cases H
  exact z_return rfl dX0_ruleOut_64

def f_X0_judge_L10 (N : Nat) (v0 : Nat) (v2 : Int32) (h : zH) : Nat → Int32 → Int32 → Option (Int32)
  | 0, _, _ => none
  | n + 1, v3, v4 => (gI h v0 0 6).bind fun x3 => if x3 ≤ v4 then (some v3) else (if 128 ≤ v4 then (some v3) else ((gR h v0 0 4).bind fun r6 => (aI h r6 v4).bind fun x7 => if (p_X0_isSo x7 v2) = 0 then (f_X0_judge_L10 N v0 v2 h n v3 (v4 + 1)) else (f_X0_judge_L10 N v0 v2 h n (v3 + 1) (v4 + 1))))
set_option maxRecDepth 100000 in
set_option maxHeartbeats 4000000 in
theorem s_X0_judge_L10 {d mc ms N : Nat} {vv : Option Value} {hh : zH} {v0 : Nat} {v2 : Int32} {h : zH} (hd0 : 4 ≤ d) : ∀ (n : Nat) (v3 : Int32) (v4 : Int32) (m : Int32), f_X0_judge_L10 N v0 v2 h n v3 v4 = some m → (zW yX0_judge cX0_judge 5 (some .int) d mc ms 50 [(0, .ref v0), (3, .int m)] [] h vv hh) → zW yX0_judge cX0_judge 5 (some .int) d mc ms 10 [(0, .ref v0), (2, .int v2), (3, .int v3), (4, .int v4)] [] h vv hh := by
  intro n
  induction n with
  | zero =>
    intro v3 v4 m H
    cases H
  | succ n ih =>
    intro v3 v4 m H KE
    unfold f_X0_judge_L10 at H
    refine z_iload (pc := 10) 3 dX0_judge_10 rfl ?_
    refine z_aload_n (pc := 12) 0 dX0_judge_12 rfl rfl ?_
    obtain ⟨x3, ex3, H⟩ := zbind H
    refine z_getI (pc := 13) dX0_judge_13 fd_X0_46 ex3 ?_
    refine z_icmp_ge (pc := 16) 50 dX0_judge_16 (by decide) (fun c4 => ?_) (fun c4 => ?_)
    · rw [if_pos c4] at H
      cases H
      exact z_sub [0, 2] rfl (KE)
    · rw [if_neg c4] at H
      refine z_iload (pc := 19) 3 dX0_judge_19 rfl ?_
      refine z_sipush (pc := 21) (x := 128) dX0_judge_21 zc_sipush_128 ?_
      refine z_icmp_ge (pc := 24) 50 dX0_judge_24 (by decide) (fun c5 => ?_) (fun c5 => ?_)
      · rw [if_pos c5] at H
        cases H
        exact z_sub [0, 2] rfl (KE)
      · rw [if_neg c5] at H
        refine z_aload_n (pc := 27) 0 dX0_judge_27 rfl rfl ?_
        obtain ⟨r6, er6, H⟩ := zbind H
        refine z_getR (pc := 28) dX0_judge_28 fd_X0_28 er6 ?_
        refine z_iload (pc := 31) 3 dX0_judge_31 rfl ?_
        obtain ⟨x7, ex7, H⟩ := zbind H
        refine z_iaload (pc := 33) dX0_judge_33 ex7 ?_
        refine z_iload_n (pc := 34) 1 dX0_judge_34 rfl rfl ?_
        refine z_callS (pc := 35) (mc := mc) (ms := ms) (d' := 0) (mc' := 0) (ms' := 0) (rest := []) [.int x7, .int v2] dX0_judge_35 md_X0_isSo ml_X0_49 sm_X0_isSo rfl rfl (Nat.le_of_ble_eq_true rfl) (by omega) (k_X0_isSo x7 v2 h _ rfl) ?_
        refine z_if_eq (pc := 38) 44 dX0_judge_38 (by decide) (fun c8 => ?_) (fun c8 => ?_)
        · rw [if_pos c8] at H
          refine z_iinc (pc := 44) (x' := v4 + 1) (lv' := [(4, .int (v4 + 1)), (0, .ref v0), (2, .int v2), (3, .int v3)]) 3 dX0_judge_44 rfl (by rfl) (by decide) rfl ?_
          refine z_goto (pc := 47) 10 dX0_judge_47 (by decide) ?_
          exact z_sub [1, 2, 3, 0] rfl (ih v3 (v4 + 1) _ H KE)
        · rw [if_neg c8] at H
          refine z_iinc (pc := 41) (x' := v3 + 1) (lv' := [(3, .int (v3 + 1)), (0, .ref v0), (2, .int v2), (4, .int v4)]) 2 dX0_judge_41 rfl (by rfl) (by decide) rfl ?_
          refine z_iinc (pc := 44) (x' := v4 + 1) (lv' := [(4, .int (v4 + 1)), (3, .int (v3 + 1)), (0, .ref v0), (2, .int v2)]) 3 dX0_judge_44 rfl (by rfl) (by decide) rfl ?_
          refine z_goto (pc := 47) 10 dX0_judge_47 (by decide) ?_
          exact z_sub [2, 3, 1, 0] rfl (ih (v3 + 1) (v4 + 1) _ H KE)
def f_X0_judge (N : Nat) (v0 : Nat) (v1 : Nat) (h : zH) : Option (Int32) := zif (zob h v1 6) <| (f_X6_words N v1 h).bind fun q2 => (f_X0_judge_L10 N v0 q2 h N 0 0).bind fun m9 => (gI h v0 0 6).bind fun x10 => if x10 = 0 then (some (-1)) else ((gI h v0 0 6).bind fun x12 => if m9 = x12 then (some 2) else (if m9 ≤ 0 then (some 0) else (some 1)))
set_option maxRecDepth 100000 in
set_option maxHeartbeats 4000000 in
theorem k_X0_judge {N : Nat} {v0 : Nat} {v1 : Nat} {h : zH} {r : Int32} (H : f_X0_judge N v0 v1 h = some r) : zOk 4 0 0 yX0_judge cX0_judge 5 (some .int) [.ref v0, .ref v1] h (some (.int r)) h := by
  refine zOk.of (by decide) (Nat.le_of_ble_eq_true rfl) ?_
  unfold f_X0_judge at H
  refine z_aload_n (pc := 0) 1 dX0_judge_0 rfl rfl ?_
  obtain ⟨z1, H⟩ := zifE H
  obtain ⟨q2, eq2, H⟩ := zbind H
  refine z_callV (pc := 1) (mc := 0) (ms := 0) (d' := 3) (mc' := 0) (ms' := 0) (rest := []) [] dX0_judge_1 md_X6_words ml_X0_42 im_X6_words se_X6_words rfl z1 rfl rfl (Nat.le_of_ble_eq_true rfl) (by omega) (k_X6_words eq2) ?_
  refine z_istore_n (pc := 4) (lv' := [(2, .int q2), (0, .ref v0), (1, .ref v1)]) dX0_judge_4 rfl (by decide) rfl ?_
  refine z_iconst (pc := 5) (x := 0) dX0_judge_5 zc_iconst_0 ?_
  refine z_istore_n (pc := 6) (lv' := [(3, .int 0), (2, .int q2), (0, .ref v0), (1, .ref v1)]) dX0_judge_6 rfl (by decide) rfl ?_
  refine z_iconst (pc := 7) (x := 0) dX0_judge_7 zc_iconst_0 ?_
  refine z_istore (pc := 8) (lv' := [(4, .int 0), (3, .int 0), (2, .int q2), (0, .ref v0), (1, .ref v1)]) dX0_judge_8 (by decide) rfl ?_
  obtain ⟨m9, em9, H⟩ := zbind H
  refine z_sub [3, 2, 1, 0] rfl (s_X0_judge_L10 (by omega) N 0 0 _ em9 ?_)
  refine z_aload_n (pc := 50) 0 dX0_judge_50 rfl rfl ?_
  obtain ⟨x10, ex10, H⟩ := zbind H
  refine z_getI (pc := 51) dX0_judge_51 fd_X0_46 ex10 ?_
  refine z_if_ne (pc := 54) 59 dX0_judge_54 (by decide) (fun c11 => ?_) (fun c11 => ?_)
  · rw [if_neg c11] at H
    refine z_iload_n (pc := 59) 1 dX0_judge_59 rfl rfl ?_
    refine z_aload_n (pc := 60) 0 dX0_judge_60 rfl rfl ?_
    obtain ⟨x12, ex12, H⟩ := zbind H
    refine z_getI (pc := 61) dX0_judge_61 fd_X0_46 ex12 ?_
    refine z_icmp_ne (pc := 64) 71 dX0_judge_64 (by decide) (fun c13 => ?_) (fun c13 => ?_)
    · rw [if_neg c13] at H
      refine z_iload_n (pc := 71) 1 dX0_judge_71 rfl rfl ?_
      refine z_if_le (pc := 72) 79 dX0_judge_72 (by decide) (fun c14 => ?_) (fun c14 => ?_)
      · rw [if_pos c14] at H
        refine z_iconst (pc := 79) (x := 0) dX0_judge_79 zc_iconst_0 ?_
        cases H
        exact z_ireturn rfl dX0_judge_80
      · rw [if_neg c14] at H
        refine z_iconst (pc := 75) (x := 1) dX0_judge_75 zc_iconst_1 ?_
        refine z_goto (pc := 76) 80 dX0_judge_76 (by decide) ?_
        cases H
        exact z_ireturn rfl dX0_judge_80
    · rw [if_pos c13] at H
      refine z_iconst (pc := 67) (x := 2) dX0_judge_67 zc_iconst_2 ?_
      refine z_goto (pc := 68) 80 dX0_judge_68 (by decide) ?_
      cases H
      exact z_ireturn rfl dX0_judge_80
  · rw [if_pos c11] at H
    refine z_iconst (pc := 57) (x := (-1)) dX0_judge_57 zc_iconst_m1 ?_
    cases H
    exact z_ireturn rfl dX0_judge_58

def f_X0_allHave_L2 (N : Nat) (v0 : Nat) (v1 : Int32) (h : zH) : Nat → Int32 → Option ((Unit) ⊕ (Int32))
  | 0, _ => none
  | n + 1, v2 => (gI h v0 0 6).bind fun x1 => if x1 ≤ v2 then (some (.inl ())) else (if 128 ≤ v2 then (some (.inl ())) else ((gR h v0 0 4).bind fun r4 => (aI h r4 v2).bind fun x5 => if ((x5 >>> (v1 &&& 31)) &&& 1) = 0 then (some (.inr 0)) else (f_X0_allHave_L2 N v0 v1 h n (v2 + 1))))
set_option maxRecDepth 100000 in
set_option maxHeartbeats 4000000 in
theorem s_X0_allHave_L2 {d mc ms N : Nat} {vv : Option Value} {hh : zH} {v0 : Nat} {v1 : Int32} {h : zH} (hd0 : 0 ≤ d) : ∀ (n : Nat) (v2 : Int32) (m : (Unit) ⊕ (Int32)), f_X0_allHave_L2 N v0 v1 h n v2 = some m → (∀ s, m = .inl s → zW yX0_allHave cX0_allHave 3 (some .boolean) d mc ms 38 [] [] h vv hh) → (∀ r, m = .inr r → vv = (some (.int r)) ∧ hh = h) → zW yX0_allHave cX0_allHave 3 (some .boolean) d mc ms 2 [(0, .ref v0), (1, .int v1), (2, .int v2)] [] h vv hh := by
  intro n
  induction n with
  | zero =>
    intro v2 m H
    cases H
  | succ n ih =>
    intro v2 m H KE KR
    unfold f_X0_allHave_L2 at H
    refine z_iload_n (pc := 2) 2 dX0_allHave_2 rfl rfl ?_
    refine z_aload_n (pc := 3) 0 dX0_allHave_3 rfl rfl ?_
    obtain ⟨x1, ex1, H⟩ := zbind H
    refine z_getI (pc := 4) dX0_allHave_4 fd_X0_46 ex1 ?_
    refine z_icmp_ge (pc := 7) 38 dX0_allHave_7 (by decide) (fun c2 => ?_) (fun c2 => ?_)
    · rw [if_pos c2] at H
      cases H
      exact z_sub [] rfl (KE _ rfl)
    · rw [if_neg c2] at H
      refine z_iload_n (pc := 10) 2 dX0_allHave_10 rfl rfl ?_
      refine z_sipush (pc := 11) (x := 128) dX0_allHave_11 zc_sipush_128 ?_
      refine z_icmp_ge (pc := 14) 38 dX0_allHave_14 (by decide) (fun c3 => ?_) (fun c3 => ?_)
      · rw [if_pos c3] at H
        cases H
        exact z_sub [] rfl (KE _ rfl)
      · rw [if_neg c3] at H
        refine z_aload_n (pc := 17) 0 dX0_allHave_17 rfl rfl ?_
        obtain ⟨r4, er4, H⟩ := zbind H
        refine z_getR (pc := 18) dX0_allHave_18 fd_X0_28 er4 ?_
        refine z_iload_n (pc := 21) 2 dX0_allHave_21 rfl rfl ?_
        obtain ⟨x5, ex5, H⟩ := zbind H
        refine z_iaload (pc := 22) dX0_allHave_22 ex5 ?_
        refine z_iload_n (pc := 23) 1 dX0_allHave_23 rfl rfl ?_
        refine z_ishr (pc := 24) dX0_allHave_24 ?_
        refine z_iconst (pc := 25) (x := 1) dX0_allHave_25 zc_iconst_1 ?_
        refine z_iand (pc := 26) dX0_allHave_26 ?_
        refine z_if_ne (pc := 27) 32 dX0_allHave_27 (by decide) (fun c6 => ?_) (fun c6 => ?_)
        · rw [if_neg c6] at H
          refine z_iinc (pc := 32) (x' := v2 + 1) (lv' := [(2, .int (v2 + 1)), (0, .ref v0), (1, .int v1)]) 2 dX0_allHave_32 rfl (by rfl) (by decide) rfl ?_
          refine z_goto (pc := 35) 2 dX0_allHave_35 (by decide) ?_
          exact z_sub [1, 2, 0] rfl (ih (v2 + 1) _ H KE KR)
        · rw [if_pos c6] at H
          refine z_iconst (pc := 30) (x := 0) dX0_allHave_30 zc_iconst_0 ?_
          cases H
          obtain ⟨e8, e9⟩ := KR _ rfl
          subst e8
          subst e9
          exact z_zreturn rfl dX0_allHave_31 (by decide)
def f_X0_allHave (N : Nat) (v0 : Nat) (v1 : Int32) (h : zH) : Option (Int32) := (f_X0_allHave_L2 N v0 v1 h N 0).bind fun m7 => zsum m7 fun s8 => some 1
set_option maxRecDepth 100000 in
set_option maxHeartbeats 4000000 in
theorem k_X0_allHave {N : Nat} {v0 : Nat} {v1 : Int32} {h : zH} {r : Int32} (H : f_X0_allHave N v0 v1 h = some r) : zOk 0 0 0 yX0_allHave cX0_allHave 3 (some .boolean) [.ref v0, .int v1] h (some (.int r)) h := by
  refine zOk.of (by decide) (Nat.le_of_ble_eq_true rfl) ?_
  unfold f_X0_allHave at H
  refine z_iconst (pc := 0) (x := 0) dX0_allHave_0 zc_iconst_0 ?_
  refine z_istore_n (pc := 1) (lv' := [(2, .int 0), (0, .ref v0), (1, .int v1)]) dX0_allHave_1 rfl (by decide) rfl ?_
  obtain ⟨m7, em7, H⟩ := zbind H
  refine z_sub [1, 2, 0] rfl (s_X0_allHave_L2 (by omega) N 0 _ em7 ?_ ?_)
  · intro s8 e9
    subst e9
    have H := zsumL H
    refine z_iconst (pc := 38) (x := 1) dX0_allHave_38 zc_iconst_1 ?_
    cases H
    exact z_zreturn rfl dX0_allHave_39 (by decide)
  · intro r e9
    subst e9
    have H := zsumR H
    cases H
    exact ⟨rfl, rfl⟩

theorem zc_bipush_32 : (Int8.ofInt (32)).toInt32 = (32 : Int32) := by decide
theorem ml_X1_3 : Cond.methodLink RX1 3 objectInit ∈ zB := zmem 309 (by decide +kernel) rfl
theorem ck_X1_11 : Cond.classLink RX1 11 RX4 ∈ zB := zmem 310 (by decide +kernel) rfl
theorem fd_X1_13 : zFd RX1 13 1 0 (.array (.object "WhoseStreet$Law")) true "WhoseStreet$Book" := zFd.of cl_1 (by decide) (zmem 312 (by decide +kernel) rfl) rfl rfl rfl
theorem fd_X1_19 : zFd RX1 19 1 1 (.array .int) true "WhoseStreet$Book" := zFd.of cl_1 (by decide) (zmem 313 (by decide +kernel) rfl) rfl rfl rfl
theorem fd_X1_23 : zFd RX1 23 1 2 (.array .int) true "WhoseStreet$Book" := zFd.of cl_1 (by decide) (zmem 314 (by decide +kernel) rfl) rfl rfl rfl
def f_X1_init (N : Nat) (v0 : Nat) (h : zH) : Option (zH) := zlet (znew h (zblank 5 16) : zH) fun h1 => (pF h1 v0 1 0 (.ref h.1.1)).bind fun h2 => zlet (znew h2 (zblank 0 8) : zH) fun h3 => (pF h3 v0 1 1 (.ref h2.1.1)).bind fun h4 => zlet (znew h4 (zblank 0 32) : zH) fun h5 => (pF h5 v0 1 2 (.ref h4.1.1)).bind fun h6 => some h6
set_option maxRecDepth 100000 in
set_option maxHeartbeats 4000000 in
theorem k_X1_init {N : Nat} {v0 : Nat} {h : zH} {r : zH} (H : f_X1_init N v0 h = some r) : zOk 1 3 56 yX1_init cX1_init 1 none [.ref v0] h none r := by
  refine zOk.of (by decide) (Nat.le_of_ble_eq_true rfl) ?_
  unfold f_X1_init at H
  refine z_aload_n (pc := 0) 0 dX1_init_0 rfl rfl ?_
  refine z_objInit (pc := 1) dX1_init_1 ml_X1_3 im_object cd_object (by omega) (Nat.le_of_ble_eq_true rfl) ?_
  refine z_aload_n (pc := 4) 0 dX1_init_4 rfl rfl ?_
  refine z_bipush (pc := 5) (x := 16) dX1_init_5 zc_bipush_16 ?_
  refine z_anewarray (pc := 7) (mc := 2) (ms := 40) (N := 16) 5 (Or.inr ⟨rfl, rfl⟩) dX1_init_7 ck_X1_11 (by decide) (by decide) (by decide) ?_
  obtain ⟨h1, eh1, H⟩ := zletE H
  refine z_nmH eh1 ?_
  obtain ⟨h2, eh2, H⟩ := zbind H
  refine z_putF (pc := 10) dX1_init_10 fd_X1_13 rfl rfl rfl eh2 ?_
  refine z_aload_n (pc := 13) 0 dX1_init_13 rfl rfl ?_
  refine z_bipush (pc := 14) (x := 8) dX1_init_14 zc_bipush_8 ?_
  refine z_newarray (pc := 16) (mc := 1) (ms := 32) (N := 8) 0 (by decide) dX1_init_16 rfl ac_int (by decide) (by decide) (by decide) ?_
  obtain ⟨h3, eh3, H⟩ := zletE H
  refine z_nmH eh3 ?_
  obtain ⟨h4, eh4, H⟩ := zbind H
  refine z_putF (pc := 18) dX1_init_18 fd_X1_19 rfl rfl rfl eh4 ?_
  refine z_aload_n (pc := 21) 0 dX1_init_21 rfl rfl ?_
  refine z_bipush (pc := 22) (x := 32) dX1_init_22 zc_bipush_32 ?_
  refine z_newarray (pc := 24) (mc := 0) (ms := 0) (N := 32) 0 (by decide) dX1_init_24 rfl ac_int (by decide) (by decide) (by decide) ?_
  obtain ⟨h5, eh5, H⟩ := zletE H
  refine z_nmH eh5 ?_
  obtain ⟨h6, eh6, H⟩ := zbind H
  refine z_putF (pc := 26) dX1_init_26 fd_X1_23 rfl rfl rfl eh6 ?_
  cases H
  exact z_return rfl dX1_init_29

theorem fd_X1_26 : zFd RX1 26 1 3 (.int) false "WhoseStreet$Book" := zFd.of cl_1 (by decide) (zmem 315 (by decide +kernel) rfl) rfl rfl rfl
def f_X1_isFull (N : Nat) (v0 : Nat) (h : zH) : Option (Int32) := (gI h v0 1 3).bind fun x1 => if x1 < 16 then (some 0) else (some 1)
set_option maxRecDepth 100000 in
set_option maxHeartbeats 4000000 in
theorem k_X1_isFull {N : Nat} {v0 : Nat} {h : zH} {r : Int32} (H : f_X1_isFull N v0 h = some r) : zOk 0 0 0 yX1_isFull cX1_isFull 1 (some .boolean) [.ref v0] h (some (.int r)) h := by
  refine zOk.of (by decide) (Nat.le_of_ble_eq_true rfl) ?_
  unfold f_X1_isFull at H
  refine z_aload_n (pc := 0) 0 dX1_isFull_0 rfl rfl ?_
  obtain ⟨x1, ex1, H⟩ := zbind H
  refine z_getI (pc := 1) dX1_isFull_1 fd_X1_26 ex1 ?_
  refine z_bipush (pc := 4) (x := 16) dX1_isFull_4 zc_bipush_16 ?_
  refine z_icmp_lt (pc := 6) 13 dX1_isFull_6 (by decide) (fun c2 => ?_) (fun c2 => ?_)
  · rw [if_pos c2] at H
    refine z_iconst (pc := 13) (x := 0) dX1_isFull_13 zc_iconst_0 ?_
    cases H
    exact z_zreturn rfl dX1_isFull_14 (by decide)
  · rw [if_neg c2] at H
    refine z_iconst (pc := 9) (x := 1) dX1_isFull_9 zc_iconst_1 ?_
    refine z_goto (pc := 10) 14 dX1_isFull_10 (by decide) ?_
    cases H
    exact z_zreturn rfl dX1_isFull_14 (by decide)

def f_X1_add (N : Nat) (v0 : Nat) (v1 : Nat) (h : zH) : Option (zH) := (gI h v0 1 3).bind fun x1 => if 16 ≤ x1 then (some h) else ((gR h v0 1 0).bind fun r3 => (gI h v0 1 3).bind fun x4 => (sQ h r3 x4 v1).bind fun h5 => (gI h5 v0 1 3).bind fun x6 => (pF h5 v0 1 3 (.int (x6 + 1))).bind fun h7 => some h7)
set_option maxRecDepth 100000 in
set_option maxHeartbeats 4000000 in
theorem k_X1_add {N : Nat} {v0 : Nat} {v1 : Nat} {h : zH} {r : zH} (H : f_X1_add N v0 v1 h = some r) : zOk 0 0 0 yX1_add cX1_add 2 none [.ref v0, .ref v1] h none r := by
  refine zOk.of (by decide) (Nat.le_of_ble_eq_true rfl) ?_
  unfold f_X1_add at H
  refine z_aload_n (pc := 0) 0 dX1_add_0 rfl rfl ?_
  obtain ⟨x1, ex1, H⟩ := zbind H
  refine z_getI (pc := 1) dX1_add_1 fd_X1_26 ex1 ?_
  refine z_bipush (pc := 4) (x := 16) dX1_add_4 zc_bipush_16 ?_
  refine z_icmp_ge (pc := 6) 29 dX1_add_6 (by decide) (fun c2 => ?_) (fun c2 => ?_)
  · rw [if_pos c2] at H
    cases H
    exact z_return rfl dX1_add_29
  · rw [if_neg c2] at H
    refine z_aload_n (pc := 9) 0 dX1_add_9 rfl rfl ?_
    obtain ⟨r3, er3, H⟩ := zbind H
    refine z_getR (pc := 10) dX1_add_10 fd_X1_13 er3 ?_
    refine z_aload_n (pc := 13) 0 dX1_add_13 rfl rfl ?_
    obtain ⟨x4, ex4, H⟩ := zbind H
    refine z_getI (pc := 14) dX1_add_14 fd_X1_26 ex4 ?_
    refine z_aload_n (pc := 17) 1 dX1_add_17 rfl rfl ?_
    obtain ⟨h5, eh5, H⟩ := zbind H
    refine z_aastore (pc := 18) dX1_add_18 eh5 ?_
    refine z_aload_n (pc := 19) 0 dX1_add_19 rfl rfl ?_
    refine z_dup (pc := 20) dX1_add_20 rfl ?_
    obtain ⟨x6, ex6, H⟩ := zbind H
    refine z_getI (pc := 21) dX1_add_21 fd_X1_26 ex6 ?_
    refine z_iconst (pc := 24) (x := 1) dX1_add_24 zc_iconst_1 ?_
    refine z_iadd (pc := 25) dX1_add_25 ?_
    obtain ⟨h7, eh7, H⟩ := zbind H
    refine z_put (pc := 26) dX1_add_26 fd_X1_26 rfl rfl eh7 ?_
    cases H
    exact z_return rfl dX1_add_29

theorem fd_X1_62 : zFd RX1 62 4 0 (.int) true "WhoseStreet$Law" := zFd.of cl_4 (by decide) (zmem 905 (by decide +kernel) rfl) rfl rfl rfl
theorem fd_X1_64 : zFd RX1 64 4 1 (.int) true "WhoseStreet$Law" := zFd.of cl_4 (by decide) (zmem 907 (by decide +kernel) rfl) rfl rfl rfl
def f_X1_lawOf_L8 (N : Nat) (v0 : Nat) (v1 : Int32) (v2 : Int32) (h : zH) : Nat → Int32 → Int32 → Int32 → Option (Int32)
  | 0, _, _, _ => none
  | n + 1, v3, v4, v5 => (gI h v0 1 3).bind fun x1 => if x1 ≤ v5 then (some v3) else (if 16 ≤ v5 then (some v3) else ((gR h v0 1 0).bind fun r4 => (aQ h r4 v5).bind fun x5 => zopt x5 (f_X1_lawOf_L8 N v0 v1 v2 h n v3 v4 (v5 + 1)) (fun a6 => (gI h a6 4 0).bind fun x8 => if v2 < x8 then (f_X1_lawOf_L8 N v0 v1 v2 h n v3 v4 (v5 + 1)) else ((gI h a6 4 1).bind fun x10 => if v1 < x10 then (f_X1_lawOf_L8 N v0 v1 v2 h n v3 v4 (v5 + 1)) else ((gI h a6 4 1).bind fun x12 => if x12 < v4 then (f_X1_lawOf_L8 N v0 v1 v2 h n v3 v4 (v5 + 1)) else ((gI h a6 4 1).bind fun x14 => f_X1_lawOf_L8 N v0 v1 v2 h n v5 x14 (v5 + 1)))))))
set_option maxRecDepth 100000 in
set_option maxHeartbeats 4000000 in
theorem s_X1_lawOf_L8 {d mc ms N : Nat} {vv : Option Value} {hh : zH} {v0 : Nat} {v1 : Int32} {v2 : Int32} {h : zH} (hd0 : 0 ≤ d) : ∀ (n : Nat) (v3 : Int32) (v4 : Int32) (v5 : Int32) (m : Int32), f_X1_lawOf_L8 N v0 v1 v2 h n v3 v4 v5 = some m → (zW yX1_lawOf cX1_lawOf 7 (some .int) d mc ms 82 [(3, .int m)] [] h vv hh) → zW yX1_lawOf cX1_lawOf 7 (some .int) d mc ms 8 [(0, .ref v0), (1, .int v1), (2, .int v2), (3, .int v3), (4, .int v4), (5, .int v5)] [] h vv hh := by
  intro n
  induction n with
  | zero =>
    intro v3 v4 v5 m H
    cases H
  | succ n ih =>
    intro v3 v4 v5 m H KE
    unfold f_X1_lawOf_L8 at H
    refine z_iload (pc := 8) 5 dX1_lawOf_8 rfl ?_
    refine z_aload_n (pc := 10) 0 dX1_lawOf_10 rfl rfl ?_
    obtain ⟨x1, ex1, H⟩ := zbind H
    refine z_getI (pc := 11) dX1_lawOf_11 fd_X1_26 ex1 ?_
    refine z_icmp_ge (pc := 14) 82 dX1_lawOf_14 (by decide) (fun c2 => ?_) (fun c2 => ?_)
    · rw [if_pos c2] at H
      cases H
      exact z_sub [3] rfl (KE)
    · rw [if_neg c2] at H
      refine z_iload (pc := 17) 5 dX1_lawOf_17 rfl ?_
      refine z_bipush (pc := 19) (x := 16) dX1_lawOf_19 zc_bipush_16 ?_
      refine z_icmp_ge (pc := 21) 82 dX1_lawOf_21 (by decide) (fun c3 => ?_) (fun c3 => ?_)
      · rw [if_pos c3] at H
        cases H
        exact z_sub [3] rfl (KE)
      · rw [if_neg c3] at H
        refine z_aload_n (pc := 24) 0 dX1_lawOf_24 rfl rfl ?_
        obtain ⟨r4, er4, H⟩ := zbind H
        refine z_getR (pc := 25) dX1_lawOf_25 fd_X1_13 er4 ?_
        refine z_iload (pc := 28) 5 dX1_lawOf_28 rfl ?_
        obtain ⟨x5, ex5, H⟩ := zbind H
        refine z_aaload (pc := 30) dX1_lawOf_30 ex5 ?_
        refine z_astoreQ (pc := 31) (lv' := [(6, va_rf x5), (0, .ref v0), (1, .int v1), (2, .int v2), (3, .int v3), (4, .int v4), (5, .int v5)]) dX1_lawOf_31 (by decide) rfl ?_
        refine z_aloadQ (pc := 33) 0 dX1_lawOf_33 rfl ?_
        refine z_ifnull (pc := 35) 76 dX1_lawOf_35 (by decide) (fun c7 => ?_) (fun a6 c7 => ?_)
        · subst c7
          have H := zoptN H
          refine z_iinc (pc := 76) (x' := v5 + 1) (lv' := [(5, .int (v5 + 1)), (6, va_rf none), (0, .ref v0), (1, .int v1), (2, .int v2), (3, .int v3), (4, .int v4)]) 6 dX1_lawOf_76 rfl (by rfl) (by decide) rfl ?_
          refine z_goto (pc := 79) 8 dX1_lawOf_79 (by decide) ?_
          exact z_sub [2, 3, 4, 5, 6, 0] rfl (ih v3 v4 (v5 + 1) _ H KE)
        · subst c7
          have H := zoptS H
          refine z_sub (lv' := [(6, .ref a6), (0, .ref v0), (1, .int v1), (2, .int v2), (3, .int v3), (4, .int v4), (5, .int v5)]) [0, 1, 2, 3, 4, 5, 6] rfl ?_
          refine z_aload (pc := 38) 0 dX1_lawOf_38 rfl ?_
          obtain ⟨x8, ex8, H⟩ := zbind H
          refine z_getI (pc := 40) dX1_lawOf_40 fd_X1_62 ex8 ?_
          refine z_iload_n (pc := 43) 3 dX1_lawOf_43 rfl rfl ?_
          refine z_icmp_gt (pc := 44) 76 dX1_lawOf_44 (by decide) (fun c9 => ?_) (fun c9 => ?_)
          · rw [if_pos c9] at H
            refine z_iinc (pc := 76) (x' := v5 + 1) (lv' := [(5, .int (v5 + 1)), (6, .ref a6), (0, .ref v0), (1, .int v1), (2, .int v2), (3, .int v3), (4, .int v4)]) 6 dX1_lawOf_76 rfl (by rfl) (by decide) rfl ?_
            refine z_goto (pc := 79) 8 dX1_lawOf_79 (by decide) ?_
            exact z_sub [2, 3, 4, 5, 6, 0] rfl (ih v3 v4 (v5 + 1) _ H KE)
          · rw [if_neg c9] at H
            refine z_aload (pc := 47) 0 dX1_lawOf_47 rfl ?_
            obtain ⟨x10, ex10, H⟩ := zbind H
            refine z_getI (pc := 49) dX1_lawOf_49 fd_X1_64 ex10 ?_
            refine z_iload_n (pc := 52) 2 dX1_lawOf_52 rfl rfl ?_
            refine z_icmp_gt (pc := 53) 76 dX1_lawOf_53 (by decide) (fun c11 => ?_) (fun c11 => ?_)
            · rw [if_pos c11] at H
              refine z_iinc (pc := 76) (x' := v5 + 1) (lv' := [(5, .int (v5 + 1)), (6, .ref a6), (0, .ref v0), (1, .int v1), (2, .int v2), (3, .int v3), (4, .int v4)]) 6 dX1_lawOf_76 rfl (by rfl) (by decide) rfl ?_
              refine z_goto (pc := 79) 8 dX1_lawOf_79 (by decide) ?_
              exact z_sub [2, 3, 4, 5, 6, 0] rfl (ih v3 v4 (v5 + 1) _ H KE)
            · rw [if_neg c11] at H
              refine z_aload (pc := 56) 0 dX1_lawOf_56 rfl ?_
              obtain ⟨x12, ex12, H⟩ := zbind H
              refine z_getI (pc := 58) dX1_lawOf_58 fd_X1_64 ex12 ?_
              refine z_iload (pc := 61) 5 dX1_lawOf_61 rfl ?_
              refine z_icmp_lt (pc := 63) 76 dX1_lawOf_63 (by decide) (fun c13 => ?_) (fun c13 => ?_)
              · rw [if_pos c13] at H
                refine z_iinc (pc := 76) (x' := v5 + 1) (lv' := [(5, .int (v5 + 1)), (6, .ref a6), (0, .ref v0), (1, .int v1), (2, .int v2), (3, .int v3), (4, .int v4)]) 6 dX1_lawOf_76 rfl (by rfl) (by decide) rfl ?_
                refine z_goto (pc := 79) 8 dX1_lawOf_79 (by decide) ?_
                exact z_sub [2, 3, 4, 5, 6, 0] rfl (ih v3 v4 (v5 + 1) _ H KE)
              · rw [if_neg c13] at H
                refine z_iload (pc := 66) 6 dX1_lawOf_66 rfl ?_
                refine z_istore_n (pc := 68) (lv' := [(3, .int v5), (6, .ref a6), (0, .ref v0), (1, .int v1), (2, .int v2), (4, .int v4), (5, .int v5)]) dX1_lawOf_68 rfl (by decide) rfl ?_
                refine z_aload (pc := 69) 1 dX1_lawOf_69 rfl ?_
                obtain ⟨x14, ex14, H⟩ := zbind H
                refine z_getI (pc := 71) dX1_lawOf_71 fd_X1_64 ex14 ?_
                refine z_istore (pc := 74) (lv' := [(4, .int x14), (3, .int v5), (6, .ref a6), (0, .ref v0), (1, .int v1), (2, .int v2), (5, .int v5)]) dX1_lawOf_74 (by decide) rfl ?_
                refine z_iinc (pc := 76) (x' := v5 + 1) (lv' := [(5, .int (v5 + 1)), (4, .int x14), (3, .int v5), (6, .ref a6), (0, .ref v0), (1, .int v1), (2, .int v2)]) 6 dX1_lawOf_76 rfl (by rfl) (by decide) rfl ?_
                refine z_goto (pc := 79) 8 dX1_lawOf_79 (by decide) ?_
                exact z_sub [4, 5, 6, 2, 1, 0] rfl (ih v5 x14 (v5 + 1) _ H KE)
def f_X1_lawOf (N : Nat) (v0 : Nat) (v1 : Int32) (v2 : Int32) (h : zH) : Option (Int32) := (f_X1_lawOf_L8 N v0 v1 v2 h N (-1) (-1) 0).bind fun m15 => some m15
set_option maxRecDepth 100000 in
set_option maxHeartbeats 4000000 in
theorem k_X1_lawOf {N : Nat} {v0 : Nat} {v1 : Int32} {v2 : Int32} {h : zH} {r : Int32} (H : f_X1_lawOf N v0 v1 v2 h = some r) : zOk 0 0 0 yX1_lawOf cX1_lawOf 7 (some .int) [.ref v0, .int v1, .int v2] h (some (.int r)) h := by
  refine zOk.of (by decide) (Nat.le_of_ble_eq_true rfl) ?_
  unfold f_X1_lawOf at H
  refine z_iconst (pc := 0) (x := (-1)) dX1_lawOf_0 zc_iconst_m1 ?_
  refine z_istore_n (pc := 1) (lv' := [(3, .int (-1)), (0, .ref v0), (1, .int v1), (2, .int v2)]) dX1_lawOf_1 rfl (by decide) rfl ?_
  refine z_iconst (pc := 2) (x := (-1)) dX1_lawOf_2 zc_iconst_m1 ?_
  refine z_istore (pc := 3) (lv' := [(4, .int (-1)), (3, .int (-1)), (0, .ref v0), (1, .int v1), (2, .int v2)]) dX1_lawOf_3 (by decide) rfl ?_
  refine z_iconst (pc := 5) (x := 0) dX1_lawOf_5 zc_iconst_0 ?_
  refine z_istore (pc := 6) (lv' := [(5, .int 0), (4, .int (-1)), (3, .int (-1)), (0, .ref v0), (1, .int v1), (2, .int v2)]) dX1_lawOf_6 (by decide) rfl ?_
  obtain ⟨m15, em15, H⟩ := zbind H
  refine z_sub [3, 4, 5, 2, 1, 0] rfl (s_X1_lawOf_L8 (by omega) N (-1) (-1) 0 _ em15 ?_)
  refine z_iload_n (pc := 82) 0 dX1_lawOf_82 rfl rfl ?_
  cases H
  exact z_ireturn rfl dX1_lawOf_83

theorem fd_X1_73 : zFd RX1 73 1 8 (.int) false "WhoseStreet$Book" := zFd.of cl_1 (by decide) (zmem 325 (by decide +kernel) rfl) rfl rfl rfl
def f_X1_pop (N : Nat) (v0 : Nat) (h : zH) : Option (Int32 × zH) := (gI h v0 1 8).bind fun x1 => if 0 < x1 then ((gI h v0 1 8).bind fun x3 => (pF h v0 1 8 (.int (x3 - 1))).bind fun h4 => (gR h4 v0 1 2).bind fun r5 => (gI h4 v0 1 8).bind fun x6 => (aI h4 r5 x6).bind fun x7 => some (x7, h4)) else (some (0, h))
set_option maxRecDepth 100000 in
set_option maxHeartbeats 4000000 in
theorem k_X1_pop {N : Nat} {v0 : Nat} {h : zH} {r : Int32 × zH} (H : f_X1_pop N v0 h = some r) : zOk 0 0 0 yX1_pop cX1_pop 1 (some .int) [.ref v0] h (some (.int r.1)) r.2 := by
  refine zOk.of (by decide) (Nat.le_of_ble_eq_true rfl) ?_
  unfold f_X1_pop at H
  refine z_aload_n (pc := 0) 0 dX1_pop_0 rfl rfl ?_
  obtain ⟨x1, ex1, H⟩ := zbind H
  refine z_getI (pc := 1) dX1_pop_1 fd_X1_73 ex1 ?_
  refine z_if_gt (pc := 4) 9 dX1_pop_4 (by decide) (fun c2 => ?_) (fun c2 => ?_)
  · rw [if_pos c2] at H
    refine z_aload_n (pc := 9) 0 dX1_pop_9 rfl rfl ?_
    refine z_dup (pc := 10) dX1_pop_10 rfl ?_
    obtain ⟨x3, ex3, H⟩ := zbind H
    refine z_getI (pc := 11) dX1_pop_11 fd_X1_73 ex3 ?_
    refine z_iconst (pc := 14) (x := 1) dX1_pop_14 zc_iconst_1 ?_
    refine z_isub (pc := 15) dX1_pop_15 ?_
    obtain ⟨h4, eh4, H⟩ := zbind H
    refine z_put (pc := 16) dX1_pop_16 fd_X1_73 rfl rfl eh4 ?_
    refine z_aload_n (pc := 19) 0 dX1_pop_19 rfl rfl ?_
    obtain ⟨r5, er5, H⟩ := zbind H
    refine z_getR (pc := 20) dX1_pop_20 fd_X1_23 er5 ?_
    refine z_aload_n (pc := 23) 0 dX1_pop_23 rfl rfl ?_
    obtain ⟨x6, ex6, H⟩ := zbind H
    refine z_getI (pc := 24) dX1_pop_24 fd_X1_73 ex6 ?_
    obtain ⟨x7, ex7, H⟩ := zbind H
    refine z_iaload (pc := 27) dX1_pop_27 ex7 ?_
    cases H
    exact z_ireturn rfl dX1_pop_28
  · rw [if_neg c2] at H
    refine z_iconst (pc := 7) (x := 0) dX1_pop_7 zc_iconst_0 ?_
    cases H
    exact z_ireturn rfl dX1_pop_8

def f_X1_push (N : Nat) (v0 : Nat) (v1 : Int32) (h : zH) : Option (zH) := (gI h v0 1 8).bind fun x1 => (gR h v0 1 2).bind fun r2 => (aN h r2).bind fun x3 => if x3 ≤ x1 then (some h) else ((gR h v0 1 2).bind fun r5 => (gI h v0 1 8).bind fun x6 => (sI h r5 x6 v1).bind fun h7 => (gI h7 v0 1 8).bind fun x8 => (pF h7 v0 1 8 (.int (x8 + 1))).bind fun h9 => some h9)
set_option maxRecDepth 100000 in
set_option maxHeartbeats 4000000 in
theorem k_X1_push {N : Nat} {v0 : Nat} {v1 : Int32} {h : zH} {r : zH} (H : f_X1_push N v0 v1 h = some r) : zOk 0 0 0 yX1_push cX1_push 2 none [.ref v0, .int v1] h none r := by
  refine zOk.of (by decide) (Nat.le_of_ble_eq_true rfl) ?_
  unfold f_X1_push at H
  refine z_aload_n (pc := 0) 0 dX1_push_0 rfl rfl ?_
  obtain ⟨x1, ex1, H⟩ := zbind H
  refine z_getI (pc := 1) dX1_push_1 fd_X1_73 ex1 ?_
  refine z_aload_n (pc := 4) 0 dX1_push_4 rfl rfl ?_
  obtain ⟨r2, er2, H⟩ := zbind H
  refine z_getR (pc := 5) dX1_push_5 fd_X1_23 er2 ?_
  obtain ⟨x3, ex3, H⟩ := zbind H
  refine z_alen (pc := 8) dX1_push_8 ex3 ?_
  refine z_icmp_ge (pc := 9) 32 dX1_push_9 (by decide) (fun c4 => ?_) (fun c4 => ?_)
  · rw [if_pos c4] at H
    cases H
    exact z_return rfl dX1_push_32
  · rw [if_neg c4] at H
    refine z_aload_n (pc := 12) 0 dX1_push_12 rfl rfl ?_
    obtain ⟨r5, er5, H⟩ := zbind H
    refine z_getR (pc := 13) dX1_push_13 fd_X1_23 er5 ?_
    refine z_aload_n (pc := 16) 0 dX1_push_16 rfl rfl ?_
    obtain ⟨x6, ex6, H⟩ := zbind H
    refine z_getI (pc := 17) dX1_push_17 fd_X1_73 ex6 ?_
    refine z_iload_n (pc := 20) 1 dX1_push_20 rfl rfl ?_
    obtain ⟨h7, eh7, H⟩ := zbind H
    refine z_iastore (pc := 21) dX1_push_21 eh7 ?_
    refine z_aload_n (pc := 22) 0 dX1_push_22 rfl rfl ?_
    refine z_dup (pc := 23) dX1_push_23 rfl ?_
    obtain ⟨x8, ex8, H⟩ := zbind H
    refine z_getI (pc := 24) dX1_push_24 fd_X1_73 ex8 ?_
    refine z_iconst (pc := 27) (x := 1) dX1_push_27 zc_iconst_1 ?_
    refine z_iadd (pc := 28) dX1_push_28 ?_
    obtain ⟨h9, eh9, H⟩ := zbind H
    refine z_put (pc := 29) dX1_push_29 fd_X1_73 rfl rfl eh9 ?_
    cases H
    exact z_return rfl dX1_push_32

