theorem md_X1_lawOf : zMd yX1_lawOf cX1_lawOf 7 2 (some .int) := ⟨zmw (zmt_4 _ (List.mem_of_getElem? (i := 105) rfl)) rfl, zmem 120 (by decide +kernel) rfl, by decide, by decide, by decide +kernel, by decide⟩
theorem ml_X1_39 : Cond.methodLink RX1 39 yX1_lawOf ∈ zB := zmem 933 (by decide +kernel) rfl
theorem im_X1_lawOf : Cond.instanceMethod yX1_lawOf ∈ zB := zmem 935 (by decide +kernel) rfl
theorem se_X1_lawOf : Cond.selects yX1_lawOf.cls yX1_lawOf yX1_lawOf ∈ zB := zmem 29 (by decide +kernel) rfl
theorem fd_X1_43 : zFd RX1 43 1 7 (.int) false "WhoseStreet$Book" := zFd.of cl_1 (by decide) (zmem 323 (by decide +kernel) rfl) rfl rfl rfl
theorem fd_X1_46 : zFd RX1 46 4 2 (.array .int) true "WhoseStreet$Law" := zFd.of cl_4 (by decide) (zmem 909 (by decide +kernel) rfl) rfl rfl rfl
theorem md_X1_workNamesAndLimit : zMd yX1_workNamesAndLimit cX1_workNamesAndLimit 7 2 none := ⟨zmw (zmt_4 _ (List.mem_of_getElem? (i := 109) rfl)) rfl, zmem 120 (by decide +kernel) rfl, by decide, by decide, by decide +kernel, by decide⟩
theorem ml_X1_55 : Cond.methodLink RX1 55 yX1_workNamesAndLimit ∈ zB := zmem 937 (by decide +kernel) rfl
theorem im_X1_workNamesAndLimit : Cond.instanceMethod yX1_workNamesAndLimit ∈ zB := zmem 939 (by decide +kernel) rfl
theorem se_X1_workNamesAndLimit : Cond.selects yX1_workNamesAndLimit.cls yX1_workNamesAndLimit yX1_workNamesAndLimit ∈ zB := zmem 30 (by decide +kernel) rfl
theorem md_X1_findFault : zMd yX1_findFault cX1_findFault 6 2 none := ⟨zmw (zmt_4 _ (List.mem_of_getElem? (i := 137) rfl)) rfl, zmem 120 (by decide +kernel) rfl, by decide, by decide, by decide +kernel, by decide⟩
theorem ml_X1_59 : Cond.methodLink RX1 59 yX1_findFault ∈ zB := zmem 965 (by decide +kernel) rfl
theorem im_X1_findFault : Cond.instanceMethod yX1_findFault ∈ zB := zmem 967 (by decide +kernel) rfl
theorem se_X1_findFault : Cond.selects yX1_findFault.cls yX1_findFault yX1_findFault ∈ zB := zmem 36 (by decide +kernel) rfl
def f_X1_judge (N : Nat) (v0 : Nat) (v1 : Nat) (v2 : Int32) (v3 : Int32) (h : zH) : Option (zH) := (pF h v0 1 4 (.int 0)).bind fun h1 => (pF h1 v0 1 5 (.int (-1))).bind fun h2 => (pF h2 v0 1 6 (.int 0)).bind fun h3 => zif (zob h3 v0 1) <| (f_X1_lawOf N v0 v2 v3 h3).bind fun q5 => (pF h3 v0 1 7 (.int q5)).bind fun h6 => (gI h6 v0 1 7).bind fun x7 => if x7 < 0 then (some h6) else ((gI h6 v0 1 7).bind fun x9 => if 16 ≤ x9 then (some h6) else ((gR h6 v0 1 0).bind fun r11 => (gI h6 v0 1 7).bind fun x12 => (aQ h6 r11 x12).bind fun x13 => zopt x13 (some h6) (fun a14 => (gR h6 v0 1 0).bind fun r16 => (gI h6 v0 1 7).bind fun x17 => (aQ h6 r16 x17).bind fun x18 => x18.bind fun a19 => (gR h6 a19 4 2).bind fun r20 => (pF h6 v0 1 9 (.int v2)).bind fun h21 => (pF h21 v0 1 10 (.int 0)).bind fun h22 => zif (zob h22 v0 1) <| (f_X1_workNamesAndLimit N v0 r20 v1 h22).bind fun h24 => (gI h24 v0 1 6).bind fun x25 => (pF h24 v0 1 10 (.int x25)).bind fun h26 => zif (zob h26 v0 1) <| (f_X1_findFault N v0 r20 v1 h26).bind fun h28 => some h28)))
set_option maxRecDepth 100000 in
set_option maxHeartbeats 4000000 in
theorem k_X1_judge {N : Nat} {v0 : Nat} {v1 : Nat} {v2 : Int32} {v3 : Int32} {h : zH} {r : zH} (H : f_X1_judge N v0 v1 v2 v3 h = some r) : zOk 6 0 0 yX1_judge cX1_judge 5 none [.ref v0, .ref v1, .int v2, .int v3] h none r := by
  refine zOk.of (by decide) (Nat.le_of_ble_eq_true rfl) ?_
  unfold f_X1_judge at H
  refine z_aload_n (pc := 0) 0 dX1_judge_0 rfl rfl ?_
  refine z_iconst (pc := 1) (x := 0) dX1_judge_1 zc_iconst_0 ?_
  obtain ⟨h1, eh1, H⟩ := zbind H
  refine z_put (pc := 2) dX1_judge_2 fd_X1_30 rfl rfl eh1 ?_
  refine z_aload_n (pc := 5) 0 dX1_judge_5 rfl rfl ?_
  refine z_iconst (pc := 6) (x := (-1)) dX1_judge_6 zc_iconst_m1 ?_
  obtain ⟨h2, eh2, H⟩ := zbind H
  refine z_put (pc := 7) dX1_judge_7 fd_X1_33 rfl rfl eh2 ?_
  refine z_aload_n (pc := 10) 0 dX1_judge_10 rfl rfl ?_
  refine z_iconst (pc := 11) (x := 0) dX1_judge_11 zc_iconst_0 ?_
  obtain ⟨h3, eh3, H⟩ := zbind H
  refine z_put (pc := 12) dX1_judge_12 fd_X1_36 rfl rfl eh3 ?_
  refine z_aload_n (pc := 15) 0 dX1_judge_15 rfl rfl ?_
  refine z_aload_n (pc := 16) 0 dX1_judge_16 rfl rfl ?_
  refine z_iload_n (pc := 17) 2 dX1_judge_17 rfl rfl ?_
  refine z_iload_n (pc := 18) 3 dX1_judge_18 rfl rfl ?_
  obtain ⟨z4, H⟩ := zifE H
  obtain ⟨q5, eq5, H⟩ := zbind H
  refine z_callV (pc := 19) (mc := 0) (ms := 0) (d' := 0) (mc' := 0) (ms' := 0) (rest := [.ref v0]) [.int v2, .int v3] dX1_judge_19 md_X1_lawOf ml_X1_39 im_X1_lawOf se_X1_lawOf rfl z4 rfl rfl (Nat.le_of_ble_eq_true rfl) (by omega) (k_X1_lawOf eq5) ?_
  obtain ⟨h6, eh6, H⟩ := zbind H
  refine z_put (pc := 22) dX1_judge_22 fd_X1_43 rfl rfl eh6 ?_
  refine z_aload_n (pc := 25) 0 dX1_judge_25 rfl rfl ?_
  obtain ⟨x7, ex7, H⟩ := zbind H
  refine z_getI (pc := 26) dX1_judge_26 fd_X1_43 ex7 ?_
  refine z_if_lt (pc := 29) 53 dX1_judge_29 (by decide) (fun c8 => ?_) (fun c8 => ?_)
  · rw [if_pos c8] at H
    cases H
    exact z_return rfl dX1_judge_53
  · rw [if_neg c8] at H
    refine z_aload_n (pc := 32) 0 dX1_judge_32 rfl rfl ?_
    obtain ⟨x9, ex9, H⟩ := zbind H
    refine z_getI (pc := 33) dX1_judge_33 fd_X1_43 ex9 ?_
    refine z_bipush (pc := 36) (x := 16) dX1_judge_36 zc_bipush_16 ?_
    refine z_icmp_ge (pc := 38) 53 dX1_judge_38 (by decide) (fun c10 => ?_) (fun c10 => ?_)
    · rw [if_pos c10] at H
      cases H
      exact z_return rfl dX1_judge_53
    · rw [if_neg c10] at H
      refine z_aload_n (pc := 41) 0 dX1_judge_41 rfl rfl ?_
      obtain ⟨r11, er11, H⟩ := zbind H
      refine z_getR (pc := 42) dX1_judge_42 fd_X1_13 er11 ?_
      refine z_aload_n (pc := 45) 0 dX1_judge_45 rfl rfl ?_
      obtain ⟨x12, ex12, H⟩ := zbind H
      refine z_getI (pc := 46) dX1_judge_46 fd_X1_43 ex12 ?_
      obtain ⟨x13, ex13, H⟩ := zbind H
      refine z_aaload (pc := 49) dX1_judge_49 ex13 ?_
      refine z_ifnonnull (pc := 50) 54 dX1_judge_50 (by decide) (fun a14 c15 => ?_) (fun c15 => ?_)
      · subst c15
        have H := zoptS H
        refine z_aload_n (pc := 54) 0 dX1_judge_54 rfl rfl ?_
        obtain ⟨r16, er16, H⟩ := zbind H
        refine z_getR (pc := 55) dX1_judge_55 fd_X1_13 er16 ?_
        refine z_aload_n (pc := 58) 0 dX1_judge_58 rfl rfl ?_
        obtain ⟨x17, ex17, H⟩ := zbind H
        refine z_getI (pc := 59) dX1_judge_59 fd_X1_43 ex17 ?_
        obtain ⟨x18, ex18, H⟩ := zbind H
        refine z_aaload (pc := 62) dX1_judge_62 ex18 ?_
        obtain ⟨a19, ea19, H⟩ := zbind H
        refine z_nmQ ea19 ?_
        obtain ⟨r20, er20, H⟩ := zbind H
        refine z_getR (pc := 63) dX1_judge_63 fd_X1_46 er20 ?_
        refine z_astore (pc := 66) (lv' := [(4, .ref r20), (0, .ref v0), (1, .ref v1), (2, .int v2), (3, .int v3)]) dX1_judge_66 (by decide) rfl ?_
        refine z_aload_n (pc := 68) 1 dX1_judge_68 rfl rfl ?_
        refine z_iload_n (pc := 69) 3 dX1_judge_69 rfl rfl ?_
        obtain ⟨h21, eh21, H⟩ := zbind H
        refine z_put (pc := 70) dX1_judge_70 fd_X1_49 rfl rfl eh21 ?_
        refine z_aload_n (pc := 73) 1 dX1_judge_73 rfl rfl ?_
        refine z_iconst (pc := 74) (x := 0) dX1_judge_74 zc_iconst_0 ?_
        obtain ⟨h22, eh22, H⟩ := zbind H
        refine z_put (pc := 75) dX1_judge_75 fd_X1_52 rfl rfl eh22 ?_
        refine z_aload_n (pc := 78) 1 dX1_judge_78 rfl rfl ?_
        refine z_aload (pc := 79) 0 dX1_judge_79 rfl ?_
        refine z_aload_n (pc := 81) 2 dX1_judge_81 rfl rfl ?_
        obtain ⟨z23, H⟩ := zifE H
        obtain ⟨h24, eh24, H⟩ := zbind H
        refine z_callV (pc := 82) (mc := 0) (ms := 0) (d' := 5) (mc' := 0) (ms' := 0) (rest := []) [.ref r20, .ref v1] dX1_judge_82 md_X1_workNamesAndLimit ml_X1_55 im_X1_workNamesAndLimit se_X1_workNamesAndLimit rfl z23 rfl rfl (Nat.le_of_ble_eq_true rfl) (by omega) (k_X1_workNamesAndLimit eh24) ?_
        refine z_aload_n (pc := 85) 1 dX1_judge_85 rfl rfl ?_
        refine z_aload_n (pc := 86) 1 dX1_judge_86 rfl rfl ?_
        obtain ⟨x25, ex25, H⟩ := zbind H
        refine z_getI (pc := 87) dX1_judge_87 fd_X1_36 ex25 ?_
        obtain ⟨h26, eh26, H⟩ := zbind H
        refine z_put (pc := 90) dX1_judge_90 fd_X1_52 rfl rfl eh26 ?_
        refine z_aload_n (pc := 93) 1 dX1_judge_93 rfl rfl ?_
        refine z_aload (pc := 94) 0 dX1_judge_94 rfl ?_
        refine z_aload_n (pc := 96) 2 dX1_judge_96 rfl rfl ?_
        obtain ⟨z27, H⟩ := zifE H
        obtain ⟨h28, eh28, H⟩ := zbind H
        refine z_callV (pc := 97) (mc := 0) (ms := 0) (d' := 5) (mc' := 0) (ms' := 0) (rest := []) [.ref r20, .ref v1] dX1_judge_97 md_X1_findFault ml_X1_59 im_X1_findFault se_X1_findFault rfl z27 rfl rfl (Nat.le_of_ble_eq_true rfl) (by omega) (k_X1_findFault eh28) ?_
        cases H
        exact z_return rfl dX1_judge_100
      · subst c15
        have H := zoptN H
        cases H
        exact z_return rfl dX1_judge_53

theorem ml_X2_3 : Cond.methodLink RX2 3 objectInit ∈ zB := zmem 388 (by decide +kernel) rfl
theorem fd_X2_11 : zFd RX2 11 2 0 (.array .int) true "WhoseStreet$Corner" := zFd.of cl_2 (by decide) (zmem 389 (by decide +kernel) rfl) rfl rfl rfl
theorem fd_X2_15 : zFd RX2 15 2 1 (.array .int) true "WhoseStreet$Corner" := zFd.of cl_2 (by decide) (zmem 390 (by decide +kernel) rfl) rfl rfl rfl
theorem fd_X2_18 : zFd RX2 18 2 2 (.array .int) true "WhoseStreet$Corner" := zFd.of cl_2 (by decide) (zmem 391 (by decide +kernel) rfl) rfl rfl rfl
theorem fd_X2_21 : zFd RX2 21 2 3 (.array .int) true "WhoseStreet$Corner" := zFd.of cl_2 (by decide) (zmem 392 (by decide +kernel) rfl) rfl rfl rfl
def f_X2_init (N : Nat) (v0 : Nat) (h : zH) : Option (zH) := zlet (znew h (zblank 0 4) : zH) fun h1 => (pF h1 v0 2 0 (.ref h.1.1)).bind fun h2 => zlet (znew h2 (zblank 0 4) : zH) fun h3 => (pF h3 v0 2 1 (.ref h2.1.1)).bind fun h4 => zlet (znew h4 (zblank 0 4) : zH) fun h5 => (pF h5 v0 2 2 (.ref h4.1.1)).bind fun h6 => zlet (znew h6 (zblank 0 4) : zH) fun h7 => (pF h7 v0 2 3 (.ref h6.1.1)).bind fun h8 => some h8
set_option maxRecDepth 100000 in
set_option maxHeartbeats 4000000 in
theorem k_X2_init {N : Nat} {v0 : Nat} {h : zH} {r : zH} (H : f_X2_init N v0 h = some r) : zOk 1 4 16 yX2_init cX2_init 1 none [.ref v0] h none r := by
  refine zOk.of (by decide) (Nat.le_of_ble_eq_true rfl) ?_
  unfold f_X2_init at H
  refine z_aload_n (pc := 0) 0 dX2_init_0 rfl rfl ?_
  refine z_objInit (pc := 1) dX2_init_1 ml_X2_3 im_object cd_object (by omega) (Nat.le_of_ble_eq_true rfl) ?_
  refine z_aload_n (pc := 4) 0 dX2_init_4 rfl rfl ?_
  refine z_iconst (pc := 5) (x := 4) dX2_init_5 zc_iconst_4 ?_
  refine z_newarray (pc := 6) (mc := 3) (ms := 12) (N := 4) 0 (by decide) dX2_init_6 rfl ac_int (by decide) (by decide) (by decide) ?_
  obtain ⟨h1, eh1, H⟩ := zletE H
  refine z_nmH eh1 ?_
  obtain ⟨h2, eh2, H⟩ := zbind H
  refine z_putF (pc := 8) dX2_init_8 fd_X2_11 rfl rfl rfl eh2 ?_
  refine z_aload_n (pc := 11) 0 dX2_init_11 rfl rfl ?_
  refine z_iconst (pc := 12) (x := 4) dX2_init_12 zc_iconst_4 ?_
  refine z_newarray (pc := 13) (mc := 2) (ms := 8) (N := 4) 0 (by decide) dX2_init_13 rfl ac_int (by decide) (by decide) (by decide) ?_
  obtain ⟨h3, eh3, H⟩ := zletE H
  refine z_nmH eh3 ?_
  obtain ⟨h4, eh4, H⟩ := zbind H
  refine z_putF (pc := 15) dX2_init_15 fd_X2_15 rfl rfl rfl eh4 ?_
  refine z_aload_n (pc := 18) 0 dX2_init_18 rfl rfl ?_
  refine z_iconst (pc := 19) (x := 4) dX2_init_19 zc_iconst_4 ?_
  refine z_newarray (pc := 20) (mc := 1) (ms := 4) (N := 4) 0 (by decide) dX2_init_20 rfl ac_int (by decide) (by decide) (by decide) ?_
  obtain ⟨h5, eh5, H⟩ := zletE H
  refine z_nmH eh5 ?_
  obtain ⟨h6, eh6, H⟩ := zbind H
  refine z_putF (pc := 22) dX2_init_22 fd_X2_18 rfl rfl rfl eh6 ?_
  refine z_aload_n (pc := 25) 0 dX2_init_25 rfl rfl ?_
  refine z_iconst (pc := 26) (x := 4) dX2_init_26 zc_iconst_4 ?_
  refine z_newarray (pc := 27) (mc := 0) (ms := 0) (N := 4) 0 (by decide) dX2_init_27 rfl ac_int (by decide) (by decide) (by decide) ?_
  obtain ⟨h7, eh7, H⟩ := zletE H
  refine z_nmH eh7 ?_
  obtain ⟨h8, eh8, H⟩ := zbind H
  refine z_putF (pc := 29) dX2_init_29 fd_X2_21 rfl rfl rfl eh8 ?_
  cases H
  exact z_return rfl dX2_init_32

def p_X2_isStream (v0 : Int32) : Int32 := if v0 < 0 then (0) else (if 4 ≤ v0 then (0) else (1))
set_option maxRecDepth 100000 in
set_option maxHeartbeats 4000000 in
theorem k_X2_isStream (v0 : Int32) (h : zH) (r : Int32) (H : p_X2_isStream v0 = r) : zOk 0 0 0 yX2_isStream cX2_isStream 1 (some .boolean) [.int v0] h (some (.int r)) h := by
  refine zOk.of (by decide) (Nat.le_of_ble_eq_true rfl) ?_
  unfold p_X2_isStream at H
  refine z_iload_n (pc := 0) 0 dX2_isStream_0 rfl rfl ?_
  refine z_if_lt (pc := 1) 13 dX2_isStream_1 (by decide) (fun c1 => ?_) (fun c1 => ?_)
  · rw [if_pos c1] at H
    refine z_iconst (pc := 13) (x := 0) dX2_isStream_13 zc_iconst_0 ?_
    subst H
    exact z_zreturn rfl dX2_isStream_14 (by decide)
  · rw [if_neg c1] at H
    refine z_iload_n (pc := 4) 0 dX2_isStream_4 rfl rfl ?_
    refine z_iconst (pc := 5) (x := 4) dX2_isStream_5 zc_iconst_4 ?_
    refine z_icmp_ge (pc := 6) 13 dX2_isStream_6 (by decide) (fun c2 => ?_) (fun c2 => ?_)
    · rw [if_pos c2] at H
      refine z_iconst (pc := 13) (x := 0) dX2_isStream_13 zc_iconst_0 ?_
      subst H
      exact z_zreturn rfl dX2_isStream_14 (by decide)
    · rw [if_neg c2] at H
      refine z_iconst (pc := 9) (x := 1) dX2_isStream_9 zc_iconst_1 ?_
      refine z_goto (pc := 10) 14 dX2_isStream_10 (by decide) ?_
      subst H
      exact z_zreturn rfl dX2_isStream_14 (by decide)

theorem md_X2_isStream : zMd yX2_isStream cX2_isStream 1 1 (some .boolean) := ⟨zmw (zmt_4 _ (List.mem_of_getElem? (i := 212) rfl)) rfl, zmem 122 (by decide +kernel) rfl, by decide, by decide, by decide +kernel, by decide⟩
theorem ml_X2_24 : Cond.methodLink RX2 24 yX2_isStream ∈ zB := zmem 1041 (by decide +kernel) rfl
theorem sm_X2_isStream : Cond.static yX2_isStream ∈ zB := zmem 1042 (by decide +kernel) rfl
def f_X2_tell (N : Nat) (v0 : Nat) (v1 : Int32) (v2 : Int32) (v3 : Int32) (h : zH) : Option (zH) := if (p_X2_isStream v1) = 0 then (some h) else ((gR h v0 2 0).bind fun r2 => (sI h r2 v1 v2).bind fun h3 => (gR h3 v0 2 1).bind fun r4 => (sI h3 r4 v1 v3).bind fun h5 => some h5)
set_option maxRecDepth 100000 in
set_option maxHeartbeats 4000000 in
theorem k_X2_tell {N : Nat} {v0 : Nat} {v1 : Int32} {v2 : Int32} {v3 : Int32} {h : zH} {r : zH} (H : f_X2_tell N v0 v1 v2 v3 h = some r) : zOk 1 0 0 yX2_tell cX2_tell 4 none [.ref v0, .int v1, .int v2, .int v3] h none r := by
  refine zOk.of (by decide) (Nat.le_of_ble_eq_true rfl) ?_
  unfold f_X2_tell at H
  refine z_iload_n (pc := 0) 1 dX2_tell_0 rfl rfl ?_
  refine z_callS (pc := 1) (mc := 0) (ms := 0) (d' := 0) (mc' := 0) (ms' := 0) (rest := []) [.int v1] dX2_tell_1 md_X2_isStream ml_X2_24 sm_X2_isStream rfl rfl (Nat.le_of_ble_eq_true rfl) (by omega) (k_X2_isStream v1 h _ rfl) ?_
  refine z_if_eq (pc := 4) 21 dX2_tell_4 (by decide) (fun c1 => ?_) (fun c1 => ?_)
  · rw [if_pos c1] at H
    cases H
    exact z_return rfl dX2_tell_21
  · rw [if_neg c1] at H
    refine z_aload_n (pc := 7) 0 dX2_tell_7 rfl rfl ?_
    obtain ⟨r2, er2, H⟩ := zbind H
    refine z_getR (pc := 8) dX2_tell_8 fd_X2_11 er2 ?_
    refine z_iload_n (pc := 11) 1 dX2_tell_11 rfl rfl ?_
    refine z_iload_n (pc := 12) 2 dX2_tell_12 rfl rfl ?_
    obtain ⟨h3, eh3, H⟩ := zbind H
    refine z_iastore (pc := 13) dX2_tell_13 eh3 ?_
    refine z_aload_n (pc := 14) 0 dX2_tell_14 rfl rfl ?_
    obtain ⟨r4, er4, H⟩ := zbind H
    refine z_getR (pc := 15) dX2_tell_15 fd_X2_15 er4 ?_
    refine z_iload_n (pc := 18) 1 dX2_tell_18 rfl rfl ?_
    refine z_iload_n (pc := 19) 3 dX2_tell_19 rfl rfl ?_
    obtain ⟨h5, eh5, H⟩ := zbind H
    refine z_iastore (pc := 20) dX2_tell_20 eh5 ?_
    cases H
    exact z_return rfl dX2_tell_21

def f_X2_pair (N : Nat) (v0 : Nat) (v1 : Int32) (v2 : Int32) (v3 : Int32) (h : zH) : Option (zH) := if (p_X2_isStream v1) = 0 then (some h) else ((gR h v0 2 2).bind fun r2 => if v3 = 0 then ((gR h v0 2 2).bind fun r4 => (aI h r4 v1).bind fun x5 => (sI h r2 v1 (x5 &&& ((1 <<< (v2 &&& 31)) ^^^ (-1)))).bind fun h6 => some h6) else ((gR h v0 2 2).bind fun r7 => (aI h r7 v1).bind fun x8 => (sI h r2 v1 (x8 ||| (1 <<< (v2 &&& 31)))).bind fun h9 => some h9))
set_option maxRecDepth 100000 in
set_option maxHeartbeats 4000000 in
theorem k_X2_pair {N : Nat} {v0 : Nat} {v1 : Int32} {v2 : Int32} {v3 : Int32} {h : zH} {r : zH} (H : f_X2_pair N v0 v1 v2 v3 h = some r) : zOk 1 0 0 yX2_pair cX2_pair 4 none [.ref v0, .int v1, .int v2, .int v3] h none r := by
  refine zOk.of (by decide) (Nat.le_of_ble_eq_true rfl) ?_
  unfold f_X2_pair at H
  refine z_iload_n (pc := 0) 1 dX2_pair_0 rfl rfl ?_
  refine z_callS (pc := 1) (mc := 0) (ms := 0) (d' := 0) (mc' := 0) (ms' := 0) (rest := []) [.int v1] dX2_pair_1 md_X2_isStream ml_X2_24 sm_X2_isStream rfl rfl (Nat.le_of_ble_eq_true rfl) (by omega) (k_X2_isStream v1 h _ rfl) ?_
  refine z_if_eq (pc := 4) 42 dX2_pair_4 (by decide) (fun c1 => ?_) (fun c1 => ?_)
  · rw [if_pos c1] at H
    cases H
    exact z_return rfl dX2_pair_42
  · rw [if_neg c1] at H
    refine z_aload_n (pc := 7) 0 dX2_pair_7 rfl rfl ?_
    obtain ⟨r2, er2, H⟩ := zbind H
    refine z_getR (pc := 8) dX2_pair_8 fd_X2_18 er2 ?_
    refine z_iload_n (pc := 11) 1 dX2_pair_11 rfl rfl ?_
    refine z_iload_n (pc := 12) 3 dX2_pair_12 rfl rfl ?_
    refine z_if_eq (pc := 13) 29 dX2_pair_13 (by decide) (fun c3 => ?_) (fun c3 => ?_)
    · rw [if_pos c3] at H
      refine z_aload_n (pc := 29) 0 dX2_pair_29 rfl rfl ?_
      obtain ⟨r4, er4, H⟩ := zbind H
      refine z_getR (pc := 30) dX2_pair_30 fd_X2_18 er4 ?_
      refine z_iload_n (pc := 33) 1 dX2_pair_33 rfl rfl ?_
      obtain ⟨x5, ex5, H⟩ := zbind H
      refine z_iaload (pc := 34) dX2_pair_34 ex5 ?_
      refine z_iconst (pc := 35) (x := 1) dX2_pair_35 zc_iconst_1 ?_
      refine z_iload_n (pc := 36) 2 dX2_pair_36 rfl rfl ?_
      refine z_ishl (pc := 37) dX2_pair_37 ?_
      refine z_iconst (pc := 38) (x := (-1)) dX2_pair_38 zc_iconst_m1 ?_
      refine z_ixor (pc := 39) dX2_pair_39 ?_
      refine z_iand (pc := 40) dX2_pair_40 ?_
      obtain ⟨h6, eh6, H⟩ := zbind H
      refine z_iastore (pc := 41) dX2_pair_41 eh6 ?_
      cases H
      exact z_return rfl dX2_pair_42
    · rw [if_neg c3] at H
      refine z_aload_n (pc := 16) 0 dX2_pair_16 rfl rfl ?_
      obtain ⟨r7, er7, H⟩ := zbind H
      refine z_getR (pc := 17) dX2_pair_17 fd_X2_18 er7 ?_
      refine z_iload_n (pc := 20) 1 dX2_pair_20 rfl rfl ?_
      obtain ⟨x8, ex8, H⟩ := zbind H
      refine z_iaload (pc := 21) dX2_pair_21 ex8 ?_
      refine z_iconst (pc := 22) (x := 1) dX2_pair_22 zc_iconst_1 ?_
      refine z_iload_n (pc := 23) 2 dX2_pair_23 rfl rfl ?_
      refine z_ishl (pc := 24) dX2_pair_24 ?_
      refine z_ior (pc := 25) dX2_pair_25 ?_
      refine z_goto (pc := 26) 41 dX2_pair_26 (by decide) ?_
      obtain ⟨h9, eh9, H⟩ := zbind H
      refine z_iastore (pc := 41) dX2_pair_41 eh9 ?_
      cases H
      exact z_return rfl dX2_pair_42

def f_X2_isTold (N : Nat) (v0 : Nat) (v1 : Int32) (h : zH) : Option (Int32) := if (p_X2_isStream v1) = 0 then (some 0) else ((gR h v0 2 0).bind fun r2 => (aI h r2 v1).bind fun x3 => if x3 ≤ 0 then (some 0) else (some 1))
set_option maxRecDepth 100000 in
set_option maxHeartbeats 4000000 in
theorem k_X2_isTold {N : Nat} {v0 : Nat} {v1 : Int32} {h : zH} {r : Int32} (H : f_X2_isTold N v0 v1 h = some r) : zOk 1 0 0 yX2_isTold cX2_isTold 2 (some .boolean) [.ref v0, .int v1] h (some (.int r)) h := by
  refine zOk.of (by decide) (Nat.le_of_ble_eq_true rfl) ?_
  unfold f_X2_isTold at H
  refine z_iload_n (pc := 0) 1 dX2_isTold_0 rfl rfl ?_
  refine z_callS (pc := 1) (mc := 0) (ms := 0) (d' := 0) (mc' := 0) (ms' := 0) (rest := []) [.int v1] dX2_isTold_1 md_X2_isStream ml_X2_24 sm_X2_isStream rfl rfl (Nat.le_of_ble_eq_true rfl) (by omega) (k_X2_isStream v1 h _ rfl) ?_
  refine z_if_eq (pc := 4) 20 dX2_isTold_4 (by decide) (fun c1 => ?_) (fun c1 => ?_)
  · rw [if_pos c1] at H
    refine z_iconst (pc := 20) (x := 0) dX2_isTold_20 zc_iconst_0 ?_
    cases H
    exact z_zreturn rfl dX2_isTold_21 (by decide)
  · rw [if_neg c1] at H
    refine z_aload_n (pc := 7) 0 dX2_isTold_7 rfl rfl ?_
    obtain ⟨r2, er2, H⟩ := zbind H
    refine z_getR (pc := 8) dX2_isTold_8 fd_X2_11 er2 ?_
    refine z_iload_n (pc := 11) 1 dX2_isTold_11 rfl rfl ?_
    obtain ⟨x3, ex3, H⟩ := zbind H
    refine z_iaload (pc := 12) dX2_isTold_12 ex3 ?_
    refine z_if_le (pc := 13) 20 dX2_isTold_13 (by decide) (fun c4 => ?_) (fun c4 => ?_)
    · rw [if_pos c4] at H
      refine z_iconst (pc := 20) (x := 0) dX2_isTold_20 zc_iconst_0 ?_
      cases H
      exact z_zreturn rfl dX2_isTold_21 (by decide)
    · rw [if_neg c4] at H
      refine z_iconst (pc := 16) (x := 1) dX2_isTold_16 zc_iconst_1 ?_
      refine z_goto (pc := 17) 21 dX2_isTold_17 (by decide) ?_
      cases H
      exact z_zreturn rfl dX2_isTold_21 (by decide)

theorem md_X2_isTold : zMd yX2_isTold cX2_isTold 2 1 (some .boolean) := ⟨zmw (zmt_4 _ (List.mem_of_getElem? (i := 236) rfl)) rfl, zmem 122 (by decide +kernel) rfl, by decide, by decide, by decide +kernel, by decide⟩
theorem ml_X2_28 : Cond.methodLink RX2 28 yX2_isTold ∈ zB := zmem 1064 (by decide +kernel) rfl
theorem im_X2_isTold : Cond.instanceMethod yX2_isTold ∈ zB := zmem 1065 (by decide +kernel) rfl
theorem se_X2_isTold : Cond.selects yX2_isTold.cls yX2_isTold yX2_isTold ∈ zB := zmem 1066 (by decide +kernel) rfl
def f_X2_streams_L4 (N : Nat) (v0 : Nat) (h : zH) : Nat → Int32 → Int32 → Option (Int32)
  | 0, _, _ => none
  | n + 1, v1, v2 => if 4 ≤ v2 then (some v1) else (zif (zob h v0 2) <| (f_X2_isTold N v0 v2 h).bind fun q3 => if q3 = 0 then (f_X2_streams_L4 N v0 h n v1 (v2 + 1)) else (f_X2_streams_L4 N v0 h n (v1 + 1) (v2 + 1)))
set_option maxRecDepth 100000 in
set_option maxHeartbeats 4000000 in
theorem s_X2_streams_L4 {d mc ms N : Nat} {vv : Option Value} {hh : zH} {v0 : Nat} {h : zH} (hd0 : 2 ≤ d) : ∀ (n : Nat) (v1 : Int32) (v2 : Int32) (m : Int32), f_X2_streams_L4 N v0 h n v1 v2 = some m → (zW yX2_streams cX2_streams 3 (some .int) d mc ms 26 [(1, .int m)] [] h vv hh) → zW yX2_streams cX2_streams 3 (some .int) d mc ms 4 [(0, .ref v0), (1, .int v1), (2, .int v2)] [] h vv hh := by
  intro n
  induction n with
  | zero =>
    intro v1 v2 m H
    cases H
  | succ n ih =>
    intro v1 v2 m H KE
    unfold f_X2_streams_L4 at H
    refine z_iload_n (pc := 4) 2 dX2_streams_4 rfl rfl ?_
    refine z_iconst (pc := 5) (x := 4) dX2_streams_5 zc_iconst_4 ?_
    refine z_icmp_ge (pc := 6) 26 dX2_streams_6 (by decide) (fun c1 => ?_) (fun c1 => ?_)
    · rw [if_pos c1] at H
      cases H
      exact z_sub [1] rfl (KE)
    · rw [if_neg c1] at H
      refine z_aload_n (pc := 9) 0 dX2_streams_9 rfl rfl ?_
      refine z_iload_n (pc := 10) 2 dX2_streams_10 rfl rfl ?_
      obtain ⟨z2, H⟩ := zifE H
      obtain ⟨q3, eq3, H⟩ := zbind H
      refine z_callV (pc := 11) (mc := mc) (ms := ms) (d' := 1) (mc' := 0) (ms' := 0) (rest := []) [.int v2] dX2_streams_11 md_X2_isTold ml_X2_28 im_X2_isTold se_X2_isTold rfl z2 rfl rfl (Nat.le_of_ble_eq_true rfl) (by omega) (k_X2_isTold eq3) ?_
      refine z_if_eq (pc := 14) 20 dX2_streams_14 (by decide) (fun c4 => ?_) (fun c4 => ?_)
      · rw [if_pos c4] at H
        refine z_iinc (pc := 20) (x' := v2 + 1) (lv' := [(2, .int (v2 + 1)), (0, .ref v0), (1, .int v1)]) 2 dX2_streams_20 rfl (by rfl) (by decide) rfl ?_
        refine z_goto (pc := 23) 4 dX2_streams_23 (by decide) ?_
        exact z_sub [1, 2, 0] rfl (ih v1 (v2 + 1) _ H KE)
      · rw [if_neg c4] at H
        refine z_iinc (pc := 17) (x' := v1 + 1) (lv' := [(1, .int (v1 + 1)), (0, .ref v0), (2, .int v2)]) 1 dX2_streams_17 rfl (by rfl) (by decide) rfl ?_
        refine z_iinc (pc := 20) (x' := v2 + 1) (lv' := [(2, .int (v2 + 1)), (1, .int (v1 + 1)), (0, .ref v0)]) 2 dX2_streams_20 rfl (by rfl) (by decide) rfl ?_
        refine z_goto (pc := 23) 4 dX2_streams_23 (by decide) ?_
        exact z_sub [2, 1, 0] rfl (ih (v1 + 1) (v2 + 1) _ H KE)
def f_X2_streams (N : Nat) (v0 : Nat) (h : zH) : Option (Int32) := (f_X2_streams_L4 N v0 h N 0 0).bind fun m5 => some m5
set_option maxRecDepth 100000 in
set_option maxHeartbeats 4000000 in
theorem k_X2_streams {N : Nat} {v0 : Nat} {h : zH} {r : Int32} (H : f_X2_streams N v0 h = some r) : zOk 2 0 0 yX2_streams cX2_streams 3 (some .int) [.ref v0] h (some (.int r)) h := by
  refine zOk.of (by decide) (Nat.le_of_ble_eq_true rfl) ?_
  unfold f_X2_streams at H
  refine z_iconst (pc := 0) (x := 0) dX2_streams_0 zc_iconst_0 ?_
  refine z_istore_n (pc := 1) (lv' := [(1, .int 0), (0, .ref v0)]) dX2_streams_1 rfl (by decide) rfl ?_
  refine z_iconst (pc := 2) (x := 0) dX2_streams_2 zc_iconst_0 ?_
  refine z_istore_n (pc := 3) (lv' := [(2, .int 0), (1, .int 0), (0, .ref v0)]) dX2_streams_3 rfl (by decide) rfl ?_
  obtain ⟨m5, em5, H⟩ := zbind H
  refine z_sub [2, 1, 0] rfl (s_X2_streams_L4 (by omega) N 0 0 _ em5 ?_)
  refine z_iload_n (pc := 26) 0 dX2_streams_26 rfl rfl ?_
  cases H
  exact z_ireturn rfl dX2_streams_27

def p_X2_phaseOf (v0 : Int32) (v1 : Int32) : Int32 := (v0 >>> ((2 * v1) &&& 31)) &&& 3
set_option maxRecDepth 100000 in
set_option maxHeartbeats 4000000 in
theorem k_X2_phaseOf (v0 : Int32) (v1 : Int32) (h : zH) (r : Int32) (H : p_X2_phaseOf v0 v1 = r) : zOk 0 0 0 yX2_phaseOf cX2_phaseOf 2 (some .int) [.int v0, .int v1] h (some (.int r)) h := by
  refine zOk.of (by decide) (Nat.le_of_ble_eq_true rfl) ?_
  unfold p_X2_phaseOf at H
  refine z_iload_n (pc := 0) 0 dX2_phaseOf_0 rfl rfl ?_
  refine z_iconst (pc := 1) (x := 2) dX2_phaseOf_1 zc_iconst_2 ?_
  refine z_iload_n (pc := 2) 1 dX2_phaseOf_2 rfl rfl ?_
  refine z_imul (pc := 3) dX2_phaseOf_3 ?_
  refine z_ishr (pc := 4) dX2_phaseOf_4 ?_
  refine z_iconst (pc := 5) (x := 3) dX2_phaseOf_5 zc_iconst_3 ?_
  refine z_iand (pc := 6) dX2_phaseOf_6 ?_
  subst H
  exact z_ireturn rfl dX2_phaseOf_7

theorem md_X2_phaseOf : zMd yX2_phaseOf cX2_phaseOf 2 2 (some .int) := ⟨zmw (zmt_5 _ (List.mem_of_getElem? (i := 3) rfl)) rfl, zmem 122 (by decide +kernel) rfl, by decide, by decide, by decide +kernel, by decide⟩
theorem ml_X2_46 : Cond.methodLink RX2 46 yX2_phaseOf ∈ zB := zmem 1072 (by decide +kernel) rfl
theorem sm_X2_phaseOf : Cond.static yX2_phaseOf ∈ zB := zmem 1073 (by decide +kernel) rfl
def f_X2_mayJoin_L2 (N : Nat) (v0 : Nat) (v1 : Int32) (v2 : Int32) (h : zH) : Nat → Int32 → Option ((Unit) ⊕ (Int32))
  | 0, _ => none
  | n + 1, v3 => if v1 ≤ v3 then (some (.inl ())) else (if (p_X2_isStream v1) = 0 then (some (.inl ())) else (zif (zob h v0 2) <| (f_X2_isTold N v0 v3 h).bind fun q4 => (if q4 = 0 then (some 0) else (if (p_X2_phaseOf v2 v3) = (p_X2_phaseOf v2 v1) then (some 1) else (some 0)) : Option (Int32)).bind fun m5 => if m5 = 0 then (f_X2_mayJoin_L2 N v0 v1 v2 h n (v3 + 1)) else ((gR h v0 2 2).bind fun r9 => (aI h r9 v1).bind fun x10 => if ((x10 >>> (v3 &&& 31)) &&& 1) = 0 then (some (.inr 0)) else (f_X2_mayJoin_L2 N v0 v1 v2 h n (v3 + 1)))))
set_option maxRecDepth 100000 in
set_option maxHeartbeats 4000000 in
theorem s_X2_mayJoin_L2 {d mc ms N : Nat} {vv : Option Value} {hh : zH} {v0 : Nat} {v1 : Int32} {v2 : Int32} {h : zH} (hd0 : 2 ≤ d) : ∀ (n : Nat) (v3 : Int32) (m : (Unit) ⊕ (Int32)), f_X2_mayJoin_L2 N v0 v1 v2 h n v3 = some m → (∀ s, m = .inl s → zW yX2_mayJoin cX2_mayJoin 5 (some .boolean) d mc ms 68 [] [] h vv hh) → (∀ r, m = .inr r → vv = (some (.int r)) ∧ hh = h) → zW yX2_mayJoin cX2_mayJoin 5 (some .boolean) d mc ms 2 [(0, .ref v0), (1, .int v1), (2, .int v2), (3, .int v3)] [] h vv hh := by
  intro n
  induction n with
  | zero =>
    intro v3 m H
    cases H
  | succ n ih =>
    intro v3 m H KE KR
    unfold f_X2_mayJoin_L2 at H
    refine z_iload_n (pc := 2) 3 dX2_mayJoin_2 rfl rfl ?_
    refine z_iload_n (pc := 3) 1 dX2_mayJoin_3 rfl rfl ?_
    refine z_icmp_ge (pc := 4) 68 dX2_mayJoin_4 (by decide) (fun c1 => ?_) (fun c1 => ?_)
    · rw [if_pos c1] at H
      cases H
      exact z_sub [] rfl (KE _ rfl)
    · rw [if_neg c1] at H
      refine z_iload_n (pc := 7) 1 dX2_mayJoin_7 rfl rfl ?_
      refine z_callS (pc := 8) (mc := mc) (ms := ms) (d' := 0) (mc' := 0) (ms' := 0) (rest := []) [.int v1] dX2_mayJoin_8 md_X2_isStream ml_X2_24 sm_X2_isStream rfl rfl (Nat.le_of_ble_eq_true rfl) (by omega) (k_X2_isStream v1 h _ rfl) ?_
      refine z_if_eq (pc := 11) 68 dX2_mayJoin_11 (by decide) (fun c2 => ?_) (fun c2 => ?_)
      · rw [if_pos c2] at H
        cases H
        exact z_sub [] rfl (KE _ rfl)
      · rw [if_neg c2] at H
        refine z_aload_n (pc := 14) 0 dX2_mayJoin_14 rfl rfl ?_
        refine z_iload_n (pc := 15) 3 dX2_mayJoin_15 rfl rfl ?_
        obtain ⟨z3, H⟩ := zifE H
        obtain ⟨q4, eq4, H⟩ := zbind H
        refine z_callV (pc := 16) (mc := mc) (ms := ms) (d' := 1) (mc' := 0) (ms' := 0) (rest := []) [.int v3] dX2_mayJoin_16 md_X2_isTold ml_X2_28 im_X2_isTold se_X2_isTold rfl z3 rfl rfl (Nat.le_of_ble_eq_true rfl) (by omega) (k_X2_isTold eq4) ?_
        obtain ⟨m5, em5, H⟩ := zbind H
        have Jm5 : zW yX2_mayJoin cX2_mayJoin 5 (some .boolean) d mc ms 40 [(0, .ref v0), (1, .int v1), (2, .int v2), (3, .int v3)] [.int m5] h vv hh := by
          refine z_istore (pc := 40) (lv' := [(4, .int m5), (0, .ref v0), (1, .int v1), (2, .int v2), (3, .int v3)]) dX2_mayJoin_40 (by decide) rfl ?_
          refine z_iload (pc := 42) 0 dX2_mayJoin_42 rfl ?_
          refine z_if_eq (pc := 44) 62 dX2_mayJoin_44 (by decide) (fun c8 => ?_) (fun c8 => ?_)
          · rw [if_pos c8] at H
            refine z_iinc (pc := 62) (x' := v3 + 1) (lv' := [(3, .int (v3 + 1)), (4, .int m5), (0, .ref v0), (1, .int v1), (2, .int v2)]) 4 dX2_mayJoin_62 rfl (by rfl) (by decide) rfl ?_
            refine z_goto (pc := 65) 2 dX2_mayJoin_65 (by decide) ?_
            exact z_sub [2, 3, 4, 0] rfl (ih (v3 + 1) _ H KE KR)
          · rw [if_neg c8] at H
            refine z_aload_n (pc := 47) 1 dX2_mayJoin_47 rfl rfl ?_
            obtain ⟨r9, er9, H⟩ := zbind H
            refine z_getR (pc := 48) dX2_mayJoin_48 fd_X2_18 er9 ?_
            refine z_iload_n (pc := 51) 2 dX2_mayJoin_51 rfl rfl ?_
            obtain ⟨x10, ex10, H⟩ := zbind H
            refine z_iaload (pc := 52) dX2_mayJoin_52 ex10 ?_
            refine z_iload_n (pc := 53) 4 dX2_mayJoin_53 rfl rfl ?_
            refine z_ishr (pc := 54) dX2_mayJoin_54 ?_
            refine z_iconst (pc := 55) (x := 1) dX2_mayJoin_55 zc_iconst_1 ?_
            refine z_iand (pc := 56) dX2_mayJoin_56 ?_
            refine z_if_ne (pc := 57) 62 dX2_mayJoin_57 (by decide) (fun c11 => ?_) (fun c11 => ?_)
            · rw [if_neg c11] at H
              refine z_iinc (pc := 62) (x' := v3 + 1) (lv' := [(3, .int (v3 + 1)), (4, .int m5), (0, .ref v0), (1, .int v1), (2, .int v2)]) 4 dX2_mayJoin_62 rfl (by rfl) (by decide) rfl ?_
              refine z_goto (pc := 65) 2 dX2_mayJoin_65 (by decide) ?_
              exact z_sub [2, 3, 4, 0] rfl (ih (v3 + 1) _ H KE KR)
            · rw [if_pos c11] at H
              refine z_iconst (pc := 60) (x := 0) dX2_mayJoin_60 zc_iconst_0 ?_
              cases H
              obtain ⟨e8, e9⟩ := KR _ rfl
              subst e8
              subst e9
              exact z_zreturn rfl dX2_mayJoin_61 (by decide)
        refine z_if_eq (pc := 19) 39 dX2_mayJoin_19 (by decide) (fun c6 => ?_) (fun c6 => ?_)
        · rw [if_pos c6] at em5
          refine z_iconst (pc := 39) (x := 0) dX2_mayJoin_39 zc_iconst_0 ?_
          cases em5
          exact z_sub [0, 1, 2, 3] rfl Jm5
        · rw [if_neg c6] at em5
          refine z_iload_n (pc := 22) 2 dX2_mayJoin_22 rfl rfl ?_
          refine z_iload_n (pc := 23) 3 dX2_mayJoin_23 rfl rfl ?_
          refine z_callS (pc := 24) (mc := mc) (ms := ms) (d' := 0) (mc' := 0) (ms' := 0) (rest := []) [.int v2, .int v3] dX2_mayJoin_24 md_X2_phaseOf ml_X2_46 sm_X2_phaseOf rfl rfl (Nat.le_of_ble_eq_true rfl) (by omega) (k_X2_phaseOf v2 v3 h _ rfl) ?_
          refine z_iload_n (pc := 27) 2 dX2_mayJoin_27 rfl rfl ?_
          refine z_iload_n (pc := 28) 1 dX2_mayJoin_28 rfl rfl ?_
          refine z_callS (pc := 29) (mc := mc) (ms := ms) (d' := 0) (mc' := 0) (ms' := 0) (rest := [.int (p_X2_phaseOf v2 v3)]) [.int v2, .int v1] dX2_mayJoin_29 md_X2_phaseOf ml_X2_46 sm_X2_phaseOf rfl rfl (Nat.le_of_ble_eq_true rfl) (by omega) (k_X2_phaseOf v2 v1 h _ rfl) ?_
          refine z_icmp_ne (pc := 32) 39 dX2_mayJoin_32 (by decide) (fun c7 => ?_) (fun c7 => ?_)
          · rw [if_neg c7] at em5
            refine z_iconst (pc := 39) (x := 0) dX2_mayJoin_39 zc_iconst_0 ?_
            cases em5
            exact z_sub [0, 1, 2, 3] rfl Jm5
          · rw [if_pos c7] at em5
            refine z_iconst (pc := 35) (x := 1) dX2_mayJoin_35 zc_iconst_1 ?_
            refine z_goto (pc := 36) 40 dX2_mayJoin_36 (by decide) ?_
            cases em5
            exact z_sub [0, 1, 2, 3] rfl Jm5
def f_X2_mayJoin (N : Nat) (v0 : Nat) (v1 : Int32) (v2 : Int32) (h : zH) : Option (Int32) := (f_X2_mayJoin_L2 N v0 v1 v2 h N 0).bind fun m12 => zsum m12 fun s13 => some 1
set_option maxRecDepth 100000 in
set_option maxHeartbeats 4000000 in
theorem k_X2_mayJoin {N : Nat} {v0 : Nat} {v1 : Int32} {v2 : Int32} {h : zH} {r : Int32} (H : f_X2_mayJoin N v0 v1 v2 h = some r) : zOk 2 0 0 yX2_mayJoin cX2_mayJoin 5 (some .boolean) [.ref v0, .int v1, .int v2] h (some (.int r)) h := by
  refine zOk.of (by decide) (Nat.le_of_ble_eq_true rfl) ?_
  unfold f_X2_mayJoin at H
  refine z_iconst (pc := 0) (x := 0) dX2_mayJoin_0 zc_iconst_0 ?_
  refine z_istore_n (pc := 1) (lv' := [(3, .int 0), (0, .ref v0), (1, .int v1), (2, .int v2)]) dX2_mayJoin_1 rfl (by decide) rfl ?_
  obtain ⟨m12, em12, H⟩ := zbind H
  refine z_sub [1, 2, 3, 0] rfl (s_X2_mayJoin_L2 (by omega) N 0 _ em12 ?_ ?_)
  · intro s13 e9
    subst e9
    have H := zsumL H
    refine z_iconst (pc := 68) (x := 1) dX2_mayJoin_68 zc_iconst_1 ?_
    cases H
    exact z_zreturn rfl dX2_mayJoin_69 (by decide)
  · intro r e9
    subst e9
    have H := zsumR H
    cases H
    exact ⟨rfl, rfl⟩

theorem fd_X2_64 : zFd RX2 64 2 4 (.int) false "WhoseStreet$Corner" := zFd.of cl_2 (by decide) (zmem 393 (by decide +kernel) rfl) rfl rfl rfl
theorem md_X2_mayJoin : zMd yX2_mayJoin cX2_mayJoin 5 2 (some .boolean) := ⟨zmw (zmt_5 _ (List.mem_of_getElem? (i := 7) rfl)) rfl, zmem 122 (by decide +kernel) rfl, by decide, by decide, by decide +kernel, by decide⟩
theorem ml_X2_67 : Cond.methodLink RX2 67 yX2_mayJoin ∈ zB := zmem 1075 (by decide +kernel) rfl
theorem im_X2_mayJoin : Cond.instanceMethod yX2_mayJoin ∈ zB := zmem 1077 (by decide +kernel) rfl
theorem se_X2_mayJoin : Cond.selects yX2_mayJoin.cls yX2_mayJoin yX2_mayJoin ∈ zB := zmem 42 (by decide +kernel) rfl
theorem ml_X2_71 : Cond.methodLink RX2 71 Lib.Math.max.name ∈ zB := zmem 1079 (by decide +kernel) rfl
def f_X2_arrange_L7 (N : Nat) (v0 : Nat) : Nat → Int32 → zH → Option (zH)
  | 0, _, _ => none
  | n + 1, v2, h => if 4 ≤ v2 then (some h) else ((gR h v0 2 3).bind fun r3 => (sI h r3 v2 0).bind fun h4 => f_X2_arrange_L7 N v0 n (v2 + 1) h4)
def f_X2_arrange_L27 (N : Nat) (v0 : Nat) (v1 : Int32) : Nat → Int32 → zH → Option ((zH) ⊕ (Int32 × zH))
  | 0, _, _ => none
  | n + 1, v2, h => if 4 ≤ v2 then (some (.inl h)) else (zlet (p_X2_phaseOf v1 v2 : Int32) fun x7 => zif (zob h v0 2) <| (f_X2_isTold N v0 v2 h).bind fun q9 => (if q9 = 0 then (some (.inl (v2, h))) else ((gI h v0 2 4).bind fun x13 => if x13 < x7 then (some (.inl (v2, h))) else (zif (zob h v0 2) <| (f_X2_mayJoin N v0 v2 v1 h).bind fun q16 => if q16 = 0 then (some (.inl (v2, h))) else ((gI h v0 2 4).bind fun x18 => (pF h v0 2 4 (.int (if x18 < (x7 + 1) then (x7 + 1) else x18))).bind fun h19 => (gR h19 v0 2 3).bind fun r20 => (gR h19 v0 2 3).bind fun r21 => (aI h19 r21 x7).bind fun x22 => (gR h19 v0 2 0).bind fun r23 => (aI h19 r23 v2).bind fun x24 => (sI h19 r20 x7 (if x22 < x24 then x24 else x22)).bind fun h25 => (f_X2_arrange_L27 N v0 v1 n (v2 + 1) h25).map .inr))) : Option ((Int32 × zH) ⊕ ((zH) ⊕ (Int32 × zH)))).bind fun m10 => zsum m10 fun s11 => zif (zob s11.2 v0 2) <| (f_X2_isTold N v0 s11.1 s11.2).bind fun q28 => if q28 = 0 then (if x7 = 0 then (f_X2_arrange_L27 N v0 v1 n (s11.1 + 1) s11.2) else (some (.inr (0, s11.2)))) else (some (.inr (0, s11.2))))
set_option maxRecDepth 100000 in
set_option maxHeartbeats 4000000 in
theorem s_X2_arrange_L7 {d mc ms N : Nat} {vv : Option Value} {hh : zH} {v0 : Nat} {v1 : Int32} (hd0 : 3 ≤ d) : ∀ (n : Nat) (v2 : Int32) (h : zH) (m : zH), f_X2_arrange_L7 N v0 n v2 h = some m → (zW yX2_arrange cX2_arrange 4 (some .boolean) d mc ms 25 [(0, .ref v0), (1, .int v1)] [] m vv hh) → zW yX2_arrange cX2_arrange 4 (some .boolean) d mc ms 7 [(0, .ref v0), (1, .int v1), (2, .int v2)] [] h vv hh := by
  intro n
  induction n with
  | zero =>
    intro v2 h m H
    cases H
  | succ n ih =>
    intro v2 h m H KE
    unfold f_X2_arrange_L7 at H
    refine z_iload_n (pc := 7) 2 dX2_arrange_7 rfl rfl ?_
    refine z_iconst (pc := 8) (x := 4) dX2_arrange_8 zc_iconst_4 ?_
    refine z_icmp_ge (pc := 9) 25 dX2_arrange_9 (by decide) (fun c2 => ?_) (fun c2 => ?_)
    · rw [if_pos c2] at H
      cases H
      exact z_sub [0, 1] rfl (KE)
    · rw [if_neg c2] at H
      refine z_aload_n (pc := 12) 0 dX2_arrange_12 rfl rfl ?_
      obtain ⟨r3, er3, H⟩ := zbind H
      refine z_getR (pc := 13) dX2_arrange_13 fd_X2_21 er3 ?_
      refine z_iload_n (pc := 16) 2 dX2_arrange_16 rfl rfl ?_
      refine z_iconst (pc := 17) (x := 0) dX2_arrange_17 zc_iconst_0 ?_
      obtain ⟨h4, eh4, H⟩ := zbind H
      refine z_iastore (pc := 18) dX2_arrange_18 eh4 ?_
      refine z_iinc (pc := 19) (x' := v2 + 1) (lv' := [(2, .int (v2 + 1)), (0, .ref v0), (1, .int v1)]) 2 dX2_arrange_19 rfl (by rfl) (by decide) rfl ?_
      refine z_goto (pc := 22) 7 dX2_arrange_22 (by decide) ?_
      exact z_sub [1, 2, 0] rfl (ih (v2 + 1) h4 _ H KE)
set_option maxRecDepth 100000 in
set_option maxHeartbeats 4000000 in
theorem s_X2_arrange_L27 {d mc ms N : Nat} {vv : Option Value} {hh : zH} {v0 : Nat} {v1 : Int32} (hd0 : 3 ≤ d) : ∀ (n : Nat) (v2 : Int32) (h : zH) (m : (zH) ⊕ (Int32 × zH)), f_X2_arrange_L27 N v0 v1 n v2 h = some m → (∀ s, m = .inl s → zW yX2_arrange cX2_arrange 4 (some .boolean) d mc ms 121 [] [] s vv hh) → (∀ r, m = .inr r → vv = (some (.int r.1)) ∧ hh = r.2) → zW yX2_arrange cX2_arrange 4 (some .boolean) d mc ms 27 [(0, .ref v0), (1, .int v1), (2, .int v2)] [] h vv hh := by
  intro n
  induction n with
  | zero =>
    intro v2 h m H
    cases H
  | succ n ih =>
    intro v2 h m H KE KR
    unfold f_X2_arrange_L27 at H
    refine z_iload_n (pc := 27) 2 dX2_arrange_27 rfl rfl ?_
    refine z_iconst (pc := 28) (x := 4) dX2_arrange_28 zc_iconst_4 ?_
    refine z_icmp_ge (pc := 29) 121 dX2_arrange_29 (by decide) (fun c6 => ?_) (fun c6 => ?_)
    · rw [if_pos c6] at H
      cases H
      exact z_sub [] rfl (KE _ rfl)
    · rw [if_neg c6] at H
      refine z_iload_n (pc := 32) 1 dX2_arrange_32 rfl rfl ?_
      refine z_iload_n (pc := 33) 2 dX2_arrange_33 rfl rfl ?_
      refine z_callS (pc := 34) (mc := mc) (ms := ms) (d' := 0) (mc' := 0) (ms' := 0) (rest := []) [.int v1, .int v2] dX2_arrange_34 md_X2_phaseOf ml_X2_46 sm_X2_phaseOf rfl rfl (Nat.le_of_ble_eq_true rfl) (by omega) (k_X2_phaseOf v1 v2 h _ rfl) ?_
      obtain ⟨x7, ex7, H⟩ := zletE H
      refine z_nmI ex7 ?_
      refine z_istore_n (pc := 37) (lv' := [(3, .int x7), (0, .ref v0), (1, .int v1), (2, .int v2)]) dX2_arrange_37 rfl (by decide) rfl ?_
      refine z_aload_n (pc := 38) 1 dX2_arrange_38 rfl rfl ?_
      refine z_iload_n (pc := 39) 3 dX2_arrange_39 rfl rfl ?_
      obtain ⟨z8, H⟩ := zifE H
      obtain ⟨q9, eq9, H⟩ := zbind H
      refine z_callV (pc := 40) (mc := mc) (ms := ms) (d' := 1) (mc' := 0) (ms' := 0) (rest := []) [.int v2] dX2_arrange_40 md_X2_isTold ml_X2_28 im_X2_isTold se_X2_isTold rfl z8 rfl rfl (Nat.le_of_ble_eq_true rfl) (by omega) (k_X2_isTold eq9) ?_
      obtain ⟨m10, em10, H⟩ := zbind H
      have Jm10 : ∀ s11, m10 = .inl s11 → zW yX2_arrange cX2_arrange 4 (some .boolean) d mc ms 101 [(0, .ref v0), (1, .int v1), (2, .int s11.1), (3, .int x7)] [] s11.2 vv hh := by
        intro s11 e9
        subst e9
        have H := zsumL H
        refine z_aload_n (pc := 101) 0 dX2_arrange_101 rfl rfl ?_
        refine z_iload_n (pc := 102) 2 dX2_arrange_102 rfl rfl ?_
        obtain ⟨z27, H⟩ := zifE H
        obtain ⟨q28, eq28, H⟩ := zbind H
        refine z_callV (pc := 103) (mc := mc) (ms := ms) (d' := 1) (mc' := 0) (ms' := 0) (rest := []) [.int s11.1] dX2_arrange_103 md_X2_isTold ml_X2_28 im_X2_isTold se_X2_isTold rfl z27 rfl rfl (Nat.le_of_ble_eq_true rfl) (by omega) (k_X2_isTold eq28) ?_
        refine z_if_ne (pc := 106) 113 dX2_arrange_106 (by decide) (fun c29 => ?_) (fun c29 => ?_)
        · rw [if_neg c29] at H
          refine z_iconst (pc := 113) (x := 0) dX2_arrange_113 zc_iconst_0 ?_
          cases H
          obtain ⟨e8, e9⟩ := KR _ rfl
          subst e8
          subst e9
          exact z_zreturn rfl dX2_arrange_114 (by decide)
        · rw [if_pos c29] at H
          refine z_iload_n (pc := 109) 3 dX2_arrange_109 rfl rfl ?_
          refine z_if_eq (pc := 110) 115 dX2_arrange_110 (by decide) (fun c30 => ?_) (fun c30 => ?_)
          · rw [if_pos c30] at H
            refine z_iinc (pc := 115) (x' := s11.1 + 1) (lv' := [(2, .int (s11.1 + 1)), (0, .ref v0), (1, .int v1), (3, .int x7)]) 2 dX2_arrange_115 rfl (by rfl) (by decide) rfl ?_
            refine z_goto (pc := 118) 27 dX2_arrange_118 (by decide) ?_
            exact z_sub [1, 2, 0] rfl (ih (s11.1 + 1) s11.2 _ H KE KR)
          · rw [if_neg c30] at H
            refine z_iconst (pc := 113) (x := 0) dX2_arrange_113 zc_iconst_0 ?_
            cases H
            obtain ⟨e8, e9⟩ := KR _ rfl
            subst e8
            subst e9
            exact z_zreturn rfl dX2_arrange_114 (by decide)
      refine z_if_eq (pc := 43) 101 dX2_arrange_43 (by decide) (fun c12 => ?_) (fun c12 => ?_)
      · rw [if_pos c12] at em10
        cases em10
        exact z_sub [1, 2, 3, 0] rfl (Jm10 _ rfl)
      · rw [if_neg c12] at em10
        refine z_iload_n (pc := 46) 0 dX2_arrange_46 rfl rfl ?_
        refine z_aload_n (pc := 47) 1 dX2_arrange_47 rfl rfl ?_
        obtain ⟨x13, ex13, em10⟩ := zbind em10
        refine z_getI (pc := 48) dX2_arrange_48 fd_X2_64 ex13 ?_
        refine z_icmp_gt (pc := 51) 101 dX2_arrange_51 (by decide) (fun c14 => ?_) (fun c14 => ?_)
        · rw [if_pos c14] at em10
          cases em10
          exact z_sub [1, 2, 3, 0] rfl (Jm10 _ rfl)
        · rw [if_neg c14] at em10
          refine z_aload_n (pc := 54) 1 dX2_arrange_54 rfl rfl ?_
          refine z_iload_n (pc := 55) 3 dX2_arrange_55 rfl rfl ?_
          refine z_iload_n (pc := 56) 2 dX2_arrange_56 rfl rfl ?_
          obtain ⟨z15, em10⟩ := zifE em10
          obtain ⟨q16, eq16, em10⟩ := zbind em10
          refine z_callV (pc := 57) (mc := mc) (ms := ms) (d' := 2) (mc' := 0) (ms' := 0) (rest := []) [.int v2, .int v1] dX2_arrange_57 md_X2_mayJoin ml_X2_67 im_X2_mayJoin se_X2_mayJoin rfl z15 rfl rfl (Nat.le_of_ble_eq_true rfl) (by omega) (k_X2_mayJoin eq16) ?_
          refine z_if_eq (pc := 60) 101 dX2_arrange_60 (by decide) (fun c17 => ?_) (fun c17 => ?_)
          · rw [if_pos c17] at em10
            cases em10
            exact z_sub [1, 2, 3, 0] rfl (Jm10 _ rfl)
          · rw [if_neg c17] at em10
            refine z_aload_n (pc := 63) 1 dX2_arrange_63 rfl rfl ?_
            refine z_aload_n (pc := 64) 1 dX2_arrange_64 rfl rfl ?_
            obtain ⟨x18, ex18, em10⟩ := zbind em10
            refine z_getI (pc := 65) dX2_arrange_65 fd_X2_64 ex18 ?_
            refine z_iload_n (pc := 68) 0 dX2_arrange_68 rfl rfl ?_
            refine z_iconst (pc := 69) (x := 1) dX2_arrange_69 zc_iconst_1 ?_
            refine z_iadd (pc := 70) dX2_arrange_70 ?_
            refine z_mmax (pc := 71) dX2_arrange_71 ml_X2_71 mx_1 mx_2 mx_3 (by omega) (Nat.le_of_ble_eq_true rfl) ?_
            obtain ⟨h19, eh19, em10⟩ := zbind em10
            refine z_put (pc := 74) dX2_arrange_74 fd_X2_64 rfl rfl eh19 ?_
            refine z_aload_n (pc := 77) 1 dX2_arrange_77 rfl rfl ?_
            obtain ⟨r20, er20, em10⟩ := zbind em10
            refine z_getR (pc := 78) dX2_arrange_78 fd_X2_21 er20 ?_
            refine z_iload_n (pc := 81) 0 dX2_arrange_81 rfl rfl ?_
            refine z_aload_n (pc := 82) 1 dX2_arrange_82 rfl rfl ?_
            obtain ⟨r21, er21, em10⟩ := zbind em10
            refine z_getR (pc := 83) dX2_arrange_83 fd_X2_21 er21 ?_
            refine z_iload_n (pc := 86) 0 dX2_arrange_86 rfl rfl ?_
            obtain ⟨x22, ex22, em10⟩ := zbind em10
            refine z_iaload (pc := 87) dX2_arrange_87 ex22 ?_
            refine z_aload_n (pc := 88) 1 dX2_arrange_88 rfl rfl ?_
            obtain ⟨r23, er23, em10⟩ := zbind em10
            refine z_getR (pc := 89) dX2_arrange_89 fd_X2_11 er23 ?_
            refine z_iload_n (pc := 92) 3 dX2_arrange_92 rfl rfl ?_
            obtain ⟨x24, ex24, em10⟩ := zbind em10
            refine z_iaload (pc := 93) dX2_arrange_93 ex24 ?_
            refine z_mmax (pc := 94) dX2_arrange_94 ml_X2_71 mx_1 mx_2 mx_3 (by omega) (Nat.le_of_ble_eq_true rfl) ?_
            obtain ⟨h25, eh25, em10⟩ := zbind em10
            refine z_iastore (pc := 97) dX2_arrange_97 eh25 ?_
            refine z_goto (pc := 98) 115 dX2_arrange_98 (by decide) ?_
            refine z_iinc (pc := 115) (x' := v2 + 1) (lv' := [(2, .int (v2 + 1)), (3, .int x7), (0, .ref v0), (1, .int v1)]) 3 dX2_arrange_115 rfl (by rfl) (by decide) rfl ?_
            refine z_goto (pc := 118) 27 dX2_arrange_118 (by decide) ?_
            obtain ⟨o26, H9, e9⟩ := zmapR em10
            subst e9
            have H9 := H9.trans (zsumR H)
            exact z_sub [2, 3, 0] rfl (ih (v2 + 1) h25 _ H9 KE KR)
def f_X2_arrange (N : Nat) (v0 : Nat) (v1 : Int32) (h : zH) : Option (Int32 × zH) := (pF h v0 2 4 (.int 0)).bind fun h1 => (f_X2_arrange_L7 N v0 N 0 h1).bind fun m5 => (f_X2_arrange_L27 N v0 v1 N 0 m5).bind fun m31 => zsum m31 fun s32 => some (1, s32)
set_option maxRecDepth 100000 in
set_option maxHeartbeats 4000000 in
theorem k_X2_arrange {N : Nat} {v0 : Nat} {v1 : Int32} {h : zH} {r : Int32 × zH} (H : f_X2_arrange N v0 v1 h = some r) : zOk 3 0 0 yX2_arrange cX2_arrange 4 (some .boolean) [.ref v0, .int v1] h (some (.int r.1)) r.2 := by
  refine zOk.of (by decide) (Nat.le_of_ble_eq_true rfl) ?_
  unfold f_X2_arrange at H
  refine z_aload_n (pc := 0) 0 dX2_arrange_0 rfl rfl ?_
  refine z_iconst (pc := 1) (x := 0) dX2_arrange_1 zc_iconst_0 ?_
  obtain ⟨h1, eh1, H⟩ := zbind H
  refine z_put (pc := 2) dX2_arrange_2 fd_X2_64 rfl rfl eh1 ?_
  refine z_iconst (pc := 5) (x := 0) dX2_arrange_5 zc_iconst_0 ?_
  refine z_istore_n (pc := 6) (lv' := [(2, .int 0), (0, .ref v0), (1, .int v1)]) dX2_arrange_6 rfl (by decide) rfl ?_
  obtain ⟨m5, em5, H⟩ := zbind H
  refine z_sub [1, 2, 0] rfl (s_X2_arrange_L7 (by omega) N 0 h1 _ em5 ?_)
  refine z_iconst (pc := 25) (x := 0) dX2_arrange_25 zc_iconst_0 ?_
  refine z_istore_n (pc := 26) (lv' := [(2, .int 0), (0, .ref v0), (1, .int v1)]) dX2_arrange_26 rfl (by decide) rfl ?_
  obtain ⟨m31, em31, H⟩ := zbind H
  refine z_sub [1, 2, 0] rfl (s_X2_arrange_L27 (by omega) N 0 m5 _ em31 ?_ ?_)
  · intro s32 e9
    subst e9
    have H := zsumL H
    refine z_iconst (pc := 121) (x := 1) dX2_arrange_121 zc_iconst_1 ?_
    cases H
    exact z_zreturn rfl dX2_arrange_122 (by decide)
  · intro r e9
    subst e9
    have H := zsumR H
    cases H
    exact ⟨rfl, rfl⟩

def f_X2_round_L9 (N : Nat) (v0 : Nat) (h : zH) : Nat → Int32 → Int32 → Option (Int32)
  | 0, _, _ => none
  | n + 1, v2, v3 => if 4 ≤ v3 then (some v2) else ((gR h v0 2 3).bind fun r4 => (aI h r4 v3).bind fun x5 => zlet (v2 + x5 : Int32) fun x6 => f_X2_round_L9 N v0 h n x6 (v3 + 1))
set_option maxRecDepth 100000 in
set_option maxHeartbeats 4000000 in
theorem s_X2_round_L9 {d mc ms N : Nat} {vv : Option Value} {hh : zH} {v0 : Nat} {h : zH} (hd0 : 0 ≤ d) : ∀ (n : Nat) (v2 : Int32) (v3 : Int32) (m : Int32), f_X2_round_L9 N v0 h n v2 v3 = some m → (zW yX2_round cX2_round 4 (some .int) d mc ms 29 [(2, .int m)] [] h vv hh) → zW yX2_round cX2_round 4 (some .int) d mc ms 9 [(0, .ref v0), (2, .int v2), (3, .int v3)] [] h vv hh := by
  intro n
  induction n with
  | zero =>
    intro v2 v3 m H
    cases H
  | succ n ih =>
    intro v2 v3 m H KE
    unfold f_X2_round_L9 at H
    refine z_iload_n (pc := 9) 2 dX2_round_9 rfl rfl ?_
    refine z_iconst (pc := 10) (x := 4) dX2_round_10 zc_iconst_4 ?_
    refine z_icmp_ge (pc := 11) 29 dX2_round_11 (by decide) (fun c3 => ?_) (fun c3 => ?_)
    · rw [if_pos c3] at H
      cases H
      exact z_sub [1] rfl (KE)
    · rw [if_neg c3] at H
      refine z_iload_n (pc := 14) 1 dX2_round_14 rfl rfl ?_
      refine z_aload_n (pc := 15) 0 dX2_round_15 rfl rfl ?_
      obtain ⟨r4, er4, H⟩ := zbind H
      refine z_getR (pc := 16) dX2_round_16 fd_X2_21 er4 ?_
      refine z_iload_n (pc := 19) 2 dX2_round_19 rfl rfl ?_
      obtain ⟨x5, ex5, H⟩ := zbind H
      refine z_iaload (pc := 20) dX2_round_20 ex5 ?_
      refine z_iadd (pc := 21) dX2_round_21 ?_
      obtain ⟨x6, ex6, H⟩ := zletE H
      refine z_nmI ex6 ?_
      refine z_istore_n (pc := 22) (lv' := [(2, .int x6), (0, .ref v0), (3, .int v3)]) dX2_round_22 rfl (by decide) rfl ?_
      refine z_iinc (pc := 23) (x' := v3 + 1) (lv' := [(3, .int (v3 + 1)), (2, .int x6), (0, .ref v0)]) 2 dX2_round_23 rfl (by rfl) (by decide) rfl ?_
      refine z_goto (pc := 26) 9 dX2_round_26 (by decide) ?_
      exact z_sub [2, 1, 0] rfl (ih x6 (v3 + 1) _ H KE)
def f_X2_round (N : Nat) (v0 : Nat) (v1 : Int32) (h : zH) : Option (Int32) := (gI h v0 2 4).bind fun x1 => zlet (v1 * x1 : Int32) fun x2 => (f_X2_round_L9 N v0 h N x2 0).bind fun m7 => some m7
set_option maxRecDepth 100000 in
set_option maxHeartbeats 4000000 in
theorem k_X2_round {N : Nat} {v0 : Nat} {v1 : Int32} {h : zH} {r : Int32} (H : f_X2_round N v0 v1 h = some r) : zOk 0 0 0 yX2_round cX2_round 4 (some .int) [.ref v0, .int v1] h (some (.int r)) h := by
  refine zOk.of (by decide) (Nat.le_of_ble_eq_true rfl) ?_
  unfold f_X2_round at H
  refine z_iload_n (pc := 0) 1 dX2_round_0 rfl rfl ?_
  refine z_aload_n (pc := 1) 0 dX2_round_1 rfl rfl ?_
  obtain ⟨x1, ex1, H⟩ := zbind H
  refine z_getI (pc := 2) dX2_round_2 fd_X2_64 ex1 ?_
  refine z_imul (pc := 5) dX2_round_5 ?_
  obtain ⟨x2, ex2, H⟩ := zletE H
  refine z_nmI ex2 ?_
  refine z_istore_n (pc := 6) (lv' := [(2, .int x2), (0, .ref v0), (1, .int v1)]) dX2_round_6 rfl (by decide) rfl ?_
  refine z_iconst (pc := 7) (x := 0) dX2_round_7 zc_iconst_0 ?_
  refine z_istore_n (pc := 8) (lv' := [(3, .int 0), (2, .int x2), (0, .ref v0), (1, .int v1)]) dX2_round_8 rfl (by decide) rfl ?_
  obtain ⟨m7, em7, H⟩ := zbind H
  refine z_sub [2, 1, 0] rfl (s_X2_round_L9 (by omega) N x2 0 _ em7 ?_)
  refine z_iload_n (pc := 29) 0 dX2_round_29 rfl rfl ?_
  cases H
  exact z_ireturn rfl dX2_round_30

def f_X2_waitingOf (N : Nat) (v0 : Nat) (v1 : Int32) (v2 : Int32) (v3 : Int32) (h : zH) : Option (Int32) := zif (zob h v0 2) <| (f_X2_isTold N v0 v1 h).bind fun q2 => if q2 = 0 then (some 0) else ((gR h v0 2 1).bind fun r4 => (aI h r4 v1).bind fun x5 => (gR h v0 2 3).bind fun r6 => (aI h r6 (p_X2_phaseOf v2 v1)).bind fun x7 => some (x5 * (v3 - x7)))
set_option maxRecDepth 100000 in
set_option maxHeartbeats 4000000 in
theorem k_X2_waitingOf {N : Nat} {v0 : Nat} {v1 : Int32} {v2 : Int32} {v3 : Int32} {h : zH} {r : Int32} (H : f_X2_waitingOf N v0 v1 v2 v3 h = some r) : zOk 2 0 0 yX2_waitingOf cX2_waitingOf 4 (some .int) [.ref v0, .int v1, .int v2, .int v3] h (some (.int r)) h := by
  refine zOk.of (by decide) (Nat.le_of_ble_eq_true rfl) ?_
  unfold f_X2_waitingOf at H
  refine z_aload_n (pc := 0) 0 dX2_waitingOf_0 rfl rfl ?_
  refine z_iload_n (pc := 1) 1 dX2_waitingOf_1 rfl rfl ?_
  obtain ⟨z1, H⟩ := zifE H
  obtain ⟨q2, eq2, H⟩ := zbind H
  refine z_callV (pc := 2) (mc := 0) (ms := 0) (d' := 1) (mc' := 0) (ms' := 0) (rest := []) [.int v1] dX2_waitingOf_2 md_X2_isTold ml_X2_28 im_X2_isTold se_X2_isTold rfl z1 rfl rfl (Nat.le_of_ble_eq_true rfl) (by omega) (k_X2_isTold eq2) ?_
  refine z_if_eq (pc := 5) 30 dX2_waitingOf_5 (by decide) (fun c3 => ?_) (fun c3 => ?_)
  · rw [if_pos c3] at H
    refine z_iconst (pc := 30) (x := 0) dX2_waitingOf_30 zc_iconst_0 ?_
    cases H
    exact z_ireturn rfl dX2_waitingOf_31
  · rw [if_neg c3] at H
    refine z_aload_n (pc := 8) 0 dX2_waitingOf_8 rfl rfl ?_
    obtain ⟨r4, er4, H⟩ := zbind H
    refine z_getR (pc := 9) dX2_waitingOf_9 fd_X2_15 er4 ?_
    refine z_iload_n (pc := 12) 1 dX2_waitingOf_12 rfl rfl ?_
    obtain ⟨x5, ex5, H⟩ := zbind H
    refine z_iaload (pc := 13) dX2_waitingOf_13 ex5 ?_
    refine z_iload_n (pc := 14) 3 dX2_waitingOf_14 rfl rfl ?_
    refine z_aload_n (pc := 15) 0 dX2_waitingOf_15 rfl rfl ?_
    obtain ⟨r6, er6, H⟩ := zbind H
    refine z_getR (pc := 16) dX2_waitingOf_16 fd_X2_21 er6 ?_
    refine z_iload_n (pc := 19) 2 dX2_waitingOf_19 rfl rfl ?_
    refine z_iload_n (pc := 20) 1 dX2_waitingOf_20 rfl rfl ?_
    refine z_callS (pc := 21) (mc := 0) (ms := 0) (d' := 0) (mc' := 0) (ms' := 0) (rest := [.ref r6, .int v3, .int x5]) [.int v2, .int v1] dX2_waitingOf_21 md_X2_phaseOf ml_X2_46 sm_X2_phaseOf rfl rfl (Nat.le_of_ble_eq_true rfl) (by omega) (k_X2_phaseOf v2 v1 h _ rfl) ?_
    obtain ⟨x7, ex7, H⟩ := zbind H
    refine z_iaload (pc := 24) dX2_waitingOf_24 ex7 ?_
    refine z_isub (pc := 25) dX2_waitingOf_25 ?_
    refine z_imul (pc := 26) dX2_waitingOf_26 ?_
    refine z_goto (pc := 27) 31 dX2_waitingOf_27 (by decide) ?_
    cases H
    exact z_ireturn rfl dX2_waitingOf_31

theorem zc_bipush_120 : (Int8.ofInt (120)).toInt32 = (120 : Int32) := by decide
theorem md_X2_round : zMd yX2_round cX2_round 4 1 (some .int) := ⟨zmw (zmt_5 _ (List.mem_of_getElem? (i := 16) rfl)) rfl, zmem 122 (by decide +kernel) rfl, by decide, by decide, by decide +kernel, by decide⟩
theorem ml_X2_50 : Cond.methodLink RX2 50 yX2_round ∈ zB := zmem 1084 (by decide +kernel) rfl
theorem im_X2_round : Cond.instanceMethod yX2_round ∈ zB := zmem 1086 (by decide +kernel) rfl
theorem se_X2_round : Cond.selects yX2_round.cls yX2_round yX2_round ∈ zB := zmem 44 (by decide +kernel) rfl
theorem md_X2_waitingOf : zMd yX2_waitingOf cX2_waitingOf 4 3 (some .int) := ⟨zmw (zmt_5 _ (List.mem_of_getElem? (i := 20) rfl)) rfl, zmem 122 (by decide +kernel) rfl, by decide, by decide, by decide +kernel, by decide⟩
theorem ml_X2_54 : Cond.methodLink RX2 54 yX2_waitingOf ∈ zB := zmem 1088 (by decide +kernel) rfl
theorem im_X2_waitingOf : Cond.instanceMethod yX2_waitingOf ∈ zB := zmem 1090 (by decide +kernel) rfl
theorem se_X2_waitingOf : Cond.selects yX2_waitingOf.cls yX2_waitingOf yX2_waitingOf ∈ zB := zmem 45 (by decide +kernel) rfl
theorem fd_X2_31 : zFd RX2 31 2 5 (.int) false "WhoseStreet$Corner" := zFd.of cl_2 (by decide) (zmem 394 (by decide +kernel) rfl) rfl rfl rfl
theorem fd_X2_58 : zFd RX2 58 2 7 (.int) false "WhoseStreet$Corner" := zFd.of cl_2 (by decide) (zmem 397 (by decide +kernel) rfl) rfl rfl rfl
theorem fd_X2_61 : zFd RX2 61 2 6 (.int) false "WhoseStreet$Corner" := zFd.of cl_2 (by decide) (zmem 395 (by decide +kernel) rfl) rfl rfl rfl
def f_X2_compare_L19 (N : Nat) (v0 : Nat) (v1 : Int32) (v3 : Int32) (h : zH) : Nat → Int32 → Int32 → Option (Int32)
  | 0, _, _ => none
  | n + 1, v4, v5 => if 4 ≤ v5 then (some v4) else (zif (zob h v0 2) <| (f_X2_waitingOf N v0 v5 v1 v3 h).bind fun q6 => zlet (v4 + q6 : Int32) fun x7 => f_X2_compare_L19 N v0 v1 v3 h n x7 (v5 + 1))
set_option maxRecDepth 100000 in
set_option maxHeartbeats 4000000 in
theorem s_X2_compare_L19 {d mc ms N : Nat} {vv : Option Value} {hh : zH} {v0 : Nat} {v1 : Int32} {v3 : Int32} {h : zH} (hd0 : 3 ≤ d) : ∀ (n : Nat) (v4 : Int32) (v5 : Int32) (m : Int32), f_X2_compare_L19 N v0 v1 v3 h n v4 v5 = some m → (zW yX2_compare cX2_compare 6 none d mc ms 44 [(0, .ref v0), (1, .int v1), (3, .int v3), (4, .int m)] [] h vv hh) → zW yX2_compare cX2_compare 6 none d mc ms 19 [(0, .ref v0), (1, .int v1), (3, .int v3), (4, .int v4), (5, .int v5)] [] h vv hh := by
  intro n
  induction n with
  | zero =>
    intro v4 v5 m H
    cases H
  | succ n ih =>
    intro v4 v5 m H KE
    unfold f_X2_compare_L19 at H
    refine z_iload (pc := 19) 4 dX2_compare_19 rfl ?_
    refine z_iconst (pc := 21) (x := 4) dX2_compare_21 zc_iconst_4 ?_
    refine z_icmp_ge (pc := 22) 44 dX2_compare_22 (by decide) (fun c4 => ?_) (fun c4 => ?_)
    · rw [if_pos c4] at H
      cases H
      exact z_sub [0, 1, 2, 3] rfl (KE)
    · rw [if_neg c4] at H
      refine z_iload (pc := 25) 3 dX2_compare_25 rfl ?_
      refine z_aload_n (pc := 27) 0 dX2_compare_27 rfl rfl ?_
      refine z_iload (pc := 28) 4 dX2_compare_28 rfl ?_
      refine z_iload_n (pc := 30) 1 dX2_compare_30 rfl rfl ?_
      refine z_iload_n (pc := 31) 2 dX2_compare_31 rfl rfl ?_
      obtain ⟨z5, H⟩ := zifE H
      obtain ⟨q6, eq6, H⟩ := zbind H
      refine z_callV (pc := 32) (mc := mc) (ms := ms) (d' := 2) (mc' := 0) (ms' := 0) (rest := [.int v4]) [.int v5, .int v1, .int v3] dX2_compare_32 md_X2_waitingOf ml_X2_54 im_X2_waitingOf se_X2_waitingOf rfl z5 rfl rfl (Nat.le_of_ble_eq_true rfl) (by omega) (k_X2_waitingOf eq6) ?_
      refine z_iadd (pc := 35) dX2_compare_35 ?_
      obtain ⟨x7, ex7, H⟩ := zletE H
      refine z_nmI ex7 ?_
      refine z_istore (pc := 36) (lv' := [(4, .int x7), (0, .ref v0), (1, .int v1), (3, .int v3), (5, .int v5)]) dX2_compare_36 (by decide) rfl ?_
      refine z_iinc (pc := 38) (x' := v5 + 1) (lv' := [(5, .int (v5 + 1)), (4, .int x7), (0, .ref v0), (1, .int v1), (3, .int v3)]) 4 dX2_compare_38 rfl (by rfl) (by decide) rfl ?_
      refine z_goto (pc := 41) 19 dX2_compare_41 (by decide) ?_
      exact z_sub [2, 3, 4, 1, 0] rfl (ih x7 (v5 + 1) _ H KE)
def f_X2_compare (N : Nat) (v0 : Nat) (v1 : Int32) (v2 : Int32) (h : zH) : Option (zH) := zif (zob h v0 2) <| (f_X2_round N v0 v2 h).bind fun q2 => if q2 ≤ 120 then ((f_X2_compare_L19 N v0 v1 q2 h N 0 0).bind fun m8 => (gI h v0 2 5).bind fun x9 => (if x9 = (-1) then (some (.inl ())) else ((gI h v0 2 7).bind fun x13 => if m8 < x13 then (some (.inl ())) else ((gI h v0 2 7).bind fun x15 => if m8 = x15 then ((gI h v0 2 6).bind fun x18 => if x18 ≤ q2 then ((some h).map .inr) else (some (.inl ()))) else ((some h).map .inr))) : Option ((Unit) ⊕ (zH))).bind fun m10 => zsum m10 fun s11 => (pF h v0 2 5 (.int v1)).bind fun h21 => (pF h21 v0 2 6 (.int q2)).bind fun h22 => (pF h22 v0 2 7 (.int m8)).bind fun h23 => some h23) else (some h)
set_option maxRecDepth 100000 in
set_option maxHeartbeats 4000000 in
theorem k_X2_compare {N : Nat} {v0 : Nat} {v1 : Int32} {v2 : Int32} {h : zH} {r : zH} (H : f_X2_compare N v0 v1 v2 h = some r) : zOk 3 0 0 yX2_compare cX2_compare 6 none [.ref v0, .int v1, .int v2] h none r := by
  refine zOk.of (by decide) (Nat.le_of_ble_eq_true rfl) ?_
  unfold f_X2_compare at H
  refine z_aload_n (pc := 0) 0 dX2_compare_0 rfl rfl ?_
  refine z_iload_n (pc := 1) 2 dX2_compare_1 rfl rfl ?_
  obtain ⟨z1, H⟩ := zifE H
  obtain ⟨q2, eq2, H⟩ := zbind H
  refine z_callV (pc := 2) (mc := 0) (ms := 0) (d' := 0) (mc' := 0) (ms' := 0) (rest := []) [.int v2] dX2_compare_2 md_X2_round ml_X2_50 im_X2_round se_X2_round rfl z1 rfl rfl (Nat.le_of_ble_eq_true rfl) (by omega) (k_X2_round eq2) ?_
  refine z_istore_n (pc := 5) (lv' := [(3, .int q2), (0, .ref v0), (1, .int v1), (2, .int v2)]) dX2_compare_5 rfl (by decide) rfl ?_
  refine z_iload_n (pc := 6) 0 dX2_compare_6 rfl rfl ?_
  refine z_bipush (pc := 7) (x := 120) dX2_compare_7 zc_bipush_120 ?_
  refine z_icmp_le (pc := 9) 13 dX2_compare_9 (by decide) (fun c3 => ?_) (fun c3 => ?_)
  · rw [if_pos c3] at H
    refine z_iconst (pc := 13) (x := 0) dX2_compare_13 zc_iconst_0 ?_
    refine z_istore (pc := 14) (lv' := [(4, .int 0), (3, .int q2), (0, .ref v0), (1, .int v1), (2, .int v2)]) dX2_compare_14 (by decide) rfl ?_
    refine z_iconst (pc := 16) (x := 0) dX2_compare_16 zc_iconst_0 ?_
    refine z_istore (pc := 17) (lv' := [(5, .int 0), (4, .int 0), (3, .int q2), (0, .ref v0), (1, .int v1), (2, .int v2)]) dX2_compare_17 (by decide) rfl ?_
    obtain ⟨m8, em8, H⟩ := zbind H
    refine z_sub [3, 4, 2, 1, 0] rfl (s_X2_compare_L19 (by omega) N 0 0 _ em8 ?_)
    refine z_aload_n (pc := 44) 0 dX2_compare_44 rfl rfl ?_
    obtain ⟨x9, ex9, H⟩ := zbind H
    refine z_getI (pc := 45) dX2_compare_45 fd_X2_31 ex9 ?_
    refine z_iconst (pc := 48) (x := (-1)) dX2_compare_48 zc_iconst_m1 ?_
    obtain ⟨m10, em10, H⟩ := zbind H
    have Jm10 : ∀ s11, m10 = .inl s11 → zW yX2_compare cX2_compare 6 none 3 0 0 78 [(0, .ref v0), (1, .int v1), (3, .int q2), (4, .int m8)] [] h none r := by
      intro s11 e9
      subst e9
      have H := zsumL H
      refine z_aload_n (pc := 78) 0 dX2_compare_78 rfl rfl ?_
      refine z_iload_n (pc := 79) 1 dX2_compare_79 rfl rfl ?_
      obtain ⟨h21, eh21, H⟩ := zbind H
      refine z_put (pc := 80) dX2_compare_80 fd_X2_31 rfl rfl eh21 ?_
      refine z_aload_n (pc := 83) 0 dX2_compare_83 rfl rfl ?_
      refine z_iload_n (pc := 84) 2 dX2_compare_84 rfl rfl ?_
      obtain ⟨h22, eh22, H⟩ := zbind H
      refine z_put (pc := 85) dX2_compare_85 fd_X2_61 rfl rfl eh22 ?_
      refine z_aload_n (pc := 88) 0 dX2_compare_88 rfl rfl ?_
      refine z_iload (pc := 89) 3 dX2_compare_89 rfl ?_
      obtain ⟨h23, eh23, H⟩ := zbind H
      refine z_put (pc := 91) dX2_compare_91 fd_X2_58 rfl rfl eh23 ?_
      cases H
      exact z_return rfl dX2_compare_94
    refine z_icmp_eq (pc := 49) 78 dX2_compare_49 (by decide) (fun c12 => ?_) (fun c12 => ?_)
    · rw [if_pos c12] at em10
      cases em10
      exact z_sub [0, 1, 2, 3] rfl (Jm10 _ rfl)
    · rw [if_neg c12] at em10
      refine z_iload (pc := 52) 3 dX2_compare_52 rfl ?_
      refine z_aload_n (pc := 54) 0 dX2_compare_54 rfl rfl ?_
      obtain ⟨x13, ex13, em10⟩ := zbind em10
      refine z_getI (pc := 55) dX2_compare_55 fd_X2_58 ex13 ?_
      refine z_icmp_lt (pc := 58) 78 dX2_compare_58 (by decide) (fun c14 => ?_) (fun c14 => ?_)
      · rw [if_pos c14] at em10
        cases em10
        exact z_sub [0, 1, 2, 3] rfl (Jm10 _ rfl)
      · rw [if_neg c14] at em10
        refine z_iload (pc := 61) 3 dX2_compare_61 rfl ?_
        refine z_aload_n (pc := 63) 0 dX2_compare_63 rfl rfl ?_
        obtain ⟨x15, ex15, em10⟩ := zbind em10
        refine z_getI (pc := 64) dX2_compare_64 fd_X2_58 ex15 ?_
        refine z_icmp_ne (pc := 67) 94 dX2_compare_67 (by decide) (fun c16 => ?_) (fun c16 => ?_)
        · rw [if_neg c16] at em10
          obtain ⟨o17, H9, e9⟩ := zmapR em10
          subst e9
          have H9 := H9.trans (zsumR H)
          cases H9
          exact z_return rfl dX2_compare_94
        · rw [if_pos c16] at em10
          refine z_iload_n (pc := 70) 2 dX2_compare_70 rfl rfl ?_
          refine z_aload_n (pc := 71) 0 dX2_compare_71 rfl rfl ?_
          obtain ⟨x18, ex18, em10⟩ := zbind em10
          refine z_getI (pc := 72) dX2_compare_72 fd_X2_61 ex18 ?_
          refine z_icmp_ge (pc := 75) 94 dX2_compare_75 (by decide) (fun c19 => ?_) (fun c19 => ?_)
          · rw [if_pos c19] at em10
            obtain ⟨o20, H9, e9⟩ := zmapR em10
            subst e9
            have H9 := H9.trans (zsumR H)
            cases H9
            exact z_return rfl dX2_compare_94
          · rw [if_neg c19] at em10
            cases em10
            exact z_sub [0, 1, 2, 3] rfl (Jm10 _ rfl)
  · rw [if_neg c3] at H
    cases H
    exact z_return rfl dX2_compare_12

theorem zc_sipush_256 : (Int16.ofInt (256)).toInt32 = (256 : Int32) := by decide
theorem md_X2_streams : zMd yX2_streams cX2_streams 3 0 (some .int) := ⟨zmw (zmt_4 _ (List.mem_of_getElem? (i := 232) rfl)) rfl, zmem 122 (by decide +kernel) rfl, by decide, by decide, by decide +kernel, by decide⟩
theorem ml_X2_35 : Cond.methodLink RX2 35 yX2_streams ∈ zB := zmem 1060 (by decide +kernel) rfl
theorem im_X2_streams : Cond.instanceMethod yX2_streams ∈ zB := zmem 1061 (by decide +kernel) rfl
theorem se_X2_streams : Cond.selects yX2_streams.cls yX2_streams yX2_streams ∈ zB := zmem 1062 (by decide +kernel) rfl
theorem md_X2_arrange : zMd yX2_arrange cX2_arrange 4 1 (some .boolean) := ⟨zmw (zmt_5 _ (List.mem_of_getElem? (i := 0) rfl)) rfl, zmem 122 (by decide +kernel) rfl, by decide, by decide, by decide +kernel, by decide⟩
theorem ml_X2_39 : Cond.methodLink RX2 39 yX2_arrange ∈ zB := zmem 1068 (by decide +kernel) rfl
theorem im_X2_arrange : Cond.instanceMethod yX2_arrange ∈ zB := zmem 1070 (by decide +kernel) rfl
theorem se_X2_arrange : Cond.selects yX2_arrange.cls yX2_arrange yX2_arrange ∈ zB := zmem 41 (by decide +kernel) rfl
theorem md_X2_compare : zMd yX2_compare cX2_compare 6 2 none := ⟨zmw (zmt_5 _ (List.mem_of_getElem? (i := 12) rfl)) rfl, zmem 122 (by decide +kernel) rfl, by decide, by decide, by decide +kernel, by decide⟩
theorem ml_X2_42 : Cond.methodLink RX2 42 yX2_compare ∈ zB := zmem 1080 (by decide +kernel) rfl
theorem im_X2_compare : Cond.instanceMethod yX2_compare ∈ zB := zmem 1082 (by decide +kernel) rfl
theorem se_X2_compare : Cond.selects yX2_compare.cls yX2_compare yX2_compare ∈ zB := zmem 43 (by decide +kernel) rfl
def f_X2_findBest_L16 (N : Nat) (v0 : Nat) (v1 : Int32) : Nat → Int32 → zH → Option (zH)
  | 0, _, _ => none
  | n + 1, v2, h => if 256 ≤ v2 then (some h) else (zif (zob h v0 2) <| (f_X2_arrange N v0 v2 h).bind fun q7 => if q7.1 = 0 then (f_X2_findBest_L16 N v0 v1 n (v2 + 1) q7.2) else (zif (zob q7.2 v0 2) <| (f_X2_compare N v0 v2 v1 q7.2).bind fun h10 => f_X2_findBest_L16 N v0 v1 n (v2 + 1) h10))
set_option maxRecDepth 100000 in
set_option maxHeartbeats 4000000 in
theorem s_X2_findBest_L16 {d mc ms N : Nat} {vv : Option Value} {hh : zH} {v0 : Nat} {v1 : Int32} (hd0 : 4 ≤ d) : ∀ (n : Nat) (v2 : Int32) (h : zH) (m : zH), f_X2_findBest_L16 N v0 v1 n v2 h = some m → (zW yX2_findBest cX2_findBest 3 (some .boolean) d mc ms 43 [(0, .ref v0)] [] m vv hh) → zW yX2_findBest cX2_findBest 3 (some .boolean) d mc ms 16 [(0, .ref v0), (1, .int v1), (2, .int v2)] [] h vv hh := by
  intro n
  induction n with
  | zero =>
    intro v2 h m H
    cases H
  | succ n ih =>
    intro v2 h m H KE
    unfold f_X2_findBest_L16 at H
    refine z_iload_n (pc := 16) 2 dX2_findBest_16 rfl rfl ?_
    refine z_sipush (pc := 17) (x := 256) dX2_findBest_17 zc_sipush_256 ?_
    refine z_icmp_ge (pc := 20) 43 dX2_findBest_20 (by decide) (fun c5 => ?_) (fun c5 => ?_)
    · rw [if_pos c5] at H
      cases H
      exact z_sub [0] rfl (KE)
    · rw [if_neg c5] at H
      refine z_aload_n (pc := 23) 0 dX2_findBest_23 rfl rfl ?_
      refine z_iload_n (pc := 24) 2 dX2_findBest_24 rfl rfl ?_
      obtain ⟨z6, H⟩ := zifE H
      obtain ⟨q7, eq7, H⟩ := zbind H
      refine z_callV (pc := 25) (mc := mc) (ms := ms) (d' := 3) (mc' := 0) (ms' := 0) (rest := []) [.int v2] dX2_findBest_25 md_X2_arrange ml_X2_39 im_X2_arrange se_X2_arrange rfl z6 rfl rfl (Nat.le_of_ble_eq_true rfl) (by omega) (k_X2_arrange eq7) ?_
      refine z_if_eq (pc := 28) 37 dX2_findBest_28 (by decide) (fun c8 => ?_) (fun c8 => ?_)
      · rw [if_pos c8] at H
        refine z_iinc (pc := 37) (x' := v2 + 1) (lv' := [(2, .int (v2 + 1)), (0, .ref v0), (1, .int v1)]) 2 dX2_findBest_37 rfl (by rfl) (by decide) rfl ?_
        refine z_goto (pc := 40) 16 dX2_findBest_40 (by decide) ?_
        exact z_sub [1, 2, 0] rfl (ih (v2 + 1) q7.2 _ H KE)
      · rw [if_neg c8] at H
        refine z_aload_n (pc := 31) 0 dX2_findBest_31 rfl rfl ?_
        refine z_iload_n (pc := 32) 2 dX2_findBest_32 rfl rfl ?_
        refine z_iload_n (pc := 33) 1 dX2_findBest_33 rfl rfl ?_
        obtain ⟨z9, H⟩ := zifE H
        obtain ⟨h10, eh10, H⟩ := zbind H
        refine z_callV (pc := 34) (mc := mc) (ms := ms) (d' := 3) (mc' := 0) (ms' := 0) (rest := []) [.int v2, .int v1] dX2_findBest_34 md_X2_compare ml_X2_42 im_X2_compare se_X2_compare rfl z9 rfl rfl (Nat.le_of_ble_eq_true rfl) (by omega) (k_X2_compare eh10) ?_
        refine z_iinc (pc := 37) (x' := v2 + 1) (lv' := [(2, .int (v2 + 1)), (0, .ref v0), (1, .int v1)]) 2 dX2_findBest_37 rfl (by rfl) (by decide) rfl ?_
        refine z_goto (pc := 40) 16 dX2_findBest_40 (by decide) ?_
        exact z_sub [1, 2, 0] rfl (ih (v2 + 1) h10 _ H KE)
def f_X2_findBest (N : Nat) (v0 : Nat) (v1 : Int32) (h : zH) : Option (Int32 × zH) := (pF h v0 2 5 (.int (-1))).bind fun h1 => zif (zob h1 v0 2) <| (f_X2_streams N v0 h1).bind fun q3 => if q3 = 0 then (some (0, h1)) else ((f_X2_findBest_L16 N v0 v1 N 0 h1).bind fun m11 => (gI m11 v0 2 5).bind fun x12 => if x12 = (-1) then (some (0, m11)) else (some (1, m11)))
set_option maxRecDepth 100000 in
set_option maxHeartbeats 4000000 in
theorem k_X2_findBest {N : Nat} {v0 : Nat} {v1 : Int32} {h : zH} {r : Int32 × zH} (H : f_X2_findBest N v0 v1 h = some r) : zOk 4 0 0 yX2_findBest cX2_findBest 3 (some .boolean) [.ref v0, .int v1] h (some (.int r.1)) r.2 := by
  refine zOk.of (by decide) (Nat.le_of_ble_eq_true rfl) ?_
  unfold f_X2_findBest at H
  refine z_aload_n (pc := 0) 0 dX2_findBest_0 rfl rfl ?_
  refine z_iconst (pc := 1) (x := (-1)) dX2_findBest_1 zc_iconst_m1 ?_
  obtain ⟨h1, eh1, H⟩ := zbind H
  refine z_put (pc := 2) dX2_findBest_2 fd_X2_31 rfl rfl eh1 ?_
  refine z_aload_n (pc := 5) 0 dX2_findBest_5 rfl rfl ?_
  obtain ⟨z2, H⟩ := zifE H
  obtain ⟨q3, eq3, H⟩ := zbind H
  refine z_callV (pc := 6) (mc := 0) (ms := 0) (d' := 2) (mc' := 0) (ms' := 0) (rest := []) [] dX2_findBest_6 md_X2_streams ml_X2_35 im_X2_streams se_X2_streams rfl z2 rfl rfl (Nat.le_of_ble_eq_true rfl) (by omega) (k_X2_streams eq3) ?_
  refine z_if_ne (pc := 9) 14 dX2_findBest_9 (by decide) (fun c4 => ?_) (fun c4 => ?_)
  · rw [if_neg c4] at H
    refine z_iconst (pc := 14) (x := 0) dX2_findBest_14 zc_iconst_0 ?_
    refine z_istore_n (pc := 15) (lv' := [(2, .int 0), (0, .ref v0), (1, .int v1)]) dX2_findBest_15 rfl (by decide) rfl ?_
    obtain ⟨m11, em11, H⟩ := zbind H
    refine z_sub [1, 2, 0] rfl (s_X2_findBest_L16 (by omega) N 0 h1 _ em11 ?_)
    refine z_aload_n (pc := 43) 0 dX2_findBest_43 rfl rfl ?_
    obtain ⟨x12, ex12, H⟩ := zbind H
    refine z_getI (pc := 44) dX2_findBest_44 fd_X2_31 ex12 ?_
    refine z_iconst (pc := 47) (x := (-1)) dX2_findBest_47 zc_iconst_m1 ?_
    refine z_icmp_eq (pc := 48) 55 dX2_findBest_48 (by decide) (fun c13 => ?_) (fun c13 => ?_)
    · rw [if_pos c13] at H
      refine z_iconst (pc := 55) (x := 0) dX2_findBest_55 zc_iconst_0 ?_
      cases H
      exact z_zreturn rfl dX2_findBest_56 (by decide)
    · rw [if_neg c13] at H
      refine z_iconst (pc := 51) (x := 1) dX2_findBest_51 zc_iconst_1 ?_
      refine z_goto (pc := 52) 56 dX2_findBest_52 (by decide) ?_
      cases H
      exact z_zreturn rfl dX2_findBest_56 (by decide)
  · rw [if_pos c4] at H
    refine z_iconst (pc := 12) (x := 0) dX2_findBest_12 zc_iconst_0 ?_
    cases H
    exact z_zreturn rfl dX2_findBest_13 (by decide)

def f_X2_bestPhaseOf (N : Nat) (v0 : Nat) (v1 : Int32) (h : zH) : Option (Int32) := (gI h v0 2 5).bind fun x1 => some (p_X2_phaseOf x1 v1)
set_option maxRecDepth 100000 in
set_option maxHeartbeats 4000000 in
theorem k_X2_bestPhaseOf {N : Nat} {v0 : Nat} {v1 : Int32} {h : zH} {r : Int32} (H : f_X2_bestPhaseOf N v0 v1 h = some r) : zOk 1 0 0 yX2_bestPhaseOf cX2_bestPhaseOf 2 (some .int) [.ref v0, .int v1] h (some (.int r)) h := by
  refine zOk.of (by decide) (Nat.le_of_ble_eq_true rfl) ?_
  unfold f_X2_bestPhaseOf at H
  refine z_aload_n (pc := 0) 0 dX2_bestPhaseOf_0 rfl rfl ?_
  obtain ⟨x1, ex1, H⟩ := zbind H
  refine z_getI (pc := 1) dX2_bestPhaseOf_1 fd_X2_31 ex1 ?_
  refine z_iload_n (pc := 4) 1 dX2_bestPhaseOf_4 rfl rfl ?_
  refine z_callS (pc := 5) (mc := 0) (ms := 0) (d' := 0) (mc' := 0) (ms' := 0) (rest := []) [.int x1, .int v1] dX2_bestPhaseOf_5 md_X2_phaseOf ml_X2_46 sm_X2_phaseOf rfl rfl (Nat.le_of_ble_eq_true rfl) (by omega) (k_X2_phaseOf x1 v1 h _ rfl) ?_
  cases H
  exact z_ireturn rfl dX2_bestPhaseOf_8

def f_X2_bestWaitingOf (N : Nat) (v0 : Nat) (v1 : Int32) (v2 : Int32) (h : zH) : Option (Int32 × zH) := (gI h v0 2 5).bind fun x1 => zif (zob h v0 2) <| (f_X2_arrange N v0 x1 h).bind fun q3 => if q3.1 = 0 then (some ((-1), q3.2)) else ((gI q3.2 v0 2 5).bind fun x5 => zif (zob q3.2 v0 2) <| (f_X2_round N v0 v2 q3.2).bind fun q7 => zif (zob q3.2 v0 2) <| (f_X2_waitingOf N v0 v1 x5 q7 q3.2).bind fun q9 => some (q9, q3.2))
set_option maxRecDepth 100000 in
set_option maxHeartbeats 4000000 in
theorem k_X2_bestWaitingOf {N : Nat} {v0 : Nat} {v1 : Int32} {v2 : Int32} {h : zH} {r : Int32 × zH} (H : f_X2_bestWaitingOf N v0 v1 v2 h = some r) : zOk 4 0 0 yX2_bestWaitingOf cX2_bestWaitingOf 3 (some .int) [.ref v0, .int v1, .int v2] h (some (.int r.1)) r.2 := by
  refine zOk.of (by decide) (Nat.le_of_ble_eq_true rfl) ?_
  unfold f_X2_bestWaitingOf at H
  refine z_aload_n (pc := 0) 0 dX2_bestWaitingOf_0 rfl rfl ?_
  refine z_aload_n (pc := 1) 0 dX2_bestWaitingOf_1 rfl rfl ?_
  obtain ⟨x1, ex1, H⟩ := zbind H
  refine z_getI (pc := 2) dX2_bestWaitingOf_2 fd_X2_31 ex1 ?_
  obtain ⟨z2, H⟩ := zifE H
  obtain ⟨q3, eq3, H⟩ := zbind H
  refine z_callV (pc := 5) (mc := 0) (ms := 0) (d' := 3) (mc' := 0) (ms' := 0) (rest := []) [.int x1] dX2_bestWaitingOf_5 md_X2_arrange ml_X2_39 im_X2_arrange se_X2_arrange rfl z2 rfl rfl (Nat.le_of_ble_eq_true rfl) (by omega) (k_X2_arrange eq3) ?_
  refine z_if_eq (pc := 8) 28 dX2_bestWaitingOf_8 (by decide) (fun c4 => ?_) (fun c4 => ?_)
  · rw [if_pos c4] at H
    refine z_iconst (pc := 28) (x := (-1)) dX2_bestWaitingOf_28 zc_iconst_m1 ?_
    cases H
    exact z_ireturn rfl dX2_bestWaitingOf_29
  · rw [if_neg c4] at H
    refine z_aload_n (pc := 11) 0 dX2_bestWaitingOf_11 rfl rfl ?_
    refine z_iload_n (pc := 12) 1 dX2_bestWaitingOf_12 rfl rfl ?_
    refine z_aload_n (pc := 13) 0 dX2_bestWaitingOf_13 rfl rfl ?_
    obtain ⟨x5, ex5, H⟩ := zbind H
    refine z_getI (pc := 14) dX2_bestWaitingOf_14 fd_X2_31 ex5 ?_
    refine z_aload_n (pc := 17) 0 dX2_bestWaitingOf_17 rfl rfl ?_
    refine z_iload_n (pc := 18) 2 dX2_bestWaitingOf_18 rfl rfl ?_
    obtain ⟨z6, H⟩ := zifE H
    obtain ⟨q7, eq7, H⟩ := zbind H
    refine z_callV (pc := 19) (mc := 0) (ms := 0) (d' := 0) (mc' := 0) (ms' := 0) (rest := [.int x5, .int v1, .ref v0]) [.int v2] dX2_bestWaitingOf_19 md_X2_round ml_X2_50 im_X2_round se_X2_round rfl z6 rfl rfl (Nat.le_of_ble_eq_true rfl) (by omega) (k_X2_round eq7) ?_
    obtain ⟨z8, H⟩ := zifE H
    obtain ⟨q9, eq9, H⟩ := zbind H
    refine z_callV (pc := 22) (mc := 0) (ms := 0) (d' := 2) (mc' := 0) (ms' := 0) (rest := []) [.int v1, .int x5, .int q7] dX2_bestWaitingOf_22 md_X2_waitingOf ml_X2_54 im_X2_waitingOf se_X2_waitingOf rfl z8 rfl rfl (Nat.le_of_ble_eq_true rfl) (by omega) (k_X2_waitingOf eq9) ?_
    refine z_goto (pc := 25) 29 dX2_bestWaitingOf_25 (by decide) ?_
    cases H
    exact z_ireturn rfl dX2_bestWaitingOf_29

theorem zc_bipush_72 : (Int8.ofInt (72)).toInt32 = (72 : Int32) := by decide
theorem zc_sipush_512 : (Int16.ofInt (512)).toInt32 = (512 : Int32) := by decide
theorem ml_X3_3 : Cond.methodLink RX3 3 objectInit ∈ zB := zmem 421 (by decide +kernel) rfl
theorem fd_X3_11 : zFd RX3 11 3 0 (.array .int) true "WhoseStreet$House" := zFd.of cl_3 (by decide) (zmem 422 (by decide +kernel) rfl) rfl rfl rfl
theorem fd_X3_15 : zFd RX3 15 3 1 (.array .int) true "WhoseStreet$House" := zFd.of cl_3 (by decide) (zmem 423 (by decide +kernel) rfl) rfl rfl rfl
theorem fd_X3_18 : zFd RX3 18 3 2 (.array .int) true "WhoseStreet$House" := zFd.of cl_3 (by decide) (zmem 424 (by decide +kernel) rfl) rfl rfl rfl
theorem fd_X3_21 : zFd RX3 21 3 3 (.array .int) true "WhoseStreet$House" := zFd.of cl_3 (by decide) (zmem 425 (by decide +kernel) rfl) rfl rfl rfl
def f_X3_init (N : Nat) (v0 : Nat) (h : zH) : Option (zH) := zlet (znew h (zblank 0 8) : zH) fun h1 => (pF h1 v0 3 0 (.ref h.1.1)).bind fun h2 => zlet (znew h2 (zblank 0 72) : zH) fun h3 => (pF h3 v0 3 1 (.ref h2.1.1)).bind fun h4 => zlet (znew h4 (zblank 0 512) : zH) fun h5 => (pF h5 v0 3 2 (.ref h4.1.1)).bind fun h6 => zlet (znew h6 (zblank 0 512) : zH) fun h7 => (pF h7 v0 3 3 (.ref h6.1.1)).bind fun h8 => some h8
set_option maxRecDepth 100000 in
set_option maxHeartbeats 4000000 in
theorem k_X3_init {N : Nat} {v0 : Nat} {h : zH} {r : zH} (H : f_X3_init N v0 h = some r) : zOk 1 4 1104 yX3_init cX3_init 1 none [.ref v0] h none r := by
  refine zOk.of (by decide) (Nat.le_of_ble_eq_true rfl) ?_
  unfold f_X3_init at H
  refine z_aload_n (pc := 0) 0 dX3_init_0 rfl rfl ?_
  refine z_objInit (pc := 1) dX3_init_1 ml_X3_3 im_object cd_object (by omega) (Nat.le_of_ble_eq_true rfl) ?_
  refine z_aload_n (pc := 4) 0 dX3_init_4 rfl rfl ?_
  refine z_bipush (pc := 5) (x := 8) dX3_init_5 zc_bipush_8 ?_
  refine z_newarray (pc := 7) (mc := 3) (ms := 1096) (N := 8) 0 (by decide) dX3_init_7 rfl ac_int (by decide) (by decide) (by decide) ?_
  obtain ⟨h1, eh1, H⟩ := zletE H
  refine z_nmH eh1 ?_
  obtain ⟨h2, eh2, H⟩ := zbind H
  refine z_putF (pc := 9) dX3_init_9 fd_X3_11 rfl rfl rfl eh2 ?_
  refine z_aload_n (pc := 12) 0 dX3_init_12 rfl rfl ?_
  refine z_bipush (pc := 13) (x := 72) dX3_init_13 zc_bipush_72 ?_
  refine z_newarray (pc := 15) (mc := 2) (ms := 1024) (N := 72) 0 (by decide) dX3_init_15 rfl ac_int (by decide) (by decide) (by decide) ?_
  obtain ⟨h3, eh3, H⟩ := zletE H
  refine z_nmH eh3 ?_
  obtain ⟨h4, eh4, H⟩ := zbind H
  refine z_putF (pc := 17) dX3_init_17 fd_X3_15 rfl rfl rfl eh4 ?_
  refine z_aload_n (pc := 20) 0 dX3_init_20 rfl rfl ?_
  refine z_sipush (pc := 21) (x := 512) dX3_init_21 zc_sipush_512 ?_
  refine z_newarray (pc := 24) (mc := 1) (ms := 512) (N := 512) 0 (by decide) dX3_init_24 rfl ac_int (by decide) (by decide) (by decide) ?_
  obtain ⟨h5, eh5, H⟩ := zletE H
  refine z_nmH eh5 ?_
  obtain ⟨h6, eh6, H⟩ := zbind H
  refine z_putF (pc := 26) dX3_init_26 fd_X3_18 rfl rfl rfl eh6 ?_
  refine z_aload_n (pc := 29) 0 dX3_init_29 rfl rfl ?_
  refine z_sipush (pc := 30) (x := 512) dX3_init_30 zc_sipush_512 ?_
  refine z_newarray (pc := 33) (mc := 0) (ms := 0) (N := 512) 0 (by decide) dX3_init_33 rfl ac_int (by decide) (by decide) (by decide) ?_
  obtain ⟨h7, eh7, H⟩ := zletE H
  refine z_nmH eh7 ?_
  obtain ⟨h8, eh8, H⟩ := zbind H
  refine z_putF (pc := 35) dX3_init_35 fd_X3_21 rfl rfl rfl eh8 ?_
  cases H
  exact z_return rfl dX3_init_38

theorem fd_X3_24 : zFd RX3 24 3 6 (.int) false "WhoseStreet$House" := zFd.of cl_3 (by decide) (zmem 428 (by decide +kernel) rfl) rfl rfl rfl
theorem fd_X3_28 : zFd RX3 28 3 5 (.int) false "WhoseStreet$House" := zFd.of cl_3 (by decide) (zmem 427 (by decide +kernel) rfl) rfl rfl rfl
theorem fd_X3_31 : zFd RX3 31 3 4 (.boolean) false "WhoseStreet$House" := zFd.of cl_3 (by decide) (zmem 426 (by decide +kernel) rfl) rfl rfl rfl
def f_X3_add (N : Nat) (v0 : Nat) (v1 : Int32) (h : zH) : Option (Int32 × zH) := (gI h v0 3 6).bind fun x1 => if x1 < 8 then ((gR h v0 3 0).bind fun r3 => (gI h v0 3 6).bind fun x4 => (sI h r3 x4 v1).bind fun h5 => (gI h5 v0 3 5).bind fun x6 => (pF h5 v0 3 5 (.int (x6 + v1))).bind fun h7 => (gI h7 v0 3 6).bind fun x8 => (pF h7 v0 3 6 (.int (x8 + 1))).bind fun h9 => (pZ h9 v0 3 4 1).bind fun h10 => (gI h10 v0 3 6).bind fun x11 => some (x11 - 1, h10)) else (some ((-1), h))
set_option maxRecDepth 100000 in
set_option maxHeartbeats 4000000 in
theorem k_X3_add {N : Nat} {v0 : Nat} {v1 : Int32} {h : zH} {r : Int32 × zH} (H : f_X3_add N v0 v1 h = some r) : zOk 0 0 0 yX3_add cX3_add 2 (some .int) [.ref v0, .int v1] h (some (.int r.1)) r.2 := by
  refine zOk.of (by decide) (Nat.le_of_ble_eq_true rfl) ?_
  unfold f_X3_add at H
  refine z_aload_n (pc := 0) 0 dX3_add_0 rfl rfl ?_
  obtain ⟨x1, ex1, H⟩ := zbind H
  refine z_getI (pc := 1) dX3_add_1 fd_X3_24 ex1 ?_
  refine z_bipush (pc := 4) (x := 8) dX3_add_4 zc_bipush_8 ?_
  refine z_icmp_lt (pc := 6) 11 dX3_add_6 (by decide) (fun c2 => ?_) (fun c2 => ?_)
  · rw [if_pos c2] at H
    refine z_aload_n (pc := 11) 0 dX3_add_11 rfl rfl ?_
    obtain ⟨r3, er3, H⟩ := zbind H
    refine z_getR (pc := 12) dX3_add_12 fd_X3_11 er3 ?_
    refine z_aload_n (pc := 15) 0 dX3_add_15 rfl rfl ?_
    obtain ⟨x4, ex4, H⟩ := zbind H
    refine z_getI (pc := 16) dX3_add_16 fd_X3_24 ex4 ?_
    refine z_iload_n (pc := 19) 1 dX3_add_19 rfl rfl ?_
    obtain ⟨h5, eh5, H⟩ := zbind H
    refine z_iastore (pc := 20) dX3_add_20 eh5 ?_
    refine z_aload_n (pc := 21) 0 dX3_add_21 rfl rfl ?_
    refine z_dup (pc := 22) dX3_add_22 rfl ?_
    obtain ⟨x6, ex6, H⟩ := zbind H
    refine z_getI (pc := 23) dX3_add_23 fd_X3_28 ex6 ?_
    refine z_iload_n (pc := 26) 1 dX3_add_26 rfl rfl ?_
    refine z_iadd (pc := 27) dX3_add_27 ?_
    obtain ⟨h7, eh7, H⟩ := zbind H
    refine z_put (pc := 28) dX3_add_28 fd_X3_28 rfl rfl eh7 ?_
    refine z_aload_n (pc := 31) 0 dX3_add_31 rfl rfl ?_
    refine z_dup (pc := 32) dX3_add_32 rfl ?_
    obtain ⟨x8, ex8, H⟩ := zbind H
    refine z_getI (pc := 33) dX3_add_33 fd_X3_24 ex8 ?_
    refine z_iconst (pc := 36) (x := 1) dX3_add_36 zc_iconst_1 ?_
    refine z_iadd (pc := 37) dX3_add_37 ?_
    obtain ⟨h9, eh9, H⟩ := zbind H
    refine z_put (pc := 38) dX3_add_38 fd_X3_24 rfl rfl eh9 ?_
    refine z_aload_n (pc := 41) 0 dX3_add_41 rfl rfl ?_
    refine z_iconst (pc := 42) (x := 1) dX3_add_42 zc_iconst_1 ?_
    obtain ⟨h10, eh10, H⟩ := zbind H
    refine z_put (pc := 43) dX3_add_43 fd_X3_31 (pZ_n eh10) (pZ_f eh10) (pZ_p eh10) ?_
    refine z_aload_n (pc := 46) 0 dX3_add_46 rfl rfl ?_
    obtain ⟨x11, ex11, H⟩ := zbind H
    refine z_getI (pc := 47) dX3_add_47 fd_X3_24 ex11 ?_
    refine z_iconst (pc := 50) (x := 1) dX3_add_50 zc_iconst_1 ?_
    refine z_isub (pc := 51) dX3_add_51 ?_
    cases H
    exact z_ireturn rfl dX3_add_52
  · rw [if_neg c2] at H
    refine z_iconst (pc := 9) (x := (-1)) dX3_add_9 zc_iconst_m1 ?_
    cases H
    exact z_ireturn rfl dX3_add_10

theorem ns_X3_35 : (RX3, 35, yX11_within, "WhoseStreet") ∈ zNs := by decide +kernel
def f_X3_lean (N : Nat) (v0 : Nat) (v1 : Int32) (v2 : Int32) (v3 : Int32) (h : zH) : Option (zH) := if (p_X11_within v1 0 7) = 0 then (some h) else (if (p_X11_within v2 0 8) = 0 then (some h) else ((gR h v0 3 1).bind fun r3 => (sI h r3 ((v1 * 9) + v2) v3).bind fun h4 => (pZ h4 v0 3 4 1).bind fun h5 => some h5))
set_option maxRecDepth 100000 in
set_option maxHeartbeats 4000000 in
theorem k_X3_lean {N : Nat} {v0 : Nat} {v1 : Int32} {v2 : Int32} {v3 : Int32} {h : zH} {r : zH} (H : f_X3_lean N v0 v1 v2 v3 h = some r) : zOk 1 0 0 yX3_lean cX3_lean 4 none [.ref v0, .int v1, .int v2, .int v3] h none r := by
  refine zOk.of (by decide) (Nat.le_of_ble_eq_true rfl) ?_
  unfold f_X3_lean at H
  refine z_iload_n (pc := 0) 1 dX3_lean_0 rfl rfl ?_
  refine z_iconst (pc := 1) (x := 0) dX3_lean_1 zc_iconst_0 ?_
  refine z_bipush (pc := 2) (x := 7) dX3_lean_2 zc_bipush_7 ?_
  refine z_callSN (pc := 4) (mc := 0) (ms := 0) (d' := 0) (mc' := 0) (ms' := 0) (rest := []) [.int v1, .int 0, .int 7] dX3_lean_4 md_X11_within ns_X3_35 sm_X11_within rfl rfl (Nat.le_of_ble_eq_true rfl) (by omega) (k_X11_within v1 0 7 h _ rfl) ?_
  refine z_if_eq (pc := 7) 37 dX3_lean_7 (by decide) (fun c1 => ?_) (fun c1 => ?_)
  · rw [if_pos c1] at H
    cases H
    exact z_return rfl dX3_lean_37
  · rw [if_neg c1] at H
    refine z_iload_n (pc := 10) 2 dX3_lean_10 rfl rfl ?_
    refine z_iconst (pc := 11) (x := 0) dX3_lean_11 zc_iconst_0 ?_
    refine z_bipush (pc := 12) (x := 8) dX3_lean_12 zc_bipush_8 ?_
    refine z_callSN (pc := 14) (mc := 0) (ms := 0) (d' := 0) (mc' := 0) (ms' := 0) (rest := []) [.int v2, .int 0, .int 8] dX3_lean_14 md_X11_within ns_X3_35 sm_X11_within rfl rfl (Nat.le_of_ble_eq_true rfl) (by omega) (k_X11_within v2 0 8 h _ rfl) ?_
    refine z_if_eq (pc := 17) 37 dX3_lean_17 (by decide) (fun c2 => ?_) (fun c2 => ?_)
    · rw [if_pos c2] at H
      cases H
      exact z_return rfl dX3_lean_37
    · rw [if_neg c2] at H
      refine z_aload_n (pc := 20) 0 dX3_lean_20 rfl rfl ?_
      obtain ⟨r3, er3, H⟩ := zbind H
      refine z_getR (pc := 21) dX3_lean_21 fd_X3_15 er3 ?_
      refine z_iload_n (pc := 24) 1 dX3_lean_24 rfl rfl ?_
      refine z_bipush (pc := 25) (x := 9) dX3_lean_25 zc_bipush_9 ?_
      refine z_imul (pc := 27) dX3_lean_27 ?_
      refine z_iload_n (pc := 28) 2 dX3_lean_28 rfl rfl ?_
      refine z_iadd (pc := 29) dX3_lean_29 ?_
      refine z_iload_n (pc := 30) 3 dX3_lean_30 rfl rfl ?_
      obtain ⟨h4, eh4, H⟩ := zbind H
      refine z_iastore (pc := 31) dX3_lean_31 eh4 ?_
      refine z_aload_n (pc := 32) 0 dX3_lean_32 rfl rfl ?_
      refine z_iconst (pc := 33) (x := 1) dX3_lean_33 zc_iconst_1 ?_
      obtain ⟨h5, eh5, H⟩ := zbind H
      refine z_put (pc := 34) dX3_lean_34 fd_X3_31 (pZ_n eh5) (pZ_f eh5) (pZ_p eh5) ?_
      cases H
      exact z_return rfl dX3_lean_37

def f_X3_addUp_L41 (N : Nat) (v0 : Nat) (v3 : Int32) (v4 : Int32) : Nat → Int32 → zH → Option (zH)
  | 0, _, _ => none
  | n + 1, v5, h => if v4 ≤ v5 then (some h) else ((gR h v0 3 3).bind fun r9 => (gR h v0 3 3).bind fun r10 => (aI h r10 v5).bind fun x11 => (sI h r9 (v4 + v5) (x11 + v3)).bind fun h12 => f_X3_addUp_L41 N v0 v3 v4 n (v5 + 1) h12)
def f_X3_addUp_L9 (N : Nat) (v0 : Nat) (v1 : Int32) : Nat → Int32 → zH → Option (zH)
  | 0, _, _ => none
  | n + 1, v2, h => if 9 ≤ v2 then (some h) else (if 8 ≤ v1 then (some h) else ((gR h v0 3 1).bind fun r5 => (aI h r5 ((v1 * 9) + v2)).bind fun x6 => zlet (1 <<< (v2 &&& 31) : Int32) fun x7 => (f_X3_addUp_L41 N v0 x6 x7 N 0 h).bind fun m13 => f_X3_addUp_L9 N v0 v1 n (v2 + 1) m13))
set_option maxRecDepth 100000 in
set_option maxHeartbeats 4000000 in
theorem s_X3_addUp_L41 {d mc ms N : Nat} {vv : Option Value} {hh : zH} {v0 : Nat} {v3 : Int32} {v4 : Int32} {v1 : Int32} {v2 : Int32} (hd0 : 0 ≤ d) : ∀ (n : Nat) (v5 : Int32) (h : zH) (m : zH), f_X3_addUp_L41 N v0 v3 v4 n v5 h = some m → (zW yX3_addUp cX3_addUp 6 none d mc ms 73 [(0, .ref v0), (1, .int v1), (2, .int v2)] [] m vv hh) → zW yX3_addUp cX3_addUp 6 none d mc ms 41 [(0, .ref v0), (1, .int v1), (2, .int v2), (3, .int v3), (4, .int v4), (5, .int v5)] [] h vv hh := by
  intro n
  induction n with
  | zero =>
    intro v5 h m H
    cases H
  | succ n ih =>
    intro v5 h m H KE
    unfold f_X3_addUp_L41 at H
    refine z_iload (pc := 41) 5 dX3_addUp_41 rfl ?_
    refine z_iload (pc := 43) 4 dX3_addUp_43 rfl ?_
    refine z_icmp_ge (pc := 45) 73 dX3_addUp_45 (by decide) (fun c8 => ?_) (fun c8 => ?_)
    · rw [if_pos c8] at H
      cases H
      exact z_sub [0, 1, 2] rfl (KE)
    · rw [if_neg c8] at H
      refine z_aload_n (pc := 48) 0 dX3_addUp_48 rfl rfl ?_
      obtain ⟨r9, er9, H⟩ := zbind H
      refine z_getR (pc := 49) dX3_addUp_49 fd_X3_21 er9 ?_
      refine z_iload (pc := 52) 4 dX3_addUp_52 rfl ?_
      refine z_iload (pc := 54) 5 dX3_addUp_54 rfl ?_
      refine z_iadd (pc := 56) dX3_addUp_56 ?_
      refine z_aload_n (pc := 57) 0 dX3_addUp_57 rfl rfl ?_
      obtain ⟨r10, er10, H⟩ := zbind H
      refine z_getR (pc := 58) dX3_addUp_58 fd_X3_21 er10 ?_
      refine z_iload (pc := 61) 5 dX3_addUp_61 rfl ?_
      obtain ⟨x11, ex11, H⟩ := zbind H
      refine z_iaload (pc := 63) dX3_addUp_63 ex11 ?_
      refine z_iload_n (pc := 64) 3 dX3_addUp_64 rfl rfl ?_
      refine z_iadd (pc := 65) dX3_addUp_65 ?_
      obtain ⟨h12, eh12, H⟩ := zbind H
      refine z_iastore (pc := 66) dX3_addUp_66 eh12 ?_
      refine z_iinc (pc := 67) (x' := v5 + 1) (lv' := [(5, .int (v5 + 1)), (0, .ref v0), (1, .int v1), (2, .int v2), (3, .int v3), (4, .int v4)]) 5 dX3_addUp_67 rfl (by rfl) (by decide) rfl ?_
      refine z_goto (pc := 70) 41 dX3_addUp_70 (by decide) ?_
      exact z_sub [1, 2, 3, 4, 5, 0] rfl (ih (v5 + 1) h12 _ H KE)
set_option maxRecDepth 100000 in
set_option maxHeartbeats 4000000 in
theorem s_X3_addUp_L9 {d mc ms N : Nat} {vv : Option Value} {hh : zH} {v0 : Nat} {v1 : Int32} (hd0 : 0 ≤ d) : ∀ (n : Nat) (v2 : Int32) (h : zH) (m : zH), f_X3_addUp_L9 N v0 v1 n v2 h = some m → (zW yX3_addUp cX3_addUp 6 none d mc ms 79 [] [] m vv hh) → zW yX3_addUp cX3_addUp 6 none d mc ms 9 [(0, .ref v0), (1, .int v1), (2, .int v2)] [] h vv hh := by
  intro n
  induction n with
  | zero =>
    intro v2 h m H
    cases H
  | succ n ih =>
    intro v2 h m H KE
    unfold f_X3_addUp_L9 at H
    refine z_iload_n (pc := 9) 2 dX3_addUp_9 rfl rfl ?_
    refine z_bipush (pc := 10) (x := 9) dX3_addUp_10 zc_bipush_9 ?_
    refine z_icmp_ge (pc := 12) 79 dX3_addUp_12 (by decide) (fun c3 => ?_) (fun c3 => ?_)
    · rw [if_pos c3] at H
      cases H
      exact z_sub [] rfl (KE)
    · rw [if_neg c3] at H
      refine z_iload_n (pc := 15) 1 dX3_addUp_15 rfl rfl ?_
      refine z_bipush (pc := 16) (x := 8) dX3_addUp_16 zc_bipush_8 ?_
      refine z_icmp_ge (pc := 18) 79 dX3_addUp_18 (by decide) (fun c4 => ?_) (fun c4 => ?_)
      · rw [if_pos c4] at H
        cases H
        exact z_sub [] rfl (KE)
      · rw [if_neg c4] at H
        refine z_aload_n (pc := 21) 0 dX3_addUp_21 rfl rfl ?_
        obtain ⟨r5, er5, H⟩ := zbind H
        refine z_getR (pc := 22) dX3_addUp_22 fd_X3_15 er5 ?_
        refine z_iload_n (pc := 25) 1 dX3_addUp_25 rfl rfl ?_
        refine z_bipush (pc := 26) (x := 9) dX3_addUp_26 zc_bipush_9 ?_
        refine z_imul (pc := 28) dX3_addUp_28 ?_
        refine z_iload_n (pc := 29) 2 dX3_addUp_29 rfl rfl ?_
        refine z_iadd (pc := 30) dX3_addUp_30 ?_
        obtain ⟨x6, ex6, H⟩ := zbind H
        refine z_iaload (pc := 31) dX3_addUp_31 ex6 ?_
        refine z_istore_n (pc := 32) (lv' := [(3, .int x6), (0, .ref v0), (1, .int v1), (2, .int v2)]) dX3_addUp_32 rfl (by decide) rfl ?_
        refine z_iconst (pc := 33) (x := 1) dX3_addUp_33 zc_iconst_1 ?_
        refine z_iload_n (pc := 34) 3 dX3_addUp_34 rfl rfl ?_
        refine z_ishl (pc := 35) dX3_addUp_35 ?_
        obtain ⟨x7, ex7, H⟩ := zletE H
        refine z_nmI ex7 ?_
        refine z_istore (pc := 36) (lv' := [(4, .int x7), (3, .int x6), (0, .ref v0), (1, .int v1), (2, .int v2)]) dX3_addUp_36 (by decide) rfl ?_
        refine z_iconst (pc := 38) (x := 0) dX3_addUp_38 zc_iconst_0 ?_
        refine z_istore (pc := 39) (lv' := [(5, .int 0), (4, .int x7), (3, .int x6), (0, .ref v0), (1, .int v1), (2, .int v2)]) dX3_addUp_39 (by decide) rfl ?_
        obtain ⟨m13, em13, H⟩ := zbind H
        refine z_sub [3, 4, 5, 2, 1, 0] rfl (s_X3_addUp_L41 (by omega) N 0 h _ em13 ?_)
        refine z_iinc (pc := 73) (x' := v2 + 1) (lv' := [(2, .int (v2 + 1)), (0, .ref v0), (1, .int v1)]) 2 dX3_addUp_73 rfl (by rfl) (by decide) rfl ?_
        refine z_goto (pc := 76) 9 dX3_addUp_76 (by decide) ?_
        exact z_sub [1, 2, 0] rfl (ih (v2 + 1) m13 _ H KE)
def f_X3_addUp (N : Nat) (v0 : Nat) (v1 : Int32) (h : zH) : Option (zH) := (gR h v0 3 3).bind fun r1 => (sI h r1 0 0).bind fun h2 => (f_X3_addUp_L9 N v0 v1 N 0 h2).bind fun m14 => some m14
set_option maxRecDepth 100000 in
set_option maxHeartbeats 4000000 in
theorem k_X3_addUp {N : Nat} {v0 : Nat} {v1 : Int32} {h : zH} {r : zH} (H : f_X3_addUp N v0 v1 h = some r) : zOk 0 0 0 yX3_addUp cX3_addUp 6 none [.ref v0, .int v1] h none r := by
  refine zOk.of (by decide) (Nat.le_of_ble_eq_true rfl) ?_
  unfold f_X3_addUp at H
  refine z_aload_n (pc := 0) 0 dX3_addUp_0 rfl rfl ?_
  obtain ⟨r1, er1, H⟩ := zbind H
  refine z_getR (pc := 1) dX3_addUp_1 fd_X3_21 er1 ?_
  refine z_iconst (pc := 4) (x := 0) dX3_addUp_4 zc_iconst_0 ?_
  refine z_iconst (pc := 5) (x := 0) dX3_addUp_5 zc_iconst_0 ?_
  obtain ⟨h2, eh2, H⟩ := zbind H
  refine z_iastore (pc := 6) dX3_addUp_6 eh2 ?_
  refine z_iconst (pc := 7) (x := 0) dX3_addUp_7 zc_iconst_0 ?_
  refine z_istore_n (pc := 8) (lv' := [(2, .int 0), (0, .ref v0), (1, .int v1)]) dX3_addUp_8 rfl (by decide) rfl ?_
  obtain ⟨m14, em14, H⟩ := zbind H
  refine z_sub [1, 2, 0] rfl (s_X3_addUp_L9 (by omega) N 0 h2 _ em14 ?_)
  cases H
  exact z_return rfl dX3_addUp_79

theorem md_J7_fill_53178 : zMd yJ7_fill_53178 cJ7_fill_53178 4 2 none := ⟨zmw (zmt_2 _ (List.mem_of_getElem? (i := 102) rfl)) rfl, zmem 125 (by decide +kernel) rfl, by decide, by decide, by decide +kernel, by decide⟩
theorem ml_X3_55 : Cond.methodLink RX3 55 yJ7_fill_53178 ∈ zB := zmem 1134 (by decide +kernel) rfl
theorem sm_J7_fill_53178 : Cond.static yJ7_fill_53178 ∈ zB := zmem 452 (by decide +kernel) rfl
theorem md_X3_addUp : zMd yX3_addUp cX3_addUp 6 1 none := ⟨zmw (zmt_5 _ (List.mem_of_getElem? (i := 67) rfl)) rfl, zmem 123 (by decide +kernel) rfl, by decide, by decide, by decide +kernel, by decide⟩
theorem ml_X3_61 : Cond.methodLink RX3 61 yX3_addUp ∈ zB := zmem 1135 (by decide +kernel) rfl
theorem im_X3_addUp : Cond.instanceMethod yX3_addUp ∈ zB := zmem 1137 (by decide +kernel) rfl
theorem se_X3_addUp : Cond.selects yX3_addUp.cls yX3_addUp yX3_addUp ∈ zB := zmem 48 (by decide +kernel) rfl
def f_X3_poll_L31 (N : Nat) (v0 : Nat) (v1 : Int32) : Nat → Int32 → zH → Option (zH)
  | 0, _, _ => none
  | n + 1, v2, h => if 512 ≤ v2 then (some h) else ((gR h v0 3 3).bind fun r9 => (aI h r9 v2).bind fun x10 => if x10 < 0 then (f_X3_poll_L31 N v0 v1 n (v2 + 1) h) else ((gR h v0 3 2).bind fun r12 => (aI h r12 v2).bind fun x13 => (gR h v0 3 0).bind fun r14 => (aI h r14 v1).bind fun x15 => (sI h r12 v2 (x13 + x15)).bind fun h16 => f_X3_poll_L31 N v0 v1 n (v2 + 1) h16))
def f_X3_poll_L10 (N : Nat) (v0 : Nat) : Nat → Int32 → zH → Option (zH)
  | 0, _, _ => none
  | n + 1, v1, h => (gI h v0 3 6).bind fun x3 => if x3 ≤ v1 then (some h) else (if 8 ≤ v1 then (some h) else (zif (zob h v0 3) <| (f_X3_addUp N v0 v1 h).bind fun h7 => (f_X3_poll_L31 N v0 v1 N 0 h7).bind fun m17 => f_X3_poll_L10 N v0 n (v1 + 1) m17))
set_option maxRecDepth 100000 in
set_option maxHeartbeats 4000000 in
theorem s_X3_poll_L31 {d mc ms N : Nat} {vv : Option Value} {hh : zH} {v0 : Nat} {v1 : Int32} (hd0 : 1 ≤ d) : ∀ (n : Nat) (v2 : Int32) (h : zH) (m : zH), f_X3_poll_L31 N v0 v1 n v2 h = some m → (zW yX3_poll cX3_poll 3 none d mc ms 68 [(0, .ref v0), (1, .int v1)] [] m vv hh) → zW yX3_poll cX3_poll 3 none d mc ms 31 [(0, .ref v0), (1, .int v1), (2, .int v2)] [] h vv hh := by
  intro n
  induction n with
  | zero =>
    intro v2 h m H
    cases H
  | succ n ih =>
    intro v2 h m H KE
    unfold f_X3_poll_L31 at H
    refine z_iload_n (pc := 31) 2 dX3_poll_31 rfl rfl ?_
    refine z_sipush (pc := 32) (x := 512) dX3_poll_32 zc_sipush_512 ?_
    refine z_icmp_ge (pc := 35) 68 dX3_poll_35 (by decide) (fun c8 => ?_) (fun c8 => ?_)
    · rw [if_pos c8] at H
      cases H
      exact z_sub [0, 1] rfl (KE)
    · rw [if_neg c8] at H
      refine z_aload_n (pc := 38) 0 dX3_poll_38 rfl rfl ?_
      obtain ⟨r9, er9, H⟩ := zbind H
      refine z_getR (pc := 39) dX3_poll_39 fd_X3_21 er9 ?_
      refine z_iload_n (pc := 42) 2 dX3_poll_42 rfl rfl ?_
      obtain ⟨x10, ex10, H⟩ := zbind H
      refine z_iaload (pc := 43) dX3_poll_43 ex10 ?_
      refine z_if_lt (pc := 44) 62 dX3_poll_44 (by decide) (fun c11 => ?_) (fun c11 => ?_)
      · rw [if_pos c11] at H
        refine z_iinc (pc := 62) (x' := v2 + 1) (lv' := [(2, .int (v2 + 1)), (0, .ref v0), (1, .int v1)]) 2 dX3_poll_62 rfl (by rfl) (by decide) rfl ?_
        refine z_goto (pc := 65) 31 dX3_poll_65 (by decide) ?_
        exact z_sub [1, 2, 0] rfl (ih (v2 + 1) h _ H KE)
      · rw [if_neg c11] at H
        refine z_aload_n (pc := 47) 0 dX3_poll_47 rfl rfl ?_
        obtain ⟨r12, er12, H⟩ := zbind H
        refine z_getR (pc := 48) dX3_poll_48 fd_X3_18 er12 ?_
        refine z_iload_n (pc := 51) 2 dX3_poll_51 rfl rfl ?_
        refine z_dup2 (pc := 52) dX3_poll_52 rfl rfl ?_
        obtain ⟨x13, ex13, H⟩ := zbind H
        refine z_iaload (pc := 53) dX3_poll_53 ex13 ?_
        refine z_aload_n (pc := 54) 0 dX3_poll_54 rfl rfl ?_
        obtain ⟨r14, er14, H⟩ := zbind H
        refine z_getR (pc := 55) dX3_poll_55 fd_X3_11 er14 ?_
        refine z_iload_n (pc := 58) 1 dX3_poll_58 rfl rfl ?_
        obtain ⟨x15, ex15, H⟩ := zbind H
        refine z_iaload (pc := 59) dX3_poll_59 ex15 ?_
        refine z_iadd (pc := 60) dX3_poll_60 ?_
        obtain ⟨h16, eh16, H⟩ := zbind H
        refine z_iastore (pc := 61) dX3_poll_61 eh16 ?_
        refine z_iinc (pc := 62) (x' := v2 + 1) (lv' := [(2, .int (v2 + 1)), (0, .ref v0), (1, .int v1)]) 2 dX3_poll_62 rfl (by rfl) (by decide) rfl ?_
        refine z_goto (pc := 65) 31 dX3_poll_65 (by decide) ?_
        exact z_sub [1, 2, 0] rfl (ih (v2 + 1) h16 _ H KE)
set_option maxRecDepth 100000 in
set_option maxHeartbeats 4000000 in
theorem s_X3_poll_L10 {d mc ms N : Nat} {vv : Option Value} {hh : zH} {v0 : Nat} (hd0 : 1 ≤ d) : ∀ (n : Nat) (v1 : Int32) (h : zH) (m : zH), f_X3_poll_L10 N v0 n v1 h = some m → (zW yX3_poll cX3_poll 3 none d mc ms 74 [] [] m vv hh) → zW yX3_poll cX3_poll 3 none d mc ms 10 [(0, .ref v0), (1, .int v1)] [] h vv hh := by
  intro n
  induction n with
  | zero =>
    intro v1 h m H
    cases H
  | succ n ih =>
    intro v1 h m H KE
    unfold f_X3_poll_L10 at H
    refine z_iload_n (pc := 10) 1 dX3_poll_10 rfl rfl ?_
    refine z_aload_n (pc := 11) 0 dX3_poll_11 rfl rfl ?_
    obtain ⟨x3, ex3, H⟩ := zbind H
    refine z_getI (pc := 12) dX3_poll_12 fd_X3_24 ex3 ?_
    refine z_icmp_ge (pc := 15) 74 dX3_poll_15 (by decide) (fun c4 => ?_) (fun c4 => ?_)
    · rw [if_pos c4] at H
      cases H
      exact z_sub [] rfl (KE)
    · rw [if_neg c4] at H
      refine z_iload_n (pc := 18) 1 dX3_poll_18 rfl rfl ?_
      refine z_bipush (pc := 19) (x := 8) dX3_poll_19 zc_bipush_8 ?_
      refine z_icmp_ge (pc := 21) 74 dX3_poll_21 (by decide) (fun c5 => ?_) (fun c5 => ?_)
      · rw [if_pos c5] at H
        cases H
        exact z_sub [] rfl (KE)
      · rw [if_neg c5] at H
        refine z_aload_n (pc := 24) 0 dX3_poll_24 rfl rfl ?_
        refine z_iload_n (pc := 25) 1 dX3_poll_25 rfl rfl ?_
        obtain ⟨z6, H⟩ := zifE H
        obtain ⟨h7, eh7, H⟩ := zbind H
        refine z_callV (pc := 26) (mc := mc) (ms := ms) (d' := 0) (mc' := 0) (ms' := 0) (rest := []) [.int v1] dX3_poll_26 md_X3_addUp ml_X3_61 im_X3_addUp se_X3_addUp rfl z6 rfl rfl (Nat.le_of_ble_eq_true rfl) (by omega) (k_X3_addUp eh7) ?_
        refine z_iconst (pc := 29) (x := 0) dX3_poll_29 zc_iconst_0 ?_
        refine z_istore_n (pc := 30) (lv' := [(2, .int 0), (0, .ref v0), (1, .int v1)]) dX3_poll_30 rfl (by decide) rfl ?_
        obtain ⟨m17, em17, H⟩ := zbind H
        refine z_sub [1, 2, 0] rfl (s_X3_poll_L31 (by omega) N 0 h7 _ em17 ?_)
        refine z_iinc (pc := 68) (x' := v1 + 1) (lv' := [(1, .int (v1 + 1)), (0, .ref v0)]) 1 dX3_poll_68 rfl (by rfl) (by decide) rfl ?_
        refine z_goto (pc := 71) 10 dX3_poll_71 (by decide) ?_
        exact z_sub [1, 0] rfl (ih (v1 + 1) m17 _ H KE)
def f_X3_poll (N : Nat) (v0 : Nat) (h : zH) : Option (zH) := (gR h v0 3 2).bind fun r1 => (f_J7_fill_53178 N r1 0 h).bind fun h2 => (f_X3_poll_L10 N v0 N 0 h2).bind fun m18 => some m18
set_option maxRecDepth 100000 in
set_option maxHeartbeats 4000000 in
theorem k_X3_poll {N : Nat} {v0 : Nat} {h : zH} {r : zH} (H : f_X3_poll N v0 h = some r) : zOk 1 0 0 yX3_poll cX3_poll 3 none [.ref v0] h none r := by
  refine zOk.of (by decide) (Nat.le_of_ble_eq_true rfl) ?_
  unfold f_X3_poll at H
  refine z_aload_n (pc := 0) 0 dX3_poll_0 rfl rfl ?_
  obtain ⟨r1, er1, H⟩ := zbind H
  refine z_getR (pc := 1) dX3_poll_1 fd_X3_18 er1 ?_
  refine z_iconst (pc := 4) (x := 0) dX3_poll_4 zc_iconst_0 ?_
  obtain ⟨h2, eh2, H⟩ := zbind H
  refine z_callS (pc := 5) (mc := 0) (ms := 0) (d' := 0) (mc' := 0) (ms' := 0) (rest := []) [.ref r1, .int 0] dX3_poll_5 md_J7_fill_53178 ml_X3_55 sm_J7_fill_53178 rfl rfl (Nat.le_of_ble_eq_true rfl) (by omega) (k_J7_fill_53178 eh2) ?_
  refine z_iconst (pc := 8) (x := 0) dX3_poll_8 zc_iconst_0 ?_
  refine z_istore_n (pc := 9) (lv' := [(1, .int 0), (0, .ref v0)]) dX3_poll_9 rfl (by decide) rfl ?_
  obtain ⟨m18, em18, H⟩ := zbind H
  refine z_sub [1, 0] rfl (s_X3_poll_L10 (by omega) N 0 h2 _ em18 ?_)
  cases H
  exact z_return rfl dX3_poll_74

