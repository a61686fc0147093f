def f_X10_tellHurt (N : Nat) (v0 : Nat) (v1 : Int32) (v2 : Int32) (v3 : Int32) (v4 : Int32) (h : zH) : Option (zH) := if (p_X11_within v1 0 7) = 0 then (some h) else ((gR h v0 10 1).bind fun r2 => (sI h r2 (v1 * 3) v2).bind fun h3 => (gR h3 v0 10 1).bind fun r4 => (sI h3 r4 ((v1 * 3) + 1) v3).bind fun h5 => (gR h5 v0 10 1).bind fun r6 => (sI h5 r6 ((v1 * 3) + 2) v4).bind fun h7 => (pZ h7 v0 10 8 1).bind fun h8 => some h8)
set_option maxRecDepth 100000 in
set_option maxHeartbeats 4000000 in
theorem k_X10_tellHurt {N : Nat} {v0 : Nat} {v1 : Int32} {v2 : Int32} {v3 : Int32} {v4 : Int32} {h : zH} {r : zH} (H : f_X10_tellHurt N v0 v1 v2 v3 v4 h = some r) : zOk 1 0 0 yX10_tellHurt cX10_tellHurt 5 none [.ref v0, .int v1, .int v2, .int v3, .int v4] h none r := by
  refine zOk.of (by decide) (Nat.le_of_ble_eq_true rfl) ?_
  unfold f_X10_tellHurt at H
  refine z_iload_n (pc := 0) 1 dX10_tellHurt_0 rfl rfl ?_
  refine z_iconst (pc := 1) (x := 0) dX10_tellHurt_1 zc_iconst_0 ?_
  refine z_bipush (pc := 2) (x := 7) dX10_tellHurt_2 zc_bipush_7 ?_
  refine z_callSN (pc := 4) (mc := 0) (ms := 0) (d' := 0) (mc' := 0) (ms' := 0) (rest := []) [.int v1, .int 0, .int 7] dX10_tellHurt_4 md_X11_within ns_X10_40 sm_X11_within rfl rfl (Nat.le_of_ble_eq_true rfl) (by omega) (k_X11_within v1 0 7 h _ rfl) ?_
  refine z_if_eq (pc := 7) 47 dX10_tellHurt_7 (by decide) (fun c1 => ?_) (fun c1 => ?_)
  · rw [if_pos c1] at H
    cases H
    exact z_return rfl dX10_tellHurt_47
  · rw [if_neg c1] at H
    refine z_aload_n (pc := 10) 0 dX10_tellHurt_10 rfl rfl ?_
    obtain ⟨r2, er2, H⟩ := zbind H
    refine z_getR (pc := 11) dX10_tellHurt_11 fd_X10_15 er2 ?_
    refine z_iload_n (pc := 14) 1 dX10_tellHurt_14 rfl rfl ?_
    refine z_iconst (pc := 15) (x := 3) dX10_tellHurt_15 zc_iconst_3 ?_
    refine z_imul (pc := 16) dX10_tellHurt_16 ?_
    refine z_iload_n (pc := 17) 2 dX10_tellHurt_17 rfl rfl ?_
    obtain ⟨h3, eh3, H⟩ := zbind H
    refine z_iastore (pc := 18) dX10_tellHurt_18 eh3 ?_
    refine z_aload_n (pc := 19) 0 dX10_tellHurt_19 rfl rfl ?_
    obtain ⟨r4, er4, H⟩ := zbind H
    refine z_getR (pc := 20) dX10_tellHurt_20 fd_X10_15 er4 ?_
    refine z_iload_n (pc := 23) 1 dX10_tellHurt_23 rfl rfl ?_
    refine z_iconst (pc := 24) (x := 3) dX10_tellHurt_24 zc_iconst_3 ?_
    refine z_imul (pc := 25) dX10_tellHurt_25 ?_
    refine z_iconst (pc := 26) (x := 1) dX10_tellHurt_26 zc_iconst_1 ?_
    refine z_iadd (pc := 27) dX10_tellHurt_27 ?_
    refine z_iload_n (pc := 28) 3 dX10_tellHurt_28 rfl rfl ?_
    obtain ⟨h5, eh5, H⟩ := zbind H
    refine z_iastore (pc := 29) dX10_tellHurt_29 eh5 ?_
    refine z_aload_n (pc := 30) 0 dX10_tellHurt_30 rfl rfl ?_
    obtain ⟨r6, er6, H⟩ := zbind H
    refine z_getR (pc := 31) dX10_tellHurt_31 fd_X10_15 er6 ?_
    refine z_iload_n (pc := 34) 1 dX10_tellHurt_34 rfl rfl ?_
    refine z_iconst (pc := 35) (x := 3) dX10_tellHurt_35 zc_iconst_3 ?_
    refine z_imul (pc := 36) dX10_tellHurt_36 ?_
    refine z_iconst (pc := 37) (x := 2) dX10_tellHurt_37 zc_iconst_2 ?_
    refine z_iadd (pc := 38) dX10_tellHurt_38 ?_
    refine z_iload (pc := 39) 4 dX10_tellHurt_39 rfl ?_
    obtain ⟨h7, eh7, H⟩ := zbind H
    refine z_iastore (pc := 41) dX10_tellHurt_41 eh7 ?_
    refine z_aload_n (pc := 42) 0 dX10_tellHurt_42 rfl rfl ?_
    refine z_iconst (pc := 43) (x := 1) dX10_tellHurt_43 zc_iconst_1 ?_
    obtain ⟨h8, eh8, H⟩ := zbind H
    refine z_put (pc := 44) dX10_tellHurt_44 fd_X10_36 (pZ_n eh8) (pZ_f eh8) (pZ_p eh8) ?_
    cases H
    exact z_return rfl dX10_tellHurt_47

theorem fd_X10_48 : zFd RX10 48 10 10 (.int) false "WhoseStreet$Town" := zFd.of cl_10 (by decide) (zmem 478 (by decide +kernel) rfl) rfl rfl rfl
def f_X10_addTrip (N : Nat) (v0 : Nat) (v1 : Int32) (v2 : Int32) (h : zH) : Option (Int32 × zH) := (gI h v0 10 10).bind fun x1 => if x1 < 8 then ((gR h v0 10 2).bind fun r3 => (gI h v0 10 10).bind fun x4 => (sI h r3 x4 v1).bind fun h5 => (gR h5 v0 10 3).bind fun r6 => (gI h5 v0 10 10).bind fun x7 => (sI h5 r6 x7 v2).bind fun h8 => (gI h8 v0 10 10).bind fun x9 => (pF h8 v0 10 10 (.int (x9 + 1))).bind fun h10 => (pZ h10 v0 10 8 1).bind fun h11 => (gI h11 v0 10 10).bind fun x12 => some (x12 - 1, h11)) else (some ((-1), h))
set_option maxRecDepth 100000 in
set_option maxHeartbeats 4000000 in
theorem k_X10_addTrip {N : Nat} {v0 : Nat} {v1 : Int32} {v2 : Int32} {h : zH} {r : Int32 × zH} (H : f_X10_addTrip N v0 v1 v2 h = some r) : zOk 0 0 0 yX10_addTrip cX10_addTrip 3 (some .int) [.ref v0, .int v1, .int v2] h (some (.int r.1)) r.2 := by
  refine zOk.of (by decide) (Nat.le_of_ble_eq_true rfl) ?_
  unfold f_X10_addTrip at H
  refine z_aload_n (pc := 0) 0 dX10_addTrip_0 rfl rfl ?_
  obtain ⟨x1, ex1, H⟩ := zbind H
  refine z_getI (pc := 1) dX10_addTrip_1 fd_X10_48 ex1 ?_
  refine z_bipush (pc := 4) (x := 8) dX10_addTrip_4 zc_bipush_8 ?_
  refine z_icmp_lt (pc := 6) 11 dX10_addTrip_6 (by decide) (fun c2 => ?_) (fun c2 => ?_)
  · rw [if_pos c2] at H
    refine z_aload_n (pc := 11) 0 dX10_addTrip_11 rfl rfl ?_
    obtain ⟨r3, er3, H⟩ := zbind H
    refine z_getR (pc := 12) dX10_addTrip_12 fd_X10_18 er3 ?_
    refine z_aload_n (pc := 15) 0 dX10_addTrip_15 rfl rfl ?_
    obtain ⟨x4, ex4, H⟩ := zbind H
    refine z_getI (pc := 16) dX10_addTrip_16 fd_X10_48 ex4 ?_
    refine z_iload_n (pc := 19) 1 dX10_addTrip_19 rfl rfl ?_
    obtain ⟨h5, eh5, H⟩ := zbind H
    refine z_iastore (pc := 20) dX10_addTrip_20 eh5 ?_
    refine z_aload_n (pc := 21) 0 dX10_addTrip_21 rfl rfl ?_
    obtain ⟨r6, er6, H⟩ := zbind H
    refine z_getR (pc := 22) dX10_addTrip_22 fd_X10_21 er6 ?_
    refine z_aload_n (pc := 25) 0 dX10_addTrip_25 rfl rfl ?_
    obtain ⟨x7, ex7, H⟩ := zbind H
    refine z_getI (pc := 26) dX10_addTrip_26 fd_X10_48 ex7 ?_
    refine z_iload_n (pc := 29) 2 dX10_addTrip_29 rfl rfl ?_
    obtain ⟨h8, eh8, H⟩ := zbind H
    refine z_iastore (pc := 30) dX10_addTrip_30 eh8 ?_
    refine z_aload_n (pc := 31) 0 dX10_addTrip_31 rfl rfl ?_
    refine z_dup (pc := 32) dX10_addTrip_32 rfl ?_
    obtain ⟨x9, ex9, H⟩ := zbind H
    refine z_getI (pc := 33) dX10_addTrip_33 fd_X10_48 ex9 ?_
    refine z_iconst (pc := 36) (x := 1) dX10_addTrip_36 zc_iconst_1 ?_
    refine z_iadd (pc := 37) dX10_addTrip_37 ?_
    obtain ⟨h10, eh10, H⟩ := zbind H
    refine z_put (pc := 38) dX10_addTrip_38 fd_X10_48 rfl rfl eh10 ?_
    refine z_aload_n (pc := 41) 0 dX10_addTrip_41 rfl rfl ?_
    refine z_iconst (pc := 42) (x := 1) dX10_addTrip_42 zc_iconst_1 ?_
    obtain ⟨h11, eh11, H⟩ := zbind H
    refine z_put (pc := 43) dX10_addTrip_43 fd_X10_36 (pZ_n eh11) (pZ_f eh11) (pZ_p eh11) ?_
    refine z_aload_n (pc := 46) 0 dX10_addTrip_46 rfl rfl ?_
    obtain ⟨x12, ex12, H⟩ := zbind H
    refine z_getI (pc := 47) dX10_addTrip_47 fd_X10_48 ex12 ?_
    refine z_iconst (pc := 50) (x := 1) dX10_addTrip_50 zc_iconst_1 ?_
    refine z_isub (pc := 51) dX10_addTrip_51 ?_
    cases H
    exact z_ireturn rfl dX10_addTrip_52
  · rw [if_neg c2] at H
    refine z_iconst (pc := 9) (x := (-1)) dX10_addTrip_9 zc_iconst_m1 ?_
    cases H
    exact z_ireturn rfl dX10_addTrip_10

def f_X10_groupOf (N : Nat) (v0 : Nat) (v1 : Int32) (h : zH) : Option (Int32) := if v1 < 0 then (some 0) else (if 8 ≤ v1 then (some 0) else ((gR h v0 10 5).bind fun r3 => (aI h r3 v1).bind fun x4 => some x4))
set_option maxRecDepth 100000 in
set_option maxHeartbeats 4000000 in
theorem k_X10_groupOf {N : Nat} {v0 : Nat} {v1 : Int32} {h : zH} {r : Int32} (H : f_X10_groupOf N v0 v1 h = some r) : zOk 0 0 0 yX10_groupOf cX10_groupOf 2 (some .int) [.ref v0, .int v1] h (some (.int r)) h := by
  refine zOk.of (by decide) (Nat.le_of_ble_eq_true rfl) ?_
  unfold f_X10_groupOf at H
  refine z_iload_n (pc := 0) 1 dX10_groupOf_0 rfl rfl ?_
  refine z_if_lt (pc := 1) 19 dX10_groupOf_1 (by decide) (fun c1 => ?_) (fun c1 => ?_)
  · rw [if_pos c1] at H
    refine z_iconst (pc := 19) (x := 0) dX10_groupOf_19 zc_iconst_0 ?_
    cases H
    exact z_ireturn rfl dX10_groupOf_20
  · rw [if_neg c1] at H
    refine z_iload_n (pc := 4) 1 dX10_groupOf_4 rfl rfl ?_
    refine z_bipush (pc := 5) (x := 8) dX10_groupOf_5 zc_bipush_8 ?_
    refine z_icmp_ge (pc := 7) 19 dX10_groupOf_7 (by decide) (fun c2 => ?_) (fun c2 => ?_)
    · rw [if_pos c2] at H
      refine z_iconst (pc := 19) (x := 0) dX10_groupOf_19 zc_iconst_0 ?_
      cases H
      exact z_ireturn rfl dX10_groupOf_20
    · rw [if_neg c2] at H
      refine z_aload_n (pc := 10) 0 dX10_groupOf_10 rfl rfl ?_
      obtain ⟨r3, er3, H⟩ := zbind H
      refine z_getR (pc := 11) dX10_groupOf_11 fd_X10_27 er3 ?_
      refine z_iload_n (pc := 14) 1 dX10_groupOf_14 rfl rfl ?_
      obtain ⟨x4, ex4, H⟩ := zbind H
      refine z_iaload (pc := 15) dX10_groupOf_15 ex4 ?_
      refine z_goto (pc := 16) 20 dX10_groupOf_16 (by decide) ?_
      cases H
      exact z_ireturn rfl dX10_groupOf_20

theorem md_X10_groupOf : zMd yX10_groupOf cX10_groupOf 2 1 (some .int) := ⟨zmw (zmt_5 _ (List.mem_of_getElem? (i := 149) rfl)) rfl, zmem 126 (by decide +kernel) rfl, by decide, by decide, by decide +kernel, by decide⟩
theorem ml_X10_87 : Cond.methodLink RX10 87 yX10_groupOf ∈ zB := zmem 1217 (by decide +kernel) rfl
theorem im_X10_groupOf : Cond.instanceMethod yX10_groupOf ∈ zB := zmem 1219 (by decide +kernel) rfl
theorem se_X10_groupOf : Cond.selects yX10_groupOf.cls yX10_groupOf yX10_groupOf ∈ zB := zmem 53 (by decide +kernel) rfl
def f_X10_join_L15 (N : Nat) (v0 : Nat) (v3 : Int32) : Nat → Int32 → zH → Option (zH)
  | 0, _, _ => none
  | n + 1, v4, h => if 8 ≤ v4 then (some h) else (if ((v3 >>> (v4 &&& 31)) &&& 1) = 0 then (f_X10_join_L15 N v0 v3 n (v4 + 1) h) else ((gR h v0 10 5).bind fun r8 => (sI h r8 v4 v3).bind fun h9 => f_X10_join_L15 N v0 v3 n (v4 + 1) h9))
set_option maxRecDepth 100000 in
set_option maxHeartbeats 4000000 in
theorem s_X10_join_L15 {d mc ms N : Nat} {vv : Option Value} {hh : zH} {v0 : Nat} {v3 : Int32} (hd0 : 1 ≤ d) : ∀ (n : Nat) (v4 : Int32) (h : zH) (m : zH), f_X10_join_L15 N v0 v3 n v4 h = some m → (zW yX10_join cX10_join 5 none d mc ms 45 [] [] m vv hh) → zW yX10_join cX10_join 5 none d mc ms 15 [(0, .ref v0), (3, .int v3), (4, .int v4)] [] h vv hh := by
  intro n
  induction n with
  | zero =>
    intro v4 h m H
    cases H
  | succ n ih =>
    intro v4 h m H KE
    unfold f_X10_join_L15 at H
    refine z_iload (pc := 15) 2 dX10_join_15 rfl ?_
    refine z_bipush (pc := 17) (x := 8) dX10_join_17 zc_bipush_8 ?_
    refine z_icmp_ge (pc := 19) 45 dX10_join_19 (by decide) (fun c6 => ?_) (fun c6 => ?_)
    · rw [if_pos c6] at H
      cases H
      exact z_sub [] rfl (KE)
    · rw [if_neg c6] at H
      refine z_iload_n (pc := 22) 1 dX10_join_22 rfl rfl ?_
      refine z_iload (pc := 23) 2 dX10_join_23 rfl ?_
      refine z_ishr (pc := 25) dX10_join_25 ?_
      refine z_iconst (pc := 26) (x := 1) dX10_join_26 zc_iconst_1 ?_
      refine z_iand (pc := 27) dX10_join_27 ?_
      refine z_if_eq (pc := 28) 39 dX10_join_28 (by decide) (fun c7 => ?_) (fun c7 => ?_)
      · rw [if_pos c7] at H
        refine z_iinc (pc := 39) (x' := v4 + 1) (lv' := [(4, .int (v4 + 1)), (0, .ref v0), (3, .int v3)]) 2 dX10_join_39 rfl (by rfl) (by decide) rfl ?_
        refine z_goto (pc := 42) 15 dX10_join_42 (by decide) ?_
        exact z_sub [1, 2, 0] rfl (ih (v4 + 1) h _ H KE)
      · rw [if_neg c7] at H
        refine z_aload_n (pc := 31) 0 dX10_join_31 rfl rfl ?_
        obtain ⟨r8, er8, H⟩ := zbind H
        refine z_getR (pc := 32) dX10_join_32 fd_X10_27 er8 ?_
        refine z_iload (pc := 35) 2 dX10_join_35 rfl ?_
        refine z_iload_n (pc := 37) 1 dX10_join_37 rfl rfl ?_
        obtain ⟨h9, eh9, H⟩ := zbind H
        refine z_iastore (pc := 38) dX10_join_38 eh9 ?_
        refine z_iinc (pc := 39) (x' := v4 + 1) (lv' := [(4, .int (v4 + 1)), (0, .ref v0), (3, .int v3)]) 2 dX10_join_39 rfl (by rfl) (by decide) rfl ?_
        refine z_goto (pc := 42) 15 dX10_join_42 (by decide) ?_
        exact z_sub [1, 2, 0] rfl (ih (v4 + 1) h9 _ H KE)
def f_X10_join (N : Nat) (v0 : Nat) (v1 : Int32) (v2 : Int32) (h : zH) : Option (zH) := zif (zob h v0 10) <| (f_X10_groupOf N v0 v1 h).bind fun q2 => zif (zob h v0 10) <| (f_X10_groupOf N v0 v2 h).bind fun q4 => zlet (q2 ||| q4 : Int32) fun x5 => (f_X10_join_L15 N v0 x5 N 0 h).bind fun m10 => some m10
set_option maxRecDepth 100000 in
set_option maxHeartbeats 4000000 in
theorem k_X10_join {N : Nat} {v0 : Nat} {v1 : Int32} {v2 : Int32} {h : zH} {r : zH} (H : f_X10_join N v0 v1 v2 h = some r) : zOk 1 0 0 yX10_join cX10_join 5 none [.ref v0, .int v1, .int v2] h none r := by
  refine zOk.of (by decide) (Nat.le_of_ble_eq_true rfl) ?_
  unfold f_X10_join at H
  refine z_aload_n (pc := 0) 0 dX10_join_0 rfl rfl ?_
  refine z_iload_n (pc := 1) 1 dX10_join_1 rfl rfl ?_
  obtain ⟨z1, H⟩ := zifE H
  obtain ⟨q2, eq2, H⟩ := zbind H
  refine z_callV (pc := 2) (mc := 0) (ms := 0) (d' := 0) (mc' := 0) (ms' := 0) (rest := []) [.int v1] dX10_join_2 md_X10_groupOf ml_X10_87 im_X10_groupOf se_X10_groupOf rfl z1 rfl rfl (Nat.le_of_ble_eq_true rfl) (by omega) (k_X10_groupOf eq2) ?_
  refine z_aload_n (pc := 5) 0 dX10_join_5 rfl rfl ?_
  refine z_iload_n (pc := 6) 2 dX10_join_6 rfl rfl ?_
  obtain ⟨z3, H⟩ := zifE H
  obtain ⟨q4, eq4, H⟩ := zbind H
  refine z_callV (pc := 7) (mc := 0) (ms := 0) (d' := 0) (mc' := 0) (ms' := 0) (rest := [.int q2]) [.int v2] dX10_join_7 md_X10_groupOf ml_X10_87 im_X10_groupOf se_X10_groupOf rfl z3 rfl rfl (Nat.le_of_ble_eq_true rfl) (by omega) (k_X10_groupOf eq4) ?_
  refine z_ior (pc := 10) dX10_join_10 ?_
  obtain ⟨x5, ex5, H⟩ := zletE H
  refine z_nmI ex5 ?_
  refine z_istore_n (pc := 11) (lv' := [(3, .int x5), (0, .ref v0), (1, .int v1), (2, .int v2)]) dX10_join_11 rfl (by decide) rfl ?_
  refine z_iconst (pc := 12) (x := 0) dX10_join_12 zc_iconst_0 ?_
  refine z_istore (pc := 13) (lv' := [(4, .int 0), (3, .int x5), (0, .ref v0), (1, .int v1), (2, .int v2)]) dX10_join_13 (by decide) rfl ?_
  obtain ⟨m10, em10, H⟩ := zbind H
  refine z_sub [2, 1, 0] rfl (s_X10_join_L15 (by omega) N 0 h _ em10 ?_)
  cases H
  exact z_return rfl dX10_join_45

theorem md_X10_join : zMd yX10_join cX10_join 5 2 none := ⟨zmw (zmt_5 _ (List.mem_of_getElem? (i := 145) rfl)) rfl, zmem 126 (by decide +kernel) rfl, by decide, by decide, by decide +kernel, by decide⟩
theorem ml_X10_83 : Cond.methodLink RX10 83 yX10_join ∈ zB := zmem 1213 (by decide +kernel) rfl
theorem im_X10_join : Cond.instanceMethod yX10_join ∈ zB := zmem 1215 (by decide +kernel) rfl
theorem se_X10_join : Cond.selects yX10_join.cls yX10_join yX10_join ∈ zB := zmem 52 (by decide +kernel) rfl
def f_X10_tripsBy_L2 (N : Nat) (v0 : Nat) : Nat → Int32 → zH → Option (zH)
  | 0, _, _ => none
  | n + 1, v2, h => if 8 ≤ v2 then (some h) else ((gR h v0 10 5).bind fun r2 => (sI h r2 v2 (1 <<< (v2 &&& 31))).bind fun h3 => f_X10_tripsBy_L2 N v0 n (v2 + 1) h3)
def f_X10_tripsBy_L25 (N : Nat) (v0 : Nat) (v1 : Int32) : Nat → Int32 → zH → Option (zH)
  | 0, _, _ => none
  | n + 1, v2, h => if 8 ≤ v2 then (some h) else (if ((v1 >>> (v2 &&& 31)) &&& 1) = 0 then (f_X10_tripsBy_L25 N v0 v1 n (v2 + 1) h) else ((gR h v0 10 0).bind fun r7 => (aI h r7 (v2 * 2)).bind fun x8 => (gR h v0 10 0).bind fun r9 => (aI h r9 ((v2 * 2) + 1)).bind fun x10 => zif (zob h v0 10) <| (f_X10_join N v0 x8 x10 h).bind fun h12 => f_X10_tripsBy_L25 N v0 v1 n (v2 + 1) h12))
def f_X10_tripsBy_L71 (N : Nat) (v0 : Nat) (h : zH) : Nat → Int32 → Int32 → Option (Int32)
  | 0, _, _ => none
  | n + 1, v2, v3 => (gI h v0 10 10).bind fun x14 => if x14 ≤ v3 then (some v2) else (if 8 ≤ v3 then (some v2) else ((gR h v0 10 2).bind fun r17 => (aI h r17 v3).bind fun x18 => zif (zob h v0 10) <| (f_X10_groupOf N v0 x18 h).bind fun q20 => (gR h v0 10 3).bind fun r21 => (aI h r21 v3).bind fun x22 => if ((q20 >>> (x22 &&& 31)) &&& 1) = 0 then (f_X10_tripsBy_L71 N v0 h n v2 (v3 + 1)) else (f_X10_tripsBy_L71 N v0 h n (v2 + 1) (v3 + 1))))
set_option maxRecDepth 100000 in
set_option maxHeartbeats 4000000 in
theorem s_X10_tripsBy_L2 {d mc ms N : Nat} {vv : Option Value} {hh : zH} {v0 : Nat} {v1 : Int32} (hd0 : 2 ≤ d) : ∀ (n : Nat) (v2 : Int32) (h : zH) (m : zH), f_X10_tripsBy_L2 N v0 n v2 h = some m → (zW yX10_tripsBy cX10_tripsBy 4 (some .int) d mc ms 23 [(0, .ref v0), (1, .int v1)] [] m vv hh) → zW yX10_tripsBy cX10_tripsBy 4 (some .int) d mc ms 2 [(0, .ref v0), (1, .int v1), (2, .int v2)] [] h vv hh := by
  intro n
  induction n with
  | zero =>
    intro v2 h m H
    cases H
  | succ n ih =>
    intro v2 h m H KE
    unfold f_X10_tripsBy_L2 at H
    refine z_iload_n (pc := 2) 2 dX10_tripsBy_2 rfl rfl ?_
    refine z_bipush (pc := 3) (x := 8) dX10_tripsBy_3 zc_bipush_8 ?_
    refine z_icmp_ge (pc := 5) 23 dX10_tripsBy_5 (by decide) (fun c1 => ?_) (fun c1 => ?_)
    · rw [if_pos c1] at H
      cases H
      exact z_sub [0, 1] rfl (KE)
    · rw [if_neg c1] at H
      refine z_aload_n (pc := 8) 0 dX10_tripsBy_8 rfl rfl ?_
      obtain ⟨r2, er2, H⟩ := zbind H
      refine z_getR (pc := 9) dX10_tripsBy_9 fd_X10_27 er2 ?_
      refine z_iload_n (pc := 12) 2 dX10_tripsBy_12 rfl rfl ?_
      refine z_iconst (pc := 13) (x := 1) dX10_tripsBy_13 zc_iconst_1 ?_
      refine z_iload_n (pc := 14) 2 dX10_tripsBy_14 rfl rfl ?_
      refine z_ishl (pc := 15) dX10_tripsBy_15 ?_
      obtain ⟨h3, eh3, H⟩ := zbind H
      refine z_iastore (pc := 16) dX10_tripsBy_16 eh3 ?_
      refine z_iinc (pc := 17) (x' := v2 + 1) (lv' := [(2, .int (v2 + 1)), (0, .ref v0), (1, .int v1)]) 2 dX10_tripsBy_17 rfl (by rfl) (by decide) rfl ?_
      refine z_goto (pc := 20) 2 dX10_tripsBy_20 (by decide) ?_
      exact z_sub [1, 2, 0] rfl (ih (v2 + 1) h3 _ H KE)
set_option maxRecDepth 100000 in
set_option maxHeartbeats 4000000 in
theorem s_X10_tripsBy_L25 {d mc ms N : Nat} {vv : Option Value} {hh : zH} {v0 : Nat} {v1 : Int32} (hd0 : 2 ≤ d) : ∀ (n : Nat) (v2 : Int32) (h : zH) (m : zH), f_X10_tripsBy_L25 N v0 v1 n v2 h = some m → (zW yX10_tripsBy cX10_tripsBy 4 (some .int) d mc ms 67 [(0, .ref v0)] [] m vv hh) → zW yX10_tripsBy cX10_tripsBy 4 (some .int) d mc ms 25 [(0, .ref v0), (1, .int v1), (2, .int v2)] [] h vv hh := by
  intro n
  induction n with
  | zero =>
    intro v2 h m H
    cases H
  | succ n ih =>
    intro v2 h m H KE
    unfold f_X10_tripsBy_L25 at H
    refine z_iload_n (pc := 25) 2 dX10_tripsBy_25 rfl rfl ?_
    refine z_bipush (pc := 26) (x := 8) dX10_tripsBy_26 zc_bipush_8 ?_
    refine z_icmp_ge (pc := 28) 67 dX10_tripsBy_28 (by decide) (fun c5 => ?_) (fun c5 => ?_)
    · rw [if_pos c5] at H
      cases H
      exact z_sub [0] rfl (KE)
    · rw [if_neg c5] at H
      refine z_iload_n (pc := 31) 1 dX10_tripsBy_31 rfl rfl ?_
      refine z_iload_n (pc := 32) 2 dX10_tripsBy_32 rfl rfl ?_
      refine z_ishr (pc := 33) dX10_tripsBy_33 ?_
      refine z_iconst (pc := 34) (x := 1) dX10_tripsBy_34 zc_iconst_1 ?_
      refine z_iand (pc := 35) dX10_tripsBy_35 ?_
      refine z_if_eq (pc := 36) 61 dX10_tripsBy_36 (by decide) (fun c6 => ?_) (fun c6 => ?_)
      · rw [if_pos c6] at H
        refine z_iinc (pc := 61) (x' := v2 + 1) (lv' := [(2, .int (v2 + 1)), (0, .ref v0), (1, .int v1)]) 2 dX10_tripsBy_61 rfl (by rfl) (by decide) rfl ?_
        refine z_goto (pc := 64) 25 dX10_tripsBy_64 (by decide) ?_
        exact z_sub [1, 2, 0] rfl (ih (v2 + 1) h _ H KE)
      · rw [if_neg c6] at H
        refine z_aload_n (pc := 39) 0 dX10_tripsBy_39 rfl rfl ?_
        refine z_aload_n (pc := 40) 0 dX10_tripsBy_40 rfl rfl ?_
        obtain ⟨r7, er7, H⟩ := zbind H
        refine z_getR (pc := 41) dX10_tripsBy_41 fd_X10_11 er7 ?_
        refine z_iload_n (pc := 44) 2 dX10_tripsBy_44 rfl rfl ?_
        refine z_iconst (pc := 45) (x := 2) dX10_tripsBy_45 zc_iconst_2 ?_
        refine z_imul (pc := 46) dX10_tripsBy_46 ?_
        obtain ⟨x8, ex8, H⟩ := zbind H
        refine z_iaload (pc := 47) dX10_tripsBy_47 ex8 ?_
        refine z_aload_n (pc := 48) 0 dX10_tripsBy_48 rfl rfl ?_
        obtain ⟨r9, er9, H⟩ := zbind H
        refine z_getR (pc := 49) dX10_tripsBy_49 fd_X10_11 er9 ?_
        refine z_iload_n (pc := 52) 2 dX10_tripsBy_52 rfl rfl ?_
        refine z_iconst (pc := 53) (x := 2) dX10_tripsBy_53 zc_iconst_2 ?_
        refine z_imul (pc := 54) dX10_tripsBy_54 ?_
        refine z_iconst (pc := 55) (x := 1) dX10_tripsBy_55 zc_iconst_1 ?_
        refine z_iadd (pc := 56) dX10_tripsBy_56 ?_
        obtain ⟨x10, ex10, H⟩ := zbind H
        refine z_iaload (pc := 57) dX10_tripsBy_57 ex10 ?_
        obtain ⟨z11, H⟩ := zifE H
        obtain ⟨h12, eh12, H⟩ := zbind H
        refine z_callV (pc := 58) (mc := mc) (ms := ms) (d' := 1) (mc' := 0) (ms' := 0) (rest := []) [.int x8, .int x10] dX10_tripsBy_58 md_X10_join ml_X10_83 im_X10_join se_X10_join rfl z11 rfl rfl (Nat.le_of_ble_eq_true rfl) (by omega) (k_X10_join eh12) ?_
        refine z_iinc (pc := 61) (x' := v2 + 1) (lv' := [(2, .int (v2 + 1)), (0, .ref v0), (1, .int v1)]) 2 dX10_tripsBy_61 rfl (by rfl) (by decide) rfl ?_
        refine z_goto (pc := 64) 25 dX10_tripsBy_64 (by decide) ?_
        exact z_sub [1, 2, 0] rfl (ih (v2 + 1) h12 _ H KE)
set_option maxRecDepth 100000 in
set_option maxHeartbeats 4000000 in
theorem s_X10_tripsBy_L71 {d mc ms N : Nat} {vv : Option Value} {hh : zH} {v0 : Nat} {h : zH} (hd0 : 2 ≤ d) : ∀ (n : Nat) (v2 : Int32) (v3 : Int32) (m : Int32), f_X10_tripsBy_L71 N v0 h n v2 v3 = some m → (zW yX10_tripsBy cX10_tripsBy 4 (some .int) d mc ms 116 [(2, .int m)] [] h vv hh) → zW yX10_tripsBy cX10_tripsBy 4 (some .int) d mc ms 71 [(0, .ref v0), (2, .int v2), (3, .int v3)] [] h vv hh := by
  intro n
  induction n with
  | zero =>
    intro v2 v3 m H
    cases H
  | succ n ih =>
    intro v2 v3 m H KE
    unfold f_X10_tripsBy_L71 at H
    refine z_iload_n (pc := 71) 2 dX10_tripsBy_71 rfl rfl ?_
    refine z_aload_n (pc := 72) 0 dX10_tripsBy_72 rfl rfl ?_
    obtain ⟨x14, ex14, H⟩ := zbind H
    refine z_getI (pc := 73) dX10_tripsBy_73 fd_X10_48 ex14 ?_
    refine z_icmp_ge (pc := 76) 116 dX10_tripsBy_76 (by decide) (fun c15 => ?_) (fun c15 => ?_)
    · rw [if_pos c15] at H
      cases H
      exact z_sub [1] rfl (KE)
    · rw [if_neg c15] at H
      refine z_iload_n (pc := 79) 2 dX10_tripsBy_79 rfl rfl ?_
      refine z_bipush (pc := 80) (x := 8) dX10_tripsBy_80 zc_bipush_8 ?_
      refine z_icmp_ge (pc := 82) 116 dX10_tripsBy_82 (by decide) (fun c16 => ?_) (fun c16 => ?_)
      · rw [if_pos c16] at H
        cases H
        exact z_sub [1] rfl (KE)
      · rw [if_neg c16] at H
        refine z_aload_n (pc := 85) 0 dX10_tripsBy_85 rfl rfl ?_
        refine z_aload_n (pc := 86) 0 dX10_tripsBy_86 rfl rfl ?_
        obtain ⟨r17, er17, H⟩ := zbind H
        refine z_getR (pc := 87) dX10_tripsBy_87 fd_X10_18 er17 ?_
        refine z_iload_n (pc := 90) 2 dX10_tripsBy_90 rfl rfl ?_
        obtain ⟨x18, ex18, H⟩ := zbind H
        refine z_iaload (pc := 91) dX10_tripsBy_91 ex18 ?_
        obtain ⟨z19, H⟩ := zifE H
        obtain ⟨q20, eq20, H⟩ := zbind H
        refine z_callV (pc := 92) (mc := mc) (ms := ms) (d' := 0) (mc' := 0) (ms' := 0) (rest := []) [.int x18] dX10_tripsBy_92 md_X10_groupOf ml_X10_87 im_X10_groupOf se_X10_groupOf rfl z19 rfl rfl (Nat.le_of_ble_eq_true rfl) (by omega) (k_X10_groupOf eq20) ?_
        refine z_aload_n (pc := 95) 0 dX10_tripsBy_95 rfl rfl ?_
        obtain ⟨r21, er21, H⟩ := zbind H
        refine z_getR (pc := 96) dX10_tripsBy_96 fd_X10_21 er21 ?_
        refine z_iload_n (pc := 99) 2 dX10_tripsBy_99 rfl rfl ?_
        obtain ⟨x22, ex22, H⟩ := zbind H
        refine z_iaload (pc := 100) dX10_tripsBy_100 ex22 ?_
        refine z_ishr (pc := 101) dX10_tripsBy_101 ?_
        refine z_iconst (pc := 102) (x := 1) dX10_tripsBy_102 zc_iconst_1 ?_
        refine z_iand (pc := 103) dX10_tripsBy_103 ?_
        refine z_if_eq (pc := 104) 110 dX10_tripsBy_104 (by decide) (fun c23 => ?_) (fun c23 => ?_)
        · rw [if_pos c23] at H
          refine z_iinc (pc := 110) (x' := v3 + 1) (lv' := [(3, .int (v3 + 1)), (0, .ref v0), (2, .int v2)]) 2 dX10_tripsBy_110 rfl (by rfl) (by decide) rfl ?_
          refine z_goto (pc := 113) 71 dX10_tripsBy_113 (by decide) ?_
          exact z_sub [1, 2, 0] rfl (ih v2 (v3 + 1) _ H KE)
        · rw [if_neg c23] at H
          refine z_iinc (pc := 107) (x' := v2 + 1) (lv' := [(2, .int (v2 + 1)), (0, .ref v0), (3, .int v3)]) 1 dX10_tripsBy_107 rfl (by rfl) (by decide) rfl ?_
          refine z_iinc (pc := 110) (x' := v3 + 1) (lv' := [(3, .int (v3 + 1)), (2, .int (v2 + 1)), (0, .ref v0)]) 2 dX10_tripsBy_110 rfl (by rfl) (by decide) rfl ?_
          refine z_goto (pc := 113) 71 dX10_tripsBy_113 (by decide) ?_
          exact z_sub [2, 1, 0] rfl (ih (v2 + 1) (v3 + 1) _ H KE)
def f_X10_tripsBy (N : Nat) (v0 : Nat) (v1 : Int32) (h : zH) : Option (Int32 × zH) := (f_X10_tripsBy_L2 N v0 N 0 h).bind fun m4 => (f_X10_tripsBy_L25 N v0 v1 N 0 m4).bind fun m13 => (f_X10_tripsBy_L71 N v0 m13 N 0 0).bind fun m24 => some (m24, m13)
set_option maxRecDepth 100000 in
set_option maxHeartbeats 4000000 in
theorem k_X10_tripsBy {N : Nat} {v0 : Nat} {v1 : Int32} {h : zH} {r : Int32 × zH} (H : f_X10_tripsBy N v0 v1 h = some r) : zOk 2 0 0 yX10_tripsBy cX10_tripsBy 4 (some .int) [.ref v0, .int v1] h (some (.int r.1)) r.2 := by
  refine zOk.of (by decide) (Nat.le_of_ble_eq_true rfl) ?_
  unfold f_X10_tripsBy at H
  refine z_iconst (pc := 0) (x := 0) dX10_tripsBy_0 zc_iconst_0 ?_
  refine z_istore_n (pc := 1) (lv' := [(2, .int 0), (0, .ref v0), (1, .int v1)]) dX10_tripsBy_1 rfl (by decide) rfl ?_
  obtain ⟨m4, em4, H⟩ := zbind H
  refine z_sub [1, 2, 0] rfl (s_X10_tripsBy_L2 (by omega) N 0 h _ em4 ?_)
  refine z_iconst (pc := 23) (x := 0) dX10_tripsBy_23 zc_iconst_0 ?_
  refine z_istore_n (pc := 24) (lv' := [(2, .int 0), (0, .ref v0), (1, .int v1)]) dX10_tripsBy_24 rfl (by decide) rfl ?_
  obtain ⟨m13, em13, H⟩ := zbind H
  refine z_sub [1, 2, 0] rfl (s_X10_tripsBy_L25 (by omega) N 0 m4 _ em13 ?_)
  refine z_iconst (pc := 67) (x := 0) dX10_tripsBy_67 zc_iconst_0 ?_
  refine z_istore_n (pc := 68) (lv' := [(2, .int 0), (0, .ref v0)]) dX10_tripsBy_68 rfl (by decide) rfl ?_
  refine z_iconst (pc := 69) (x := 0) dX10_tripsBy_69 zc_iconst_0 ?_
  refine z_istore_n (pc := 70) (lv' := [(3, .int 0), (2, .int 0), (0, .ref v0)]) dX10_tripsBy_70 rfl (by decide) rfl ?_
  obtain ⟨m24, em24, H⟩ := zbind H
  refine z_sub [2, 1, 0] rfl (s_X10_tripsBy_L71 (by omega) N 0 0 _ em24 ?_)
  refine z_iload_n (pc := 116) 0 dX10_tripsBy_116 rfl rfl ?_
  cases H
  exact z_ireturn rfl dX10_tripsBy_117

def f_X10_weigh (N : Nat) (v0 : Nat) (v1 : Int32) (v2 : Int32) (v3 : Int32) (v4 : Int32) (h : zH) : Option (zH) := (gR h v0 10 4).bind fun r1 => (aN h r1).bind fun x2 => (if (p_X11_within v1 0 (x2 - 1)) = 0 then (some 0) else ((gR h v0 10 4).bind fun r5 => (aN h r5).bind fun x6 => if (p_X11_within v2 0 (x6 - 1)) = 0 then (some 0) else (some 1)) : Option (Int32)).bind fun m3 => if m3 = 0 then (some h) else ((gR h v0 10 4).bind fun r9 => (aI h r9 v2).bind fun x10 => (gI h v0 10 10).bind fun x11 => if x11 ≤ x10 then ((gI h v0 10 10).bind fun x13 => (gR h v0 10 4).bind fun r14 => (aI h r14 v1).bind fun x15 => zlet (x13 - x15 : Int32) fun x16 => if x16 < 0 then (some h) else ((gR h v0 10 6).bind fun r18 => (aN h r18).bind fun x19 => if x19 ≤ x16 then (some h) else ((gR h v0 10 6).bind fun r21 => (aI h r21 x16).bind fun x22 => (if x22 = (-1) then (some (.inl ())) else ((gR h v0 10 6).bind fun r26 => (aI h r26 x16).bind fun x27 => if x27 ≤ v3 then ((some h).map .inr) else (some (.inl ()))) : Option ((Unit) ⊕ (zH))).bind fun m23 => zsum m23 fun s24 => (gR h v0 10 6).bind fun r30 => (sI h r30 x16 v3).bind fun h31 => (gR h31 v0 10 7).bind fun r32 => (sI h31 r32 x16 v4).bind fun h33 => some h33))) else (some h))
set_option maxRecDepth 100000 in
set_option maxHeartbeats 4000000 in
theorem k_X10_weigh {N : Nat} {v0 : Nat} {v1 : Int32} {v2 : Int32} {v3 : Int32} {v4 : Int32} {h : zH} {r : zH} (H : f_X10_weigh N v0 v1 v2 v3 v4 h = some r) : zOk 1 0 0 yX10_weigh cX10_weigh 7 none [.ref v0, .int v1, .int v2, .int v3, .int v4] h none r := by
  refine zOk.of (by decide) (Nat.le_of_ble_eq_true rfl) ?_
  unfold f_X10_weigh at H
  refine z_iload_n (pc := 0) 1 dX10_weigh_0 rfl rfl ?_
  refine z_iconst (pc := 1) (x := 0) dX10_weigh_1 zc_iconst_0 ?_
  refine z_aload_n (pc := 2) 0 dX10_weigh_2 rfl rfl ?_
  obtain ⟨r1, er1, H⟩ := zbind H
  refine z_getR (pc := 3) dX10_weigh_3 fd_X10_24 er1 ?_
  obtain ⟨x2, ex2, H⟩ := zbind H
  refine z_alen (pc := 6) dX10_weigh_6 ex2 ?_
  refine z_iconst (pc := 7) (x := 1) dX10_weigh_7 zc_iconst_1 ?_
  refine z_isub (pc := 8) dX10_weigh_8 ?_
  refine z_callSN (pc := 9) (mc := 0) (ms := 0) (d' := 0) (mc' := 0) (ms' := 0) (rest := []) [.int v1, .int 0, .int (x2 - 1)] dX10_weigh_9 md_X11_within ns_X10_40 sm_X11_within rfl rfl (Nat.le_of_ble_eq_true rfl) (by omega) (k_X11_within v1 0 (x2 - 1) h _ rfl) ?_
  obtain ⟨m3, em3, H⟩ := zbind H
  have Jm3 : zW yX10_weigh cX10_weigh 7 none 1 0 0 35 [(0, .ref v0), (1, .int v1), (2, .int v2), (3, .int v3), (4, .int v4)] [.int m3] h none r := by
    refine z_istore (pc := 35) (lv' := [(5, .int m3), (0, .ref v0), (1, .int v1), (2, .int v2), (3, .int v3), (4, .int v4)]) dX10_weigh_35 (by decide) rfl ?_
    refine z_iload (pc := 37) 0 dX10_weigh_37 rfl ?_
    refine z_if_eq (pc := 39) 55 dX10_weigh_39 (by decide) (fun c8 => ?_) (fun c8 => ?_)
    · rw [if_pos c8] at H
      cases H
      exact z_return rfl dX10_weigh_55
    · rw [if_neg c8] at H
      refine z_aload_n (pc := 42) 1 dX10_weigh_42 rfl rfl ?_
      obtain ⟨r9, er9, H⟩ := zbind H
      refine z_getR (pc := 43) dX10_weigh_43 fd_X10_24 er9 ?_
      refine z_iload_n (pc := 46) 3 dX10_weigh_46 rfl rfl ?_
      obtain ⟨x10, ex10, H⟩ := zbind H
      refine z_iaload (pc := 47) dX10_weigh_47 ex10 ?_
      refine z_aload_n (pc := 48) 1 dX10_weigh_48 rfl rfl ?_
      obtain ⟨x11, ex11, H⟩ := zbind H
      refine z_getI (pc := 49) dX10_weigh_49 fd_X10_48 ex11 ?_
      refine z_icmp_ge (pc := 52) 56 dX10_weigh_52 (by decide) (fun c12 => ?_) (fun c12 => ?_)
      · rw [if_pos c12] at H
        refine z_aload_n (pc := 56) 1 dX10_weigh_56 rfl rfl ?_
        obtain ⟨x13, ex13, H⟩ := zbind H
        refine z_getI (pc := 57) dX10_weigh_57 fd_X10_48 ex13 ?_
        refine z_aload_n (pc := 60) 1 dX10_weigh_60 rfl rfl ?_
        obtain ⟨r14, er14, H⟩ := zbind H
        refine z_getR (pc := 61) dX10_weigh_61 fd_X10_24 er14 ?_
        refine z_iload_n (pc := 64) 2 dX10_weigh_64 rfl rfl ?_
        obtain ⟨x15, ex15, H⟩ := zbind H
        refine z_iaload (pc := 65) dX10_weigh_65 ex15 ?_
        refine z_isub (pc := 66) dX10_weigh_66 ?_
        obtain ⟨x16, ex16, H⟩ := zletE H
        refine z_nmI ex16 ?_
        refine z_istore (pc := 67) (lv' := [(6, .int x16), (5, .int m3), (0, .ref v0), (1, .int v1), (2, .int v2), (3, .int v3), (4, .int v4)]) dX10_weigh_67 (by decide) rfl ?_
        refine z_iload (pc := 69) 0 dX10_weigh_69 rfl ?_
        refine z_if_lt (pc := 71) 123 dX10_weigh_71 (by decide) (fun c17 => ?_) (fun c17 => ?_)
        · rw [if_pos c17] at H
          cases H
          exact z_return rfl dX10_weigh_123
        · rw [if_neg c17] at H
          refine z_iload (pc := 74) 0 dX10_weigh_74 rfl ?_
          refine z_aload_n (pc := 76) 2 dX10_weigh_76 rfl rfl ?_
          obtain ⟨r18, er18, H⟩ := zbind H
          refine z_getR (pc := 77) dX10_weigh_77 fd_X10_30 er18 ?_
          obtain ⟨x19, ex19, H⟩ := zbind H
          refine z_alen (pc := 80) dX10_weigh_80 ex19 ?_
          refine z_icmp_ge (pc := 81) 123 dX10_weigh_81 (by decide) (fun c20 => ?_) (fun c20 => ?_)
          · rw [if_pos c20] at H
            cases H
            exact z_return rfl dX10_weigh_123
          · rw [if_neg c20] at H
            refine z_aload_n (pc := 84) 2 dX10_weigh_84 rfl rfl ?_
            obtain ⟨r21, er21, H⟩ := zbind H
            refine z_getR (pc := 85) dX10_weigh_85 fd_X10_30 er21 ?_
            refine z_iload (pc := 88) 0 dX10_weigh_88 rfl ?_
            obtain ⟨x22, ex22, H⟩ := zbind H
            refine z_iaload (pc := 90) dX10_weigh_90 ex22 ?_
            refine z_iconst (pc := 91) (x := (-1)) dX10_weigh_91 zc_iconst_m1 ?_
            obtain ⟨m23, em23, H⟩ := zbind H
            have Jm23 : ∀ s24, m23 = .inl s24 → zW yX10_weigh cX10_weigh 7 none 1 0 0 106 [(0, .ref v0), (3, .int v3), (4, .int v4), (6, .int x16)] [] h none r := by
              intro s24 e9
              subst e9
              have H := zsumL H
              refine z_aload_n (pc := 106) 0 dX10_weigh_106 rfl rfl ?_
              obtain ⟨r30, er30, H⟩ := zbind H
              refine z_getR (pc := 107) dX10_weigh_107 fd_X10_30 er30 ?_
              refine z_iload (pc := 110) 3 dX10_weigh_110 rfl ?_
              refine z_iload_n (pc := 112) 1 dX10_weigh_112 rfl rfl ?_
              obtain ⟨h31, eh31, H⟩ := zbind H
              refine z_iastore (pc := 113) dX10_weigh_113 eh31 ?_
              refine z_aload_n (pc := 114) 0 dX10_weigh_114 rfl rfl ?_
              obtain ⟨r32, er32, H⟩ := zbind H
              refine z_getR (pc := 115) dX10_weigh_115 fd_X10_33 er32 ?_
              refine z_iload (pc := 118) 3 dX10_weigh_118 rfl ?_
              refine z_iload (pc := 120) 2 dX10_weigh_120 rfl ?_
              obtain ⟨h33, eh33, H⟩ := zbind H
              refine z_iastore (pc := 122) dX10_weigh_122 eh33 ?_
              cases H
              exact z_return rfl dX10_weigh_123
            refine z_icmp_eq (pc := 92) 106 dX10_weigh_92 (by decide) (fun c25 => ?_) (fun c25 => ?_)
            · rw [if_pos c25] at em23
              cases em23
              exact z_sub [2, 5, 6, 0] rfl (Jm23 _ rfl)
            · rw [if_neg c25] at em23
              refine z_iload_n (pc := 95) 5 dX10_weigh_95 rfl rfl ?_
              refine z_aload_n (pc := 96) 2 dX10_weigh_96 rfl rfl ?_
              obtain ⟨r26, er26, em23⟩ := zbind em23
              refine z_getR (pc := 97) dX10_weigh_97 fd_X10_30 er26 ?_
              refine z_iload (pc := 100) 0 dX10_weigh_100 rfl ?_
              obtain ⟨x27, ex27, em23⟩ := zbind em23
              refine z_iaload (pc := 102) dX10_weigh_102 ex27 ?_
              refine z_icmp_ge (pc := 103) 123 dX10_weigh_103 (by decide) (fun c28 => ?_) (fun c28 => ?_)
              · rw [if_pos c28] at em23
                obtain ⟨o29, H9, e9⟩ := zmapR em23
                subst e9
                have H9 := H9.trans (zsumR H)
                cases H9
                exact z_return rfl dX10_weigh_123
              · rw [if_neg c28] at em23
                cases em23
                exact z_sub [2, 5, 6, 0] rfl (Jm23 _ rfl)
      · rw [if_neg c12] at H
        cases H
        exact z_return rfl dX10_weigh_55
  refine z_if_eq (pc := 12) 34 dX10_weigh_12 (by decide) (fun c4 => ?_) (fun c4 => ?_)
  · rw [if_pos c4] at em3
    refine z_iconst (pc := 34) (x := 0) dX10_weigh_34 zc_iconst_0 ?_
    cases em3
    exact z_sub [0, 1, 2, 3, 4] rfl Jm3
  · rw [if_neg c4] at em3
    refine z_iload_n (pc := 15) 2 dX10_weigh_15 rfl rfl ?_
    refine z_iconst (pc := 16) (x := 0) dX10_weigh_16 zc_iconst_0 ?_
    refine z_aload_n (pc := 17) 0 dX10_weigh_17 rfl rfl ?_
    obtain ⟨r5, er5, em3⟩ := zbind em3
    refine z_getR (pc := 18) dX10_weigh_18 fd_X10_24 er5 ?_
    obtain ⟨x6, ex6, em3⟩ := zbind em3
    refine z_alen (pc := 21) dX10_weigh_21 ex6 ?_
    refine z_iconst (pc := 22) (x := 1) dX10_weigh_22 zc_iconst_1 ?_
    refine z_isub (pc := 23) dX10_weigh_23 ?_
    refine z_callSN (pc := 24) (mc := 0) (ms := 0) (d' := 0) (mc' := 0) (ms' := 0) (rest := []) [.int v2, .int 0, .int (x6 - 1)] dX10_weigh_24 md_X11_within ns_X10_40 sm_X11_within rfl rfl (Nat.le_of_ble_eq_true rfl) (by omega) (k_X11_within v2 0 (x6 - 1) h _ rfl) ?_
    refine z_if_eq (pc := 27) 34 dX10_weigh_27 (by decide) (fun c7 => ?_) (fun c7 => ?_)
    · rw [if_pos c7] at em3
      refine z_iconst (pc := 34) (x := 0) dX10_weigh_34 zc_iconst_0 ?_
      cases em3
      exact z_sub [0, 1, 2, 3, 4] rfl Jm3
    · rw [if_neg c7] at em3
      refine z_iconst (pc := 30) (x := 1) dX10_weigh_30 zc_iconst_1 ?_
      refine z_goto (pc := 31) 35 dX10_weigh_31 (by decide) ?_
      cases em3
      exact z_sub [0, 1, 2, 3, 4] rfl Jm3

def f_X10_isTold (N : Nat) (v0 : Nat) (v1 : Int32) (h : zH) : Option (Int32) := if v1 < 0 then (some 0) else (if 8 ≤ v1 then (some 0) else ((gI h v0 10 9).bind fun x3 => if ((x3 >>> (v1 &&& 31)) &&& 1) = 0 then (some 0) else (some 1)))
set_option maxRecDepth 100000 in
set_option maxHeartbeats 4000000 in
theorem k_X10_isTold {N : Nat} {v0 : Nat} {v1 : Int32} {h : zH} {r : Int32} (H : f_X10_isTold N v0 v1 h = some r) : zOk 0 0 0 yX10_isTold cX10_isTold 2 (some .boolean) [.ref v0, .int v1] h (some (.int r)) h := by
  refine zOk.of (by decide) (Nat.le_of_ble_eq_true rfl) ?_
  unfold f_X10_isTold at H
  refine z_iload_n (pc := 0) 1 dX10_isTold_0 rfl rfl ?_
  refine z_if_lt (pc := 1) 25 dX10_isTold_1 (by decide) (fun c1 => ?_) (fun c1 => ?_)
  · rw [if_pos c1] at H
    refine z_iconst (pc := 25) (x := 0) dX10_isTold_25 zc_iconst_0 ?_
    cases H
    exact z_zreturn rfl dX10_isTold_26 (by decide)
  · rw [if_neg c1] at H
    refine z_iload_n (pc := 4) 1 dX10_isTold_4 rfl rfl ?_
    refine z_bipush (pc := 5) (x := 8) dX10_isTold_5 zc_bipush_8 ?_
    refine z_icmp_ge (pc := 7) 25 dX10_isTold_7 (by decide) (fun c2 => ?_) (fun c2 => ?_)
    · rw [if_pos c2] at H
      refine z_iconst (pc := 25) (x := 0) dX10_isTold_25 zc_iconst_0 ?_
      cases H
      exact z_zreturn rfl dX10_isTold_26 (by decide)
    · rw [if_neg c2] at H
      refine z_aload_n (pc := 10) 0 dX10_isTold_10 rfl rfl ?_
      obtain ⟨x3, ex3, H⟩ := zbind H
      refine z_getI (pc := 11) dX10_isTold_11 fd_X10_44 ex3 ?_
      refine z_iload_n (pc := 14) 1 dX10_isTold_14 rfl rfl ?_
      refine z_ishr (pc := 15) dX10_isTold_15 ?_
      refine z_iconst (pc := 16) (x := 1) dX10_isTold_16 zc_iconst_1 ?_
      refine z_iand (pc := 17) dX10_isTold_17 ?_
      refine z_if_eq (pc := 18) 25 dX10_isTold_18 (by decide) (fun c4 => ?_) (fun c4 => ?_)
      · rw [if_pos c4] at H
        refine z_iconst (pc := 25) (x := 0) dX10_isTold_25 zc_iconst_0 ?_
        cases H
        exact z_zreturn rfl dX10_isTold_26 (by decide)
      · rw [if_neg c4] at H
        refine z_iconst (pc := 21) (x := 1) dX10_isTold_21 zc_iconst_1 ?_
        refine z_goto (pc := 22) 26 dX10_isTold_22 (by decide) ?_
        cases H
        exact z_zreturn rfl dX10_isTold_26 (by decide)

theorem md_X10_isTold : zMd yX10_isTold cX10_isTold 2 1 (some .boolean) := ⟨zmw (zmt_5 _ (List.mem_of_getElem? (i := 161) rfl)) rfl, zmem 126 (by decide +kernel) rfl, by decide, by decide, by decide +kernel, by decide⟩
theorem ml_X10_58 : Cond.methodLink RX10 58 yX10_isTold ∈ zB := zmem 1229 (by decide +kernel) rfl
theorem im_X10_isTold : Cond.instanceMethod yX10_isTold ∈ zB := zmem 1231 (by decide +kernel) rfl
theorem se_X10_isTold : Cond.selects yX10_isTold.cls yX10_isTold yX10_isTold ∈ zB := zmem 56 (by decide +kernel) rfl
theorem md_X10_decide : zMd yX10_decide cX10_decide 8 5 none := ⟨zmw (zmt_5 _ (List.mem_of_getElem? (i := 153) rfl)) rfl, zmem 126 (by decide +kernel) rfl, by decide, by decide, by decide +kernel, by decide⟩
theorem ml_X10_75 : Cond.methodLink RX10 75 yX10_decide ∈ zB := zmem 1221 (by decide +kernel) rfl
theorem im_X10_decide : Cond.instanceMethod yX10_decide ∈ zB := zmem 1223 (by decide +kernel) rfl
theorem se_X10_decide : Cond.selects yX10_decide.cls yX10_decide yX10_decide ∈ zB := zmem 54 (by decide +kernel) rfl
theorem md_X10_weigh : zMd yX10_weigh cX10_weigh 7 4 none := ⟨zmw (zmt_5 _ (List.mem_of_getElem? (i := 157) rfl)) rfl, zmem 126 (by decide +kernel) rfl, by decide, by decide, by decide +kernel, by decide⟩
theorem ml_X10_79 : Cond.methodLink RX10 79 yX10_weigh ∈ zB := zmem 1225 (by decide +kernel) rfl
theorem im_X10_weigh : Cond.instanceMethod yX10_weigh ∈ zB := zmem 1227 (by decide +kernel) rfl
theorem se_X10_weigh : Cond.selects yX10_weigh.cls yX10_weigh yX10_weigh ∈ zB := zmem 55 (by decide +kernel) rfl
def f_X10_decide (N : Nat) : Nat → Nat → Int32 → Int32 → Int32 → Int32 → Int32 → zH → Option (zH)
  | 0, _, _, _, _, _, _, _ => none
  | n + 1, v0, v1, v2, v3, v4, v5, h => (if v1 < 0 then (some (.inl h)) else (if v1 < 8 then (zif (zob h v0 10) <| (f_X10_isTold N v0 v1 h).bind fun q6 => if q6 = 0 then (zif (zob h v0 10) <| (f_X10_decide N n v0 (v1 - 1) v2 v3 v4 (v5 * 3) h).bind fun h24 => (some h24).map .inr) else (zlet (1 <<< (v1 &&& 31) : Int32) fun x8 => zlet (v1 * 3 : Int32) fun x9 => (gR h v0 10 1).bind fun r10 => (aI h r10 x9).bind fun x11 => zif (zob h v0 10) <| (f_X10_decide N n v0 (v1 - 1) (v2 ||| x8) (v3 ||| x8) (v4 + x11) (v5 * 3) h).bind fun h13 => (gR h13 v0 10 1).bind fun r14 => (aI h13 r14 (x9 + 1)).bind fun x15 => zif (zob h13 v0 10) <| (f_X10_decide N n v0 (v1 - 1) v2 (v3 ||| x8) (v4 + x15) ((v5 * 3) + 1) h13).bind fun h17 => (gR h17 v0 10 1).bind fun r18 => (aI h17 r18 (x9 + 2)).bind fun x19 => zif (zob h17 v0 10) <| (f_X10_decide N n v0 (v1 - 1) v2 v3 (v4 + x19) ((v5 * 3) + 2) h17).bind fun h21 => (some h21).map .inr)) else (some (.inl h))) : Option ((zH) ⊕ (zH))).bind fun m1 => zsum m1 fun s2 => zif (zob s2 v0 10) <| (f_X10_weigh N v0 v2 v3 v4 v5 s2).bind fun h27 => some h27
set_option maxRecDepth 100000 in
set_option maxHeartbeats 4000000 in
theorem k_X10_decide {N : Nat} : ∀ (n : Nat) (v0 : Nat) (v1 : Int32) (v2 : Int32) (v3 : Int32) (v4 : Int32) (v5 : Int32) (h : zH) (r : zH), f_X10_decide N n v0 v1 v2 v3 v4 v5 h = some r → zOk (n + 2) 0 0 yX10_decide cX10_decide 8 none [.ref v0, .int v1, .int v2, .int v3, .int v4, .int v5] h none r := by
  intro n
  induction n with
  | zero =>
    intro v0 v1 v2 v3 v4 v5 h r H
    cases H
  | succ n ih =>
    intro v0 v1 v2 v3 v4 v5 h r H
    refine zOk.of (by decide) (Nat.le_of_ble_eq_true rfl) ?_
    unfold f_X10_decide at H
    refine z_iload_n (pc := 0) 1 dX10_decide_0 rfl rfl ?_
    obtain ⟨m1, em1, H⟩ := zbind H
    have Jm1 : ∀ s2, m1 = .inl s2 → zW yX10_decide cX10_decide 8 none ((n + 1) + 2) 0 0 10 [(0, .ref v0), (2, .int v2), (3, .int v3), (4, .int v4), (5, .int v5)] [] s2 none r := by
      intro s2 e9
      subst e9
      have H := zsumL H
      refine z_aload_n (pc := 10) 0 dX10_decide_10 rfl rfl ?_
      refine z_iload_n (pc := 11) 1 dX10_decide_11 rfl rfl ?_
      refine z_iload_n (pc := 12) 2 dX10_decide_12 rfl rfl ?_
      refine z_iload (pc := 13) 3 dX10_decide_13 rfl ?_
      refine z_iload (pc := 15) 4 dX10_decide_15 rfl ?_
      obtain ⟨z26, H⟩ := zifE H
      obtain ⟨h27, eh27, H⟩ := zbind H
      refine z_callV (pc := 17) (mc := 0) (ms := 0) (d' := 1) (mc' := 0) (ms' := 0) (rest := []) [.int v2, .int v3, .int v4, .int v5] dX10_decide_17 md_X10_weigh ml_X10_79 im_X10_weigh se_X10_weigh rfl z26 rfl rfl (Nat.le_of_ble_eq_true rfl) (by omega) (k_X10_weigh eh27) ?_
      cases H
      exact z_return rfl dX10_decide_20
    refine z_if_lt (pc := 1) 10 dX10_decide_1 (by decide) (fun c3 => ?_) (fun c3 => ?_)
    · rw [if_pos c3] at em1
      cases em1
      exact z_sub [0, 2, 3, 4, 5] rfl (Jm1 _ rfl)
    · rw [if_neg c3] at em1
      refine z_iload_n (pc := 4) 1 dX10_decide_4 rfl rfl ?_
      refine z_bipush (pc := 5) (x := 8) dX10_decide_5 zc_bipush_8 ?_
      refine z_icmp_lt (pc := 7) 21 dX10_decide_7 (by decide) (fun c4 => ?_) (fun c4 => ?_)
      · rw [if_pos c4] at em1
        refine z_aload_n (pc := 21) 0 dX10_decide_21 rfl rfl ?_
        refine z_iload_n (pc := 22) 1 dX10_decide_22 rfl rfl ?_
        obtain ⟨z5, em1⟩ := zifE em1
        obtain ⟨q6, eq6, em1⟩ := zbind em1
        refine z_callV (pc := 23) (mc := 0) (ms := 0) (d' := 0) (mc' := 0) (ms' := 0) (rest := []) [.int v1] dX10_decide_23 md_X10_isTold ml_X10_58 im_X10_isTold se_X10_isTold rfl z5 rfl rfl (Nat.le_of_ble_eq_true rfl) (by omega) (k_X10_isTold eq6) ?_
        refine z_if_ne (pc := 26) 45 dX10_decide_26 (by decide) (fun c7 => ?_) (fun c7 => ?_)
        · rw [if_neg c7] at em1
          refine z_iconst (pc := 45) (x := 1) dX10_decide_45 zc_iconst_1 ?_
          refine z_iload_n (pc := 46) 1 dX10_decide_46 rfl rfl ?_
          refine z_ishl (pc := 47) dX10_decide_47 ?_
          obtain ⟨x8, ex8, em1⟩ := zletE em1
          refine z_nmI ex8 ?_
          refine z_istore (pc := 48) (lv' := [(6, .int x8), (0, .ref v0), (1, .int v1), (2, .int v2), (3, .int v3), (4, .int v4), (5, .int v5)]) dX10_decide_48 (by decide) rfl ?_
          refine z_iload_n (pc := 50) 2 dX10_decide_50 rfl rfl ?_
          refine z_iconst (pc := 51) (x := 3) dX10_decide_51 zc_iconst_3 ?_
          refine z_imul (pc := 52) dX10_decide_52 ?_
          obtain ⟨x9, ex9, em1⟩ := zletE em1
          refine z_nmI ex9 ?_
          refine z_istore (pc := 53) (lv' := [(7, .int x9), (6, .int x8), (0, .ref v0), (1, .int v1), (2, .int v2), (3, .int v3), (4, .int v4), (5, .int v5)]) dX10_decide_53 (by decide) rfl ?_
          refine z_aload_n (pc := 55) 2 dX10_decide_55 rfl rfl ?_
          refine z_iload_n (pc := 56) 3 dX10_decide_56 rfl rfl ?_
          refine z_iconst (pc := 57) (x := 1) dX10_decide_57 zc_iconst_1 ?_
          refine z_isub (pc := 58) dX10_decide_58 ?_
          refine z_iload_n (pc := 59) 4 dX10_decide_59 rfl rfl ?_
          refine z_iload (pc := 60) 1 dX10_decide_60 rfl ?_
          refine z_ior (pc := 62) dX10_decide_62 ?_
          refine z_iload_n (pc := 63) 5 dX10_decide_63 rfl rfl ?_
          refine z_iload (pc := 64) 1 dX10_decide_64 rfl ?_
          refine z_ior (pc := 66) dX10_decide_66 ?_
          refine z_iload (pc := 67) 6 dX10_decide_67 rfl ?_
          refine z_aload_n (pc := 69) 2 dX10_decide_69 rfl rfl ?_
          obtain ⟨r10, er10, em1⟩ := zbind em1
          refine z_getR (pc := 70) dX10_decide_70 fd_X10_15 er10 ?_
          refine z_iload (pc := 73) 0 dX10_decide_73 rfl ?_
          obtain ⟨x11, ex11, em1⟩ := zbind em1
          refine z_iaload (pc := 75) dX10_decide_75 ex11 ?_
          refine z_iadd (pc := 76) dX10_decide_76 ?_
          refine z_iload (pc := 77) 7 dX10_decide_77 rfl ?_
          refine z_iconst (pc := 79) (x := 3) dX10_decide_79 zc_iconst_3 ?_
          refine z_imul (pc := 80) dX10_decide_80 ?_
          obtain ⟨z12, em1⟩ := zifE em1
          obtain ⟨h13, eh13, em1⟩ := zbind em1
          refine z_callV (pc := 81) (mc := 0) (ms := 0) (d' := n + 2) (mc' := 0) (ms' := 0) (rest := []) [.int (v1 - 1), .int (v2 ||| x8), .int (v3 ||| x8), .int (v4 + x11), .int (v5 * 3)] dX10_decide_81 md_X10_decide ml_X10_75 im_X10_decide se_X10_decide rfl z12 rfl rfl (Nat.le_of_ble_eq_true rfl) (by omega) (ih _ _ _ _ _ _ _ _ eh13) ?_
          refine z_aload_n (pc := 84) 2 dX10_decide_84 rfl rfl ?_
          refine z_iload_n (pc := 85) 3 dX10_decide_85 rfl rfl ?_
          refine z_iconst (pc := 86) (x := 1) dX10_decide_86 zc_iconst_1 ?_
          refine z_isub (pc := 87) dX10_decide_87 ?_
          refine z_iload_n (pc := 88) 4 dX10_decide_88 rfl rfl ?_
          refine z_iload_n (pc := 89) 5 dX10_decide_89 rfl rfl ?_
          refine z_iload (pc := 90) 1 dX10_decide_90 rfl ?_
          refine z_ior (pc := 92) dX10_decide_92 ?_
          refine z_iload (pc := 93) 6 dX10_decide_93 rfl ?_
          refine z_aload_n (pc := 95) 2 dX10_decide_95 rfl rfl ?_
          obtain ⟨r14, er14, em1⟩ := zbind em1
          refine z_getR (pc := 96) dX10_decide_96 fd_X10_15 er14 ?_
          refine z_iload (pc := 99) 0 dX10_decide_99 rfl ?_
          refine z_iconst (pc := 101) (x := 1) dX10_decide_101 zc_iconst_1 ?_
          refine z_iadd (pc := 102) dX10_decide_102 ?_
          obtain ⟨x15, ex15, em1⟩ := zbind em1
          refine z_iaload (pc := 103) dX10_decide_103 ex15 ?_
          refine z_iadd (pc := 104) dX10_decide_104 ?_
          refine z_iload (pc := 105) 7 dX10_decide_105 rfl ?_
          refine z_iconst (pc := 107) (x := 3) dX10_decide_107 zc_iconst_3 ?_
          refine z_imul (pc := 108) dX10_decide_108 ?_
          refine z_iconst (pc := 109) (x := 1) dX10_decide_109 zc_iconst_1 ?_
          refine z_iadd (pc := 110) dX10_decide_110 ?_
          obtain ⟨z16, em1⟩ := zifE em1
          obtain ⟨h17, eh17, em1⟩ := zbind em1
          refine z_callV (pc := 111) (mc := 0) (ms := 0) (d' := n + 2) (mc' := 0) (ms' := 0) (rest := []) [.int (v1 - 1), .int v2, .int (v3 ||| x8), .int (v4 + x15), .int ((v5 * 3) + 1)] dX10_decide_111 md_X10_decide ml_X10_75 im_X10_decide se_X10_decide rfl z16 rfl rfl (Nat.le_of_ble_eq_true rfl) (by omega) (ih _ _ _ _ _ _ _ _ eh17) ?_
          refine z_aload_n (pc := 114) 2 dX10_decide_114 rfl rfl ?_
          refine z_iload_n (pc := 115) 3 dX10_decide_115 rfl rfl ?_
          refine z_iconst (pc := 116) (x := 1) dX10_decide_116 zc_iconst_1 ?_
          refine z_isub (pc := 117) dX10_decide_117 ?_
          refine z_iload_n (pc := 118) 4 dX10_decide_118 rfl rfl ?_
          refine z_iload_n (pc := 119) 5 dX10_decide_119 rfl rfl ?_
          refine z_iload (pc := 120) 6 dX10_decide_120 rfl ?_
          refine z_aload_n (pc := 122) 2 dX10_decide_122 rfl rfl ?_
          obtain ⟨r18, er18, em1⟩ := zbind em1
          refine z_getR (pc := 123) dX10_decide_123 fd_X10_15 er18 ?_
          refine z_iload (pc := 126) 0 dX10_decide_126 rfl ?_
          refine z_iconst (pc := 128) (x := 2) dX10_decide_128 zc_iconst_2 ?_
          refine z_iadd (pc := 129) dX10_decide_129 ?_
          obtain ⟨x19, ex19, em1⟩ := zbind em1
          refine z_iaload (pc := 130) dX10_decide_130 ex19 ?_
          refine z_iadd (pc := 131) dX10_decide_131 ?_
          refine z_iload (pc := 132) 7 dX10_decide_132 rfl ?_
          refine z_iconst (pc := 134) (x := 3) dX10_decide_134 zc_iconst_3 ?_
          refine z_imul (pc := 135) dX10_decide_135 ?_
          refine z_iconst (pc := 136) (x := 2) dX10_decide_136 zc_iconst_2 ?_
          refine z_iadd (pc := 137) dX10_decide_137 ?_
          obtain ⟨z20, em1⟩ := zifE em1
          obtain ⟨h21, eh21, em1⟩ := zbind em1
          refine z_callV (pc := 138) (mc := 0) (ms := 0) (d' := n + 2) (mc' := 0) (ms' := 0) (rest := []) [.int (v1 - 1), .int v2, .int v3, .int (v4 + x19), .int ((v5 * 3) + 2)] dX10_decide_138 md_X10_decide ml_X10_75 im_X10_decide se_X10_decide rfl z20 rfl rfl (Nat.le_of_ble_eq_true rfl) (by omega) (ih _ _ _ _ _ _ _ _ eh21) ?_
          obtain ⟨o22, H9, e9⟩ := zmapR em1
          subst e9
          have H9 := H9.trans (zsumR H)
          cases H9
          exact z_return rfl dX10_decide_141
        · rw [if_pos c7] at em1
          refine z_aload_n (pc := 29) 0 dX10_decide_29 rfl rfl ?_
          refine z_iload_n (pc := 30) 1 dX10_decide_30 rfl rfl ?_
          refine z_iconst (pc := 31) (x := 1) dX10_decide_31 zc_iconst_1 ?_
          refine z_isub (pc := 32) dX10_decide_32 ?_
          refine z_iload_n (pc := 33) 2 dX10_decide_33 rfl rfl ?_
          refine z_iload_n (pc := 34) 3 dX10_decide_34 rfl rfl ?_
          refine z_iload (pc := 35) 4 dX10_decide_35 rfl ?_
          refine z_iload (pc := 37) 5 dX10_decide_37 rfl ?_
          refine z_iconst (pc := 39) (x := 3) dX10_decide_39 zc_iconst_3 ?_
          refine z_imul (pc := 40) dX10_decide_40 ?_
          obtain ⟨z23, em1⟩ := zifE em1
          obtain ⟨h24, eh24, em1⟩ := zbind em1
          refine z_callV (pc := 41) (mc := 0) (ms := 0) (d' := n + 2) (mc' := 0) (ms' := 0) (rest := []) [.int (v1 - 1), .int v2, .int v3, .int v4, .int (v5 * 3)] dX10_decide_41 md_X10_decide ml_X10_75 im_X10_decide se_X10_decide rfl z23 rfl rfl (Nat.le_of_ble_eq_true rfl) (by omega) (ih _ _ _ _ _ _ _ _ eh24) ?_
          obtain ⟨o25, H9, e9⟩ := zmapR em1
          subst e9
          have H9 := H9.trans (zsumR H)
          cases H9
          exact z_return rfl dX10_decide_44
      · rw [if_neg c4] at em1
        cases em1
        exact z_sub [0, 2, 3, 4, 5] rfl (Jm1 _ rfl)

theorem ml_X10_66 : Cond.methodLink RX10 66 yJ7_fill_53178 ∈ zB := zmem 1208 (by decide +kernel) rfl
theorem md_X10_tripsBy : zMd yX10_tripsBy cX10_tripsBy 4 1 (some .int) := ⟨zmw (zmt_5 _ (List.mem_of_getElem? (i := 141) rfl)) rfl, zmem 126 (by decide +kernel) rfl, by decide, by decide, by decide +kernel, by decide⟩
theorem ml_X10_72 : Cond.methodLink RX10 72 yX10_tripsBy ∈ zB := zmem 1209 (by decide +kernel) rfl
theorem im_X10_tripsBy : Cond.instanceMethod yX10_tripsBy ∈ zB := zmem 1211 (by decide +kernel) rfl
theorem se_X10_tripsBy : Cond.selects yX10_tripsBy.cls yX10_tripsBy yX10_tripsBy ∈ zB := zmem 51 (by decide +kernel) rfl
def f_X10_findPlans_L10 (N : Nat) (v0 : Nat) : Nat → Int32 → zH → Option (zH)
  | 0, _, _ => none
  | n + 1, v1, h => (gR h v0 10 4).bind fun r3 => (aN h r3).bind fun x4 => if x4 ≤ v1 then (some h) else ((gI h v0 10 9).bind fun x6 => if (v1 &&& (x6 ^^^ (-1))) = 0 then ((gR h v0 10 4).bind fun r8 => zif (zob h v0 10) <| (f_X10_tripsBy N v0 v1 h).bind fun q10 => (sI q10.2 r8 v1 q10.1).bind fun h11 => f_X10_findPlans_L10 N v0 n (v1 + 1) h11) else (f_X10_findPlans_L10 N v0 n (v1 + 1) h))
set_option maxRecDepth 100000 in
set_option maxHeartbeats 4000000 in
theorem s_X10_findPlans_L10 {d mc ms N : Nat} {vv : Option Value} {hh : zH} {v0 : Nat} (hd0 : 12 ≤ d) : ∀ (n : Nat) (v1 : Int32) (h : zH) (m : zH), f_X10_findPlans_L10 N v0 n v1 h = some m → (zW yX10_findPlans cX10_findPlans 2 none d mc ms 47 [(0, .ref v0)] [] m vv hh) → zW yX10_findPlans cX10_findPlans 2 none d mc ms 10 [(0, .ref v0), (1, .int v1)] [] h vv hh := by
  intro n
  induction n with
  | zero =>
    intro v1 h m H
    cases H
  | succ n ih =>
    intro v1 h m H KE
    unfold f_X10_findPlans_L10 at H
    refine z_iload_n (pc := 10) 1 dX10_findPlans_10 rfl rfl ?_
    refine z_aload_n (pc := 11) 0 dX10_findPlans_11 rfl rfl ?_
    obtain ⟨r3, er3, H⟩ := zbind H
    refine z_getR (pc := 12) dX10_findPlans_12 fd_X10_24 er3 ?_
    obtain ⟨x4, ex4, H⟩ := zbind H
    refine z_alen (pc := 15) dX10_findPlans_15 ex4 ?_
    refine z_icmp_ge (pc := 16) 47 dX10_findPlans_16 (by decide) (fun c5 => ?_) (fun c5 => ?_)
    · rw [if_pos c5] at H
      cases H
      exact z_sub [0] rfl (KE)
    · rw [if_neg c5] at H
      refine z_iload_n (pc := 19) 1 dX10_findPlans_19 rfl rfl ?_
      refine z_aload_n (pc := 20) 0 dX10_findPlans_20 rfl rfl ?_
      obtain ⟨x6, ex6, H⟩ := zbind H
      refine z_getI (pc := 21) dX10_findPlans_21 fd_X10_44 ex6 ?_
      refine z_iconst (pc := 24) (x := (-1)) dX10_findPlans_24 zc_iconst_m1 ?_
      refine z_ixor (pc := 25) dX10_findPlans_25 ?_
      refine z_iand (pc := 26) dX10_findPlans_26 ?_
      refine z_if_ne (pc := 27) 41 dX10_findPlans_27 (by decide) (fun c7 => ?_) (fun c7 => ?_)
      · rw [if_neg c7] at H
        refine z_iinc (pc := 41) (x' := v1 + 1) (lv' := [(1, .int (v1 + 1)), (0, .ref v0)]) 1 dX10_findPlans_41 rfl (by rfl) (by decide) rfl ?_
        refine z_goto (pc := 44) 10 dX10_findPlans_44 (by decide) ?_
        exact z_sub [1, 0] rfl (ih (v1 + 1) h _ H KE)
      · rw [if_pos c7] at H
        refine z_aload_n (pc := 30) 0 dX10_findPlans_30 rfl rfl ?_
        obtain ⟨r8, er8, H⟩ := zbind H
        refine z_getR (pc := 31) dX10_findPlans_31 fd_X10_24 er8 ?_
        refine z_iload_n (pc := 34) 1 dX10_findPlans_34 rfl rfl ?_
        refine z_aload_n (pc := 35) 0 dX10_findPlans_35 rfl rfl ?_
        refine z_iload_n (pc := 36) 1 dX10_findPlans_36 rfl rfl ?_
        obtain ⟨z9, H⟩ := zifE H
        obtain ⟨q10, eq10, H⟩ := zbind H
        refine z_callV (pc := 37) (mc := mc) (ms := ms) (d' := 2) (mc' := 0) (ms' := 0) (rest := [.int v1, .ref r8]) [.int v1] dX10_findPlans_37 md_X10_tripsBy ml_X10_72 im_X10_tripsBy se_X10_tripsBy rfl z9 rfl rfl (Nat.le_of_ble_eq_true rfl) (by omega) (k_X10_tripsBy eq10) ?_
        obtain ⟨h11, eh11, H⟩ := zbind H
        refine z_iastore (pc := 40) dX10_findPlans_40 eh11 ?_
        refine z_iinc (pc := 41) (x' := v1 + 1) (lv' := [(1, .int (v1 + 1)), (0, .ref v0)]) 1 dX10_findPlans_41 rfl (by rfl) (by decide) rfl ?_
        refine z_goto (pc := 44) 10 dX10_findPlans_44 (by decide) ?_
        exact z_sub [1, 0] rfl (ih (v1 + 1) h11 _ H KE)
def f_X10_findPlans (N : Nat) (v0 : Nat) (h : zH) : Option (zH) := (gR h v0 10 6).bind fun r1 => (f_J7_fill_53178 N r1 (-1) h).bind fun h2 => (f_X10_findPlans_L10 N v0 N 0 h2).bind fun m12 => zif (zob m12 v0 10) <| (f_X10_decide N 9 v0 7 0 0 0 0 m12).bind fun h14 => some h14
set_option maxRecDepth 100000 in
set_option maxHeartbeats 4000000 in
theorem k_X10_findPlans {N : Nat} {v0 : Nat} {h : zH} {r : zH} (H : f_X10_findPlans N v0 h = some r) : zOk 12 0 0 yX10_findPlans cX10_findPlans 2 none [.ref v0] h none r := by
  refine zOk.of (by decide) (Nat.le_of_ble_eq_true rfl) ?_
  unfold f_X10_findPlans at H
  refine z_aload_n (pc := 0) 0 dX10_findPlans_0 rfl rfl ?_
  obtain ⟨r1, er1, H⟩ := zbind H
  refine z_getR (pc := 1) dX10_findPlans_1 fd_X10_30 er1 ?_
  refine z_iconst (pc := 4) (x := (-1)) dX10_findPlans_4 zc_iconst_m1 ?_
  obtain ⟨h2, eh2, H⟩ := zbind H
  refine z_callS (pc := 5) (mc := 0) (ms := 0) (d' := 0) (mc' := 0) (ms' := 0) (rest := []) [.ref r1, .int (-1)] dX10_findPlans_5 md_J7_fill_53178 ml_X10_66 sm_J7_fill_53178 rfl rfl (Nat.le_of_ble_eq_true rfl) (by omega) (k_J7_fill_53178 eh2) ?_
  refine z_iconst (pc := 8) (x := 0) dX10_findPlans_8 zc_iconst_0 ?_
  refine z_istore_n (pc := 9) (lv' := [(1, .int 0), (0, .ref v0)]) dX10_findPlans_9 rfl (by decide) rfl ?_
  obtain ⟨m12, em12, H⟩ := zbind H
  refine z_sub [1, 0] rfl (s_X10_findPlans_L10 (by omega) N 0 h2 _ em12 ?_)
  refine z_aload_n (pc := 47) 0 dX10_findPlans_47 rfl rfl ?_
  refine z_bipush (pc := 48) (x := 7) dX10_findPlans_48 zc_bipush_7 ?_
  refine z_iconst (pc := 50) (x := 0) dX10_findPlans_50 zc_iconst_0 ?_
  refine z_iconst (pc := 51) (x := 0) dX10_findPlans_51 zc_iconst_0 ?_
  refine z_iconst (pc := 52) (x := 0) dX10_findPlans_52 zc_iconst_0 ?_
  refine z_iconst (pc := 53) (x := 0) dX10_findPlans_53 zc_iconst_0 ?_
  obtain ⟨z13, H⟩ := zifE H
  obtain ⟨h14, eh14, H⟩ := zbind H
  refine z_callV (pc := 54) (mc := 0) (ms := 0) (d' := 11) (mc' := 0) (ms' := 0) (rest := []) [.int 7, .int 0, .int 0, .int 0, .int 0] dX10_findPlans_54 md_X10_decide ml_X10_75 im_X10_decide se_X10_decide rfl z13 rfl rfl (Nat.le_of_ble_eq_true rfl) (by omega) (k_X10_decide 9 _ _ _ _ _ _ _ _ eh14) ?_
  cases H
  exact z_return rfl dX10_findPlans_57

def f_X10_sumWith (N : Nat) (v0 : Nat) (v1 : Int32) (h : zH) : Option (Int32) := if v1 < 0 then (some (-1)) else ((gR h v0 10 6).bind fun r2 => (aN h r2).bind fun x3 => if x3 ≤ v1 then (some (-1)) else ((gR h v0 10 6).bind fun r5 => (aI h r5 v1).bind fun x6 => some x6))
set_option maxRecDepth 100000 in
set_option maxHeartbeats 4000000 in
theorem k_X10_sumWith {N : Nat} {v0 : Nat} {v1 : Int32} {h : zH} {r : Int32} (H : f_X10_sumWith N v0 v1 h = some r) : zOk 0 0 0 yX10_sumWith cX10_sumWith 2 (some .int) [.ref v0, .int v1] h (some (.int r)) h := by
  refine zOk.of (by decide) (Nat.le_of_ble_eq_true rfl) ?_
  unfold f_X10_sumWith at H
  refine z_iload_n (pc := 0) 1 dX10_sumWith_0 rfl rfl ?_
  refine z_if_lt (pc := 1) 22 dX10_sumWith_1 (by decide) (fun c1 => ?_) (fun c1 => ?_)
  · rw [if_pos c1] at H
    refine z_iconst (pc := 22) (x := (-1)) dX10_sumWith_22 zc_iconst_m1 ?_
    cases H
    exact z_ireturn rfl dX10_sumWith_23
  · rw [if_neg c1] at H
    refine z_iload_n (pc := 4) 1 dX10_sumWith_4 rfl rfl ?_
    refine z_aload_n (pc := 5) 0 dX10_sumWith_5 rfl rfl ?_
    obtain ⟨r2, er2, H⟩ := zbind H
    refine z_getR (pc := 6) dX10_sumWith_6 fd_X10_30 er2 ?_
    obtain ⟨x3, ex3, H⟩ := zbind H
    refine z_alen (pc := 9) dX10_sumWith_9 ex3 ?_
    refine z_icmp_ge (pc := 10) 22 dX10_sumWith_10 (by decide) (fun c4 => ?_) (fun c4 => ?_)
    · rw [if_pos c4] at H
      refine z_iconst (pc := 22) (x := (-1)) dX10_sumWith_22 zc_iconst_m1 ?_
      cases H
      exact z_ireturn rfl dX10_sumWith_23
    · rw [if_neg c4] at H
      refine z_aload_n (pc := 13) 0 dX10_sumWith_13 rfl rfl ?_
      obtain ⟨r5, er5, H⟩ := zbind H
      refine z_getR (pc := 14) dX10_sumWith_14 fd_X10_30 er5 ?_
      refine z_iload_n (pc := 17) 1 dX10_sumWith_17 rfl rfl ?_
      obtain ⟨x6, ex6, H⟩ := zbind H
      refine z_iaload (pc := 18) dX10_sumWith_18 ex6 ?_
      refine z_goto (pc := 19) 23 dX10_sumWith_19 (by decide) ?_
      cases H
      exact z_ireturn rfl dX10_sumWith_23

theorem md_X10_sumWith : zMd yX10_sumWith cX10_sumWith 2 1 (some .int) := ⟨zmw (zmt_5 _ (List.mem_of_getElem? (i := 169) rfl)) rfl, zmem 126 (by decide +kernel) rfl, by decide, by decide, by decide +kernel, by decide⟩
theorem ml_X10_62 : Cond.methodLink RX10 62 yX10_sumWith ∈ zB := zmem 1237 (by decide +kernel) rfl
theorem im_X10_sumWith : Cond.instanceMethod yX10_sumWith ∈ zB := zmem 1238 (by decide +kernel) rfl
theorem se_X10_sumWith : Cond.selects yX10_sumWith.cls yX10_sumWith yX10_sumWith ∈ zB := zmem 1239 (by decide +kernel) rfl
def f_X10_isBetter (N : Nat) (v0 : Nat) (v1 : Int32) (v2 : Int32) (h : zH) : Option (Int32) := zif (zob h v0 10) <| (f_X10_sumWith N v0 v1 h).bind fun q2 => zif (zob h v0 10) <| (f_X10_sumWith N v0 v2 h).bind fun q4 => if q2 < q4 then (some 1) else (if q2 = q4 then ((gR h v0 10 7).bind fun r7 => (aN h r7).bind fun x8 => if x8 ≤ v1 then (some 0) else ((gR h v0 10 7).bind fun r10 => (aN h r10).bind fun x11 => if x11 ≤ v2 then (some 0) else ((gR h v0 10 7).bind fun r13 => (aI h r13 v1).bind fun x14 => (gR h v0 10 7).bind fun r15 => (aI h r15 v2).bind fun x16 => if x16 ≤ x14 then (some 0) else (some 1)))) else (some 0))
set_option maxRecDepth 100000 in
set_option maxHeartbeats 4000000 in
theorem k_X10_isBetter {N : Nat} {v0 : Nat} {v1 : Int32} {v2 : Int32} {h : zH} {r : Int32} (H : f_X10_isBetter N v0 v1 v2 h = some r) : zOk 1 0 0 yX10_isBetter cX10_isBetter 5 (some .boolean) [.ref v0, .int v1, .int v2] h (some (.int r)) h := by
  refine zOk.of (by decide) (Nat.le_of_ble_eq_true rfl) ?_
  unfold f_X10_isBetter at H
  refine z_aload_n (pc := 0) 0 dX10_isBetter_0 rfl rfl ?_
  refine z_iload_n (pc := 1) 1 dX10_isBetter_1 rfl rfl ?_
  obtain ⟨z1, H⟩ := zifE H
  obtain ⟨q2, eq2, H⟩ := zbind H
  refine z_callV (pc := 2) (mc := 0) (ms := 0) (d' := 0) (mc' := 0) (ms' := 0) (rest := []) [.int v1] dX10_isBetter_2 md_X10_sumWith ml_X10_62 im_X10_sumWith se_X10_sumWith rfl z1 rfl rfl (Nat.le_of_ble_eq_true rfl) (by omega) (k_X10_sumWith eq2) ?_
  refine z_istore_n (pc := 5) (lv' := [(3, .int q2), (0, .ref v0), (1, .int v1), (2, .int v2)]) dX10_isBetter_5 rfl (by decide) rfl ?_
  refine z_aload_n (pc := 6) 1 dX10_isBetter_6 rfl rfl ?_
  refine z_iload_n (pc := 7) 3 dX10_isBetter_7 rfl rfl ?_
  obtain ⟨z3, H⟩ := zifE H
  obtain ⟨q4, eq4, H⟩ := zbind H
  refine z_callV (pc := 8) (mc := 0) (ms := 0) (d' := 0) (mc' := 0) (ms' := 0) (rest := []) [.int v2] dX10_isBetter_8 md_X10_sumWith ml_X10_62 im_X10_sumWith se_X10_sumWith rfl z3 rfl rfl (Nat.le_of_ble_eq_true rfl) (by omega) (k_X10_sumWith eq4) ?_
  refine z_istore (pc := 11) (lv' := [(4, .int q4), (3, .int q2), (0, .ref v0), (1, .int v1), (2, .int v2)]) dX10_isBetter_11 (by decide) rfl ?_
  refine z_iload_n (pc := 13) 1 dX10_isBetter_13 rfl rfl ?_
  refine z_iload (pc := 14) 0 dX10_isBetter_14 rfl ?_
  refine z_icmp_lt (pc := 16) 58 dX10_isBetter_16 (by decide) (fun c5 => ?_) (fun c5 => ?_)
  · rw [if_pos c5] at H
    refine z_iconst (pc := 58) (x := 1) dX10_isBetter_58 zc_iconst_1 ?_
    refine z_goto (pc := 59) 63 dX10_isBetter_59 (by decide) ?_
    cases H
    exact z_zreturn rfl dX10_isBetter_63 (by decide)
  · rw [if_neg c5] at H
    refine z_iload_n (pc := 19) 1 dX10_isBetter_19 rfl rfl ?_
    refine z_iload (pc := 20) 0 dX10_isBetter_20 rfl ?_
    refine z_icmp_ne (pc := 22) 62 dX10_isBetter_22 (by decide) (fun c6 => ?_) (fun c6 => ?_)
    · rw [if_neg c6] at H
      refine z_iconst (pc := 62) (x := 0) dX10_isBetter_62 zc_iconst_0 ?_
      cases H
      exact z_zreturn rfl dX10_isBetter_63 (by decide)
    · rw [if_pos c6] at H
      refine z_iload_n (pc := 25) 3 dX10_isBetter_25 rfl rfl ?_
      refine z_aload_n (pc := 26) 2 dX10_isBetter_26 rfl rfl ?_
      obtain ⟨r7, er7, H⟩ := zbind H
      refine z_getR (pc := 27) dX10_isBetter_27 fd_X10_33 er7 ?_
      obtain ⟨x8, ex8, H⟩ := zbind H
      refine z_alen (pc := 30) dX10_isBetter_30 ex8 ?_
      refine z_icmp_ge (pc := 31) 62 dX10_isBetter_31 (by decide) (fun c9 => ?_) (fun c9 => ?_)
      · rw [if_pos c9] at H
        refine z_iconst (pc := 62) (x := 0) dX10_isBetter_62 zc_iconst_0 ?_
        cases H
        exact z_zreturn rfl dX10_isBetter_63 (by decide)
      · rw [if_neg c9] at H
        refine z_iload_n (pc := 34) 4 dX10_isBetter_34 rfl rfl ?_
        refine z_aload_n (pc := 35) 2 dX10_isBetter_35 rfl rfl ?_
        obtain ⟨r10, er10, H⟩ := zbind H
        refine z_getR (pc := 36) dX10_isBetter_36 fd_X10_33 er10 ?_
        obtain ⟨x11, ex11, H⟩ := zbind H
        refine z_alen (pc := 39) dX10_isBetter_39 ex11 ?_
        refine z_icmp_ge (pc := 40) 62 dX10_isBetter_40 (by decide) (fun c12 => ?_) (fun c12 => ?_)
        · rw [if_pos c12] at H
          refine z_iconst (pc := 62) (x := 0) dX10_isBetter_62 zc_iconst_0 ?_
          cases H
          exact z_zreturn rfl dX10_isBetter_63 (by decide)
        · rw [if_neg c12] at H
          refine z_aload_n (pc := 43) 2 dX10_isBetter_43 rfl rfl ?_
          obtain ⟨r13, er13, H⟩ := zbind H
          refine z_getR (pc := 44) dX10_isBetter_44 fd_X10_33 er13 ?_
          refine z_iload_n (pc := 47) 3 dX10_isBetter_47 rfl rfl ?_
          obtain ⟨x14, ex14, H⟩ := zbind H
          refine z_iaload (pc := 48) dX10_isBetter_48 ex14 ?_
          refine z_aload_n (pc := 49) 2 dX10_isBetter_49 rfl rfl ?_
          obtain ⟨r15, er15, H⟩ := zbind H
          refine z_getR (pc := 50) dX10_isBetter_50 fd_X10_33 er15 ?_
          refine z_iload_n (pc := 53) 4 dX10_isBetter_53 rfl rfl ?_
          obtain ⟨x16, ex16, H⟩ := zbind H
          refine z_iaload (pc := 54) dX10_isBetter_54 ex16 ?_
          refine z_icmp_ge (pc := 55) 62 dX10_isBetter_55 (by decide) (fun c17 => ?_) (fun c17 => ?_)
          · rw [if_pos c17] at H
            refine z_iconst (pc := 62) (x := 0) dX10_isBetter_62 zc_iconst_0 ?_
            cases H
            exact z_zreturn rfl dX10_isBetter_63 (by decide)
          · rw [if_neg c17] at H
            refine z_iconst (pc := 58) (x := 1) dX10_isBetter_58 zc_iconst_1 ?_
            refine z_goto (pc := 59) 63 dX10_isBetter_59 (by decide) ?_
            cases H
            exact z_zreturn rfl dX10_isBetter_63 (by decide)

theorem md_X10_findPlans : zMd yX10_findPlans cX10_findPlans 2 0 none := ⟨zmw (zmt_5 _ (List.mem_of_getElem? (i := 136) rfl)) rfl, zmem 126 (by decide +kernel) rfl, by decide, by decide, by decide +kernel, by decide⟩
theorem ml_X10_51 : Cond.methodLink RX10 51 yX10_findPlans ∈ zB := zmem 1204 (by decide +kernel) rfl
theorem im_X10_findPlans : Cond.instanceMethod yX10_findPlans ∈ zB := zmem 1206 (by decide +kernel) rfl
theorem se_X10_findPlans : Cond.selects yX10_findPlans.cls yX10_findPlans yX10_findPlans ∈ zB := zmem 50 (by decide +kernel) rfl
theorem md_X10_isBetter : zMd yX10_isBetter cX10_isBetter 5 2 (some .boolean) := ⟨zmw (zmt_5 _ (List.mem_of_getElem? (i := 165) rfl)) rfl, zmem 126 (by decide +kernel) rfl, by decide, by decide, by decide +kernel, by decide⟩
theorem ml_X10_54 : Cond.methodLink RX10 54 yX10_isBetter ∈ zB := zmem 1233 (by decide +kernel) rfl
theorem im_X10_isBetter : Cond.instanceMethod yX10_isBetter ∈ zB := zmem 1235 (by decide +kernel) rfl
theorem se_X10_isBetter : Cond.selects yX10_isBetter.cls yX10_isBetter yX10_isBetter ∈ zB := zmem 57 (by decide +kernel) rfl
def f_X10_bestLate_L20 (N : Nat) (v0 : Nat) (v1 : Int32) (h : zH) : Nat → Int32 → Int32 → Option (Int32)
  | 0, _, _ => none
  | n + 1, v2, v3 => if v1 < v3 then (some v2) else ((gR h v0 10 6).bind fun r8 => (aN h r8).bind fun x9 => if x9 ≤ v3 then (some v2) else ((gR h v0 10 6).bind fun r11 => (aI h r11 v3).bind fun x12 => if x12 = (-1) then (f_X10_bestLate_L20 N v0 v1 h n v2 (v3 + 1)) else (if v2 = (-1) then (f_X10_bestLate_L20 N v0 v1 h n v3 (v3 + 1)) else (zif (zob h v0 10) <| (f_X10_isBetter N v0 v3 v2 h).bind fun q16 => if q16 = 0 then (f_X10_bestLate_L20 N v0 v1 h n v2 (v3 + 1)) else (f_X10_bestLate_L20 N v0 v1 h n v3 (v3 + 1))))))
set_option maxRecDepth 100000 in
set_option maxHeartbeats 4000000 in
theorem s_X10_bestLate_L20 {d mc ms N : Nat} {vv : Option Value} {hh : zH} {v0 : Nat} {v1 : Int32} {h : zH} (hd0 : 13 ≤ d) : ∀ (n : Nat) (v2 : Int32) (v3 : Int32) (m : Int32), f_X10_bestLate_L20 N v0 v1 h n v2 v3 = some m → (zW yX10_bestLate cX10_bestLate 4 (some .int) d mc ms 66 [(2, .int m)] [] h vv hh) → zW yX10_bestLate cX10_bestLate 4 (some .int) d mc ms 20 [(0, .ref v0), (1, .int v1), (2, .int v2), (3, .int v3)] [] h vv hh := by
  intro n
  induction n with
  | zero =>
    intro v2 v3 m H
    cases H
  | succ n ih =>
    intro v2 v3 m H KE
    unfold f_X10_bestLate_L20 at H
    refine z_iload_n (pc := 20) 3 dX10_bestLate_20 rfl rfl ?_
    refine z_iload_n (pc := 21) 1 dX10_bestLate_21 rfl rfl ?_
    refine z_icmp_gt (pc := 22) 66 dX10_bestLate_22 (by decide) (fun c7 => ?_) (fun c7 => ?_)
    · rw [if_pos c7] at H
      cases H
      exact z_sub [2] rfl (KE)
    · rw [if_neg c7] at H
      refine z_iload_n (pc := 25) 3 dX10_bestLate_25 rfl rfl ?_
      refine z_aload_n (pc := 26) 0 dX10_bestLate_26 rfl rfl ?_
      obtain ⟨r8, er8, H⟩ := zbind H
      refine z_getR (pc := 27) dX10_bestLate_27 fd_X10_30 er8 ?_
      obtain ⟨x9, ex9, H⟩ := zbind H
      refine z_alen (pc := 30) dX10_bestLate_30 ex9 ?_
      refine z_icmp_ge (pc := 31) 66 dX10_bestLate_31 (by decide) (fun c10 => ?_) (fun c10 => ?_)
      · rw [if_pos c10] at H
        cases H
        exact z_sub [2] rfl (KE)
      · rw [if_neg c10] at H
        refine z_aload_n (pc := 34) 0 dX10_bestLate_34 rfl rfl ?_
        obtain ⟨r11, er11, H⟩ := zbind H
        refine z_getR (pc := 35) dX10_bestLate_35 fd_X10_30 er11 ?_
        refine z_iload_n (pc := 38) 3 dX10_bestLate_38 rfl rfl ?_
        obtain ⟨x12, ex12, H⟩ := zbind H
        refine z_iaload (pc := 39) dX10_bestLate_39 ex12 ?_
        refine z_iconst (pc := 40) (x := (-1)) dX10_bestLate_40 zc_iconst_m1 ?_
        refine z_icmp_eq (pc := 41) 60 dX10_bestLate_41 (by decide) (fun c13 => ?_) (fun c13 => ?_)
        · rw [if_pos c13] at H
          refine z_iinc (pc := 60) (x' := v3 + 1) (lv' := [(3, .int (v3 + 1)), (0, .ref v0), (1, .int v1), (2, .int v2)]) 3 dX10_bestLate_60 rfl (by rfl) (by decide) rfl ?_
          refine z_goto (pc := 63) 20 dX10_bestLate_63 (by decide) ?_
          exact z_sub [1, 2, 3, 0] rfl (ih v2 (v3 + 1) _ H KE)
        · rw [if_neg c13] at H
          refine z_iload_n (pc := 44) 2 dX10_bestLate_44 rfl rfl ?_
          refine z_iconst (pc := 45) (x := (-1)) dX10_bestLate_45 zc_iconst_m1 ?_
          refine z_icmp_eq (pc := 46) 58 dX10_bestLate_46 (by decide) (fun c14 => ?_) (fun c14 => ?_)
          · rw [if_pos c14] at H
            refine z_iload_n (pc := 58) 3 dX10_bestLate_58 rfl rfl ?_
            refine z_istore_n (pc := 59) (lv' := [(2, .int v3), (0, .ref v0), (1, .int v1), (3, .int v3)]) dX10_bestLate_59 rfl (by decide) rfl ?_
            refine z_iinc (pc := 60) (x' := v3 + 1) (lv' := [(3, .int (v3 + 1)), (2, .int v3), (0, .ref v0), (1, .int v1)]) 3 dX10_bestLate_60 rfl (by rfl) (by decide) rfl ?_
            refine z_goto (pc := 63) 20 dX10_bestLate_63 (by decide) ?_
            exact z_sub [2, 3, 1, 0] rfl (ih v3 (v3 + 1) _ H KE)
          · rw [if_neg c14] at H
            refine z_aload_n (pc := 49) 0 dX10_bestLate_49 rfl rfl ?_
            refine z_iload_n (pc := 50) 3 dX10_bestLate_50 rfl rfl ?_
            refine z_iload_n (pc := 51) 2 dX10_bestLate_51 rfl rfl ?_
            obtain ⟨z15, H⟩ := zifE H
            obtain ⟨q16, eq16, H⟩ := zbind H
            refine z_callV (pc := 52) (mc := mc) (ms := ms) (d' := 1) (mc' := 0) (ms' := 0) (rest := []) [.int v3, .int v2] dX10_bestLate_52 md_X10_isBetter ml_X10_54 im_X10_isBetter se_X10_isBetter rfl z15 rfl rfl (Nat.le_of_ble_eq_true rfl) (by omega) (k_X10_isBetter eq16) ?_
            refine z_if_eq (pc := 55) 60 dX10_bestLate_55 (by decide) (fun c17 => ?_) (fun c17 => ?_)
            · rw [if_pos c17] at H
              refine z_iinc (pc := 60) (x' := v3 + 1) (lv' := [(3, .int (v3 + 1)), (0, .ref v0), (1, .int v1), (2, .int v2)]) 3 dX10_bestLate_60 rfl (by rfl) (by decide) rfl ?_
              refine z_goto (pc := 63) 20 dX10_bestLate_63 (by decide) ?_
              exact z_sub [1, 2, 3, 0] rfl (ih v2 (v3 + 1) _ H KE)
            · rw [if_neg c17] at H
              refine z_iload_n (pc := 58) 3 dX10_bestLate_58 rfl rfl ?_
              refine z_istore_n (pc := 59) (lv' := [(2, .int v3), (0, .ref v0), (1, .int v1), (3, .int v3)]) dX10_bestLate_59 rfl (by decide) rfl ?_
              refine z_iinc (pc := 60) (x' := v3 + 1) (lv' := [(3, .int (v3 + 1)), (2, .int v3), (0, .ref v0), (1, .int v1)]) 3 dX10_bestLate_60 rfl (by rfl) (by decide) rfl ?_
              refine z_goto (pc := 63) 20 dX10_bestLate_63 (by decide) ?_
              exact z_sub [2, 3, 1, 0] rfl (ih v3 (v3 + 1) _ H KE)
def f_X10_bestLate (N : Nat) (v0 : Nat) (v1 : Int32) (h : zH) : Option (Int32 × zH) := (gI h v0 10 8).bind fun x1 => (if x1 = 0 then (some h) else (zif (zob h v0 10) <| (f_X10_findPlans N v0 h).bind fun h5 => (pZ h5 v0 10 8 0).bind fun h6 => some h6) : Option (zH)).bind fun m2 => (f_X10_bestLate_L20 N v0 v1 m2 N (-1) 0).bind fun m18 => some (m18, m2)
set_option maxRecDepth 100000 in
set_option maxHeartbeats 4000000 in
theorem k_X10_bestLate {N : Nat} {v0 : Nat} {v1 : Int32} {h : zH} {r : Int32 × zH} (H : f_X10_bestLate N v0 v1 h = some r) : zOk 13 0 0 yX10_bestLate cX10_bestLate 4 (some .int) [.ref v0, .int v1] h (some (.int r.1)) r.2 := by
  refine zOk.of (by decide) (Nat.le_of_ble_eq_true rfl) ?_
  unfold f_X10_bestLate at H
  refine z_aload_n (pc := 0) 0 dX10_bestLate_0 rfl rfl ?_
  obtain ⟨x1, ex1, H⟩ := zbind H
  refine z_getI (pc := 1) dX10_bestLate_1 fd_X10_36 ex1 ?_
  obtain ⟨m2, em2, H⟩ := zbind H
  have Jm2 : zW yX10_bestLate cX10_bestLate 4 (some .int) 13 0 0 16 [(0, .ref v0), (1, .int v1)] [] m2 (some (.int r.1)) r.2 := by
    refine z_iconst (pc := 16) (x := (-1)) dX10_bestLate_16 zc_iconst_m1 ?_
    refine z_istore_n (pc := 17) (lv' := [(2, .int (-1)), (0, .ref v0), (1, .int v1)]) dX10_bestLate_17 rfl (by decide) rfl ?_
    refine z_iconst (pc := 18) (x := 0) dX10_bestLate_18 zc_iconst_0 ?_
    refine z_istore_n (pc := 19) (lv' := [(3, .int 0), (2, .int (-1)), (0, .ref v0), (1, .int v1)]) dX10_bestLate_19 rfl (by decide) rfl ?_
    obtain ⟨m18, em18, H⟩ := zbind H
    refine z_sub [2, 3, 1, 0] rfl (s_X10_bestLate_L20 (by omega) N (-1) 0 _ em18 ?_)
    refine z_iload_n (pc := 66) 0 dX10_bestLate_66 rfl rfl ?_
    cases H
    exact z_ireturn rfl dX10_bestLate_67
  refine z_if_eq (pc := 4) 16 dX10_bestLate_4 (by decide) (fun c3 => ?_) (fun c3 => ?_)
  · rw [if_pos c3] at em2
    cases em2
    exact z_sub [0, 1] rfl Jm2
  · rw [if_neg c3] at em2
    refine z_aload_n (pc := 7) 0 dX10_bestLate_7 rfl rfl ?_
    obtain ⟨z4, em2⟩ := zifE em2
    obtain ⟨h5, eh5, em2⟩ := zbind em2
    refine z_callV (pc := 8) (mc := 0) (ms := 0) (d' := 12) (mc' := 0) (ms' := 0) (rest := []) [] dX10_bestLate_8 md_X10_findPlans ml_X10_51 im_X10_findPlans se_X10_findPlans rfl z4 rfl rfl (Nat.le_of_ble_eq_true rfl) (by omega) (k_X10_findPlans eh5) ?_
    refine z_aload_n (pc := 11) 0 dX10_bestLate_11 rfl rfl ?_
    refine z_iconst (pc := 12) (x := 0) dX10_bestLate_12 zc_iconst_0 ?_
    obtain ⟨h6, eh6, em2⟩ := zbind em2
    refine z_put (pc := 13) dX10_bestLate_13 fd_X10_36 (pZ_n eh6) (pZ_f eh6) (pZ_p eh6) ?_
    cases em2
    exact z_sub [0, 1] rfl Jm2

def f_X10_doneWith_L33 (N : Nat) (v1 : Int32) (h : zH) : Nat → Int32 → Int32 → Option (Int32)
  | 0, _, _ => none
  | n + 1, v3, v4 => if v1 ≤ v4 then (some v3) else (zlet (v3 / 3 : Int32) fun x11 => f_X10_doneWith_L33 N v1 h n x11 (v4 + 1))
set_option maxRecDepth 100000 in
set_option maxHeartbeats 4000000 in
theorem s_X10_doneWith_L33 {d mc ms N : Nat} {vv : Option Value} {hh : zH} {v1 : Int32} {h : zH} (hd0 : 1 ≤ d) : ∀ (n : Nat) (v3 : Int32) (v4 : Int32) (m : Int32), f_X10_doneWith_L33 N v1 h n v3 v4 = some m → (zW yX10_doneWith cX10_doneWith 5 (some .int) d mc ms 49 [(3, .int m)] [] h vv hh) → zW yX10_doneWith cX10_doneWith 5 (some .int) d mc ms 33 [(1, .int v1), (3, .int v3), (4, .int v4)] [] h vv hh := by
  intro n
  induction n with
  | zero =>
    intro v3 v4 m H
    cases H
  | succ n ih =>
    intro v3 v4 m H KE
    unfold f_X10_doneWith_L33 at H
    refine z_iload (pc := 33) 2 dX10_doneWith_33 rfl ?_
    refine z_iload_n (pc := 35) 0 dX10_doneWith_35 rfl rfl ?_
    refine z_icmp_ge (pc := 36) 49 dX10_doneWith_36 (by decide) (fun c10 => ?_) (fun c10 => ?_)
    · rw [if_pos c10] at H
      cases H
      exact z_sub [1] rfl (KE)
    · rw [if_neg c10] at H
      refine z_iload_n (pc := 39) 1 dX10_doneWith_39 rfl rfl ?_
      refine z_iconst (pc := 40) (x := 3) dX10_doneWith_40 zc_iconst_3 ?_
      refine z_idiv (pc := 41) dX10_doneWith_41 (by decide) ?_
      obtain ⟨x11, ex11, H⟩ := zletE H
      refine z_nmI ex11 ?_
      refine z_istore_n (pc := 42) (lv' := [(3, .int x11), (1, .int v1), (4, .int v4)]) dX10_doneWith_42 rfl (by decide) rfl ?_
      refine z_iinc (pc := 43) (x' := v4 + 1) (lv' := [(4, .int (v4 + 1)), (3, .int x11), (1, .int v1)]) 2 dX10_doneWith_43 rfl (by rfl) (by decide) rfl ?_
      refine z_goto (pc := 46) 33 dX10_doneWith_46 (by decide) ?_
      exact z_sub [2, 1, 0] rfl (ih x11 (v4 + 1) _ H KE)
def f_X10_doneWith (N : Nat) (v0 : Nat) (v1 : Int32) (v2 : Int32) (h : zH) : Option (Int32) := zif (zob h v0 10) <| (f_X10_isTold N v0 v1 h).bind fun q2 => if q2 = 0 then (some (-1)) else (if v2 < 0 then (some (-1)) else ((gR h v0 10 7).bind fun r5 => (aN h r5).bind fun x6 => if v2 < x6 then ((gR h v0 10 7).bind fun r8 => (aI h r8 v2).bind fun x9 => (f_X10_doneWith_L33 N v1 h N x9 0).bind fun m12 => some (m12 - m12 / 3 * 3)) else (some (-1))))
set_option maxRecDepth 100000 in
set_option maxHeartbeats 4000000 in
theorem k_X10_doneWith {N : Nat} {v0 : Nat} {v1 : Int32} {v2 : Int32} {h : zH} {r : Int32} (H : f_X10_doneWith N v0 v1 v2 h = some r) : zOk 1 0 0 yX10_doneWith cX10_doneWith 5 (some .int) [.ref v0, .int v1, .int v2] h (some (.int r)) h := by
  refine zOk.of (by decide) (Nat.le_of_ble_eq_true rfl) ?_
  unfold f_X10_doneWith at H
  refine z_aload_n (pc := 0) 0 dX10_doneWith_0 rfl rfl ?_
  refine z_iload_n (pc := 1) 1 dX10_doneWith_1 rfl rfl ?_
  obtain ⟨z1, H⟩ := zifE H
  obtain ⟨q2, eq2, H⟩ := zbind H
  refine z_callV (pc := 2) (mc := 0) (ms := 0) (d' := 0) (mc' := 0) (ms' := 0) (rest := []) [.int v1] dX10_doneWith_2 md_X10_isTold ml_X10_58 im_X10_isTold se_X10_isTold rfl z1 rfl rfl (Nat.le_of_ble_eq_true rfl) (by omega) (k_X10_isTold eq2) ?_
  refine z_if_eq (pc := 5) 21 dX10_doneWith_5 (by decide) (fun c3 => ?_) (fun c3 => ?_)
  · rw [if_pos c3] at H
    refine z_iconst (pc := 21) (x := (-1)) dX10_doneWith_21 zc_iconst_m1 ?_
    cases H
    exact z_ireturn rfl dX10_doneWith_22
  · rw [if_neg c3] at H
    refine z_iload_n (pc := 8) 2 dX10_doneWith_8 rfl rfl ?_
    refine z_if_lt (pc := 9) 21 dX10_doneWith_9 (by decide) (fun c4 => ?_) (fun c4 => ?_)
    · rw [if_pos c4] at H
      refine z_iconst (pc := 21) (x := (-1)) dX10_doneWith_21 zc_iconst_m1 ?_
      cases H
      exact z_ireturn rfl dX10_doneWith_22
    · rw [if_neg c4] at H
      refine z_iload_n (pc := 12) 2 dX10_doneWith_12 rfl rfl ?_
      refine z_aload_n (pc := 13) 0 dX10_doneWith_13 rfl rfl ?_
      obtain ⟨r5, er5, H⟩ := zbind H
      refine z_getR (pc := 14) dX10_doneWith_14 fd_X10_33 er5 ?_
      obtain ⟨x6, ex6, H⟩ := zbind H
      refine z_alen (pc := 17) dX10_doneWith_17 ex6 ?_
      refine z_icmp_lt (pc := 18) 23 dX10_doneWith_18 (by decide) (fun c7 => ?_) (fun c7 => ?_)
      · rw [if_pos c7] at H
        refine z_aload_n (pc := 23) 0 dX10_doneWith_23 rfl rfl ?_
        obtain ⟨r8, er8, H⟩ := zbind H
        refine z_getR (pc := 24) dX10_doneWith_24 fd_X10_33 er8 ?_
        refine z_iload_n (pc := 27) 2 dX10_doneWith_27 rfl rfl ?_
        obtain ⟨x9, ex9, H⟩ := zbind H
        refine z_iaload (pc := 28) dX10_doneWith_28 ex9 ?_
        refine z_istore_n (pc := 29) (lv' := [(3, .int x9), (0, .ref v0), (1, .int v1), (2, .int v2)]) dX10_doneWith_29 rfl (by decide) rfl ?_
        refine z_iconst (pc := 30) (x := 0) dX10_doneWith_30 zc_iconst_0 ?_
        refine z_istore (pc := 31) (lv' := [(4, .int 0), (3, .int x9), (0, .ref v0), (1, .int v1), (2, .int v2)]) dX10_doneWith_31 (by decide) rfl ?_
        obtain ⟨m12, em12, H⟩ := zbind H
        refine z_sub [3, 1, 0] rfl (s_X10_doneWith_L33 (by omega) N x9 0 _ em12 ?_)
        refine z_iload_n (pc := 49) 0 dX10_doneWith_49 rfl rfl ?_
        refine z_iconst (pc := 50) (x := 3) dX10_doneWith_50 zc_iconst_3 ?_
        refine z_irem (pc := 51) dX10_doneWith_51 (by decide) ?_
        cases H
        exact z_ireturn rfl dX10_doneWith_52
      · rw [if_neg c7] at H
        refine z_iconst (pc := 21) (x := (-1)) dX10_doneWith_21 zc_iconst_m1 ?_
        cases H
        exact z_ireturn rfl dX10_doneWith_22

theorem ml_X11_1 : Cond.methodLink RX11 1 objectInit ∈ zB := zmem 143 (by decide +kernel) rfl
theorem ck_X11_9 : Cond.classLink RX11 9 RX6 ∈ zB := zmem 146 (by decide +kernel) rfl
theorem fd_X11_11 : zFd RX11 11 11 0 (.array (.object "WhoseStreet$Meeting")) true "WhoseStreet" := zFd.of cl_11 (by decide) (zmem 503 (by decide +kernel) rfl) rfl rfl rfl
theorem ck_X11_15 : Cond.classLink RX11 15 RX8 ∈ zB := zmem 148 (by decide +kernel) rfl
theorem in_X8 : Cond.instantiable RX8 7 ∈ zB := zmem 149 (by decide +kernel) rfl
theorem it_X8 : Cond.initialized RX8 ∈ zB := zmem 113 (by decide +kernel) rfl
theorem md_X8_init : zMd yX8_init cX8_init 1 0 none := ⟨zmw (zmt_1 _ (List.mem_of_getElem? (i := 41) rfl)) rfl, zmem 113 (by decide +kernel) rfl, by decide, by decide, by decide +kernel, by decide⟩
theorem ns_X11_17 : (RX11, 17, yX8_init, "WhoseStreet") ∈ zNs := by decide +kernel
theorem im_X8_init : Cond.instanceMethod yX8_init ∈ zB := zmem 151 (by decide +kernel) rfl
theorem fd_X11_18 : zFd RX11 18 11 1 (.object "WhoseStreet$Ride") true "WhoseStreet" := zFd.of cl_11 (by decide) (zmem 504 (by decide +kernel) rfl) rfl rfl rfl
theorem ck_X11_22 : Cond.classLink RX11 22 RX9 ∈ zB := zmem 178 (by decide +kernel) rfl
theorem in_X9 : Cond.instantiable RX9 8 ∈ zB := zmem 179 (by decide +kernel) rfl
theorem it_X9 : Cond.initialized RX9 ∈ zB := zmem 114 (by decide +kernel) rfl
theorem md_X9_init : zMd yX9_init cX9_init 6 0 none := ⟨zmw (zmt_1 _ (List.mem_of_getElem? (i := 71) rfl)) rfl, zmem 114 (by decide +kernel) rfl, by decide, by decide, by decide +kernel, by decide⟩
theorem ml_X11_24 : Cond.methodLink RX11 24 yX9_init ∈ zB := zmem 180 (by decide +kernel) rfl
theorem im_X9_init : Cond.instanceMethod yX9_init ∈ zB := zmem 181 (by decide +kernel) rfl
theorem fd_X11_25 : zFd RX11 25 11 2 (.object "WhoseStreet$Tape") true "WhoseStreet" := zFd.of cl_11 (by decide) (zmem 505 (by decide +kernel) rfl) rfl rfl rfl
theorem ck_X11_29 : Cond.classLink RX11 29 RX7 ∈ zB := zmem 269 (by decide +kernel) rfl
theorem in_X7 : Cond.instantiable RX7 9 ∈ zB := zmem 270 (by decide +kernel) rfl
theorem it_X7 : Cond.initialized RX7 ∈ zB := zmem 119 (by decide +kernel) rfl
theorem md_X7_init : zMd yX7_init cX7_init 1 0 none := ⟨zmw (zmt_1 _ (List.mem_of_getElem? (i := 162) rfl)) rfl, zmem 119 (by decide +kernel) rfl, by decide, by decide, by decide +kernel, by decide⟩
theorem ns_X11_31 : (RX11, 31, yX7_init, "WhoseStreet") ∈ zNs := by decide +kernel
theorem im_X7_init : Cond.instanceMethod yX7_init ∈ zB := zmem 272 (by decide +kernel) rfl
theorem fd_X11_32 : zFd RX11 32 11 3 (.object "WhoseStreet$Reader") true "WhoseStreet" := zFd.of cl_11 (by decide) (zmem 506 (by decide +kernel) rfl) rfl rfl rfl
theorem ck_X11_36 : Cond.classLink RX11 36 RX1 ∈ zB := zmem 304 (by decide +kernel) rfl
theorem in_X1 : Cond.instantiable RX1 11 ∈ zB := zmem 305 (by decide +kernel) rfl
theorem it_X1 : Cond.initialized RX1 ∈ zB := zmem 120 (by decide +kernel) rfl
theorem md_X1_init : zMd yX1_init cX1_init 1 0 none := ⟨zmw (zmt_1 _ (List.mem_of_getElem? (i := 197) rfl)) rfl, zmem 120 (by decide +kernel) rfl, by decide, by decide, by decide +kernel, by decide⟩
theorem ns_X11_38 : (RX11, 38, yX1_init, "WhoseStreet") ∈ zNs := by decide +kernel
theorem im_X1_init : Cond.instanceMethod yX1_init ∈ zB := zmem 307 (by decide +kernel) rfl
theorem fd_X11_39 : zFd RX11 39 11 4 (.object "WhoseStreet$Book") true "WhoseStreet" := zFd.of cl_11 (by decide) (zmem 507 (by decide +kernel) rfl) rfl rfl rfl
theorem ck_X11_43 : Cond.classLink RX11 43 RX0 ∈ zB := zmem 351 (by decide +kernel) rfl
theorem in_X0 : Cond.instantiable RX0 7 ∈ zB := zmem 352 (by decide +kernel) rfl
theorem it_X0 : Cond.initialized RX0 ∈ zB := zmem 121 (by decide +kernel) rfl
theorem md_X0_init : zMd yX0_init cX0_init 4 0 none := ⟨zmw (zmt_2 _ (List.mem_of_getElem? (i := 4) rfl)) rfl, zmem 121 (by decide +kernel) rfl, by decide, by decide, by decide +kernel, by decide⟩
theorem ml_X11_45 : Cond.methodLink RX11 45 yX0_init ∈ zB := zmem 353 (by decide +kernel) rfl
theorem im_X0_init : Cond.instanceMethod yX0_init ∈ zB := zmem 354 (by decide +kernel) rfl
theorem fd_X11_46 : zFd RX11 46 11 5 (.object "WhoseStreet$Bench") true "WhoseStreet" := zFd.of cl_11 (by decide) (zmem 508 (by decide +kernel) rfl) rfl rfl rfl
theorem ck_X11_50 : Cond.classLink RX11 50 RX2 ∈ zB := zmem 383 (by decide +kernel) rfl
theorem in_X2 : Cond.instantiable RX2 8 ∈ zB := zmem 384 (by decide +kernel) rfl
theorem it_X2 : Cond.initialized RX2 ∈ zB := zmem 122 (by decide +kernel) rfl
theorem md_X2_init : zMd yX2_init cX2_init 1 0 none := ⟨zmw (zmt_2 _ (List.mem_of_getElem? (i := 36) rfl)) rfl, zmem 122 (by decide +kernel) rfl, by decide, by decide, by decide +kernel, by decide⟩
theorem ns_X11_52 : (RX11, 52, yX2_init, "WhoseStreet") ∈ zNs := by decide +kernel
theorem im_X2_init : Cond.instanceMethod yX2_init ∈ zB := zmem 386 (by decide +kernel) rfl
theorem fd_X11_53 : zFd RX11 53 11 6 (.object "WhoseStreet$Corner") true "WhoseStreet" := zFd.of cl_11 (by decide) (zmem 509 (by decide +kernel) rfl) rfl rfl rfl
theorem ck_X11_57 : Cond.classLink RX11 57 RX3 ∈ zB := zmem 416 (by decide +kernel) rfl
theorem in_X3 : Cond.instantiable RX3 7 ∈ zB := zmem 417 (by decide +kernel) rfl
theorem it_X3 : Cond.initialized RX3 ∈ zB := zmem 123 (by decide +kernel) rfl
theorem md_X3_init : zMd yX3_init cX3_init 1 0 none := ⟨zmw (zmt_2 _ (List.mem_of_getElem? (i := 69) rfl)) rfl, zmem 123 (by decide +kernel) rfl, by decide, by decide, by decide +kernel, by decide⟩
theorem ns_X11_59 : (RX11, 59, yX3_init, "WhoseStreet") ∈ zNs := by decide +kernel
theorem im_X3_init : Cond.instanceMethod yX3_init ∈ zB := zmem 419 (by decide +kernel) rfl
theorem fd_X11_60 : zFd RX11 60 11 7 (.object "WhoseStreet$House") true "WhoseStreet" := zFd.of cl_11 (by decide) (zmem 510 (by decide +kernel) rfl) rfl rfl rfl
theorem ck_X11_64 : Cond.classLink RX11 64 RX5 ∈ zB := zmem 445 (by decide +kernel) rfl
theorem in_X5 : Cond.instantiable RX5 2 ∈ zB := zmem 446 (by decide +kernel) rfl
theorem it_X5 : Cond.initialized RX5 ∈ zB := zmem 124 (by decide +kernel) rfl
theorem md_X5_init : zMd yX5_init cX5_init 1 0 none := ⟨zmw (zmt_2 _ (List.mem_of_getElem? (i := 98) rfl)) rfl, zmem 124 (by decide +kernel) rfl, by decide, by decide, by decide +kernel, by decide⟩
theorem ml_X11_66 : Cond.methodLink RX11 66 yX5_init ∈ zB := zmem 447 (by decide +kernel) rfl
theorem im_X5_init : Cond.instanceMethod yX5_init ∈ zB := zmem 448 (by decide +kernel) rfl
theorem fd_X11_67 : zFd RX11 67 11 8 (.object "WhoseStreet$Ledger") true "WhoseStreet" := zFd.of cl_11 (by decide) (zmem 511 (by decide +kernel) rfl) rfl rfl rfl
theorem ck_X11_71 : Cond.classLink RX11 71 RX10 ∈ zB := zmem 461 (by decide +kernel) rfl
theorem in_X10 : Cond.instantiable RX10 11 ∈ zB := zmem 462 (by decide +kernel) rfl
theorem it_X10 : Cond.initialized RX10 ∈ zB := zmem 126 (by decide +kernel) rfl
theorem md_X10_init : zMd yX10_init cX10_init 1 0 none := ⟨zmw (zmt_2 _ (List.mem_of_getElem? (i := 114) rfl)) rfl, zmem 126 (by decide +kernel) rfl, by decide, by decide, by decide +kernel, by decide⟩
theorem ns_X11_73 : (RX11, 73, yX10_init, "WhoseStreet") ∈ zNs := by decide +kernel
theorem im_X10_init : Cond.instanceMethod yX10_init ∈ zB := zmem 464 (by decide +kernel) rfl
theorem fd_X11_74 : zFd RX11 74 11 9 (.object "WhoseStreet$Town") true "WhoseStreet" := zFd.of cl_11 (by decide) (zmem 512 (by decide +kernel) rfl) rfl rfl rfl
theorem fd_X11_78 : zFd RX11 78 11 12 (.int) false "WhoseStreet" := zFd.of cl_11 (by decide) (zmem 515 (by decide +kernel) rfl) rfl rfl rfl
def f_X11_init (N : Nat) (v0 : Nat) (h : zH) : Option (zH) := zlet (znew h (zblank 4 40) : zH) fun h1 => (pF h1 v0 11 0 (.ref h.1.1)).bind fun h2 => zlet (znew h2 (.inr (8, [.int 0, .int 0, .int 0, .int 0, .int 0, .int 0, .int 0])) : zH) fun h3 => (f_X8_init N h2.1.1 h3).bind fun u4 => (pF h3 v0 11 1 (.ref h2.1.1)).bind fun h5 => zlet (znew h5 (.inr (9, [.null, .null, .int 0, .int 0, .int 0, .int 0, .int 0, .long 0])) : zH) fun h6 => (f_X9_init N h5.1.1 h6).bind fun h7 => (pF h7 v0 11 2 (.ref h5.1.1)).bind fun h8 => zlet (znew h8 (.inr (7, [.null, .null, .null, .null, .int 0, .int 0, .int 0, .int 0, .int 0])) : zH) fun h9 => (f_X7_init N h8.1.1 h9).bind fun h10 => (pF h10 v0 11 3 (.ref h8.1.1)).bind fun h11 => zlet (znew h11 (.inr (1, [.null, .null, .null, .int 0, .int 0, .int 0, .int 0, .int 0, .int 0, .int 0, .int 0])) : zH) fun h12 => (f_X1_init N h11.1.1 h12).bind fun h13 => (pF h13 v0 11 4 (.ref h11.1.1)).bind fun h14 => zlet (znew h14 (.inr (0, [.null, .null, .null, .null, .null, .int 0, .int 0])) : zH) fun h15 => (f_X0_init N h14.1.1 h15).bind fun h16 => (pF h16 v0 11 5 (.ref h14.1.1)).bind fun h17 => zlet (znew h17 (.inr (2, [.null, .null, .null, .null, .int 0, .int 0, .int 0, .int 0])) : zH) fun h18 => (f_X2_init N h17.1.1 h18).bind fun h19 => (pF h19 v0 11 6 (.ref h17.1.1)).bind fun h20 => zlet (znew h20 (.inr (3, [.null, .null, .null, .null, .int 0, .int 0, .int 0])) : zH) fun h21 => (f_X3_init N h20.1.1 h21).bind fun h22 => (pF h22 v0 11 7 (.ref h20.1.1)).bind fun h23 => zlet (znew h23 (.inr (5, [.null, .null])) : zH) fun h24 => (f_X5_init N h23.1.1 h24).bind fun h25 => (pF h25 v0 11 8 (.ref h23.1.1)).bind fun h26 => zlet (znew h26 (.inr (10, [.null, .null, .null, .null, .null, .null, .null, .null, .int 0, .int 0, .int 0])) : zH) fun h27 => (f_X10_init N h26.1.1 h27).bind fun h28 => (pF h28 v0 11 9 (.ref h26.1.1)).bind fun h29 => (pF h29 v0 11 12 (.int (-1))).bind fun h30 => some h30
set_option maxRecDepth 100000 in
set_option maxHeartbeats 4000000 in
theorem k_X11_init {N : Nat} {v0 : Nat} {h : zH} {r : zH} (H : f_X11_init N v0 h = some r) : zOk 5 41 4677 yX11_init cX11_init 1 none [.ref v0] h none r := by
  refine zOk.of (by decide) (Nat.le_of_ble_eq_true rfl) ?_
  unfold f_X11_init at H
  refine z_aload_n (pc := 0) 0 dX11_init_0 rfl rfl ?_
  refine z_objInit (pc := 1) dX11_init_1 ml_X11_1 im_object cd_object (by omega) (Nat.le_of_ble_eq_true rfl) ?_
  refine z_aload_n (pc := 4) 0 dX11_init_4 rfl rfl ?_
  refine z_bipush (pc := 5) (x := 40) dX11_init_5 zc_bipush_40 ?_
  refine z_anewarray (pc := 7) (mc := 40) (ms := 4637) (N := 40) 4 (Or.inl ⟨rfl, rfl⟩) dX11_init_7 ck_X11_9 (by decide) (by decide) (by decide) ?_
  obtain ⟨h1, eh1, H⟩ := zletE H
  refine z_nmH eh1 ?_
  obtain ⟨h2, eh2, H⟩ := zbind H
  refine z_putF (pc := 10) dX11_init_10 fd_X11_11 rfl rfl rfl eh2 ?_
  refine z_aload_n (pc := 13) 0 dX11_init_13 rfl rfl ?_
  refine z_new (pc := 14) (mc := 39) (ms := 4630) (N := 7) [.int 0, .int 0, .int 0, .int 0, .int 0, .int 0, .int 0] dX11_init_14 cl_8 ck_X11_15 in_X8 it_X8 (by decide +kernel) ?_
  obtain ⟨h3, eh3, H⟩ := zletE H
  refine z_nmH eh3 ?_
  refine z_dup (pc := 17) dX11_init_17 rfl ?_
  obtain ⟨u4, eu4, H⟩ := zbind H
  refine z_callIN (pc := 18) (mc := 39) (ms := 4630) (d' := 1) (mc' := 0) (ms' := 0) (rest := [.ref h2.1.1, .ref v0]) [] dX11_init_18 md_X8_init ns_X11_17 im_X8_init rfl rfl rfl (Nat.le_of_ble_eq_true rfl) (by omega) (k_X8_init eu4) ?_
  obtain ⟨h5, eh5, H⟩ := zbind H
  refine z_putF (pc := 21) dX11_init_21 fd_X11_18 rfl rfl rfl eh5 ?_
  refine z_aload_n (pc := 24) 0 dX11_init_24 rfl rfl ?_
  refine z_new (pc := 25) (mc := 38) (ms := 4622) (N := 8) [.null, .null, .int 0, .int 0, .int 0, .int 0, .int 0, .long 0] dX11_init_25 cl_9 ck_X11_22 in_X9 it_X9 (by decide +kernel) ?_
  obtain ⟨h6, eh6, H⟩ := zletE H
  refine z_nmH eh6 ?_
  refine z_dup (pc := 28) dX11_init_28 rfl ?_
  obtain ⟨h7, eh7, H⟩ := zbind H
  refine z_callI (pc := 29) (mc := 36) (ms := 3601) (d' := 4) (mc' := 2) (ms' := 1021) (rest := [.ref h5.1.1, .ref v0]) [] dX11_init_29 md_X9_init ml_X11_24 im_X9_init rfl rfl rfl (Nat.le_of_ble_eq_true rfl) (by omega) (k_X9_init eh7) ?_
  obtain ⟨h8, eh8, H⟩ := zbind H
  refine z_putF (pc := 32) dX11_init_32 fd_X11_25 rfl rfl rfl eh8 ?_
  refine z_aload_n (pc := 35) 0 dX11_init_35 rfl rfl ?_
  refine z_new (pc := 36) (mc := 35) (ms := 3592) (N := 9) [.null, .null, .null, .null, .int 0, .int 0, .int 0, .int 0, .int 0] dX11_init_36 cl_7 ck_X11_29 in_X7 it_X7 (by decide +kernel) ?_
  obtain ⟨h9, eh9, H⟩ := zletE H
  refine z_nmH eh9 ?_
  refine z_dup (pc := 39) dX11_init_39 rfl ?_
  obtain ⟨h10, eh10, H⟩ := zbind H
  refine z_callIN (pc := 40) (mc := 32) (ms := 2552) (d' := 1) (mc' := 3) (ms' := 1040) (rest := [.ref h8.1.1, .ref v0]) [] dX11_init_40 md_X7_init ns_X11_31 im_X7_init rfl rfl rfl (Nat.le_of_ble_eq_true rfl) (by omega) (k_X7_init eh10) ?_
  obtain ⟨h11, eh11, H⟩ := zbind H
  refine z_putF (pc := 43) dX11_init_43 fd_X11_32 rfl rfl rfl eh11 ?_
  refine z_aload_n (pc := 46) 0 dX11_init_46 rfl rfl ?_
  refine z_new (pc := 47) (mc := 31) (ms := 2541) (N := 11) [.null, .null, .null, .int 0, .int 0, .int 0, .int 0, .int 0, .int 0, .int 0, .int 0] dX11_init_47 cl_1 ck_X11_36 in_X1 it_X1 (by decide +kernel) ?_
  obtain ⟨h12, eh12, H⟩ := zletE H
  refine z_nmH eh12 ?_
  refine z_dup (pc := 50) dX11_init_50 rfl ?_
  obtain ⟨h13, eh13, H⟩ := zbind H
  refine z_callIN (pc := 51) (mc := 28) (ms := 2485) (d' := 1) (mc' := 3) (ms' := 56) (rest := [.ref h11.1.1, .ref v0]) [] dX11_init_51 md_X1_init ns_X11_38 im_X1_init rfl rfl rfl (Nat.le_of_ble_eq_true rfl) (by omega) (k_X1_init eh13) ?_
  obtain ⟨h14, eh14, H⟩ := zbind H
  refine z_putF (pc := 54) dX11_init_54 fd_X11_39 rfl rfl rfl eh14 ?_
  refine z_aload_n (pc := 57) 0 dX11_init_57 rfl rfl ?_
  refine z_new (pc := 58) (mc := 27) (ms := 2478) (N := 7) [.null, .null, .null, .null, .null, .int 0, .int 0] dX11_init_58 cl_0 ck_X11_43 in_X0 it_X0 (by decide +kernel) ?_
  obtain ⟨h15, eh15, H⟩ := zletE H
  refine z_nmH eh15 ?_
  refine z_dup (pc := 61) dX11_init_61 rfl ?_
  obtain ⟨h16, eh16, H⟩ := zbind H
  refine z_callI (pc := 62) (mc := 22) (ms := 1982) (d' := 1) (mc' := 5) (ms' := 496) (rest := [.ref h14.1.1, .ref v0]) [] dX11_init_62 md_X0_init ml_X11_45 im_X0_init rfl rfl rfl (Nat.le_of_ble_eq_true rfl) (by omega) (k_X0_init eh16) ?_
  obtain ⟨h17, eh17, H⟩ := zbind H
  refine z_putF (pc := 65) dX11_init_65 fd_X11_46 rfl rfl rfl eh17 ?_
  refine z_aload_n (pc := 68) 0 dX11_init_68 rfl rfl ?_
  refine z_new (pc := 69) (mc := 21) (ms := 1974) (N := 8) [.null, .null, .null, .null, .int 0, .int 0, .int 0, .int 0] dX11_init_69 cl_2 ck_X11_50 in_X2 it_X2 (by decide +kernel) ?_
  obtain ⟨h18, eh18, H⟩ := zletE H
  refine z_nmH eh18 ?_
  refine z_dup (pc := 72) dX11_init_72 rfl ?_
  obtain ⟨h19, eh19, H⟩ := zbind H
  refine z_callIN (pc := 73) (mc := 17) (ms := 1958) (d' := 1) (mc' := 4) (ms' := 16) (rest := [.ref h17.1.1, .ref v0]) [] dX11_init_73 md_X2_init ns_X11_52 im_X2_init rfl rfl rfl (Nat.le_of_ble_eq_true rfl) (by omega) (k_X2_init eh19) ?_
  obtain ⟨h20, eh20, H⟩ := zbind H
  refine z_putF (pc := 76) dX11_init_76 fd_X11_53 rfl rfl rfl eh20 ?_
  refine z_aload_n (pc := 79) 0 dX11_init_79 rfl rfl ?_
  refine z_new (pc := 80) (mc := 16) (ms := 1951) (N := 7) [.null, .null, .null, .null, .int 0, .int 0, .int 0] dX11_init_80 cl_3 ck_X11_57 in_X3 it_X3 (by decide +kernel) ?_
  obtain ⟨h21, eh21, H⟩ := zletE H
  refine z_nmH eh21 ?_
  refine z_dup (pc := 83) dX11_init_83 rfl ?_
  obtain ⟨h22, eh22, H⟩ := zbind H
  refine z_callIN (pc := 84) (mc := 12) (ms := 847) (d' := 1) (mc' := 4) (ms' := 1104) (rest := [.ref h20.1.1, .ref v0]) [] dX11_init_84 md_X3_init ns_X11_59 im_X3_init rfl rfl rfl (Nat.le_of_ble_eq_true rfl) (by omega) (k_X3_init eh22) ?_
  obtain ⟨h23, eh23, H⟩ := zbind H
  refine z_putF (pc := 87) dX11_init_87 fd_X11_60 rfl rfl rfl eh23 ?_
  refine z_aload_n (pc := 90) 0 dX11_init_90 rfl rfl ?_
  refine z_new (pc := 91) (mc := 11) (ms := 845) (N := 2) [.null, .null] dX11_init_91 cl_5 ck_X11_64 in_X5 it_X5 (by decide +kernel) ?_
  obtain ⟨h24, eh24, H⟩ := zletE H
  refine z_nmH eh24 ?_
  refine z_dup (pc := 94) dX11_init_94 rfl ?_
  obtain ⟨h25, eh25, H⟩ := zbind H
  refine z_callI (pc := 95) (mc := 9) (ms := 349) (d' := 1) (mc' := 2) (ms' := 496) (rest := [.ref h23.1.1, .ref v0]) [] dX11_init_95 md_X5_init ml_X11_66 im_X5_init rfl rfl rfl (Nat.le_of_ble_eq_true rfl) (by omega) (k_X5_init eh25) ?_
  obtain ⟨h26, eh26, H⟩ := zbind H
  refine z_putF (pc := 98) dX11_init_98 fd_X11_67 rfl rfl rfl eh26 ?_
  refine z_aload_n (pc := 101) 0 dX11_init_101 rfl rfl ?_
  refine z_new (pc := 102) (mc := 8) (ms := 338) (N := 11) [.null, .null, .null, .null, .null, .null, .null, .null, .int 0, .int 0, .int 0] dX11_init_102 cl_10 ck_X11_71 in_X10 it_X10 (by decide +kernel) ?_
  obtain ⟨h27, eh27, H⟩ := zletE H
  refine z_nmH eh27 ?_
  refine z_dup (pc := 105) dX11_init_105 rfl ?_
  obtain ⟨h28, eh28, H⟩ := zbind H
  refine z_callIN (pc := 106) (mc := 0) (ms := 0) (d' := 1) (mc' := 8) (ms' := 338) (rest := [.ref h26.1.1, .ref v0]) [] dX11_init_106 md_X10_init ns_X11_73 im_X10_init rfl rfl rfl (Nat.le_of_ble_eq_true rfl) (by omega) (k_X10_init eh28) ?_
  obtain ⟨h29, eh29, H⟩ := zbind H
  refine z_putF (pc := 109) dX11_init_109 fd_X11_74 rfl rfl rfl eh29 ?_
  refine z_aload_n (pc := 112) 0 dX11_init_112 rfl rfl ?_
  refine z_iconst (pc := 113) (x := (-1)) dX11_init_113 zc_iconst_m1 ?_
  obtain ⟨h30, eh30, H⟩ := zbind H
  refine z_put (pc := 114) dX11_init_114 fd_X11_78 rfl rfl eh30 ?_
  cases H
  exact z_return rfl dX11_init_117

