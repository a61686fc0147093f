theorem md_X3_poll : zMd yX3_poll cX3_poll 3 0 none := ⟨zmw (zmt_5 _ (List.mem_of_getElem? (i := 62) rfl)) rfl, zmem 123 (by decide +kernel) rfl, by decide, by decide, by decide +kernel, by decide⟩
theorem ml_X3_52 : Cond.methodLink RX3 52 yX3_poll ∈ zB := zmem 1130 (by decide +kernel) rfl
theorem im_X3_poll : Cond.instanceMethod yX3_poll ∈ zB := zmem 1132 (by decide +kernel) rfl
theorem se_X3_poll : Cond.selects yX3_poll.cls yX3_poll yX3_poll ∈ zB := zmem 47 (by decide +kernel) rfl
def f_X3_yesFor (N : Nat) (v0 : Nat) (v1 : Int32) (h : zH) : Option (Int32 × zH) := (gI h v0 3 4).bind fun x1 => (if x1 = 0 then (some h) else (zif (zob h v0 3) <| (f_X3_poll N v0 h).bind fun h5 => (pZ h5 v0 3 4 0).bind fun h6 => some h6) : Option (zH)).bind fun m2 => if v1 < 0 then (some (0, m2)) else (if 512 ≤ v1 then (some (0, m2)) else ((gR m2 v0 3 2).bind fun r9 => (aI m2 r9 v1).bind fun x10 => some (x10, m2)))
set_option maxRecDepth 100000 in
set_option maxHeartbeats 4000000 in
theorem k_X3_yesFor {N : Nat} {v0 : Nat} {v1 : Int32} {h : zH} {r : Int32 × zH} (H : f_X3_yesFor N v0 v1 h = some r) : zOk 2 0 0 yX3_yesFor cX3_yesFor 2 (some .int) [.ref v0, .int v1] h (some (.int r.1)) r.2 := by
  refine zOk.of (by decide) (Nat.le_of_ble_eq_true rfl) ?_
  unfold f_X3_yesFor at H
  refine z_aload_n (pc := 0) 0 dX3_yesFor_0 rfl rfl ?_
  obtain ⟨x1, ex1, H⟩ := zbind H
  refine z_getI (pc := 1) dX3_yesFor_1 fd_X3_31 ex1 ?_
  obtain ⟨m2, em2, H⟩ := zbind H
  have Jm2 : zW yX3_yesFor cX3_yesFor 2 (some .int) 2 0 0 16 [(0, .ref v0), (1, .int v1)] [] m2 (some (.int r.1)) r.2 := by
    refine z_iload_n (pc := 16) 1 dX3_yesFor_16 rfl rfl ?_
    refine z_if_lt (pc := 17) 36 dX3_yesFor_17 (by decide) (fun c7 => ?_) (fun c7 => ?_)
    · rw [if_pos c7] at H
      refine z_iconst (pc := 36) (x := 0) dX3_yesFor_36 zc_iconst_0 ?_
      cases H
      exact z_ireturn rfl dX3_yesFor_37
    · rw [if_neg c7] at H
      refine z_iload_n (pc := 20) 1 dX3_yesFor_20 rfl rfl ?_
      refine z_sipush (pc := 21) (x := 512) dX3_yesFor_21 zc_sipush_512 ?_
      refine z_icmp_ge (pc := 24) 36 dX3_yesFor_24 (by decide) (fun c8 => ?_) (fun c8 => ?_)
      · rw [if_pos c8] at H
        refine z_iconst (pc := 36) (x := 0) dX3_yesFor_36 zc_iconst_0 ?_
        cases H
        exact z_ireturn rfl dX3_yesFor_37
      · rw [if_neg c8] at H
        refine z_aload_n (pc := 27) 0 dX3_yesFor_27 rfl rfl ?_
        obtain ⟨r9, er9, H⟩ := zbind H
        refine z_getR (pc := 28) dX3_yesFor_28 fd_X3_18 er9 ?_
        refine z_iload_n (pc := 31) 1 dX3_yesFor_31 rfl rfl ?_
        obtain ⟨x10, ex10, H⟩ := zbind H
        refine z_iaload (pc := 32) dX3_yesFor_32 ex10 ?_
        refine z_goto (pc := 33) 37 dX3_yesFor_33 (by decide) ?_
        cases H
        exact z_ireturn rfl dX3_yesFor_37
  refine z_if_eq (pc := 4) 16 dX3_yesFor_4 (by decide) (fun c3 => ?_) (fun c3 => ?_)
  · rw [if_pos c3] at em2
    cases em2
    exact z_sub [0, 1] rfl Jm2
  · rw [if_neg c3] at em2
    refine z_aload_n (pc := 7) 0 dX3_yesFor_7 rfl rfl ?_
    obtain ⟨z4, em2⟩ := zifE em2
    obtain ⟨h5, eh5, em2⟩ := zbind em2
    refine z_callV (pc := 8) (mc := 0) (ms := 0) (d' := 1) (mc' := 0) (ms' := 0) (rest := []) [] dX3_yesFor_8 md_X3_poll ml_X3_52 im_X3_poll se_X3_poll rfl z4 rfl rfl (Nat.le_of_ble_eq_true rfl) (by omega) (k_X3_poll eh5) ?_
    refine z_aload_n (pc := 11) 0 dX3_yesFor_11 rfl rfl ?_
    refine z_iconst (pc := 12) (x := 0) dX3_yesFor_12 zc_iconst_0 ?_
    obtain ⟨h6, eh6, em2⟩ := zbind em2
    refine z_put (pc := 13) dX3_yesFor_13 fd_X3_31 (pZ_n eh6) (pZ_f eh6) (pZ_p eh6) ?_
    cases em2
    exact z_sub [0, 1] rfl Jm2

def f_X3_isMore (N : Nat) (v0 : Nat) (v1 : Int32) (h : zH) : Option (Int32) := (gI h v0 3 5).bind fun x1 => if v1 ≤ (x1 - v1) then (some 0) else (some 1)
set_option maxRecDepth 100000 in
set_option maxHeartbeats 4000000 in
theorem k_X3_isMore {N : Nat} {v0 : Nat} {v1 : Int32} {h : zH} {r : Int32} (H : f_X3_isMore N v0 v1 h = some r) : zOk 0 0 0 yX3_isMore cX3_isMore 2 (some .boolean) [.ref v0, .int v1] h (some (.int r)) h := by
  refine zOk.of (by decide) (Nat.le_of_ble_eq_true rfl) ?_
  unfold f_X3_isMore at H
  refine z_iload_n (pc := 0) 1 dX3_isMore_0 rfl rfl ?_
  refine z_aload_n (pc := 1) 0 dX3_isMore_1 rfl rfl ?_
  obtain ⟨x1, ex1, H⟩ := zbind H
  refine z_getI (pc := 2) dX3_isMore_2 fd_X3_28 ex1 ?_
  refine z_iload_n (pc := 5) 1 dX3_isMore_5 rfl rfl ?_
  refine z_isub (pc := 6) dX3_isMore_6 ?_
  refine z_icmp_le (pc := 7) 14 dX3_isMore_7 (by decide) (fun c2 => ?_) (fun c2 => ?_)
  · rw [if_pos c2] at H
    refine z_iconst (pc := 14) (x := 0) dX3_isMore_14 zc_iconst_0 ?_
    cases H
    exact z_zreturn rfl dX3_isMore_15 (by decide)
  · rw [if_neg c2] at H
    refine z_iconst (pc := 10) (x := 1) dX3_isMore_10 zc_iconst_1 ?_
    refine z_goto (pc := 11) 15 dX3_isMore_11 (by decide) ?_
    cases H
    exact z_zreturn rfl dX3_isMore_15 (by decide)

theorem md_X3_yesFor : zMd yX3_yesFor cX3_yesFor 2 1 (some .int) := ⟨zmw (zmt_5 _ (List.mem_of_getElem? (i := 58) rfl)) rfl, zmem 123 (by decide +kernel) rfl, by decide, by decide, by decide +kernel, by decide⟩
theorem ml_X3_39 : Cond.methodLink RX3 39 yX3_yesFor ∈ zB := zmem 1126 (by decide +kernel) rfl
theorem im_X3_yesFor : Cond.instanceMethod yX3_yesFor ∈ zB := zmem 1128 (by decide +kernel) rfl
theorem se_X3_yesFor : Cond.selects yX3_yesFor.cls yX3_yesFor yX3_yesFor ∈ zB := zmem 46 (by decide +kernel) rfl
theorem md_X3_isMore : zMd yX3_isMore cX3_isMore 2 1 (some .boolean) := ⟨zmw (zmt_5 _ (List.mem_of_getElem? (i := 71) rfl)) rfl, zmem 123 (by decide +kernel) rfl, by decide, by decide, by decide +kernel, by decide⟩
theorem ml_X3_43 : Cond.methodLink RX3 43 yX3_isMore ∈ zB := zmem 1139 (by decide +kernel) rfl
theorem im_X3_isMore : Cond.instanceMethod yX3_isMore ∈ zB := zmem 1141 (by decide +kernel) rfl
theorem se_X3_isMore : Cond.selects yX3_isMore.cls yX3_isMore yX3_isMore ∈ zB := zmem 49 (by decide +kernel) rfl
def f_X3_isCarried (N : Nat) (v0 : Nat) (v1 : Int32) (h : zH) : Option (Int32 × zH) := zif (zob h v0 3) <| (f_X3_yesFor N v0 v1 h).bind fun q2 => zif (zob q2.2 v0 3) <| (f_X3_isMore N v0 q2.1 q2.2).bind fun q4 => rZ q4 q2.2
set_option maxRecDepth 100000 in
set_option maxHeartbeats 4000000 in
theorem k_X3_isCarried {N : Nat} {v0 : Nat} {v1 : Int32} {h : zH} {r : Int32 × zH} (H : f_X3_isCarried N v0 v1 h = some r) : zOk 3 0 0 yX3_isCarried cX3_isCarried 2 (some .boolean) [.ref v0, .int v1] h (some (.int r.1)) r.2 := by
  refine zOk.of (by decide) (Nat.le_of_ble_eq_true rfl) ?_
  unfold f_X3_isCarried at H
  refine z_aload_n (pc := 0) 0 dX3_isCarried_0 rfl rfl ?_
  refine z_aload_n (pc := 1) 0 dX3_isCarried_1 rfl rfl ?_
  refine z_iload_n (pc := 2) 1 dX3_isCarried_2 rfl rfl ?_
  obtain ⟨z1, H⟩ := zifE H
  obtain ⟨q2, eq2, H⟩ := zbind H
  refine z_callV (pc := 3) (mc := 0) (ms := 0) (d' := 2) (mc' := 0) (ms' := 0) (rest := [.ref v0]) [.int v1] dX3_isCarried_3 md_X3_yesFor ml_X3_39 im_X3_yesFor se_X3_yesFor rfl z1 rfl rfl (Nat.le_of_ble_eq_true rfl) (by omega) (k_X3_yesFor eq2) ?_
  obtain ⟨z3, H⟩ := zifE H
  obtain ⟨q4, eq4, H⟩ := zbind H
  refine z_callV (pc := 6) (mc := 0) (ms := 0) (d' := 0) (mc' := 0) (ms' := 0) (rest := []) [.int q2.1] dX3_isCarried_6 md_X3_isMore ml_X3_43 im_X3_isMore se_X3_isMore rfl z3 rfl rfl (Nat.le_of_ble_eq_true rfl) (by omega) (k_X3_isMore eq4) ?_
  obtain ⟨z9, H⟩ := rZE H
  cases H
  exact z_zreturn rfl dX3_isCarried_9 z9

theorem zc_sipush_511 : (Int16.ofInt (511)).toInt32 = (511 : Int32) := by decide
theorem md_J6_bitCount_0f7a4 : zMd yJ6_bitCount_0f7a4 cJ6_bitCount_0f7a4 1 1 (some .int) := ⟨zmw (zmt_5 _ (List.mem_of_getElem? (i := 82) rfl)) rfl, zmem 137 (by decide +kernel) rfl, by decide, by decide, by decide +kernel, by decide⟩
theorem ml_X3_47 : Cond.methodLink RX3 47 yJ6_bitCount_0f7a4 ∈ zB := zmem 1151 (by decide +kernel) rfl
theorem sm_J6_bitCount_0f7a4 : Cond.static yJ6_bitCount_0f7a4 ∈ zB := zmem 1152 (by decide +kernel) rfl
def f_X3_mostLeft_L12 (N : Nat) (v0 : Nat) (v1 : Int32) : Nat → Int32 → Int32 → Int32 → Int32 → zH → Option (Int32 × zH)
  | 0, _, _, _, _, _ => none
  | n + 1, v2, v3, v4, v5, h => if v5 < 0 then (some (v2, h)) else (zlet (p_J6_bitCount_0f7a4 v5 : Int32) fun x2 => if (v5 &&& (v1 ^^^ (-1))) = 0 then (if x2 < v3 then (f_X3_mostLeft_L12 N v0 v1 n v2 v3 v4 (v5 + (-1)) h) else (zif (zob h v0 3) <| (f_X3_yesFor N v0 v5 h).bind fun q6 => zif (zob q6.2 v0 3) <| (f_X3_isMore N v0 q6.1 q6.2).bind fun q8 => if q8 = 0 then (f_X3_mostLeft_L12 N v0 v1 n v2 v3 v4 (v5 + (-1)) q6.2) else ((if v3 < x2 then (some (.inl v5)) else (if q6.1 ≤ v4 then ((f_X3_mostLeft_L12 N v0 v1 n v2 v3 v4 (v5 + (-1)) q6.2).map .inr) else (some (.inl v5))) : Option ((Int32) ⊕ (Int32 × zH))).bind fun m10 => zsum m10 fun s11 => f_X3_mostLeft_L12 N v0 v1 n s11 x2 q6.1 (s11 + (-1)) q6.2))) else (f_X3_mostLeft_L12 N v0 v1 n v2 v3 v4 (v5 + (-1)) h))
set_option maxRecDepth 100000 in
set_option maxHeartbeats 4000000 in
theorem s_X3_mostLeft_L12 {d mc ms N : Nat} {vv : Option Value} {hh : zH} {v0 : Nat} {v1 : Int32} (hd0 : 3 ≤ d) : ∀ (n : Nat) (v2 : Int32) (v3 : Int32) (v4 : Int32) (v5 : Int32) (h : zH) (m : Int32 × zH), f_X3_mostLeft_L12 N v0 v1 n v2 v3 v4 v5 h = some m → (zW yX3_mostLeft cX3_mostLeft 8 (some .int) d mc ms 85 [(2, .int m.1)] [] m.2 vv hh) → zW yX3_mostLeft cX3_mostLeft 8 (some .int) d mc ms 12 [(0, .ref v0), (1, .int v1), (2, .int v2), (3, .int v3), (4, .int v4), (5, .int v5)] [] h vv hh := by
  intro n
  induction n with
  | zero =>
    intro v2 v3 v4 v5 h m H
    cases H
  | succ n ih =>
    intro v2 v3 v4 v5 h m H KE
    unfold f_X3_mostLeft_L12 at H
    refine z_iload (pc := 12) 5 dX3_mostLeft_12 rfl ?_
    refine z_if_lt (pc := 14) 85 dX3_mostLeft_14 (by decide) (fun c1 => ?_) (fun c1 => ?_)
    · rw [if_pos c1] at H
      cases H
      exact z_sub [2] rfl (KE)
    · rw [if_neg c1] at H
      refine z_iload (pc := 17) 5 dX3_mostLeft_17 rfl ?_
      refine z_callS (pc := 19) (mc := mc) (ms := ms) (d' := 0) (mc' := 0) (ms' := 0) (rest := []) [.int v5] dX3_mostLeft_19 md_J6_bitCount_0f7a4 ml_X3_47 sm_J6_bitCount_0f7a4 rfl rfl (Nat.le_of_ble_eq_true rfl) (by omega) (k_J6_bitCount_0f7a4 v5 h _ rfl) ?_
      obtain ⟨x2, ex2, H⟩ := zletE H
      refine z_nmI ex2 ?_
      refine z_istore (pc := 22) (lv' := [(6, .int x2), (0, .ref v0), (1, .int v1), (2, .int v2), (3, .int v3), (4, .int v4), (5, .int v5)]) dX3_mostLeft_22 (by decide) rfl ?_
      refine z_iload (pc := 24) 6 dX3_mostLeft_24 rfl ?_
      refine z_iload_n (pc := 26) 2 dX3_mostLeft_26 rfl rfl ?_
      refine z_iconst (pc := 27) (x := (-1)) dX3_mostLeft_27 zc_iconst_m1 ?_
      refine z_ixor (pc := 28) dX3_mostLeft_28 ?_
      refine z_iand (pc := 29) dX3_mostLeft_29 ?_
      refine z_if_ne (pc := 30) 79 dX3_mostLeft_30 (by decide) (fun c3 => ?_) (fun c3 => ?_)
      · rw [if_neg c3] at H
        refine z_iinc (pc := 79) (x' := v5 + (-1)) (lv' := [(5, .int (v5 + (-1))), (6, .int x2), (0, .ref v0), (1, .int v1), (2, .int v2), (3, .int v3), (4, .int v4)]) 6 dX3_mostLeft_79 rfl (by rfl) (by decide) rfl ?_
        refine z_goto (pc := 82) 12 dX3_mostLeft_82 (by decide) ?_
        exact z_sub [2, 3, 4, 5, 6, 0] rfl (ih v2 v3 v4 (v5 + (-1)) h _ H KE)
      · rw [if_pos c3] at H
        refine z_iload (pc := 33) 0 dX3_mostLeft_33 rfl ?_
        refine z_iload_n (pc := 35) 4 dX3_mostLeft_35 rfl rfl ?_
        refine z_icmp_lt (pc := 36) 79 dX3_mostLeft_36 (by decide) (fun c4 => ?_) (fun c4 => ?_)
        · rw [if_pos c4] at H
          refine z_iinc (pc := 79) (x' := v5 + (-1)) (lv' := [(5, .int (v5 + (-1))), (6, .int x2), (0, .ref v0), (1, .int v1), (2, .int v2), (3, .int v3), (4, .int v4)]) 6 dX3_mostLeft_79 rfl (by rfl) (by decide) rfl ?_
          refine z_goto (pc := 82) 12 dX3_mostLeft_82 (by decide) ?_
          exact z_sub [2, 3, 4, 5, 6, 0] rfl (ih v2 v3 v4 (v5 + (-1)) h _ H KE)
        · rw [if_neg c4] at H
          refine z_aload_n (pc := 39) 1 dX3_mostLeft_39 rfl rfl ?_
          refine z_iload (pc := 40) 6 dX3_mostLeft_40 rfl ?_
          obtain ⟨z5, H⟩ := zifE H
          obtain ⟨q6, eq6, H⟩ := zbind H
          refine z_callV (pc := 42) (mc := mc) (ms := ms) (d' := 2) (mc' := 0) (ms' := 0) (rest := []) [.int v5] dX3_mostLeft_42 md_X3_yesFor ml_X3_39 im_X3_yesFor se_X3_yesFor rfl z5 rfl rfl (Nat.le_of_ble_eq_true rfl) (by omega) (k_X3_yesFor eq6) ?_
          refine z_istore (pc := 45) (lv' := [(7, .int q6.1), (6, .int x2), (0, .ref v0), (1, .int v1), (2, .int v2), (3, .int v3), (4, .int v4), (5, .int v5)]) dX3_mostLeft_45 (by decide) rfl ?_
          refine z_aload_n (pc := 47) 2 dX3_mostLeft_47 rfl rfl ?_
          refine z_iload (pc := 48) 0 dX3_mostLeft_48 rfl ?_
          obtain ⟨z7, H⟩ := zifE H
          obtain ⟨q8, eq8, H⟩ := zbind H
          refine z_callV (pc := 50) (mc := mc) (ms := ms) (d' := 0) (mc' := 0) (ms' := 0) (rest := []) [.int q6.1] dX3_mostLeft_50 md_X3_isMore ml_X3_43 im_X3_isMore se_X3_isMore rfl z7 rfl rfl (Nat.le_of_ble_eq_true rfl) (by omega) (k_X3_isMore eq8) ?_
          refine z_if_eq (pc := 53) 79 dX3_mostLeft_53 (by decide) (fun c9 => ?_) (fun c9 => ?_)
          · rw [if_pos c9] at H
            refine z_iinc (pc := 79) (x' := v5 + (-1)) (lv' := [(5, .int (v5 + (-1))), (7, .int q6.1), (6, .int x2), (0, .ref v0), (1, .int v1), (2, .int v2), (3, .int v3), (4, .int v4)]) 7 dX3_mostLeft_79 rfl (by rfl) (by decide) rfl ?_
            refine z_goto (pc := 82) 12 dX3_mostLeft_82 (by decide) ?_
            exact z_sub [3, 4, 5, 6, 7, 0] rfl (ih v2 v3 v4 (v5 + (-1)) q6.2 _ H KE)
          · rw [if_neg c9] at H
            refine z_iload (pc := 56) 1 dX3_mostLeft_56 rfl ?_
            refine z_iload_n (pc := 58) 5 dX3_mostLeft_58 rfl rfl ?_
            obtain ⟨m10, em10, H⟩ := zbind H
            have Jm10 : ∀ s11, m10 = .inl s11 → zW yX3_mostLeft cX3_mostLeft 8 (some .int) d mc ms 69 [(0, .ref v0), (1, .int v1), (5, .int s11), (6, .int x2), (7, .int q6.1)] [] q6.2 vv hh := by
              intro s11 e9
              subst e9
              have H := zsumL H
              refine z_iload (pc := 69) 2 dX3_mostLeft_69 rfl ?_
              refine z_istore_n (pc := 71) (lv' := [(2, .int s11), (0, .ref v0), (1, .int v1), (5, .int s11), (6, .int x2), (7, .int q6.1)]) dX3_mostLeft_71 rfl (by decide) rfl ?_
              refine z_iload (pc := 72) 4 dX3_mostLeft_72 rfl ?_
              refine z_istore_n (pc := 74) (lv' := [(3, .int x2), (2, .int s11), (0, .ref v0), (1, .int v1), (5, .int s11), (6, .int x2), (7, .int q6.1)]) dX3_mostLeft_74 rfl (by decide) rfl ?_
              refine z_iload (pc := 75) 6 dX3_mostLeft_75 rfl ?_
              refine z_istore (pc := 77) (lv' := [(4, .int q6.1), (3, .int x2), (2, .int s11), (0, .ref v0), (1, .int v1), (5, .int s11), (6, .int x2), (7, .int q6.1)]) dX3_mostLeft_77 (by decide) rfl ?_
              refine z_iinc (pc := 79) (x' := s11 + (-1)) (lv' := [(5, .int (s11 + (-1))), (4, .int q6.1), (3, .int x2), (2, .int s11), (0, .ref v0), (1, .int v1), (6, .int x2), (7, .int q6.1)]) 5 dX3_mostLeft_79 rfl (by rfl) (by decide) rfl ?_
              refine z_goto (pc := 82) 12 dX3_mostLeft_82 (by decide) ?_
              exact z_sub [4, 5, 3, 2, 1, 0] rfl (ih s11 x2 q6.1 (s11 + (-1)) q6.2 _ H KE)
            refine z_icmp_gt (pc := 59) 69 dX3_mostLeft_59 (by decide) (fun c12 => ?_) (fun c12 => ?_)
            · rw [if_pos c12] at em10
              cases em10
              exact z_sub [2, 3, 7, 1, 0] rfl (Jm10 _ rfl)
            · rw [if_neg c12] at em10
              refine z_iload (pc := 62) 0 dX3_mostLeft_62 rfl ?_
              refine z_iload (pc := 64) 6 dX3_mostLeft_64 rfl ?_
              refine z_icmp_le (pc := 66) 79 dX3_mostLeft_66 (by decide) (fun c13 => ?_) (fun c13 => ?_)
              · rw [if_pos c13] at em10
                refine z_iinc (pc := 79) (x' := v5 + (-1)) (lv' := [(5, .int (v5 + (-1))), (7, .int q6.1), (6, .int x2), (0, .ref v0), (1, .int v1), (2, .int v2), (3, .int v3), (4, .int v4)]) 7 dX3_mostLeft_79 rfl (by rfl) (by decide) rfl ?_
                refine z_goto (pc := 82) 12 dX3_mostLeft_82 (by decide) ?_
                obtain ⟨o14, H9, e9⟩ := zmapR em10
                subst e9
                have H9 := H9.trans (zsumR H)
                exact z_sub [3, 4, 5, 6, 7, 0] rfl (ih v2 v3 v4 (v5 + (-1)) q6.2 _ H9 KE)
              · rw [if_neg c13] at em10
                cases em10
                exact z_sub [2, 3, 7, 1, 0] rfl (Jm10 _ rfl)
def f_X3_mostLeft (N : Nat) (v0 : Nat) (v1 : Int32) (h : zH) : Option (Int32 × zH) := (f_X3_mostLeft_L12 N v0 v1 N (-1) (-1) 0 511 h).bind fun m15 => some (m15.1, m15.2)
set_option maxRecDepth 100000 in
set_option maxHeartbeats 4000000 in
theorem k_X3_mostLeft {N : Nat} {v0 : Nat} {v1 : Int32} {h : zH} {r : Int32 × zH} (H : f_X3_mostLeft N v0 v1 h = some r) : zOk 3 0 0 yX3_mostLeft cX3_mostLeft 8 (some .int) [.ref v0, .int v1] h (some (.int r.1)) r.2 := by
  refine zOk.of (by decide) (Nat.le_of_ble_eq_true rfl) ?_
  unfold f_X3_mostLeft at H
  refine z_iconst (pc := 0) (x := (-1)) dX3_mostLeft_0 zc_iconst_m1 ?_
  refine z_istore_n (pc := 1) (lv' := [(2, .int (-1)), (0, .ref v0), (1, .int v1)]) dX3_mostLeft_1 rfl (by decide) rfl ?_
  refine z_iconst (pc := 2) (x := (-1)) dX3_mostLeft_2 zc_iconst_m1 ?_
  refine z_istore_n (pc := 3) (lv' := [(3, .int (-1)), (2, .int (-1)), (0, .ref v0), (1, .int v1)]) dX3_mostLeft_3 rfl (by decide) rfl ?_
  refine z_iconst (pc := 4) (x := 0) dX3_mostLeft_4 zc_iconst_0 ?_
  refine z_istore (pc := 5) (lv' := [(4, .int 0), (3, .int (-1)), (2, .int (-1)), (0, .ref v0), (1, .int v1)]) dX3_mostLeft_5 (by decide) rfl ?_
  refine z_sipush (pc := 7) (x := 511) dX3_mostLeft_7 zc_sipush_511 ?_
  refine z_istore (pc := 10) (lv' := [(5, .int 511), (4, .int 0), (3, .int (-1)), (2, .int (-1)), (0, .ref v0), (1, .int v1)]) dX3_mostLeft_10 (by decide) rfl ?_
  obtain ⟨m15, em15, H⟩ := zbind H
  refine z_sub [4, 5, 3, 2, 1, 0] rfl (s_X3_mostLeft_L12 (by omega) N (-1) (-1) 0 511 h _ em15 ?_)
  refine z_iload_n (pc := 85) 0 dX3_mostLeft_85 rfl rfl ?_
  cases H
  exact z_ireturn rfl dX3_mostLeft_86

theorem ml_X4_1 : Cond.methodLink RX4 1 objectInit ∈ zB := zmem 903 (by decide +kernel) rfl
theorem fd_X4_7 : zFd RX4 7 4 0 (.int) true "WhoseStreet$Law" := zFd.of cl_4 (by decide) (zmem 904 (by decide +kernel) rfl) rfl rfl rfl
theorem fd_X4_13 : zFd RX4 13 4 1 (.int) true "WhoseStreet$Law" := zFd.of cl_4 (by decide) (zmem 906 (by decide +kernel) rfl) rfl rfl rfl
theorem fd_X4_16 : zFd RX4 16 4 2 (.array .int) true "WhoseStreet$Law" := zFd.of cl_4 (by decide) (zmem 908 (by decide +kernel) rfl) rfl rfl rfl
def f_X4_init (N : Nat) (v0 : Nat) (v1 : Int32) (v2 : Int32) (v3 : Nat) (h : zH) : Option (zH) := (pF h v0 4 0 (.int v1)).bind fun h1 => (pF h1 v0 4 1 (.int v2)).bind fun h2 => (pF h2 v0 4 2 (.ref v3)).bind fun h3 => some h3
set_option maxRecDepth 100000 in
set_option maxHeartbeats 4000000 in
theorem k_X4_init {N : Nat} {v0 : Nat} {v1 : Int32} {v2 : Int32} {v3 : Nat} {h : zH} {r : zH} (H : f_X4_init N v0 v1 v2 v3 h = some r) : zOk 1 0 0 yX4_init cX4_init 4 none [.ref v0, .int v1, .int v2, .ref v3] h none r := by
  refine zOk.of (by decide) (Nat.le_of_ble_eq_true rfl) ?_
  unfold f_X4_init at H
  refine z_aload_n (pc := 0) 0 dX4_init_0 rfl rfl ?_
  refine z_objInit (pc := 1) dX4_init_1 ml_X4_1 im_object cd_object (by omega) (Nat.le_of_ble_eq_true rfl) ?_
  refine z_aload_n (pc := 4) 0 dX4_init_4 rfl rfl ?_
  refine z_iload_n (pc := 5) 1 dX4_init_5 rfl rfl ?_
  obtain ⟨h1, eh1, H⟩ := zbind H
  refine z_putF (pc := 6) dX4_init_6 fd_X4_7 rfl rfl rfl eh1 ?_
  refine z_aload_n (pc := 9) 0 dX4_init_9 rfl rfl ?_
  refine z_iload_n (pc := 10) 2 dX4_init_10 rfl rfl ?_
  obtain ⟨h2, eh2, H⟩ := zbind H
  refine z_putF (pc := 11) dX4_init_11 fd_X4_13 rfl rfl rfl eh2 ?_
  refine z_aload_n (pc := 14) 0 dX4_init_14 rfl rfl ?_
  refine z_aload_n (pc := 15) 3 dX4_init_15 rfl rfl ?_
  obtain ⟨h3, eh3, H⟩ := zbind H
  refine z_putF (pc := 16) dX4_init_16 fd_X4_16 rfl rfl rfl eh3 ?_
  cases H
  exact z_return rfl dX4_init_19

theorem zc_sipush_248 : (Int16.ofInt (248)).toInt32 = (248 : Int32) := by decide
theorem ml_X5_3 : Cond.methodLink RX5 3 objectInit ∈ zB := zmem 450 (by decide +kernel) rfl
theorem fd_X5_11 : zFd RX5 11 5 0 (.array .int) true "WhoseStreet$Ledger" := zFd.of cl_5 (by decide) (zmem 454 (by decide +kernel) rfl) rfl rfl rfl
theorem fd_X5_15 : zFd RX5 15 5 1 (.array .int) true "WhoseStreet$Ledger" := zFd.of cl_5 (by decide) (zmem 455 (by decide +kernel) rfl) rfl rfl rfl
theorem ml_X5_18 : Cond.methodLink RX5 18 yJ7_fill_53178 ∈ zB := zmem 451 (by decide +kernel) rfl
def f_X5_init (N : Nat) (v0 : Nat) (h : zH) : Option (zH) := zlet (znew h (zblank 0 248) : zH) fun h1 => (pF h1 v0 5 0 (.ref h.1.1)).bind fun h2 => zlet (znew h2 (zblank 0 248) : zH) fun h3 => (pF h3 v0 5 1 (.ref h2.1.1)).bind fun h4 => (gR h4 v0 5 0).bind fun r5 => (f_J7_fill_53178 N r5 (-1) h4).bind fun h6 => some h6
set_option maxRecDepth 100000 in
set_option maxHeartbeats 4000000 in
theorem k_X5_init {N : Nat} {v0 : Nat} {h : zH} {r : zH} (H : f_X5_init N v0 h = some r) : zOk 1 2 496 yX5_init cX5_init 1 none [.ref v0] h none r := by
  refine zOk.of (by decide) (Nat.le_of_ble_eq_true rfl) ?_
  unfold f_X5_init at H
  refine z_aload_n (pc := 0) 0 dX5_init_0 rfl rfl ?_
  refine z_objInit (pc := 1) dX5_init_1 ml_X5_3 im_object cd_object (by omega) (Nat.le_of_ble_eq_true rfl) ?_
  refine z_aload_n (pc := 4) 0 dX5_init_4 rfl rfl ?_
  refine z_sipush (pc := 5) (x := 248) dX5_init_5 zc_sipush_248 ?_
  refine z_newarray (pc := 8) (mc := 1) (ms := 248) (N := 248) 0 (by decide) dX5_init_8 rfl ac_int (by decide) (by decide) (by decide) ?_
  obtain ⟨h1, eh1, H⟩ := zletE H
  refine z_nmH eh1 ?_
  obtain ⟨h2, eh2, H⟩ := zbind H
  refine z_putF (pc := 10) dX5_init_10 fd_X5_11 rfl rfl rfl eh2 ?_
  refine z_aload_n (pc := 13) 0 dX5_init_13 rfl rfl ?_
  refine z_sipush (pc := 14) (x := 248) dX5_init_14 zc_sipush_248 ?_
  refine z_newarray (pc := 17) (mc := 0) (ms := 0) (N := 248) 0 (by decide) dX5_init_17 rfl ac_int (by decide) (by decide) (by decide) ?_
  obtain ⟨h3, eh3, H⟩ := zletE H
  refine z_nmH eh3 ?_
  obtain ⟨h4, eh4, H⟩ := zbind H
  refine z_putF (pc := 19) dX5_init_19 fd_X5_15 rfl rfl rfl eh4 ?_
  refine z_aload_n (pc := 22) 0 dX5_init_22 rfl rfl ?_
  obtain ⟨r5, er5, H⟩ := zbind H
  refine z_getR (pc := 23) dX5_init_23 fd_X5_11 er5 ?_
  refine z_iconst (pc := 26) (x := (-1)) dX5_init_26 zc_iconst_m1 ?_
  obtain ⟨h6, eh6, H⟩ := zbind H
  refine z_callS (pc := 27) (mc := 0) (ms := 0) (d' := 0) (mc' := 0) (ms' := 0) (rest := []) [.ref r5, .int (-1)] dX5_init_27 md_J7_fill_53178 ml_X5_18 sm_J7_fill_53178 rfl rfl (Nat.le_of_ble_eq_true rfl) (by omega) (k_J7_fill_53178 eh6) ?_
  cases H
  exact z_return rfl dX5_init_30

theorem zc_bipush_31 : (Int8.ofInt (31)).toInt32 = (31 : Int32) := by decide
def f_X5_write (N : Nat) (v0 : Nat) (v1 : Int32) (v2 : Int32) (v3 : Int32) (v4 : Int32) (h : zH) : Option (zH) := zlet ((v1 * 31) + v2 : Int32) fun x1 => if x1 < 0 then (some h) else ((gR h v0 5 0).bind fun r3 => (aN h r3).bind fun x4 => if x4 ≤ x1 then (some h) else ((gR h v0 5 1).bind fun r6 => (aN h r6).bind fun x7 => if x7 ≤ x1 then (some h) else ((gR h v0 5 0).bind fun r9 => (sI h r9 x1 v3).bind fun h10 => (gR h10 v0 5 1).bind fun r11 => (sI h10 r11 x1 v4).bind fun h12 => some h12)))
set_option maxRecDepth 100000 in
set_option maxHeartbeats 4000000 in
theorem k_X5_write {N : Nat} {v0 : Nat} {v1 : Int32} {v2 : Int32} {v3 : Int32} {v4 : Int32} {h : zH} {r : zH} (H : f_X5_write N v0 v1 v2 v3 v4 h = some r) : zOk 0 0 0 yX5_write cX5_write 6 none [.ref v0, .int v1, .int v2, .int v3, .int v4] h none r := by
  refine zOk.of (by decide) (Nat.le_of_ble_eq_true rfl) ?_
  unfold f_X5_write at H
  refine z_iload_n (pc := 0) 1 dX5_write_0 rfl rfl ?_
  refine z_bipush (pc := 1) (x := 31) dX5_write_1 zc_bipush_31 ?_
  refine z_imul (pc := 3) dX5_write_3 ?_
  refine z_iload_n (pc := 4) 2 dX5_write_4 rfl rfl ?_
  refine z_iadd (pc := 5) dX5_write_5 ?_
  obtain ⟨x1, ex1, H⟩ := zletE H
  refine z_nmI ex1 ?_
  refine z_istore (pc := 6) (lv' := [(5, .int x1), (0, .ref v0), (1, .int v1), (2, .int v2), (3, .int v3), (4, .int v4)]) dX5_write_6 (by decide) rfl ?_
  refine z_iload (pc := 8) 0 dX5_write_8 rfl ?_
  refine z_if_lt (pc := 10) 50 dX5_write_10 (by decide) (fun c2 => ?_) (fun c2 => ?_)
  · rw [if_pos c2] at H
    cases H
    exact z_return rfl dX5_write_50
  · rw [if_neg c2] at H
    refine z_iload (pc := 13) 0 dX5_write_13 rfl ?_
    refine z_aload_n (pc := 15) 1 dX5_write_15 rfl rfl ?_
    obtain ⟨r3, er3, H⟩ := zbind H
    refine z_getR (pc := 16) dX5_write_16 fd_X5_11 er3 ?_
    obtain ⟨x4, ex4, H⟩ := zbind H
    refine z_alen (pc := 19) dX5_write_19 ex4 ?_
    refine z_icmp_ge (pc := 20) 50 dX5_write_20 (by decide) (fun c5 => ?_) (fun c5 => ?_)
    · rw [if_pos c5] at H
      cases H
      exact z_return rfl dX5_write_50
    · rw [if_neg c5] at H
      refine z_iload (pc := 23) 0 dX5_write_23 rfl ?_
      refine z_aload_n (pc := 25) 1 dX5_write_25 rfl rfl ?_
      obtain ⟨r6, er6, H⟩ := zbind H
      refine z_getR (pc := 26) dX5_write_26 fd_X5_15 er6 ?_
      obtain ⟨x7, ex7, H⟩ := zbind H
      refine z_alen (pc := 29) dX5_write_29 ex7 ?_
      refine z_icmp_ge (pc := 30) 50 dX5_write_30 (by decide) (fun c8 => ?_) (fun c8 => ?_)
      · rw [if_pos c8] at H
        cases H
        exact z_return rfl dX5_write_50
      · rw [if_neg c8] at H
        refine z_aload_n (pc := 33) 1 dX5_write_33 rfl rfl ?_
        obtain ⟨r9, er9, H⟩ := zbind H
        refine z_getR (pc := 34) dX5_write_34 fd_X5_11 er9 ?_
        refine z_iload (pc := 37) 0 dX5_write_37 rfl ?_
        refine z_iload_n (pc := 39) 4 dX5_write_39 rfl rfl ?_
        obtain ⟨h10, eh10, H⟩ := zbind H
        refine z_iastore (pc := 40) dX5_write_40 eh10 ?_
        refine z_aload_n (pc := 41) 1 dX5_write_41 rfl rfl ?_
        obtain ⟨r11, er11, H⟩ := zbind H
        refine z_getR (pc := 42) dX5_write_42 fd_X5_15 er11 ?_
        refine z_iload (pc := 45) 0 dX5_write_45 rfl ?_
        refine z_iload (pc := 47) 5 dX5_write_47 rfl ?_
        obtain ⟨h12, eh12, H⟩ := zbind H
        refine z_iastore (pc := 49) dX5_write_49 eh12 ?_
        cases H
        exact z_return rfl dX5_write_50

theorem ns_X5_24 : (RX5, 24, yX11_within, "WhoseStreet") ∈ zNs := by decide +kernel
def f_X5_compare (N : Nat) (v0 : Nat) (v1 : Int32) (v2 : Int32) (v3 : Int32) (h : zH) : Option (Int32) := zlet ((v1 * 31) + v2 : Int32) fun x1 => zlet ((v1 * 31) + v3 : Int32) fun x2 => (gR h v0 5 0).bind fun r3 => (aN h r3).bind fun x4 => if (p_X11_within x1 0 (x4 - 1)) = 0 then (some (-1)) else ((gR h v0 5 0).bind fun r6 => (aN h r6).bind fun x7 => if (p_X11_within x2 0 (x7 - 1)) = 0 then (some (-1)) else ((gR h v0 5 0).bind fun r9 => (aI h r9 x1).bind fun x10 => if x10 = (-1) then (some (-1)) else ((gR h v0 5 0).bind fun r12 => (aI h r12 x2).bind fun x13 => if x13 = (-1) then (some (-1)) else ((gR h v0 5 0).bind fun r15 => (aI h r15 x2).bind fun x16 => (gR h v0 5 0).bind fun r17 => (aI h r17 x1).bind fun x18 => if x16 < x18 then ((gR h v0 5 0).bind fun r20 => (aI h r20 x2).bind fun x21 => (gR h v0 5 1).bind fun r22 => (aI h r22 x1).bind fun x23 => (gR h v0 5 0).bind fun r24 => (aI h r24 x1).bind fun x25 => (gR h v0 5 1).bind fun r26 => (aI h r26 x2).bind fun x27 => if (lg_cmp ((x21.toInt64) * (x23.toInt64)) ((x25.toInt64) * (x27.toInt64))) < 0 then (some 2) else (some 1)) else (some 0)))))
set_option maxRecDepth 100000 in
set_option maxHeartbeats 4000000 in
theorem k_X5_compare {N : Nat} {v0 : Nat} {v1 : Int32} {v2 : Int32} {v3 : Int32} {h : zH} {r : Int32} (H : f_X5_compare N v0 v1 v2 v3 h = some r) : zOk 1 0 0 yX5_compare cX5_compare 6 (some .int) [.ref v0, .int v1, .int v2, .int v3] h (some (.int r)) h := by
  refine zOk.of (by decide) (Nat.le_of_ble_eq_true rfl) ?_
  unfold f_X5_compare at H
  refine z_iload_n (pc := 0) 1 dX5_compare_0 rfl rfl ?_
  refine z_bipush (pc := 1) (x := 31) dX5_compare_1 zc_bipush_31 ?_
  refine z_imul (pc := 3) dX5_compare_3 ?_
  refine z_iload_n (pc := 4) 2 dX5_compare_4 rfl rfl ?_
  refine z_iadd (pc := 5) dX5_compare_5 ?_
  obtain ⟨x1, ex1, H⟩ := zletE H
  refine z_nmI ex1 ?_
  refine z_istore (pc := 6) (lv' := [(4, .int x1), (0, .ref v0), (1, .int v1), (2, .int v2), (3, .int v3)]) dX5_compare_6 (by decide) rfl ?_
  refine z_iload_n (pc := 8) 2 dX5_compare_8 rfl rfl ?_
  refine z_bipush (pc := 9) (x := 31) dX5_compare_9 zc_bipush_31 ?_
  refine z_imul (pc := 11) dX5_compare_11 ?_
  refine z_iload_n (pc := 12) 4 dX5_compare_12 rfl rfl ?_
  refine z_iadd (pc := 13) dX5_compare_13 ?_
  obtain ⟨x2, ex2, H⟩ := zletE H
  refine z_nmI ex2 ?_
  refine z_istore (pc := 14) (lv' := [(5, .int x2), (4, .int x1), (0, .ref v0), (1, .int v1), (2, .int v2), (3, .int v3)]) dX5_compare_14 (by decide) rfl ?_
  refine z_iload (pc := 16) 1 dX5_compare_16 rfl ?_
  refine z_iconst (pc := 18) (x := 0) dX5_compare_18 zc_iconst_0 ?_
  refine z_aload_n (pc := 19) 2 dX5_compare_19 rfl rfl ?_
  obtain ⟨r3, er3, H⟩ := zbind H
  refine z_getR (pc := 20) dX5_compare_20 fd_X5_11 er3 ?_
  obtain ⟨x4, ex4, H⟩ := zbind H
  refine z_alen (pc := 23) dX5_compare_23 ex4 ?_
  refine z_iconst (pc := 24) (x := 1) dX5_compare_24 zc_iconst_1 ?_
  refine z_isub (pc := 25) dX5_compare_25 ?_
  refine z_callSN (pc := 26) (mc := 0) (ms := 0) (d' := 0) (mc' := 0) (ms' := 0) (rest := []) [.int x1, .int 0, .int (x4 - 1)] dX5_compare_26 md_X11_within ns_X5_24 sm_X11_within rfl rfl (Nat.le_of_ble_eq_true rfl) (by omega) (k_X11_within x1 0 (x4 - 1) h _ rfl) ?_
  refine z_if_eq (pc := 29) 48 dX5_compare_29 (by decide) (fun c5 => ?_) (fun c5 => ?_)
  · rw [if_pos c5] at H
    refine z_iconst (pc := 48) (x := (-1)) dX5_compare_48 zc_iconst_m1 ?_
    cases H
    exact z_ireturn rfl dX5_compare_49
  · rw [if_neg c5] at H
    refine z_iload (pc := 32) 0 dX5_compare_32 rfl ?_
    refine z_iconst (pc := 34) (x := 0) dX5_compare_34 zc_iconst_0 ?_
    refine z_aload_n (pc := 35) 2 dX5_compare_35 rfl rfl ?_
    obtain ⟨r6, er6, H⟩ := zbind H
    refine z_getR (pc := 36) dX5_compare_36 fd_X5_11 er6 ?_
    obtain ⟨x7, ex7, H⟩ := zbind H
    refine z_alen (pc := 39) dX5_compare_39 ex7 ?_
    refine z_iconst (pc := 40) (x := 1) dX5_compare_40 zc_iconst_1 ?_
    refine z_isub (pc := 41) dX5_compare_41 ?_
    refine z_callSN (pc := 42) (mc := 0) (ms := 0) (d' := 0) (mc' := 0) (ms' := 0) (rest := []) [.int x2, .int 0, .int (x7 - 1)] dX5_compare_42 md_X11_within ns_X5_24 sm_X11_within rfl rfl (Nat.le_of_ble_eq_true rfl) (by omega) (k_X11_within x2 0 (x7 - 1) h _ rfl) ?_
    refine z_if_ne (pc := 45) 50 dX5_compare_45 (by decide) (fun c8 => ?_) (fun c8 => ?_)
    · rw [if_neg c8] at H
      refine z_aload_n (pc := 50) 2 dX5_compare_50 rfl rfl ?_
      obtain ⟨r9, er9, H⟩ := zbind H
      refine z_getR (pc := 51) dX5_compare_51 fd_X5_11 er9 ?_
      refine z_iload (pc := 54) 1 dX5_compare_54 rfl ?_
      obtain ⟨x10, ex10, H⟩ := zbind H
      refine z_iaload (pc := 56) dX5_compare_56 ex10 ?_
      refine z_iconst (pc := 57) (x := (-1)) dX5_compare_57 zc_iconst_m1 ?_
      refine z_icmp_eq (pc := 58) 72 dX5_compare_58 (by decide) (fun c11 => ?_) (fun c11 => ?_)
      · rw [if_pos c11] at H
        refine z_iconst (pc := 72) (x := (-1)) dX5_compare_72 zc_iconst_m1 ?_
        cases H
        exact z_ireturn rfl dX5_compare_73
      · rw [if_neg c11] at H
        refine z_aload_n (pc := 61) 2 dX5_compare_61 rfl rfl ?_
        obtain ⟨r12, er12, H⟩ := zbind H
        refine z_getR (pc := 62) dX5_compare_62 fd_X5_11 er12 ?_
        refine z_iload (pc := 65) 0 dX5_compare_65 rfl ?_
        obtain ⟨x13, ex13, H⟩ := zbind H
        refine z_iaload (pc := 67) dX5_compare_67 ex13 ?_
        refine z_iconst (pc := 68) (x := (-1)) dX5_compare_68 zc_iconst_m1 ?_
        refine z_icmp_ne (pc := 69) 74 dX5_compare_69 (by decide) (fun c14 => ?_) (fun c14 => ?_)
        · rw [if_neg c14] at H
          refine z_aload_n (pc := 74) 2 dX5_compare_74 rfl rfl ?_
          obtain ⟨r15, er15, H⟩ := zbind H
          refine z_getR (pc := 75) dX5_compare_75 fd_X5_11 er15 ?_
          refine z_iload (pc := 78) 0 dX5_compare_78 rfl ?_
          obtain ⟨x16, ex16, H⟩ := zbind H
          refine z_iaload (pc := 80) dX5_compare_80 ex16 ?_
          refine z_aload_n (pc := 81) 2 dX5_compare_81 rfl rfl ?_
          obtain ⟨r17, er17, H⟩ := zbind H
          refine z_getR (pc := 82) dX5_compare_82 fd_X5_11 er17 ?_
          refine z_iload (pc := 85) 1 dX5_compare_85 rfl ?_
          obtain ⟨x18, ex18, H⟩ := zbind H
          refine z_iaload (pc := 87) dX5_compare_87 ex18 ?_
          refine z_icmp_lt (pc := 88) 93 dX5_compare_88 (by decide) (fun c19 => ?_) (fun c19 => ?_)
          · rw [if_pos c19] at H
            refine z_aload_n (pc := 93) 2 dX5_compare_93 rfl rfl ?_
            obtain ⟨r20, er20, H⟩ := zbind H
            refine z_getR (pc := 94) dX5_compare_94 fd_X5_11 er20 ?_
            refine z_iload (pc := 97) 0 dX5_compare_97 rfl ?_
            obtain ⟨x21, ex21, H⟩ := zbind H
            refine z_iaload (pc := 99) dX5_compare_99 ex21 ?_
            refine z_i2l (pc := 100) dX5_compare_100 ?_
            refine z_aload_n (pc := 101) 2 dX5_compare_101 rfl rfl ?_
            obtain ⟨r22, er22, H⟩ := zbind H
            refine z_getR (pc := 102) dX5_compare_102 fd_X5_15 er22 ?_
            refine z_iload (pc := 105) 1 dX5_compare_105 rfl ?_
            obtain ⟨x23, ex23, H⟩ := zbind H
            refine z_iaload (pc := 107) dX5_compare_107 ex23 ?_
            refine z_i2l (pc := 108) dX5_compare_108 ?_
            refine z_lmul (pc := 109) dX5_compare_109 ?_
            refine z_aload_n (pc := 110) 2 dX5_compare_110 rfl rfl ?_
            obtain ⟨r24, er24, H⟩ := zbind H
            refine z_getR (pc := 111) dX5_compare_111 fd_X5_11 er24 ?_
            refine z_iload (pc := 114) 1 dX5_compare_114 rfl ?_
            obtain ⟨x25, ex25, H⟩ := zbind H
            refine z_iaload (pc := 116) dX5_compare_116 ex25 ?_
            refine z_i2l (pc := 117) dX5_compare_117 ?_
            refine z_aload_n (pc := 118) 2 dX5_compare_118 rfl rfl ?_
            obtain ⟨r26, er26, H⟩ := zbind H
            refine z_getR (pc := 119) dX5_compare_119 fd_X5_15 er26 ?_
            refine z_iload (pc := 122) 0 dX5_compare_122 rfl ?_
            obtain ⟨x27, ex27, H⟩ := zbind H
            refine z_iaload (pc := 124) dX5_compare_124 ex27 ?_
            refine z_i2l (pc := 125) dX5_compare_125 ?_
            refine z_lmul (pc := 126) dX5_compare_126 ?_
            refine z_lcmp (pc := 127) dX5_compare_127 ?_
            refine z_if_lt (pc := 128) 135 dX5_compare_128 (by decide) (fun c28 => ?_) (fun c28 => ?_)
            · rw [if_pos c28] at H
              refine z_iconst (pc := 135) (x := 2) dX5_compare_135 zc_iconst_2 ?_
              cases H
              exact z_ireturn rfl dX5_compare_136
            · rw [if_neg c28] at H
              refine z_iconst (pc := 131) (x := 1) dX5_compare_131 zc_iconst_1 ?_
              refine z_goto (pc := 132) 136 dX5_compare_132 (by decide) ?_
              cases H
              exact z_ireturn rfl dX5_compare_136
          · rw [if_neg c19] at H
            refine z_iconst (pc := 91) (x := 0) dX5_compare_91 zc_iconst_0 ?_
            cases H
            exact z_ireturn rfl dX5_compare_92
        · rw [if_pos c14] at H
          refine z_iconst (pc := 72) (x := (-1)) dX5_compare_72 zc_iconst_m1 ?_
          cases H
          exact z_ireturn rfl dX5_compare_73
    · rw [if_pos c8] at H
      refine z_iconst (pc := 48) (x := (-1)) dX5_compare_48 zc_iconst_m1 ?_
      cases H
      exact z_ireturn rfl dX5_compare_49

theorem zc_bipush_50 : (Int8.ofInt (50)).toInt32 = (50 : Int32) := by decide
theorem ml_X6_3 : Cond.methodLink RX6 3 objectInit ∈ zB := zmem 562 (by decide +kernel) rfl
theorem fd_X6_15 : zFd RX6 15 6 0 (.int) true "WhoseStreet$Meeting" := zFd.of cl_6 (by decide) (zmem 563 (by decide +kernel) rfl) rfl rfl rfl
theorem fd_X6_21 : zFd RX6 21 6 2 (.int) true "WhoseStreet$Meeting" := zFd.of cl_6 (by decide) (zmem 568 (by decide +kernel) rfl) rfl rfl rfl
theorem fd_X6_24 : zFd RX6 24 6 3 (.int) true "WhoseStreet$Meeting" := zFd.of cl_6 (by decide) (zmem 570 (by decide +kernel) rfl) rfl rfl rfl
def f_X6_init (N : Nat) (v0 : Nat) (v1 : Int32) (v2 : Int32) (v3 : Int32) (v4 : Int32) (v5 : Int32) (v6 : Int32) (h : zH) : Option (zH) := (pF h v0 6 10 (.int 50)).bind fun h1 => (pF h1 v0 6 0 (.int v1)).bind fun h2 => (pF h2 v0 6 1 (.int v2)).bind fun h3 => (pF h3 v0 6 2 (.int v3)).bind fun h4 => (pF h4 v0 6 3 (.int v4)).bind fun h5 => (pF h5 v0 6 4 (.int v5)).bind fun h6 => (if (v6 &&& 1) = 0 then (some 0) else (some 1) : Option (Int32)).bind fun m7 => (pZ h6 v0 6 5 m7).bind fun h9 => (pF h9 v0 6 6 (.int (v6 >>> (1 &&& 31)))).bind fun h10 => some h10
set_option maxRecDepth 100000 in
set_option maxHeartbeats 4000000 in
theorem k_X6_init {N : Nat} {v0 : Nat} {v1 : Int32} {v2 : Int32} {v3 : Int32} {v4 : Int32} {v5 : Int32} {v6 : Int32} {h : zH} {r : zH} (H : f_X6_init N v0 v1 v2 v3 v4 v5 v6 h = some r) : zOk 1 0 0 yX6_init cX6_init 7 none [.ref v0, .int v1, .int v2, .int v3, .int v4, .int v5, .int v6] h none r := by
  refine zOk.of (by decide) (Nat.le_of_ble_eq_true rfl) ?_
  unfold f_X6_init at H
  refine z_aload_n (pc := 0) 0 dX6_init_0 rfl rfl ?_
  refine z_objInit (pc := 1) dX6_init_1 ml_X6_3 im_object cd_object (by omega) (Nat.le_of_ble_eq_true rfl) ?_
  refine z_aload_n (pc := 4) 0 dX6_init_4 rfl rfl ?_
  refine z_bipush (pc := 5) (x := 50) dX6_init_5 zc_bipush_50 ?_
  obtain ⟨h1, eh1, H⟩ := zbind H
  refine z_put (pc := 7) dX6_init_7 fd_X6_9 rfl rfl eh1 ?_
  refine z_aload_n (pc := 10) 0 dX6_init_10 rfl rfl ?_
  refine z_iload_n (pc := 11) 1 dX6_init_11 rfl rfl ?_
  obtain ⟨h2, eh2, H⟩ := zbind H
  refine z_putF (pc := 12) dX6_init_12 fd_X6_15 rfl rfl rfl eh2 ?_
  refine z_aload_n (pc := 15) 0 dX6_init_15 rfl rfl ?_
  refine z_iload_n (pc := 16) 2 dX6_init_16 rfl rfl ?_
  obtain ⟨h3, eh3, H⟩ := zbind H
  refine z_putF (pc := 17) dX6_init_17 fd_X6_18 rfl rfl rfl eh3 ?_
  refine z_aload_n (pc := 20) 0 dX6_init_20 rfl rfl ?_
  refine z_iload_n (pc := 21) 3 dX6_init_21 rfl rfl ?_
  obtain ⟨h4, eh4, H⟩ := zbind H
  refine z_putF (pc := 22) dX6_init_22 fd_X6_21 rfl rfl rfl eh4 ?_
  refine z_aload_n (pc := 25) 0 dX6_init_25 rfl rfl ?_
  refine z_iload (pc := 26) 4 dX6_init_26 rfl ?_
  obtain ⟨h5, eh5, H⟩ := zbind H
  refine z_putF (pc := 28) dX6_init_28 fd_X6_24 rfl rfl rfl eh5 ?_
  refine z_aload_n (pc := 31) 0 dX6_init_31 rfl rfl ?_
  refine z_iload (pc := 32) 5 dX6_init_32 rfl ?_
  obtain ⟨h6, eh6, H⟩ := zbind H
  refine z_putF (pc := 34) dX6_init_34 fd_X6_27 rfl rfl rfl eh6 ?_
  refine z_aload_n (pc := 37) 0 dX6_init_37 rfl rfl ?_
  refine z_iload (pc := 38) 6 dX6_init_38 rfl ?_
  refine z_iconst (pc := 40) (x := 1) dX6_init_40 zc_iconst_1 ?_
  refine z_iand (pc := 41) dX6_init_41 ?_
  obtain ⟨m7, em7, H⟩ := zbind H
  have Jm7 : zW yX6_init cX6_init 7 none 1 0 0 50 [(0, .ref v0), (6, .int v6)] [.int m7, .ref v0] h6 none r := by
    obtain ⟨h9, eh9, H⟩ := zbind H
    refine z_putF (pc := 50) dX6_init_50 fd_X6_30 rfl (pZ_n eh9) (pZ_f eh9) (pZ_p eh9) ?_
    refine z_aload_n (pc := 53) 0 dX6_init_53 rfl rfl ?_
    refine z_iload (pc := 54) 1 dX6_init_54 rfl ?_
    refine z_iconst (pc := 56) (x := 1) dX6_init_56 zc_iconst_1 ?_
    refine z_ishr (pc := 57) dX6_init_57 ?_
    obtain ⟨h10, eh10, H⟩ := zbind H
    refine z_putF (pc := 58) dX6_init_58 fd_X6_34 rfl rfl rfl eh10 ?_
    cases H
    exact z_return rfl dX6_init_61
  refine z_if_eq (pc := 42) 49 dX6_init_42 (by decide) (fun c8 => ?_) (fun c8 => ?_)
  · rw [if_pos c8] at em7
    refine z_iconst (pc := 49) (x := 0) dX6_init_49 zc_iconst_0 ?_
    cases em7
    exact z_sub [0, 6] rfl Jm7
  · rw [if_neg c8] at em7
    refine z_iconst (pc := 45) (x := 1) dX6_init_45 zc_iconst_1 ?_
    refine z_goto (pc := 46) 50 dX6_init_46 (by decide) ?_
    cases em7
    exact z_sub [0, 6] rfl Jm7

theorem zc_sipush_1000 : (Int16.ofInt (1000)).toInt32 = (1000 : Int32) := by decide
theorem ml_X7_3 : Cond.methodLink RX7 3 objectInit ∈ zB := zmem 274 (by decide +kernel) rfl
theorem ac_long : Cond.arrayClass (zaty 1) ∈ zB := zmem 268 (by decide +kernel) rfl
theorem fd_X7_11 : zFd RX7 11 7 0 (.array .long) true "WhoseStreet$Reader" := zFd.of cl_7 (by decide) (zmem 275 (by decide +kernel) rfl) rfl rfl rfl
theorem fd_X7_17 : zFd RX7 17 7 1 (.array .int) true "WhoseStreet$Reader" := zFd.of cl_7 (by decide) (zmem 276 (by decide +kernel) rfl) rfl rfl rfl
theorem fd_X7_21 : zFd RX7 21 7 2 (.array .int) true "WhoseStreet$Reader" := zFd.of cl_7 (by decide) (zmem 277 (by decide +kernel) rfl) rfl rfl rfl
def f_X7_init (N : Nat) (v0 : Nat) (h : zH) : Option (zH) := zlet (znew h (zblank 1 8) : zH) fun h1 => (pF h1 v0 7 0 (.ref h.1.1)).bind fun h2 => zlet (znew h2 (zblank 0 1000) : zH) fun h3 => (pF h3 v0 7 1 (.ref h2.1.1)).bind fun h4 => zlet (znew h4 (zblank 0 32) : zH) fun h5 => (pF h5 v0 7 2 (.ref h4.1.1)).bind fun h6 => some h6
set_option maxRecDepth 100000 in
set_option maxHeartbeats 4000000 in
theorem k_X7_init {N : Nat} {v0 : Nat} {h : zH} {r : zH} (H : f_X7_init N v0 h = some r) : zOk 1 3 1040 yX7_init cX7_init 1 none [.ref v0] h none r := by
  refine zOk.of (by decide) (Nat.le_of_ble_eq_true rfl) ?_
  unfold f_X7_init at H
  refine z_aload_n (pc := 0) 0 dX7_init_0 rfl rfl ?_
  refine z_objInit (pc := 1) dX7_init_1 ml_X7_3 im_object cd_object (by omega) (Nat.le_of_ble_eq_true rfl) ?_
  refine z_aload_n (pc := 4) 0 dX7_init_4 rfl rfl ?_
  refine z_bipush (pc := 5) (x := 8) dX7_init_5 zc_bipush_8 ?_
  refine z_newarray (pc := 7) (mc := 2) (ms := 1032) (N := 8) 1 (by decide) dX7_init_7 rfl ac_long (by decide) (by decide) (by decide) ?_
  obtain ⟨h1, eh1, H⟩ := zletE H
  refine z_nmH eh1 ?_
  obtain ⟨h2, eh2, H⟩ := zbind H
  refine z_putF (pc := 9) dX7_init_9 fd_X7_11 rfl rfl rfl eh2 ?_
  refine z_aload_n (pc := 12) 0 dX7_init_12 rfl rfl ?_
  refine z_sipush (pc := 13) (x := 1000) dX7_init_13 zc_sipush_1000 ?_
  refine z_newarray (pc := 16) (mc := 1) (ms := 32) (N := 1000) 0 (by decide) dX7_init_16 rfl ac_int (by decide) (by decide) (by decide) ?_
  obtain ⟨h3, eh3, H⟩ := zletE H
  refine z_nmH eh3 ?_
  obtain ⟨h4, eh4, H⟩ := zbind H
  refine z_putF (pc := 18) dX7_init_18 fd_X7_17 rfl rfl rfl eh4 ?_
  refine z_aload_n (pc := 21) 0 dX7_init_21 rfl rfl ?_
  refine z_bipush (pc := 22) (x := 32) dX7_init_22 zc_bipush_32 ?_
  refine z_newarray (pc := 24) (mc := 0) (ms := 0) (N := 32) 0 (by decide) dX7_init_24 rfl ac_int (by decide) (by decide) (by decide) ?_
  obtain ⟨h5, eh5, H⟩ := zletE H
  refine z_nmH eh5 ?_
  obtain ⟨h6, eh6, H⟩ := zbind H
  refine z_putF (pc := 26) dX7_init_26 fd_X7_21 rfl rfl rfl eh6 ?_
  cases H
  exact z_return rfl dX7_init_29

theorem zc_bipush_97 : (Int8.ofInt (97)).toInt32 = (97 : Int32) := by decide
theorem zc_bipush_122 : (Int8.ofInt (122)).toInt32 = (122 : Int32) := by decide
theorem fd_X9_39 : zFd RX9 39 9 2 (.int) false "WhoseStreet$Tape" := zFd.of cl_9 (by decide) (zmem 239 (by decide +kernel) rfl) rfl rfl rfl
theorem fd_X9_9 : zFd RX9 9 9 0 (.array .byte) true "WhoseStreet$Tape" := zFd.of cl_9 (by decide) (zmem 237 (by decide +kernel) rfl) rfl rfl rfl
def f_X9_isLetter (N : Nat) (v0 : Nat) (v1 : Int32) (h : zH) : Option (Int32) := if v1 < 0 then (some 0) else ((gI h v0 9 2).bind fun x2 => if x2 ≤ v1 then (some 0) else (if 1000 ≤ v1 then (some 0) else ((gR h v0 9 0).bind fun r5 => (aB h r5 v1).bind fun x6 => if x6 < 97 then (some 0) else ((gR h v0 9 0).bind fun r8 => (aB h r8 v1).bind fun x9 => if 122 < x9 then (some 0) else (some 1)))))
set_option maxRecDepth 100000 in
set_option maxHeartbeats 4000000 in
theorem k_X9_isLetter {N : Nat} {v0 : Nat} {v1 : Int32} {h : zH} {r : Int32} (H : f_X9_isLetter N v0 v1 h = some r) : zOk 0 0 0 yX9_isLetter cX9_isLetter 2 (some .boolean) [.ref v0, .int v1] h (some (.int r)) h := by
  refine zOk.of (by decide) (Nat.le_of_ble_eq_true rfl) ?_
  unfold f_X9_isLetter at H
  refine z_iload_n (pc := 0) 1 dX9_isLetter_0 rfl rfl ?_
  refine z_if_lt (pc := 1) 45 dX9_isLetter_1 (by decide) (fun c1 => ?_) (fun c1 => ?_)
  · rw [if_pos c1] at H
    refine z_iconst (pc := 45) (x := 0) dX9_isLetter_45 zc_iconst_0 ?_
    cases H
    exact z_zreturn rfl dX9_isLetter_46 (by decide)
  · rw [if_neg c1] at H
    refine z_iload_n (pc := 4) 1 dX9_isLetter_4 rfl rfl ?_
    refine z_aload_n (pc := 5) 0 dX9_isLetter_5 rfl rfl ?_
    obtain ⟨x2, ex2, H⟩ := zbind H
    refine z_getI (pc := 6) dX9_isLetter_6 fd_X9_39 ex2 ?_
    refine z_icmp_ge (pc := 9) 45 dX9_isLetter_9 (by decide) (fun c3 => ?_) (fun c3 => ?_)
    · rw [if_pos c3] at H
      refine z_iconst (pc := 45) (x := 0) dX9_isLetter_45 zc_iconst_0 ?_
      cases H
      exact z_zreturn rfl dX9_isLetter_46 (by decide)
    · rw [if_neg c3] at H
      refine z_iload_n (pc := 12) 1 dX9_isLetter_12 rfl rfl ?_
      refine z_sipush (pc := 13) (x := 1000) dX9_isLetter_13 zc_sipush_1000 ?_
      refine z_icmp_ge (pc := 16) 45 dX9_isLetter_16 (by decide) (fun c4 => ?_) (fun c4 => ?_)
      · rw [if_pos c4] at H
        refine z_iconst (pc := 45) (x := 0) dX9_isLetter_45 zc_iconst_0 ?_
        cases H
        exact z_zreturn rfl dX9_isLetter_46 (by decide)
      · rw [if_neg c4] at H
        refine z_aload_n (pc := 19) 0 dX9_isLetter_19 rfl rfl ?_
        obtain ⟨r5, er5, H⟩ := zbind H
        refine z_getR (pc := 20) dX9_isLetter_20 fd_X9_9 er5 ?_
        refine z_iload_n (pc := 23) 1 dX9_isLetter_23 rfl rfl ?_
        obtain ⟨x6, ex6, H⟩ := zbind H
        refine z_baload (pc := 24) dX9_isLetter_24 ex6 ?_
        refine z_bipush (pc := 25) (x := 97) dX9_isLetter_25 zc_bipush_97 ?_
        refine z_icmp_lt (pc := 27) 45 dX9_isLetter_27 (by decide) (fun c7 => ?_) (fun c7 => ?_)
        · rw [if_pos c7] at H
          refine z_iconst (pc := 45) (x := 0) dX9_isLetter_45 zc_iconst_0 ?_
          cases H
          exact z_zreturn rfl dX9_isLetter_46 (by decide)
        · rw [if_neg c7] at H
          refine z_aload_n (pc := 30) 0 dX9_isLetter_30 rfl rfl ?_
          obtain ⟨r8, er8, H⟩ := zbind H
          refine z_getR (pc := 31) dX9_isLetter_31 fd_X9_9 er8 ?_
          refine z_iload_n (pc := 34) 1 dX9_isLetter_34 rfl rfl ?_
          obtain ⟨x9, ex9, H⟩ := zbind H
          refine z_baload (pc := 35) dX9_isLetter_35 ex9 ?_
          refine z_bipush (pc := 36) (x := 122) dX9_isLetter_36 zc_bipush_122 ?_
          refine z_icmp_gt (pc := 38) 45 dX9_isLetter_38 (by decide) (fun c10 => ?_) (fun c10 => ?_)
          · rw [if_pos c10] at H
            refine z_iconst (pc := 45) (x := 0) dX9_isLetter_45 zc_iconst_0 ?_
            cases H
            exact z_zreturn rfl dX9_isLetter_46 (by decide)
          · rw [if_neg c10] at H
            refine z_iconst (pc := 41) (x := 1) dX9_isLetter_41 zc_iconst_1 ?_
            refine z_goto (pc := 42) 46 dX9_isLetter_42 (by decide) ?_
            cases H
            exact z_zreturn rfl dX9_isLetter_46 (by decide)

theorem kl_X9_85 : Cond.constantLong RX9 85 32 ∈ zB := zmem 236 (by decide +kernel) rfl
def p_X9_withLetter (v0 : Int64) (v2 : Int32) : Int64 := (v0 * 32) + (((v2 - 97) + 1).toInt64)
set_option maxRecDepth 100000 in
set_option maxHeartbeats 4000000 in
theorem k_X9_withLetter (v0 : Int64) (v2 : Int32) (h : zH) (r : Int64) (H : p_X9_withLetter v0 v2 = r) : zOk 0 0 0 yX9_withLetter cX9_withLetter 3 (some .long) [.long v0, .int v2] h (some (.long r)) h := by
  refine zOk.of (by decide) (Nat.le_of_ble_eq_true rfl) ?_
  unfold p_X9_withLetter at H
  refine z_lload_n (pc := 0) 0 dX9_withLetter_0 rfl rfl ?_
  refine z_ldc2 (pc := 1) (x := 32) dX9_withLetter_1 kl_X9_85 ?_
  refine z_lmul (pc := 4) dX9_withLetter_4 ?_
  refine z_iload_n (pc := 5) 1 dX9_withLetter_5 rfl rfl ?_
  refine z_bipush (pc := 6) (x := 97) dX9_withLetter_6 zc_bipush_97 ?_
  refine z_isub (pc := 8) dX9_withLetter_8 ?_
  refine z_iconst (pc := 9) (x := 1) dX9_withLetter_9 zc_iconst_1 ?_
  refine z_iadd (pc := 10) dX9_withLetter_10 ?_
  refine z_i2l (pc := 11) dX9_withLetter_11 ?_
  refine z_ladd (pc := 12) dX9_withLetter_12 ?_
  subst H
  exact z_lreturn rfl dX9_withLetter_13

theorem zc_sipush_200 : (Int16.ofInt (200)).toInt32 = (200 : Int32) := by decide
theorem fd_X9_13 : zFd RX9 13 9 1 (.array .long) true "WhoseStreet$Tape" := zFd.of cl_9 (by decide) (zmem 238 (by decide +kernel) rfl) rfl rfl rfl
def f_X9_wordOf_L2 (N : Nat) (v0 : Nat) (v1 : Int64) (h : zH) : Nat → Int32 → Option ((Unit) ⊕ (Int32))
  | 0, _ => none
  | n + 1, v3 => (gR h v0 9 1).bind fun r1 => (aN h r1).bind fun x2 => if x2 ≤ v3 then (some (.inl ())) else ((gR h v0 9 1).bind fun r4 => (aL h r4 v3).bind fun x5 => if (lg_cmp x5 v1) = 0 then (some (.inr v3)) else (f_X9_wordOf_L2 N v0 v1 h n (v3 + 1)))
set_option maxRecDepth 100000 in
set_option maxHeartbeats 4000000 in
theorem s_X9_wordOf_L2 {d mc ms N : Nat} {vv : Option Value} {hh : zH} {v0 : Nat} {v1 : Int64} {h : zH} (hd0 : 0 ≤ d) : ∀ (n : Nat) (v3 : Int32) (m : (Unit) ⊕ (Int32)), f_X9_wordOf_L2 N v0 v1 h n v3 = some m → (∀ s, m = .inl s → zW yX9_wordOf cX9_wordOf 4 (some .int) d mc ms 30 [] [] h vv hh) → (∀ r, m = .inr r → vv = (some (.int r)) ∧ hh = h) → zW yX9_wordOf cX9_wordOf 4 (some .int) d mc ms 2 [(0, .ref v0), (1, .long v1), (3, .int v3)] [] h vv hh := by
  intro n
  induction n with
  | zero =>
    intro v3 m H
    cases H
  | succ n ih =>
    intro v3 m H KE KR
    unfold f_X9_wordOf_L2 at H
    refine z_iload_n (pc := 2) 2 dX9_wordOf_2 rfl rfl ?_
    refine z_aload_n (pc := 3) 0 dX9_wordOf_3 rfl rfl ?_
    obtain ⟨r1, er1, H⟩ := zbind H
    refine z_getR (pc := 4) dX9_wordOf_4 fd_X9_13 er1 ?_
    obtain ⟨x2, ex2, H⟩ := zbind H
    refine z_alen (pc := 7) dX9_wordOf_7 ex2 ?_
    refine z_icmp_ge (pc := 8) 30 dX9_wordOf_8 (by decide) (fun c3 => ?_) (fun c3 => ?_)
    · rw [if_pos c3] at H
      cases H
      exact z_sub [] rfl (KE _ rfl)
    · rw [if_neg c3] at H
      refine z_aload_n (pc := 11) 0 dX9_wordOf_11 rfl rfl ?_
      obtain ⟨r4, er4, H⟩ := zbind H
      refine z_getR (pc := 12) dX9_wordOf_12 fd_X9_13 er4 ?_
      refine z_iload_n (pc := 15) 2 dX9_wordOf_15 rfl rfl ?_
      obtain ⟨x5, ex5, H⟩ := zbind H
      refine z_laload (pc := 16) dX9_wordOf_16 ex5 ?_
      refine z_lload_n (pc := 17) 1 dX9_wordOf_17 rfl rfl ?_
      refine z_lcmp (pc := 18) dX9_wordOf_18 ?_
      refine z_if_ne (pc := 19) 24 dX9_wordOf_19 (by decide) (fun c6 => ?_) (fun c6 => ?_)
      · rw [if_neg c6] at H
        refine z_iinc (pc := 24) (x' := v3 + 1) (lv' := [(3, .int (v3 + 1)), (0, .ref v0), (1, .long v1)]) 2 dX9_wordOf_24 rfl (by rfl) (by decide) rfl ?_
        refine z_goto (pc := 27) 2 dX9_wordOf_27 (by decide) ?_
        exact z_sub [1, 2, 0] rfl (ih (v3 + 1) _ H KE KR)
      · rw [if_pos c6] at H
        refine z_iload_n (pc := 22) 2 dX9_wordOf_22 rfl rfl ?_
        cases H
        obtain ⟨e8, e9⟩ := KR _ rfl
        subst e8
        subst e9
        exact z_ireturn rfl dX9_wordOf_23
def f_X9_wordOf (N : Nat) (v0 : Nat) (v1 : Int64) (h : zH) : Option (Int32) := (f_X9_wordOf_L2 N v0 v1 h N 0).bind fun m7 => zsum m7 fun s8 => some 200
set_option maxRecDepth 100000 in
set_option maxHeartbeats 4000000 in
theorem k_X9_wordOf {N : Nat} {v0 : Nat} {v1 : Int64} {h : zH} {r : Int32} (H : f_X9_wordOf N v0 v1 h = some r) : zOk 0 0 0 yX9_wordOf cX9_wordOf 4 (some .int) [.ref v0, .long v1] h (some (.int r)) h := by
  refine zOk.of (by decide) (Nat.le_of_ble_eq_true rfl) ?_
  unfold f_X9_wordOf at H
  refine z_iconst (pc := 0) (x := 0) dX9_wordOf_0 zc_iconst_0 ?_
  refine z_istore_n (pc := 1) (lv' := [(3, .int 0), (0, .ref v0), (1, .long v1)]) dX9_wordOf_1 rfl (by decide) rfl ?_
  obtain ⟨m7, em7, H⟩ := zbind H
  refine z_sub [1, 2, 0] rfl (s_X9_wordOf_L2 (by omega) N 0 _ em7 ?_ ?_)
  · intro s8 e9
    subst e9
    have H := zsumL H
    refine z_sipush (pc := 30) (x := 200) dX9_wordOf_30 zc_sipush_200 ?_
    cases H
    exact z_ireturn rfl dX9_wordOf_33
  · intro r e9
    subst e9
    have H := zsumR H
    cases H
    exact ⟨rfl, rfl⟩

theorem zc_sipush_203 : (Int16.ofInt (203)).toInt32 = (203 : Int32) := by decide
theorem fd_X9_74 : zFd RX9 74 9 7 (.long) false "WhoseStreet$Tape" := zFd.of cl_9 (by decide) (zmem 248 (by decide +kernel) rfl) rfl rfl rfl
theorem fd_X9_43 : zFd RX9 43 9 3 (.int) false "WhoseStreet$Tape" := zFd.of cl_9 (by decide) (zmem 241 (by decide +kernel) rfl) rfl rfl rfl
theorem md_X9_isLetter : zMd yX9_isLetter cX9_isLetter 2 1 (some .boolean) := ⟨zmw (zmt_3 _ (List.mem_of_getElem? (i := 141) rfl)) rfl, zmem 114 (by decide +kernel) rfl, by decide, by decide, by decide +kernel, by decide⟩
theorem ml_X9_55 : Cond.methodLink RX9 55 yX9_isLetter ∈ zB := zmem 729 (by decide +kernel) rfl
theorem im_X9_isLetter : Cond.instanceMethod yX9_isLetter ∈ zB := zmem 731 (by decide +kernel) rfl
theorem se_X9_isLetter : Cond.selects yX9_isLetter.cls yX9_isLetter yX9_isLetter ∈ zB := zmem 6 (by decide +kernel) rfl
theorem fd_X9_49 : zFd RX9 49 9 5 (.int) false "WhoseStreet$Tape" := zFd.of cl_9 (by decide) (zmem 244 (by decide +kernel) rfl) rfl rfl rfl
theorem md_X9_withLetter : zMd yX9_withLetter cX9_withLetter 3 2 (some .long) := ⟨zmw (zmt_1 _ (List.mem_of_getElem? (i := 124) rfl)) rfl, zmem 114 (by decide +kernel) rfl, by decide, by decide, by decide +kernel, by decide⟩
theorem ml_X9_29 : Cond.methodLink RX9 29 yX9_withLetter ∈ zB := zmem 233 (by decide +kernel) rfl
theorem sm_X9_withLetter : Cond.static yX9_withLetter ∈ zB := zmem 234 (by decide +kernel) rfl
theorem md_X9_wordOf : zMd yX9_wordOf cX9_wordOf 4 1 (some .int) := ⟨zmw (zmt_3 _ (List.mem_of_getElem? (i := 149) rfl)) rfl, zmem 114 (by decide +kernel) rfl, by decide, by decide, by decide +kernel, by decide⟩
theorem ml_X9_78 : Cond.methodLink RX9 78 yX9_wordOf ∈ zB := zmem 737 (by decide +kernel) rfl
theorem im_X9_wordOf : Cond.instanceMethod yX9_wordOf ∈ zB := zmem 739 (by decide +kernel) rfl
theorem se_X9_wordOf : Cond.selects yX9_wordOf.cls yX9_wordOf yX9_wordOf ∈ zB := zmem 8 (by decide +kernel) rfl
theorem fd_X9_52 : zFd RX9 52 9 4 (.int) false "WhoseStreet$Tape" := zFd.of cl_9 (by decide) (zmem 243 (by decide +kernel) rfl) rfl rfl rfl
def f_X9_takeWord_L5 (N : Nat) (v0 : Nat) : Nat → zH → Option (zH)
  | 0, _ => none
  | n + 1, h => (gI h v0 9 3).bind fun x2 => (gI h v0 9 2).bind fun x3 => if x3 ≤ x2 then (some h) else ((gI h v0 9 3).bind fun x5 => zif (zob h v0 9) <| (f_X9_isLetter N v0 x5 h).bind fun q7 => if q7 = 0 then (some h) else ((gI h v0 9 3).bind fun x9 => (gI h v0 9 5).bind fun x10 => (if 8 ≤ (x9 - x10) then (some h) else ((gL h v0 9 7).bind fun x13 => (gR h v0 9 0).bind fun r14 => (gI h v0 9 3).bind fun x15 => (aB h r14 x15).bind fun x16 => (pF h v0 9 7 (.long (p_X9_withLetter x13 ((x16.toUInt32 % 65536).toInt32)))).bind fun h17 => some h17) : Option (zH)).bind fun m11 => (gI m11 v0 9 3).bind fun x18 => (pF m11 v0 9 3 (.int (x18 + 1))).bind fun h19 => f_X9_takeWord_L5 N v0 n h19))
set_option maxRecDepth 100000 in
set_option maxHeartbeats 4000000 in
theorem s_X9_takeWord_L5 {d mc ms N : Nat} {vv : Option Value} {hh : zH} {v0 : Nat} (hd0 : 1 ≤ d) : ∀ (n : Nat)  (h : zH) (m : zH), f_X9_takeWord_L5 N v0 n h = some m → (zW yX9_takeWord cX9_takeWord 1 none d mc ms 75 [(0, .ref v0)] [] m vv hh) → zW yX9_takeWord cX9_takeWord 1 none d mc ms 5 [(0, .ref v0)] [] h vv hh := by
  intro n
  induction n with
  | zero =>
    intro  h m H
    cases H
  | succ n ih =>
    intro  h m H KE
    unfold f_X9_takeWord_L5 at H
    refine z_aload_n (pc := 5) 0 dX9_takeWord_5 rfl rfl ?_
    obtain ⟨x2, ex2, H⟩ := zbind H
    refine z_getI (pc := 6) dX9_takeWord_6 fd_X9_43 ex2 ?_
    refine z_aload_n (pc := 9) 0 dX9_takeWord_9 rfl rfl ?_
    obtain ⟨x3, ex3, H⟩ := zbind H
    refine z_getI (pc := 10) dX9_takeWord_10 fd_X9_39 ex3 ?_
    refine z_icmp_ge (pc := 13) 75 dX9_takeWord_13 (by decide) (fun c4 => ?_) (fun c4 => ?_)
    · rw [if_pos c4] at H
      cases H
      exact z_sub [0] rfl (KE)
    · rw [if_neg c4] at H
      refine z_aload_n (pc := 16) 0 dX9_takeWord_16 rfl rfl ?_
      refine z_aload_n (pc := 17) 0 dX9_takeWord_17 rfl rfl ?_
      obtain ⟨x5, ex5, H⟩ := zbind H
      refine z_getI (pc := 18) dX9_takeWord_18 fd_X9_43 ex5 ?_
      obtain ⟨z6, H⟩ := zifE H
      obtain ⟨q7, eq7, H⟩ := zbind H
      refine z_callV (pc := 21) (mc := mc) (ms := ms) (d' := 0) (mc' := 0) (ms' := 0) (rest := []) [.int x5] dX9_takeWord_21 md_X9_isLetter ml_X9_55 im_X9_isLetter se_X9_isLetter rfl z6 rfl rfl (Nat.le_of_ble_eq_true rfl) (by omega) (k_X9_isLetter eq7) ?_
      refine z_if_eq (pc := 24) 75 dX9_takeWord_24 (by decide) (fun c8 => ?_) (fun c8 => ?_)
      · rw [if_pos c8] at H
        cases H
        exact z_sub [0] rfl (KE)
      · rw [if_neg c8] at H
        refine z_aload_n (pc := 27) 0 dX9_takeWord_27 rfl rfl ?_
        obtain ⟨x9, ex9, H⟩ := zbind H
        refine z_getI (pc := 28) dX9_takeWord_28 fd_X9_43 ex9 ?_
        refine z_aload_n (pc := 31) 0 dX9_takeWord_31 rfl rfl ?_
        obtain ⟨x10, ex10, H⟩ := zbind H
        refine z_getI (pc := 32) dX9_takeWord_32 fd_X9_49 ex10 ?_
        refine z_isub (pc := 35) dX9_takeWord_35 ?_
        refine z_bipush (pc := 36) (x := 8) dX9_takeWord_36 zc_bipush_8 ?_
        obtain ⟨m11, em11, H⟩ := zbind H
        have Jm11 : zW yX9_takeWord cX9_takeWord 1 none d mc ms 62 [(0, .ref v0)] [] m11 vv hh := by
          refine z_aload_n (pc := 62) 0 dX9_takeWord_62 rfl rfl ?_
          refine z_dup (pc := 63) dX9_takeWord_63 rfl ?_
          obtain ⟨x18, ex18, H⟩ := zbind H
          refine z_getI (pc := 64) dX9_takeWord_64 fd_X9_43 ex18 ?_
          refine z_iconst (pc := 67) (x := 1) dX9_takeWord_67 zc_iconst_1 ?_
          refine z_iadd (pc := 68) dX9_takeWord_68 ?_
          obtain ⟨h19, eh19, H⟩ := zbind H
          refine z_put (pc := 69) dX9_takeWord_69 fd_X9_43 rfl rfl eh19 ?_
          refine z_goto (pc := 72) 5 dX9_takeWord_72 (by decide) ?_
          exact z_sub [0] rfl (ih h19 _ H KE)
        refine z_icmp_ge (pc := 38) 62 dX9_takeWord_38 (by decide) (fun c12 => ?_) (fun c12 => ?_)
        · rw [if_pos c12] at em11
          cases em11
          exact z_sub [0] rfl Jm11
        · rw [if_neg c12] at em11
          refine z_aload_n (pc := 41) 0 dX9_takeWord_41 rfl rfl ?_
          refine z_aload_n (pc := 42) 0 dX9_takeWord_42 rfl rfl ?_
          obtain ⟨x13, ex13, em11⟩ := zbind em11
          refine z_getL (pc := 43) dX9_takeWord_43 fd_X9_74 ex13 ?_
          refine z_aload_n (pc := 46) 0 dX9_takeWord_46 rfl rfl ?_
          obtain ⟨r14, er14, em11⟩ := zbind em11
          refine z_getR (pc := 47) dX9_takeWord_47 fd_X9_9 er14 ?_
          refine z_aload_n (pc := 50) 0 dX9_takeWord_50 rfl rfl ?_
          obtain ⟨x15, ex15, em11⟩ := zbind em11
          refine z_getI (pc := 51) dX9_takeWord_51 fd_X9_43 ex15 ?_
          obtain ⟨x16, ex16, em11⟩ := zbind em11
          refine z_baload (pc := 54) dX9_takeWord_54 ex16 ?_
          refine z_i2c (pc := 55) dX9_takeWord_55 ?_
          refine z_callS (pc := 56) (mc := mc) (ms := ms) (d' := 0) (mc' := 0) (ms' := 0) (rest := [.ref v0]) [.long x13, .int ((x16.toUInt32 % 65536).toInt32)] dX9_takeWord_56 md_X9_withLetter ml_X9_29 sm_X9_withLetter rfl rfl (Nat.le_of_ble_eq_true rfl) (by omega) (k_X9_withLetter x13 ((x16.toUInt32 % 65536).toInt32) h _ rfl) ?_
          obtain ⟨h17, eh17, em11⟩ := zbind em11
          refine z_put (pc := 59) dX9_takeWord_59 fd_X9_74 rfl rfl eh17 ?_
          cases em11
          exact z_sub [0] rfl Jm11
def f_X9_takeWord (N : Nat) (v0 : Nat) (h : zH) : Option (zH) := (pF h v0 9 7 (.long 0)).bind fun h1 => (f_X9_takeWord_L5 N v0 N h1).bind fun m20 => (gI m20 v0 9 3).bind fun x21 => (gI m20 v0 9 5).bind fun x22 => if (x21 - x22) ≤ 8 then ((gL m20 v0 9 7).bind fun x24 => zif (zob m20 v0 9) <| (f_X9_wordOf N v0 x24 m20).bind fun q26 => (pF m20 v0 9 4 (.int q26)).bind fun h27 => some h27) else ((pF m20 v0 9 4 (.int 203)).bind fun h28 => some h28)
set_option maxRecDepth 100000 in
set_option maxHeartbeats 4000000 in
theorem k_X9_takeWord {N : Nat} {v0 : Nat} {h : zH} {r : zH} (H : f_X9_takeWord N v0 h = some r) : zOk 1 0 0 yX9_takeWord cX9_takeWord 1 none [.ref v0] h none r := by
  refine zOk.of (by decide) (Nat.le_of_ble_eq_true rfl) ?_
  unfold f_X9_takeWord at H
  refine z_aload_n (pc := 0) 0 dX9_takeWord_0 rfl rfl ?_
  refine z_lconst (pc := 1) (x := 0) dX9_takeWord_1 (by decide) ?_
  obtain ⟨h1, eh1, H⟩ := zbind H
  refine z_put (pc := 2) dX9_takeWord_2 fd_X9_74 rfl rfl eh1 ?_
  obtain ⟨m20, em20, H⟩ := zbind H
  refine z_sub [0] rfl (s_X9_takeWord_L5 (by omega) N h1 _ em20 ?_)
  refine z_aload_n (pc := 75) 0 dX9_takeWord_75 rfl rfl ?_
  refine z_aload_n (pc := 76) 0 dX9_takeWord_76 rfl rfl ?_
  obtain ⟨x21, ex21, H⟩ := zbind H
  refine z_getI (pc := 77) dX9_takeWord_77 fd_X9_43 ex21 ?_
  refine z_aload_n (pc := 80) 0 dX9_takeWord_80 rfl rfl ?_
  obtain ⟨x22, ex22, H⟩ := zbind H
  refine z_getI (pc := 81) dX9_takeWord_81 fd_X9_49 ex22 ?_
  refine z_isub (pc := 84) dX9_takeWord_84 ?_
  refine z_bipush (pc := 85) (x := 8) dX9_takeWord_85 zc_bipush_8 ?_
  refine z_icmp_le (pc := 87) 96 dX9_takeWord_87 (by decide) (fun c23 => ?_) (fun c23 => ?_)
  · rw [if_pos c23] at H
    refine z_aload_n (pc := 96) 0 dX9_takeWord_96 rfl rfl ?_
    refine z_aload_n (pc := 97) 0 dX9_takeWord_97 rfl rfl ?_
    obtain ⟨x24, ex24, H⟩ := zbind H
    refine z_getL (pc := 98) dX9_takeWord_98 fd_X9_74 ex24 ?_
    obtain ⟨z25, H⟩ := zifE H
    obtain ⟨q26, eq26, H⟩ := zbind H
    refine z_callV (pc := 101) (mc := 0) (ms := 0) (d' := 0) (mc' := 0) (ms' := 0) (rest := [.ref v0]) [.long x24] dX9_takeWord_101 md_X9_wordOf ml_X9_78 im_X9_wordOf se_X9_wordOf rfl z25 rfl rfl (Nat.le_of_ble_eq_true rfl) (by omega) (k_X9_wordOf eq26) ?_
    obtain ⟨h27, eh27, H⟩ := zbind H
    refine z_put (pc := 104) dX9_takeWord_104 fd_X9_52 rfl rfl eh27 ?_
    cases H
    exact z_return rfl dX9_takeWord_107
  · rw [if_neg c23] at H
    refine z_sipush (pc := 90) (x := 203) dX9_takeWord_90 zc_sipush_203 ?_
    refine z_goto (pc := 93) 104 dX9_takeWord_93 (by decide) ?_
    obtain ⟨h28, eh28, H⟩ := zbind H
    refine z_put (pc := 104) dX9_takeWord_104 fd_X9_52 rfl rfl eh28 ?_
    cases H
    exact z_return rfl dX9_takeWord_107

theorem zc_bipush_48 : (Int8.ofInt (48)).toInt32 = (48 : Int32) := by decide
theorem zc_bipush_57 : (Int8.ofInt (57)).toInt32 = (57 : Int32) := by decide
def f_X9_isDigit (N : Nat) (v0 : Nat) (v1 : Int32) (h : zH) : Option (Int32) := if v1 < 0 then (some 0) else ((gI h v0 9 2).bind fun x2 => if x2 ≤ v1 then (some 0) else (if 1000 ≤ v1 then (some 0) else ((gR h v0 9 0).bind fun r5 => (aB h r5 v1).bind fun x6 => if x6 < 48 then (some 0) else ((gR h v0 9 0).bind fun r8 => (aB h r8 v1).bind fun x9 => if 57 < x9 then (some 0) else (some 1)))))
set_option maxRecDepth 100000 in
set_option maxHeartbeats 4000000 in
theorem k_X9_isDigit {N : Nat} {v0 : Nat} {v1 : Int32} {h : zH} {r : Int32} (H : f_X9_isDigit N v0 v1 h = some r) : zOk 0 0 0 yX9_isDigit cX9_isDigit 2 (some .boolean) [.ref v0, .int v1] h (some (.int r)) h := by
  refine zOk.of (by decide) (Nat.le_of_ble_eq_true rfl) ?_
  unfold f_X9_isDigit at H
  refine z_iload_n (pc := 0) 1 dX9_isDigit_0 rfl rfl ?_
  refine z_if_lt (pc := 1) 45 dX9_isDigit_1 (by decide) (fun c1 => ?_) (fun c1 => ?_)
  · rw [if_pos c1] at H
    refine z_iconst (pc := 45) (x := 0) dX9_isDigit_45 zc_iconst_0 ?_
    cases H
    exact z_zreturn rfl dX9_isDigit_46 (by decide)
  · rw [if_neg c1] at H
    refine z_iload_n (pc := 4) 1 dX9_isDigit_4 rfl rfl ?_
    refine z_aload_n (pc := 5) 0 dX9_isDigit_5 rfl rfl ?_
    obtain ⟨x2, ex2, H⟩ := zbind H
    refine z_getI (pc := 6) dX9_isDigit_6 fd_X9_39 ex2 ?_
    refine z_icmp_ge (pc := 9) 45 dX9_isDigit_9 (by decide) (fun c3 => ?_) (fun c3 => ?_)
    · rw [if_pos c3] at H
      refine z_iconst (pc := 45) (x := 0) dX9_isDigit_45 zc_iconst_0 ?_
      cases H
      exact z_zreturn rfl dX9_isDigit_46 (by decide)
    · rw [if_neg c3] at H
      refine z_iload_n (pc := 12) 1 dX9_isDigit_12 rfl rfl ?_
      refine z_sipush (pc := 13) (x := 1000) dX9_isDigit_13 zc_sipush_1000 ?_
      refine z_icmp_ge (pc := 16) 45 dX9_isDigit_16 (by decide) (fun c4 => ?_) (fun c4 => ?_)
      · rw [if_pos c4] at H
        refine z_iconst (pc := 45) (x := 0) dX9_isDigit_45 zc_iconst_0 ?_
        cases H
        exact z_zreturn rfl dX9_isDigit_46 (by decide)
      · rw [if_neg c4] at H
        refine z_aload_n (pc := 19) 0 dX9_isDigit_19 rfl rfl ?_
        obtain ⟨r5, er5, H⟩ := zbind H
        refine z_getR (pc := 20) dX9_isDigit_20 fd_X9_9 er5 ?_
        refine z_iload_n (pc := 23) 1 dX9_isDigit_23 rfl rfl ?_
        obtain ⟨x6, ex6, H⟩ := zbind H
        refine z_baload (pc := 24) dX9_isDigit_24 ex6 ?_
        refine z_bipush (pc := 25) (x := 48) dX9_isDigit_25 zc_bipush_48 ?_
        refine z_icmp_lt (pc := 27) 45 dX9_isDigit_27 (by decide) (fun c7 => ?_) (fun c7 => ?_)
        · rw [if_pos c7] at H
          refine z_iconst (pc := 45) (x := 0) dX9_isDigit_45 zc_iconst_0 ?_
          cases H
          exact z_zreturn rfl dX9_isDigit_46 (by decide)
        · rw [if_neg c7] at H
          refine z_aload_n (pc := 30) 0 dX9_isDigit_30 rfl rfl ?_
          obtain ⟨r8, er8, H⟩ := zbind H
          refine z_getR (pc := 31) dX9_isDigit_31 fd_X9_9 er8 ?_
          refine z_iload_n (pc := 34) 1 dX9_isDigit_34 rfl rfl ?_
          obtain ⟨x9, ex9, H⟩ := zbind H
          refine z_baload (pc := 35) dX9_isDigit_35 ex9 ?_
          refine z_bipush (pc := 36) (x := 57) dX9_isDigit_36 zc_bipush_57 ?_
          refine z_icmp_gt (pc := 38) 45 dX9_isDigit_38 (by decide) (fun c10 => ?_) (fun c10 => ?_)
          · rw [if_pos c10] at H
            refine z_iconst (pc := 45) (x := 0) dX9_isDigit_45 zc_iconst_0 ?_
            cases H
            exact z_zreturn rfl dX9_isDigit_46 (by decide)
          · rw [if_neg c10] at H
            refine z_iconst (pc := 41) (x := 1) dX9_isDigit_41 zc_iconst_1 ?_
            refine z_goto (pc := 42) 46 dX9_isDigit_42 (by decide) ?_
            cases H
            exact z_zreturn rfl dX9_isDigit_46 (by decide)

theorem zc_sipush_201 : (Int16.ofInt (201)).toInt32 = (201 : Int32) := by decide
theorem fd_X9_82 : zFd RX9 82 9 6 (.int) false "WhoseStreet$Tape" := zFd.of cl_9 (by decide) (zmem 246 (by decide +kernel) rfl) rfl rfl rfl
theorem md_X9_isDigit : zMd yX9_isDigit cX9_isDigit 2 1 (some .boolean) := ⟨zmw (zmt_3 _ (List.mem_of_getElem? (i := 153) rfl)) rfl, zmem 114 (by decide +kernel) rfl, by decide, by decide, by decide +kernel, by decide⟩
theorem ml_X9_62 : Cond.methodLink RX9 62 yX9_isDigit ∈ zB := zmem 741 (by decide +kernel) rfl
theorem im_X9_isDigit : Cond.instanceMethod yX9_isDigit ∈ zB := zmem 743 (by decide +kernel) rfl
theorem se_X9_isDigit : Cond.selects yX9_isDigit.cls yX9_isDigit yX9_isDigit ∈ zB := zmem 9 (by decide +kernel) rfl
def f_X9_takeNumber_L5 (N : Nat) (v0 : Nat) : Nat → zH → Option (zH)
  | 0, _ => none
  | n + 1, h => (gI h v0 9 3).bind fun x2 => (gI h v0 9 2).bind fun x3 => if x3 ≤ x2 then (some h) else ((gI h v0 9 3).bind fun x5 => zif (zob h v0 9) <| (f_X9_isDigit N v0 x5 h).bind fun q7 => if q7 = 0 then (some h) else ((gI h v0 9 3).bind fun x9 => (gI h v0 9 5).bind fun x10 => (if 4 ≤ (x9 - x10) then (some h) else ((gI h v0 9 6).bind fun x13 => (gR h v0 9 0).bind fun r14 => (gI h v0 9 3).bind fun x15 => (aB h r14 x15).bind fun x16 => (pF h v0 9 6 (.int (((x13 * 10) + x16) - 48))).bind fun h17 => some h17) : Option (zH)).bind fun m11 => (gI m11 v0 9 3).bind fun x18 => (pF m11 v0 9 3 (.int (x18 + 1))).bind fun h19 => f_X9_takeNumber_L5 N v0 n h19))
set_option maxRecDepth 100000 in
set_option maxHeartbeats 4000000 in
theorem s_X9_takeNumber_L5 {d mc ms N : Nat} {vv : Option Value} {hh : zH} {v0 : Nat} (hd0 : 1 ≤ d) : ∀ (n : Nat)  (h : zH) (m : zH), f_X9_takeNumber_L5 N v0 n h = some m → (zW yX9_takeNumber cX9_takeNumber 1 none d mc ms 77 [(0, .ref v0)] [] m vv hh) → zW yX9_takeNumber cX9_takeNumber 1 none d mc ms 5 [(0, .ref v0)] [] h vv hh := by
  intro n
  induction n with
  | zero =>
    intro  h m H
    cases H
  | succ n ih =>
    intro  h m H KE
    unfold f_X9_takeNumber_L5 at H
    refine z_aload_n (pc := 5) 0 dX9_takeNumber_5 rfl rfl ?_
    obtain ⟨x2, ex2, H⟩ := zbind H
    refine z_getI (pc := 6) dX9_takeNumber_6 fd_X9_43 ex2 ?_
    refine z_aload_n (pc := 9) 0 dX9_takeNumber_9 rfl rfl ?_
    obtain ⟨x3, ex3, H⟩ := zbind H
    refine z_getI (pc := 10) dX9_takeNumber_10 fd_X9_39 ex3 ?_
    refine z_icmp_ge (pc := 13) 77 dX9_takeNumber_13 (by decide) (fun c4 => ?_) (fun c4 => ?_)
    · rw [if_pos c4] at H
      cases H
      exact z_sub [0] rfl (KE)
    · rw [if_neg c4] at H
      refine z_aload_n (pc := 16) 0 dX9_takeNumber_16 rfl rfl ?_
      refine z_aload_n (pc := 17) 0 dX9_takeNumber_17 rfl rfl ?_
      obtain ⟨x5, ex5, H⟩ := zbind H
      refine z_getI (pc := 18) dX9_takeNumber_18 fd_X9_43 ex5 ?_
      obtain ⟨z6, H⟩ := zifE H
      obtain ⟨q7, eq7, H⟩ := zbind H
      refine z_callV (pc := 21) (mc := mc) (ms := ms) (d' := 0) (mc' := 0) (ms' := 0) (rest := []) [.int x5] dX9_takeNumber_21 md_X9_isDigit ml_X9_62 im_X9_isDigit se_X9_isDigit rfl z6 rfl rfl (Nat.le_of_ble_eq_true rfl) (by omega) (k_X9_isDigit eq7) ?_
      refine z_if_eq (pc := 24) 77 dX9_takeNumber_24 (by decide) (fun c8 => ?_) (fun c8 => ?_)
      · rw [if_pos c8] at H
        cases H
        exact z_sub [0] rfl (KE)
      · rw [if_neg c8] at H
        refine z_aload_n (pc := 27) 0 dX9_takeNumber_27 rfl rfl ?_
        obtain ⟨x9, ex9, H⟩ := zbind H
        refine z_getI (pc := 28) dX9_takeNumber_28 fd_X9_43 ex9 ?_
        refine z_aload_n (pc := 31) 0 dX9_takeNumber_31 rfl rfl ?_
        obtain ⟨x10, ex10, H⟩ := zbind H
        refine z_getI (pc := 32) dX9_takeNumber_32 fd_X9_49 ex10 ?_
        refine z_isub (pc := 35) dX9_takeNumber_35 ?_
        refine z_iconst (pc := 36) (x := 4) dX9_takeNumber_36 zc_iconst_4 ?_
        obtain ⟨m11, em11, H⟩ := zbind H
        have Jm11 : zW yX9_takeNumber cX9_takeNumber 1 none d mc ms 64 [(0, .ref v0)] [] m11 vv hh := by
          refine z_aload_n (pc := 64) 0 dX9_takeNumber_64 rfl rfl ?_
          refine z_dup (pc := 65) dX9_takeNumber_65 rfl ?_
          obtain ⟨x18, ex18, H⟩ := zbind H
          refine z_getI (pc := 66) dX9_takeNumber_66 fd_X9_43 ex18 ?_
          refine z_iconst (pc := 69) (x := 1) dX9_takeNumber_69 zc_iconst_1 ?_
          refine z_iadd (pc := 70) dX9_takeNumber_70 ?_
          obtain ⟨h19, eh19, H⟩ := zbind H
          refine z_put (pc := 71) dX9_takeNumber_71 fd_X9_43 rfl rfl eh19 ?_
          refine z_goto (pc := 74) 5 dX9_takeNumber_74 (by decide) ?_
          exact z_sub [0] rfl (ih h19 _ H KE)
        refine z_icmp_ge (pc := 37) 64 dX9_takeNumber_37 (by decide) (fun c12 => ?_) (fun c12 => ?_)
        · rw [if_pos c12] at em11
          cases em11
          exact z_sub [0] rfl Jm11
        · rw [if_neg c12] at em11
          refine z_aload_n (pc := 40) 0 dX9_takeNumber_40 rfl rfl ?_
          refine z_aload_n (pc := 41) 0 dX9_takeNumber_41 rfl rfl ?_
          obtain ⟨x13, ex13, em11⟩ := zbind em11
          refine z_getI (pc := 42) dX9_takeNumber_42 fd_X9_82 ex13 ?_
          refine z_bipush (pc := 45) (x := 10) dX9_takeNumber_45 zc_bipush_10 ?_
          refine z_imul (pc := 47) dX9_takeNumber_47 ?_
          refine z_aload_n (pc := 48) 0 dX9_takeNumber_48 rfl rfl ?_
          obtain ⟨r14, er14, em11⟩ := zbind em11
          refine z_getR (pc := 49) dX9_takeNumber_49 fd_X9_9 er14 ?_
          refine z_aload_n (pc := 52) 0 dX9_takeNumber_52 rfl rfl ?_
          obtain ⟨x15, ex15, em11⟩ := zbind em11
          refine z_getI (pc := 53) dX9_takeNumber_53 fd_X9_43 ex15 ?_
          obtain ⟨x16, ex16, em11⟩ := zbind em11
          refine z_baload (pc := 56) dX9_takeNumber_56 ex16 ?_
          refine z_iadd (pc := 57) dX9_takeNumber_57 ?_
          refine z_bipush (pc := 58) (x := 48) dX9_takeNumber_58 zc_bipush_48 ?_
          refine z_isub (pc := 60) dX9_takeNumber_60 ?_
          obtain ⟨h17, eh17, em11⟩ := zbind em11
          refine z_put (pc := 61) dX9_takeNumber_61 fd_X9_82 rfl rfl eh17 ?_
          cases em11
          exact z_sub [0] rfl Jm11
def f_X9_takeNumber (N : Nat) (v0 : Nat) (h : zH) : Option (zH) := (pF h v0 9 6 (.int 0)).bind fun h1 => (f_X9_takeNumber_L5 N v0 N h1).bind fun m20 => (gI m20 v0 9 3).bind fun x21 => (gI m20 v0 9 5).bind fun x22 => if (x21 - x22) ≤ 4 then ((pF m20 v0 9 4 (.int 201)).bind fun h24 => some h24) else ((pF m20 v0 9 4 (.int 203)).bind fun h25 => some h25)
set_option maxRecDepth 100000 in
set_option maxHeartbeats 4000000 in
theorem k_X9_takeNumber {N : Nat} {v0 : Nat} {h : zH} {r : zH} (H : f_X9_takeNumber N v0 h = some r) : zOk 1 0 0 yX9_takeNumber cX9_takeNumber 1 none [.ref v0] h none r := by
  refine zOk.of (by decide) (Nat.le_of_ble_eq_true rfl) ?_
  unfold f_X9_takeNumber at H
  refine z_aload_n (pc := 0) 0 dX9_takeNumber_0 rfl rfl ?_
  refine z_iconst (pc := 1) (x := 0) dX9_takeNumber_1 zc_iconst_0 ?_
  obtain ⟨h1, eh1, H⟩ := zbind H
  refine z_put (pc := 2) dX9_takeNumber_2 fd_X9_82 rfl rfl eh1 ?_
  obtain ⟨m20, em20, H⟩ := zbind H
  refine z_sub [0] rfl (s_X9_takeNumber_L5 (by omega) N h1 _ em20 ?_)
  refine z_aload_n (pc := 77) 0 dX9_takeNumber_77 rfl rfl ?_
  refine z_aload_n (pc := 78) 0 dX9_takeNumber_78 rfl rfl ?_
  obtain ⟨x21, ex21, H⟩ := zbind H
  refine z_getI (pc := 79) dX9_takeNumber_79 fd_X9_43 ex21 ?_
  refine z_aload_n (pc := 82) 0 dX9_takeNumber_82 rfl rfl ?_
  obtain ⟨x22, ex22, H⟩ := zbind H
  refine z_getI (pc := 83) dX9_takeNumber_83 fd_X9_49 ex22 ?_
  refine z_isub (pc := 86) dX9_takeNumber_86 ?_
  refine z_iconst (pc := 87) (x := 4) dX9_takeNumber_87 zc_iconst_4 ?_
  refine z_icmp_le (pc := 88) 97 dX9_takeNumber_88 (by decide) (fun c23 => ?_) (fun c23 => ?_)
  · rw [if_pos c23] at H
    refine z_sipush (pc := 97) (x := 201) dX9_takeNumber_97 zc_sipush_201 ?_
    obtain ⟨h24, eh24, H⟩ := zbind H
    refine z_put (pc := 100) dX9_takeNumber_100 fd_X9_52 rfl rfl eh24 ?_
    cases H
    exact z_return rfl dX9_takeNumber_103
  · rw [if_neg c23] at H
    refine z_sipush (pc := 91) (x := 203) dX9_takeNumber_91 zc_sipush_203 ?_
    refine z_goto (pc := 94) 100 dX9_takeNumber_94 (by decide) ?_
    obtain ⟨h25, eh25, H⟩ := zbind H
    refine z_put (pc := 100) dX9_takeNumber_100 fd_X9_52 rfl rfl eh25 ?_
    cases H
    exact z_return rfl dX9_takeNumber_103

theorem zc_sipush_202 : (Int16.ofInt (202)).toInt32 = (202 : Int32) := by decide
theorem md_J0_indexOf_0f7a4 : zMd yJ0_indexOf_0f7a4 cJ0_indexOf_0f7a4 2 1 (some .int) := ⟨zmw (zmt_3 _ (List.mem_of_getElem? (i := 162) rfl)) rfl, zmem 115 (by decide +kernel) rfl, by decide, by decide, by decide +kernel, by decide⟩
theorem ml_X9_70 : Cond.methodLink RX9 70 yJ0_indexOf_0f7a4 ∈ zB := zmem 750 (by decide +kernel) rfl
theorem im_J0_indexOf_0f7a4 : Cond.instanceMethod yJ0_indexOf_0f7a4 ∈ zB := zmem 751 (by decide +kernel) rfl
theorem se_J0_indexOf_0f7a4 : Cond.selects "java/lang/String" yJ0_indexOf_0f7a4 yJ0_indexOf_0f7a4 ∈ zB := zmem 752 (by decide +kernel) rfl
theorem md_X9_takeNumber : zMd yX9_takeNumber cX9_takeNumber 1 0 none := ⟨zmw (zmt_3 _ (List.mem_of_getElem? (i := 157) rfl)) rfl, zmem 114 (by decide +kernel) rfl, by decide, by decide, by decide +kernel, by decide⟩
theorem ml_X9_65 : Cond.methodLink RX9 65 yX9_takeNumber ∈ zB := zmem 745 (by decide +kernel) rfl
theorem im_X9_takeNumber : Cond.instanceMethod yX9_takeNumber ∈ zB := zmem 747 (by decide +kernel) rfl
theorem se_X9_takeNumber : Cond.selects yX9_takeNumber.cls yX9_takeNumber yX9_takeNumber ∈ zB := zmem 10 (by decide +kernel) rfl
theorem md_X9_takeWord : zMd yX9_takeWord cX9_takeWord 1 0 none := ⟨zmw (zmt_3 _ (List.mem_of_getElem? (i := 145) rfl)) rfl, zmem 114 (by decide +kernel) rfl, by decide, by decide, by decide +kernel, by decide⟩
theorem ml_X9_59 : Cond.methodLink RX9 59 yX9_takeWord ∈ zB := zmem 733 (by decide +kernel) rfl
theorem im_X9_takeWord : Cond.instanceMethod yX9_takeWord ∈ zB := zmem 735 (by decide +kernel) rfl
theorem se_X9_takeWord : Cond.selects yX9_takeWord.cls yX9_takeWord yX9_takeWord ∈ zB := zmem 7 (by decide +kernel) rfl
def f_X9_advance_L0 (N : Nat) (v0 : Nat) : Nat → zH → Option (zH)
  | 0, _ => none
  | n + 1, h => (gI h v0 9 3).bind fun x1 => (gI h v0 9 2).bind fun x2 => if x2 ≤ x1 then (some h) else ((gR h v0 9 0).bind fun r4 => (gI h v0 9 3).bind fun x5 => (aB h r4 x5).bind fun x6 => (if x6 = 10 then (some (.inl ())) else ((gR h v0 9 0).bind fun r10 => (gI h v0 9 3).bind fun x11 => (aB h r10 x11).bind fun x12 => if x12 = 32 then (some (.inl ())) else ((some h).map .inr)) : Option ((Unit) ⊕ (zH))).bind fun m7 => zsum m7 fun s8 => (gI h v0 9 3).bind fun x15 => (pF h v0 9 3 (.int (x15 + 1))).bind fun h16 => f_X9_advance_L0 N v0 n h16)
set_option maxRecDepth 100000 in
set_option maxHeartbeats 4000000 in
theorem s_X9_advance_L0 {d mc ms N : Nat} {vv : Option Value} {hh : zH} {v0 : Nat} (hd0 : 4 ≤ d) : ∀ (n : Nat)  (h : zH) (m : zH), f_X9_advance_L0 N v0 n h = some m → (zW yX9_advance cX9_advance 2 none d mc ms 52 [(0, .ref v0)] [] m vv hh) → zW yX9_advance cX9_advance 2 none d mc ms 0 [(0, .ref v0)] [] h vv hh := by
  intro n
  induction n with
  | zero =>
    intro  h m H
    cases H
  | succ n ih =>
    intro  h m H KE
    unfold f_X9_advance_L0 at H
    refine z_aload_n (pc := 0) 0 dX9_advance_0 rfl rfl ?_
    obtain ⟨x1, ex1, H⟩ := zbind H
    refine z_getI (pc := 1) dX9_advance_1 fd_X9_43 ex1 ?_
    refine z_aload_n (pc := 4) 0 dX9_advance_4 rfl rfl ?_
    obtain ⟨x2, ex2, H⟩ := zbind H
    refine z_getI (pc := 5) dX9_advance_5 fd_X9_39 ex2 ?_
    refine z_icmp_ge (pc := 8) 52 dX9_advance_8 (by decide) (fun c3 => ?_) (fun c3 => ?_)
    · rw [if_pos c3] at H
      cases H
      exact z_sub [0] rfl (KE)
    · rw [if_neg c3] at H
      refine z_aload_n (pc := 11) 0 dX9_advance_11 rfl rfl ?_
      obtain ⟨r4, er4, H⟩ := zbind H
      refine z_getR (pc := 12) dX9_advance_12 fd_X9_9 er4 ?_
      refine z_aload_n (pc := 15) 0 dX9_advance_15 rfl rfl ?_
      obtain ⟨x5, ex5, H⟩ := zbind H
      refine z_getI (pc := 16) dX9_advance_16 fd_X9_43 ex5 ?_
      obtain ⟨x6, ex6, H⟩ := zbind H
      refine z_baload (pc := 19) dX9_advance_19 ex6 ?_
      refine z_bipush (pc := 20) (x := 10) dX9_advance_20 zc_bipush_10 ?_
      obtain ⟨m7, em7, H⟩ := zbind H
      have Jm7 : ∀ s8, m7 = .inl s8 → zW yX9_advance cX9_advance 2 none d mc ms 39 [(0, .ref v0)] [] h vv hh := by
        intro s8 e9
        subst e9
        have H := zsumL H
        refine z_aload_n (pc := 39) 0 dX9_advance_39 rfl rfl ?_
        refine z_dup (pc := 40) dX9_advance_40 rfl ?_
        obtain ⟨x15, ex15, H⟩ := zbind H
        refine z_getI (pc := 41) dX9_advance_41 fd_X9_43 ex15 ?_
        refine z_iconst (pc := 44) (x := 1) dX9_advance_44 zc_iconst_1 ?_
        refine z_iadd (pc := 45) dX9_advance_45 ?_
        obtain ⟨h16, eh16, H⟩ := zbind H
        refine z_put (pc := 46) dX9_advance_46 fd_X9_43 rfl rfl eh16 ?_
        refine z_goto (pc := 49) 0 dX9_advance_49 (by decide) ?_
        exact z_sub [0] rfl (ih h16 _ H KE)
      refine z_icmp_eq (pc := 22) 39 dX9_advance_22 (by decide) (fun c9 => ?_) (fun c9 => ?_)
      · rw [if_pos c9] at em7
        cases em7
        exact z_sub [0] rfl (Jm7 _ rfl)
      · rw [if_neg c9] at em7
        refine z_aload_n (pc := 25) 0 dX9_advance_25 rfl rfl ?_
        obtain ⟨r10, er10, em7⟩ := zbind em7
        refine z_getR (pc := 26) dX9_advance_26 fd_X9_9 er10 ?_
        refine z_aload_n (pc := 29) 0 dX9_advance_29 rfl rfl ?_
        obtain ⟨x11, ex11, em7⟩ := zbind em7
        refine z_getI (pc := 30) dX9_advance_30 fd_X9_43 ex11 ?_
        obtain ⟨x12, ex12, em7⟩ := zbind em7
        refine z_baload (pc := 33) dX9_advance_33 ex12 ?_
        refine z_bipush (pc := 34) (x := 32) dX9_advance_34 zc_bipush_32 ?_
        refine z_icmp_ne (pc := 36) 52 dX9_advance_36 (by decide) (fun c13 => ?_) (fun c13 => ?_)
        · rw [if_neg c13] at em7
          obtain ⟨o14, H9, e9⟩ := zmapR em7
          subst e9
          have H9 := H9.trans (zsumR H)
          cases H9
          exact z_sub [0] rfl (KE)
        · rw [if_pos c13] at em7
          cases em7
          exact z_sub [0] rfl (Jm7 _ rfl)
def f_X9_advance (N : Nat) (v0 : Nat) (h : zH) : Option (zH) := (f_X9_advance_L0 N v0 N h).bind fun m17 => (gI m17 v0 9 3).bind fun x18 => (pF m17 v0 9 5 (.int x18)).bind fun h19 => (gI h19 v0 9 3).bind fun x20 => (gI h19 v0 9 2).bind fun x21 => if x20 < x21 then ((gI h19 v0 9 3).bind fun x23 => zif (zob h19 v0 9) <| (f_X9_isLetter N v0 x23 h19).bind fun q25 => if q25 = 0 then ((gI h19 v0 9 3).bind fun x27 => zif (zob h19 v0 9) <| (f_X9_isDigit N v0 x27 h19).bind fun q29 => if q29 = 0 then ((gR h19 v0 9 0).bind fun r31 => (gI h19 v0 9 3).bind fun x32 => (aB h19 r31 x32).bind fun x33 => zlet ((x33.toUInt32 % 65536).toInt32 : Int32) fun x34 => (gSv h19 (h19.1.2 2)).bind fun r35 => (f_J0_indexOf_0f7a4 N (h19.1.2 2) x34 h19).bind fun q36 => (if q36.1 < 0 then (some 203) else (some x34) : Option (Int32)).bind fun m37 => (pF q36.2 v0 9 4 (.int m37)).bind fun h39 => (gI h39 v0 9 3).bind fun x40 => (pF h39 v0 9 3 (.int (x40 + 1))).bind fun h41 => some h41) else (zif (zob h19 v0 9) <| (f_X9_takeNumber N v0 h19).bind fun h43 => some h43)) else (zif (zob h19 v0 9) <| (f_X9_takeWord N v0 h19).bind fun h45 => some h45)) else ((gI h19 v0 9 2).bind fun x46 => (pF h19 v0 9 5 (.int x46)).bind fun h47 => (pF h47 v0 9 4 (.int 202)).bind fun h48 => some h48)
set_option maxRecDepth 100000 in
set_option maxHeartbeats 4000000 in
theorem k_X9_advance {N : Nat} {v0 : Nat} {h : zH} {r : zH} (H : f_X9_advance N v0 h = some r) : zOk 4 0 0 yX9_advance cX9_advance 2 none [.ref v0] h none r := by
  refine zOk.of (by decide) (Nat.le_of_ble_eq_true rfl) ?_
  unfold f_X9_advance at H
  obtain ⟨m17, em17, H⟩ := zbind H
  refine z_sub [0] rfl (s_X9_advance_L0 (by omega) N h _ em17 ?_)
  refine z_aload_n (pc := 52) 0 dX9_advance_52 rfl rfl ?_
  refine z_aload_n (pc := 53) 0 dX9_advance_53 rfl rfl ?_
  obtain ⟨x18, ex18, H⟩ := zbind H
  refine z_getI (pc := 54) dX9_advance_54 fd_X9_43 ex18 ?_
  obtain ⟨h19, eh19, H⟩ := zbind H
  refine z_put (pc := 57) dX9_advance_57 fd_X9_49 rfl rfl eh19 ?_
  refine z_aload_n (pc := 60) 0 dX9_advance_60 rfl rfl ?_
  obtain ⟨x20, ex20, H⟩ := zbind H
  refine z_getI (pc := 61) dX9_advance_61 fd_X9_43 ex20 ?_
  refine z_aload_n (pc := 64) 0 dX9_advance_64 rfl rfl ?_
  obtain ⟨x21, ex21, H⟩ := zbind H
  refine z_getI (pc := 65) dX9_advance_65 fd_X9_39 ex21 ?_
  refine z_icmp_lt (pc := 68) 89 dX9_advance_68 (by decide) (fun c22 => ?_) (fun c22 => ?_)
  · rw [if_pos c22] at H
    refine z_aload_n (pc := 89) 0 dX9_advance_89 rfl rfl ?_
    refine z_aload_n (pc := 90) 0 dX9_advance_90 rfl rfl ?_
    obtain ⟨x23, ex23, H⟩ := zbind H
    refine z_getI (pc := 91) dX9_advance_91 fd_X9_43 ex23 ?_
    obtain ⟨z24, H⟩ := zifE H
    obtain ⟨q25, eq25, H⟩ := zbind H
    refine z_callV (pc := 94) (mc := 0) (ms := 0) (d' := 0) (mc' := 0) (ms' := 0) (rest := []) [.int x23] dX9_advance_94 md_X9_isLetter ml_X9_55 im_X9_isLetter se_X9_isLetter rfl z24 rfl rfl (Nat.le_of_ble_eq_true rfl) (by omega) (k_X9_isLetter eq25) ?_
    refine z_if_eq (pc := 97) 107 dX9_advance_97 (by decide) (fun c26 => ?_) (fun c26 => ?_)
    · rw [if_pos c26] at H
      refine z_aload_n (pc := 107) 0 dX9_advance_107 rfl rfl ?_
      refine z_aload_n (pc := 108) 0 dX9_advance_108 rfl rfl ?_
      obtain ⟨x27, ex27, H⟩ := zbind H
      refine z_getI (pc := 109) dX9_advance_109 fd_X9_43 ex27 ?_
      obtain ⟨z28, H⟩ := zifE H
      obtain ⟨q29, eq29, H⟩ := zbind H
      refine z_callV (pc := 112) (mc := 0) (ms := 0) (d' := 0) (mc' := 0) (ms' := 0) (rest := []) [.int x27] dX9_advance_112 md_X9_isDigit ml_X9_62 im_X9_isDigit se_X9_isDigit rfl z28 rfl rfl (Nat.le_of_ble_eq_true rfl) (by omega) (k_X9_isDigit eq29) ?_
      refine z_if_eq (pc := 115) 125 dX9_advance_115 (by decide) (fun c30 => ?_) (fun c30 => ?_)
      · rw [if_pos c30] at H
        refine z_aload_n (pc := 125) 0 dX9_advance_125 rfl rfl ?_
        obtain ⟨r31, er31, H⟩ := zbind H
        refine z_getR (pc := 126) dX9_advance_126 fd_X9_9 er31 ?_
        refine z_aload_n (pc := 129) 0 dX9_advance_129 rfl rfl ?_
        obtain ⟨x32, ex32, H⟩ := zbind H
        refine z_getI (pc := 130) dX9_advance_130 fd_X9_43 ex32 ?_
        obtain ⟨x33, ex33, H⟩ := zbind H
        refine z_baload (pc := 133) dX9_advance_133 ex33 ?_
        refine z_i2c (pc := 134) dX9_advance_134 ?_
        obtain ⟨x34, ex34, H⟩ := zletE H
        refine z_nmI ex34 ?_
        refine z_istore_n (pc := 135) (lv' := [(1, .int x34), (0, .ref v0)]) dX9_advance_135 rfl (by decide) rfl ?_
        refine z_aload_n (pc := 136) 1 dX9_advance_136 rfl rfl ?_
        refine z_ldcS (pc := 137) (k := 2) dX9_advance_137 (Or.inr ⟨rfl, rfl, rfl, rfl⟩) ?_
        refine z_iload_n (pc := 139) 0 dX9_advance_139 rfl rfl ?_
        obtain ⟨r35, er35, H⟩ := zbind H
        obtain ⟨q36, eq36, H⟩ := zbind H
        refine z_callT (pc := 140) (mc := 0) (ms := 0) (d' := 3) (mc' := 0) (ms' := 0) (rest := [.ref v0]) [.int x34] dX9_advance_140 md_J0_indexOf_0f7a4 ml_X9_70 im_J0_indexOf_0f7a4 se_J0_indexOf_0f7a4 er35 rfl rfl (Nat.le_of_ble_eq_true rfl) (by omega) (k_J0_indexOf_0f7a4 eq36) ?_
        obtain ⟨m37, em37, H⟩ := zbind H
        have Jm37 : zW yX9_advance cX9_advance 2 none 4 0 0 153 [(0, .ref v0)] [.int m37, .ref v0] q36.2 none r := by
          obtain ⟨h39, eh39, H⟩ := zbind H
          refine z_put (pc := 153) dX9_advance_153 fd_X9_52 rfl rfl eh39 ?_
          refine z_aload_n (pc := 156) 0 dX9_advance_156 rfl rfl ?_
          refine z_dup (pc := 157) dX9_advance_157 rfl ?_
          obtain ⟨x40, ex40, H⟩ := zbind H
          refine z_getI (pc := 158) dX9_advance_158 fd_X9_43 ex40 ?_
          refine z_iconst (pc := 161) (x := 1) dX9_advance_161 zc_iconst_1 ?_
          refine z_iadd (pc := 162) dX9_advance_162 ?_
          obtain ⟨h41, eh41, H⟩ := zbind H
          refine z_put (pc := 163) dX9_advance_163 fd_X9_43 rfl rfl eh41 ?_
          cases H
          exact z_return rfl dX9_advance_166
        refine z_if_lt (pc := 143) 150 dX9_advance_143 (by decide) (fun c38 => ?_) (fun c38 => ?_)
        · rw [if_pos c38] at em37
          refine z_sipush (pc := 150) (x := 203) dX9_advance_150 zc_sipush_203 ?_
          cases em37
          exact z_sub [1] rfl Jm37
        · rw [if_neg c38] at em37
          refine z_iload_n (pc := 146) 0 dX9_advance_146 rfl rfl ?_
          refine z_goto (pc := 147) 153 dX9_advance_147 (by decide) ?_
          cases em37
          exact z_sub [1] rfl Jm37
      · rw [if_neg c30] at H
        refine z_aload_n (pc := 118) 0 dX9_advance_118 rfl rfl ?_
        obtain ⟨z42, H⟩ := zifE H
        obtain ⟨h43, eh43, H⟩ := zbind H
        refine z_callV (pc := 119) (mc := 0) (ms := 0) (d' := 1) (mc' := 0) (ms' := 0) (rest := []) [] dX9_advance_119 md_X9_takeNumber ml_X9_65 im_X9_takeNumber se_X9_takeNumber rfl z42 rfl rfl (Nat.le_of_ble_eq_true rfl) (by omega) (k_X9_takeNumber eh43) ?_
        refine z_goto (pc := 122) 166 dX9_advance_122 (by decide) ?_
        cases H
        exact z_return rfl dX9_advance_166
    · rw [if_neg c26] at H
      refine z_aload_n (pc := 100) 0 dX9_advance_100 rfl rfl ?_
      obtain ⟨z44, H⟩ := zifE H
      obtain ⟨h45, eh45, H⟩ := zbind H
      refine z_callV (pc := 101) (mc := 0) (ms := 0) (d' := 1) (mc' := 0) (ms' := 0) (rest := []) [] dX9_advance_101 md_X9_takeWord ml_X9_59 im_X9_takeWord se_X9_takeWord rfl z44 rfl rfl (Nat.le_of_ble_eq_true rfl) (by omega) (k_X9_takeWord eh45) ?_
      refine z_goto (pc := 104) 166 dX9_advance_104 (by decide) ?_
      cases H
      exact z_return rfl dX9_advance_166
  · rw [if_neg c22] at H
    refine z_aload_n (pc := 71) 0 dX9_advance_71 rfl rfl ?_
    refine z_aload_n (pc := 72) 0 dX9_advance_72 rfl rfl ?_
    obtain ⟨x46, ex46, H⟩ := zbind H
    refine z_getI (pc := 73) dX9_advance_73 fd_X9_39 ex46 ?_
    obtain ⟨h47, eh47, H⟩ := zbind H
    refine z_put (pc := 76) dX9_advance_76 fd_X9_49 rfl rfl eh47 ?_
    refine z_aload_n (pc := 79) 0 dX9_advance_79 rfl rfl ?_
    refine z_sipush (pc := 80) (x := 202) dX9_advance_80 zc_sipush_202 ?_
    obtain ⟨h48, eh48, H⟩ := zbind H
    refine z_put (pc := 83) dX9_advance_83 fd_X9_52 rfl rfl eh48 ?_
    refine z_goto (pc := 86) 166 dX9_advance_86 (by decide) ?_
    cases H
    exact z_return rfl dX9_advance_166

theorem md_X9_advance : zMd yX9_advance cX9_advance 2 0 none := ⟨zmw (zmt_3 _ (List.mem_of_getElem? (i := 137) rfl)) rfl, zmem 114 (by decide +kernel) rfl, by decide, by decide, by decide +kernel, by decide⟩
theorem ml_X9_46 : Cond.methodLink RX9 46 yX9_advance ∈ zB := zmem 725 (by decide +kernel) rfl
theorem im_X9_advance : Cond.instanceMethod yX9_advance ∈ zB := zmem 726 (by decide +kernel) rfl
theorem se_X9_advance : Cond.selects yX9_advance.cls yX9_advance yX9_advance ∈ zB := zmem 727 (by decide +kernel) rfl
def f_X9_start (N : Nat) (v0 : Nat) (h : zH) : Option (zH) := (pF h v0 9 3 (.int 0)).bind fun h1 => zif (zob h1 v0 9) <| (f_X9_advance N v0 h1).bind fun h3 => some h3
set_option maxRecDepth 100000 in
set_option maxHeartbeats 4000000 in
theorem k_X9_start {N : Nat} {v0 : Nat} {h : zH} {r : zH} (H : f_X9_start N v0 h = some r) : zOk 5 0 0 yX9_start cX9_start 1 none [.ref v0] h none r := by
  refine zOk.of (by decide) (Nat.le_of_ble_eq_true rfl) ?_
  unfold f_X9_start at H
  refine z_aload_n (pc := 0) 0 dX9_start_0 rfl rfl ?_
  refine z_iconst (pc := 1) (x := 0) dX9_start_1 zc_iconst_0 ?_
  obtain ⟨h1, eh1, H⟩ := zbind H
  refine z_put (pc := 2) dX9_start_2 fd_X9_43 rfl rfl eh1 ?_
  refine z_aload_n (pc := 5) 0 dX9_start_5 rfl rfl ?_
  obtain ⟨z2, H⟩ := zifE H
  obtain ⟨h3, eh3, H⟩ := zbind H
  refine z_callV (pc := 6) (mc := 0) (ms := 0) (d' := 4) (mc' := 0) (ms' := 0) (rest := []) [] dX9_start_6 md_X9_advance ml_X9_46 im_X9_advance se_X9_advance rfl z2 rfl rfl (Nat.le_of_ble_eq_true rfl) (by omega) (k_X9_advance eh3) ?_
  cases H
  exact z_return rfl dX9_start_9

theorem fd_X7_35 : zFd RX7 35 7 8 (.int) false "WhoseStreet$Reader" := zFd.of cl_7 (by decide) (zmem 283 (by decide +kernel) rfl) rfl rfl rfl
theorem fd_X7_24 : zFd RX7 24 7 3 (.object "WhoseStreet$Tape") false "WhoseStreet$Reader" := zFd.of cl_7 (by decide) (zmem 278 (by decide +kernel) rfl) rfl rfl rfl
theorem fd_X7_129 : zFd RX7 129 9 5 (.int) false "WhoseStreet$Tape" := zFd.of cl_9 (by decide) (zmem 245 (by decide +kernel) rfl) rfl rfl rfl
def f_X7_wrong (N : Nat) (v0 : Nat) (v1 : Int32) (h : zH) : Option (zH) := (gI h v0 7 8).bind fun x1 => if x1 = 0 then ((gR h v0 7 3).bind fun r3 => (gI h r3 9 5).bind fun x4 => (pF h v0 7 8 (.int (v1 + (16 * x4)))).bind fun h5 => some h5) else (some h)
set_option maxRecDepth 100000 in
set_option maxHeartbeats 4000000 in
theorem k_X7_wrong {N : Nat} {v0 : Nat} {v1 : Int32} {h : zH} {r : zH} (H : f_X7_wrong N v0 v1 h = some r) : zOk 0 0 0 yX7_wrong cX7_wrong 2 none [.ref v0, .int v1] h none r := by
  refine zOk.of (by decide) (Nat.le_of_ble_eq_true rfl) ?_
  unfold f_X7_wrong at H
  refine z_aload_n (pc := 0) 0 dX7_wrong_0 rfl rfl ?_
  obtain ⟨x1, ex1, H⟩ := zbind H
  refine z_getI (pc := 1) dX7_wrong_1 fd_X7_35 ex1 ?_
  refine z_if_ne (pc := 4) 23 dX7_wrong_4 (by decide) (fun c2 => ?_) (fun c2 => ?_)
  · rw [if_neg c2] at H
    cases H
    exact z_return rfl dX7_wrong_23
  · rw [if_pos c2] at H
    refine z_aload_n (pc := 7) 0 dX7_wrong_7 rfl rfl ?_
    refine z_iload_n (pc := 8) 1 dX7_wrong_8 rfl rfl ?_
    refine z_bipush (pc := 9) (x := 16) dX7_wrong_9 zc_bipush_16 ?_
    refine z_aload_n (pc := 11) 0 dX7_wrong_11 rfl rfl ?_
    obtain ⟨r3, er3, H⟩ := zbind H
    refine z_getR (pc := 12) dX7_wrong_12 fd_X7_24 er3 ?_
    obtain ⟨x4, ex4, H⟩ := zbind H
    refine z_getI (pc := 15) dX7_wrong_15 fd_X7_129 ex4 ?_
    refine z_imul (pc := 18) dX7_wrong_18 ?_
    refine z_iadd (pc := 19) dX7_wrong_19 ?_
    obtain ⟨h5, eh5, H⟩ := zbind H
    refine z_put (pc := 20) dX7_wrong_20 fd_X7_35 rfl rfl eh5 ?_
    cases H
    exact z_return rfl dX7_wrong_23

theorem fd_X7_32 : zFd RX7 32 7 5 (.int) false "WhoseStreet$Reader" := zFd.of cl_7 (by decide) (zmem 280 (by decide +kernel) rfl) rfl rfl rfl
def f_X7_write (N : Nat) (v0 : Nat) (v1 : Int32) (h : zH) : Option (zH) := (gI h v0 7 5).bind fun x1 => (gR h v0 7 1).bind fun r2 => (aN h r2).bind fun x3 => if x3 ≤ x1 then (some h) else ((gR h v0 7 1).bind fun r5 => (gI h v0 7 5).bind fun x6 => (sI h r5 x6 v1).bind fun h7 => (gI h7 v0 7 5).bind fun x8 => (pF h7 v0 7 5 (.int (x8 + 1))).bind fun h9 => some h9)
set_option maxRecDepth 100000 in
set_option maxHeartbeats 4000000 in
theorem k_X7_write {N : Nat} {v0 : Nat} {v1 : Int32} {h : zH} {r : zH} (H : f_X7_write N v0 v1 h = some r) : zOk 0 0 0 yX7_write cX7_write 2 none [.ref v0, .int v1] h none r := by
  refine zOk.of (by decide) (Nat.le_of_ble_eq_true rfl) ?_
  unfold f_X7_write at H
  refine z_aload_n (pc := 0) 0 dX7_write_0 rfl rfl ?_
  obtain ⟨x1, ex1, H⟩ := zbind H
  refine z_getI (pc := 1) dX7_write_1 fd_X7_32 ex1 ?_
  refine z_aload_n (pc := 4) 0 dX7_write_4 rfl rfl ?_
  obtain ⟨r2, er2, H⟩ := zbind H
  refine z_getR (pc := 5) dX7_write_5 fd_X7_17 er2 ?_
  obtain ⟨x3, ex3, H⟩ := zbind H
  refine z_alen (pc := 8) dX7_write_8 ex3 ?_
  refine z_icmp_ge (pc := 9) 32 dX7_write_9 (by decide) (fun c4 => ?_) (fun c4 => ?_)
  · rw [if_pos c4] at H
    cases H
    exact z_return rfl dX7_write_32
  · rw [if_neg c4] at H
    refine z_aload_n (pc := 12) 0 dX7_write_12 rfl rfl ?_
    obtain ⟨r5, er5, H⟩ := zbind H
    refine z_getR (pc := 13) dX7_write_13 fd_X7_17 er5 ?_
    refine z_aload_n (pc := 16) 0 dX7_write_16 rfl rfl ?_
    obtain ⟨x6, ex6, H⟩ := zbind H
    refine z_getI (pc := 17) dX7_write_17 fd_X7_32 ex6 ?_
    refine z_iload_n (pc := 20) 1 dX7_write_20 rfl rfl ?_
    obtain ⟨h7, eh7, H⟩ := zbind H
    refine z_iastore (pc := 21) dX7_write_21 eh7 ?_
    refine z_aload_n (pc := 22) 0 dX7_write_22 rfl rfl ?_
    refine z_dup (pc := 23) dX7_write_23 rfl ?_
    obtain ⟨x8, ex8, H⟩ := zbind H
    refine z_getI (pc := 24) dX7_write_24 fd_X7_32 ex8 ?_
    refine z_iconst (pc := 27) (x := 1) dX7_write_27 zc_iconst_1 ?_
    refine z_iadd (pc := 28) dX7_write_28 ?_
    obtain ⟨h9, eh9, H⟩ := zbind H
    refine z_put (pc := 29) dX7_write_29 fd_X7_32 rfl rfl eh9 ?_
    cases H
    exact z_return rfl dX7_write_32

theorem fd_X7_28 : zFd RX7 28 7 4 (.int) false "WhoseStreet$Reader" := zFd.of cl_7 (by decide) (zmem 279 (by decide +kernel) rfl) rfl rfl rfl
def f_X7_nameOf_L2 (N : Nat) (v0 : Nat) (v1 : Int64) (h : zH) : Nat → Int32 → Option ((Unit) ⊕ (Int32))
  | 0, _ => none
  | n + 1, v3 => (gI h v0 7 4).bind fun x1 => if x1 ≤ v3 then (some (.inl ())) else (if 8 ≤ v3 then (some (.inl ())) else ((gR h v0 7 0).bind fun r4 => (aL h r4 v3).bind fun x5 => if (lg_cmp x5 v1) = 0 then (some (.inr v3)) else (f_X7_nameOf_L2 N v0 v1 h n (v3 + 1))))
set_option maxRecDepth 100000 in
set_option maxHeartbeats 4000000 in
theorem s_X7_nameOf_L2 {d mc ms N : Nat} {vv : Option Value} {hh : zH} {v0 : Nat} {v1 : Int64} {h : zH} (hd0 : 0 ≤ d) : ∀ (n : Nat) (v3 : Int32) (m : (Unit) ⊕ (Int32)), f_X7_nameOf_L2 N v0 v1 h n v3 = some m → (∀ s, m = .inl s → zW yX7_nameOf cX7_nameOf 4 (some .int) d mc ms 35 [] [] h vv hh) → (∀ r, m = .inr r → vv = (some (.int r)) ∧ hh = h) → zW yX7_nameOf cX7_nameOf 4 (some .int) d mc ms 2 [(0, .ref v0), (1, .long v1), (3, .int v3)] [] h vv hh := by
  intro n
  induction n with
  | zero =>
    intro v3 m H
    cases H
  | succ n ih =>
    intro v3 m H KE KR
    unfold f_X7_nameOf_L2 at H
    refine z_iload_n (pc := 2) 2 dX7_nameOf_2 rfl rfl ?_
    refine z_aload_n (pc := 3) 0 dX7_nameOf_3 rfl rfl ?_
    obtain ⟨x1, ex1, H⟩ := zbind H
    refine z_getI (pc := 4) dX7_nameOf_4 fd_X7_28 ex1 ?_
    refine z_icmp_ge (pc := 7) 35 dX7_nameOf_7 (by decide) (fun c2 => ?_) (fun c2 => ?_)
    · rw [if_pos c2] at H
      cases H
      exact z_sub [] rfl (KE _ rfl)
    · rw [if_neg c2] at H
      refine z_iload_n (pc := 10) 2 dX7_nameOf_10 rfl rfl ?_
      refine z_bipush (pc := 11) (x := 8) dX7_nameOf_11 zc_bipush_8 ?_
      refine z_icmp_ge (pc := 13) 35 dX7_nameOf_13 (by decide) (fun c3 => ?_) (fun c3 => ?_)
      · rw [if_pos c3] at H
        cases H
        exact z_sub [] rfl (KE _ rfl)
      · rw [if_neg c3] at H
        refine z_aload_n (pc := 16) 0 dX7_nameOf_16 rfl rfl ?_
        obtain ⟨r4, er4, H⟩ := zbind H
        refine z_getR (pc := 17) dX7_nameOf_17 fd_X7_11 er4 ?_
        refine z_iload_n (pc := 20) 2 dX7_nameOf_20 rfl rfl ?_
        obtain ⟨x5, ex5, H⟩ := zbind H
        refine z_laload (pc := 21) dX7_nameOf_21 ex5 ?_
        refine z_lload_n (pc := 22) 1 dX7_nameOf_22 rfl rfl ?_
        refine z_lcmp (pc := 23) dX7_nameOf_23 ?_
        refine z_if_ne (pc := 24) 29 dX7_nameOf_24 (by decide) (fun c6 => ?_) (fun c6 => ?_)
        · rw [if_neg c6] at H
          refine z_iinc (pc := 29) (x' := v3 + 1) (lv' := [(3, .int (v3 + 1)), (0, .ref v0), (1, .long v1)]) 2 dX7_nameOf_29 rfl (by rfl) (by decide) rfl ?_
          refine z_goto (pc := 32) 2 dX7_nameOf_32 (by decide) ?_
          exact z_sub [1, 2, 0] rfl (ih (v3 + 1) _ H KE KR)
        · rw [if_pos c6] at H
          refine z_iload_n (pc := 27) 2 dX7_nameOf_27 rfl rfl ?_
          cases H
          obtain ⟨e8, e9⟩ := KR _ rfl
          subst e8
          subst e9
          exact z_ireturn rfl dX7_nameOf_28
def f_X7_nameOf (N : Nat) (v0 : Nat) (v1 : Int64) (h : zH) : Option (Int32) := (f_X7_nameOf_L2 N v0 v1 h N 0).bind fun m7 => zsum m7 fun s8 => some (-1)
set_option maxRecDepth 100000 in
set_option maxHeartbeats 4000000 in
theorem k_X7_nameOf {N : Nat} {v0 : Nat} {v1 : Int64} {h : zH} {r : Int32} (H : f_X7_nameOf N v0 v1 h = some r) : zOk 0 0 0 yX7_nameOf cX7_nameOf 4 (some .int) [.ref v0, .long v1] h (some (.int r)) h := by
  refine zOk.of (by decide) (Nat.le_of_ble_eq_true rfl) ?_
  unfold f_X7_nameOf at H
  refine z_iconst (pc := 0) (x := 0) dX7_nameOf_0 zc_iconst_0 ?_
  refine z_istore_n (pc := 1) (lv' := [(3, .int 0), (0, .ref v0), (1, .long v1)]) dX7_nameOf_1 rfl (by decide) rfl ?_
  obtain ⟨m7, em7, H⟩ := zbind H
  refine z_sub [1, 2, 0] rfl (s_X7_nameOf_L2 (by omega) N 0 _ em7 ?_ ?_)
  · intro s8 e9
    subst e9
    have H := zsumL H
    refine z_iconst (pc := 35) (x := (-1)) dX7_nameOf_35 zc_iconst_m1 ?_
    cases H
    exact z_ireturn rfl dX7_nameOf_36
  · intro r e9
    subst e9
    have H := zsumR H
    cases H
    exact ⟨rfl, rfl⟩

