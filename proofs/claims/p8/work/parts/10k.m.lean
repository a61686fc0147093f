def f_X12_isWord (N : Nat) (v0 : Nat) (v1 : Int32) (h : zH) : Option (Int32) := (gI h v0 12 8).bind fun x1 => if x1 = 0 then ((gR h v0 12 4).bind fun r3 => (gI h v0 12 7).bind fun x4 => (aI h r3 x4).bind fun x5 => if x5 = 1 then ((gR h v0 12 6).bind fun r7 => (gI h v0 12 7).bind fun x8 => (aL h r7 x8).bind fun x9 => (gR h v0 12 9).bind fun r10 => (aL h r10 v1).bind fun x11 => if (lg_cmp x9 x11) = 0 then (some 1) else (some 0)) else (some 0)) else (some 0)
set_option maxRecDepth 100000 in
set_option maxHeartbeats 4000000 in
theorem k_X12_isWord {N : Nat} {v0 : Nat} {v1 : Int32} {h : zH} {r : Int32} (H : f_X12_isWord N v0 v1 h = some r) : zOk 0 0 0 yX12_isWord cX12_isWord 2 (some .boolean) [.ref v0, .int v1] h (some (.int r)) h := by
  refine zOk.of (by decide) (Nat.le_of_ble_eq_true rfl) ?_
  unfold f_X12_isWord at H
  refine z_aload_n (pc := 0) 0 dX12_isWord_0 rfl rfl ?_
  obtain ⟨x1, ex1, H⟩ := zbind H
  refine z_getI (pc := 1) dX12_isWord_1 fd_X12_262 ex1 ?_
  refine z_if_ne (pc := 4) 43 dX12_isWord_4 (by decide) (fun c2 => ?_) (fun c2 => ?_)
  · rw [if_neg c2] at H
    refine z_iconst (pc := 43) (x := 0) dX12_isWord_43 zc_iconst_0 ?_
    cases H
    exact z_zreturn rfl dX12_isWord_44 (by decide)
  · rw [if_pos c2] at H
    refine z_aload_n (pc := 7) 0 dX12_isWord_7 rfl rfl ?_
    obtain ⟨r3, er3, H⟩ := zbind H
    refine z_getR (pc := 8) dX12_isWord_8 fd_X12_24 er3 ?_
    refine z_aload_n (pc := 11) 0 dX12_isWord_11 rfl rfl ?_
    obtain ⟨x4, ex4, H⟩ := zbind H
    refine z_getI (pc := 12) dX12_isWord_12 fd_X12_259 ex4 ?_
    obtain ⟨x5, ex5, H⟩ := zbind H
    refine z_iaload (pc := 15) dX12_isWord_15 ex5 ?_
    refine z_iconst (pc := 16) (x := 1) dX12_isWord_16 zc_iconst_1 ?_
    refine z_icmp_ne (pc := 17) 43 dX12_isWord_17 (by decide) (fun c6 => ?_) (fun c6 => ?_)
    · rw [if_neg c6] at H
      refine z_iconst (pc := 43) (x := 0) dX12_isWord_43 zc_iconst_0 ?_
      cases H
      exact z_zreturn rfl dX12_isWord_44 (by decide)
    · rw [if_pos c6] at H
      refine z_aload_n (pc := 20) 0 dX12_isWord_20 rfl rfl ?_
      obtain ⟨r7, er7, H⟩ := zbind H
      refine z_getR (pc := 21) dX12_isWord_21 fd_X12_30 er7 ?_
      refine z_aload_n (pc := 24) 0 dX12_isWord_24 rfl rfl ?_
      obtain ⟨x8, ex8, H⟩ := zbind H
      refine z_getI (pc := 25) dX12_isWord_25 fd_X12_259 ex8 ?_
      obtain ⟨x9, ex9, H⟩ := zbind H
      refine z_laload (pc := 28) dX12_isWord_28 ex9 ?_
      refine z_aload_n (pc := 29) 0 dX12_isWord_29 rfl rfl ?_
      obtain ⟨r10, er10, H⟩ := zbind H
      refine z_getR (pc := 30) dX12_isWord_30 fd_X12_76 er10 ?_
      refine z_iload_n (pc := 33) 1 dX12_isWord_33 rfl rfl ?_
      obtain ⟨x11, ex11, H⟩ := zbind H
      refine z_laload (pc := 34) dX12_isWord_34 ex11 ?_
      refine z_lcmp (pc := 35) dX12_isWord_35 ?_
      refine z_if_ne (pc := 36) 43 dX12_isWord_36 (by decide) (fun c12 => ?_) (fun c12 => ?_)
      · rw [if_neg c12] at H
        refine z_iconst (pc := 43) (x := 0) dX12_isWord_43 zc_iconst_0 ?_
        cases H
        exact z_zreturn rfl dX12_isWord_44 (by decide)
      · rw [if_pos c12] at H
        refine z_iconst (pc := 39) (x := 1) dX12_isWord_39 zc_iconst_1 ?_
        refine z_goto (pc := 40) 44 dX12_isWord_40 (by decide) ?_
        cases H
        exact z_zreturn rfl dX12_isWord_44 (by decide)

theorem md_X12_isSign : zMd yX12_isSign cX12_isSign 2 1 (some .boolean) := ⟨zmw (zmt_7 _ (List.mem_of_getElem? (i := 114) rfl)) rfl, zmem 127 (by decide +kernel) rfl, by decide, by decide, by decide +kernel, by decide⟩
theorem ml_X12_265 : Cond.methodLink RX12 265 yX12_isSign ∈ zB := zmem 1662 (by decide +kernel) rfl
theorem im_X12_isSign : Cond.instanceMethod yX12_isSign ∈ zB := zmem 1664 (by decide +kernel) rfl
theorem se_X12_isSign : Cond.selects yX12_isSign.cls yX12_isSign yX12_isSign ∈ zB := zmem 69 (by decide +kernel) rfl
theorem md_X12_wrong : zMd yX12_wrong cX12_wrong 2 1 none := ⟨zmw (zmt_7 _ (List.mem_of_getElem? (i := 94) rfl)) rfl, zmem 127 (by decide +kernel) rfl, by decide, by decide, by decide +kernel, by decide⟩
theorem ml_X12_268 : Cond.methodLink RX12 268 yX12_wrong ∈ zB := zmem 1642 (by decide +kernel) rfl
theorem im_X12_wrong : Cond.instanceMethod yX12_wrong ∈ zB := zmem 1644 (by decide +kernel) rfl
theorem se_X12_wrong : Cond.selects yX12_wrong.cls yX12_wrong yX12_wrong ∈ zB := zmem 64 (by decide +kernel) rfl
def f_X12_takeSign (N : Nat) (v0 : Nat) (v1 : Int32) (h : zH) : Option (zH) := zif (zob h v0 12) <| (f_X12_isSign N v0 v1 h).bind fun q2 => if q2 = 0 then (zif (zob h v0 12) <| (f_X12_wrong N v0 1 h).bind fun h5 => some h5) else ((gI h v0 12 7).bind fun x6 => (pF h v0 12 7 (.int (x6 + 1))).bind fun h7 => some h7)
set_option maxRecDepth 100000 in
set_option maxHeartbeats 4000000 in
theorem k_X12_takeSign {N : Nat} {v0 : Nat} {v1 : Int32} {h : zH} {r : zH} (H : f_X12_takeSign N v0 v1 h = some r) : zOk 1 0 0 yX12_takeSign cX12_takeSign 2 none [.ref v0, .int v1] h none r := by
  refine zOk.of (by decide) (Nat.le_of_ble_eq_true rfl) ?_
  unfold f_X12_takeSign at H
  refine z_aload_n (pc := 0) 0 dX12_takeSign_0 rfl rfl ?_
  refine z_iload_n (pc := 1) 1 dX12_takeSign_1 rfl rfl ?_
  obtain ⟨z1, H⟩ := zifE H
  obtain ⟨q2, eq2, H⟩ := zbind H
  refine z_callV (pc := 2) (mc := 0) (ms := 0) (d' := 0) (mc' := 0) (ms' := 0) (rest := []) [.int v1] dX12_takeSign_2 md_X12_isSign ml_X12_265 im_X12_isSign se_X12_isSign rfl z1 rfl rfl (Nat.le_of_ble_eq_true rfl) (by omega) (k_X12_isSign eq2) ?_
  refine z_if_eq (pc := 5) 21 dX12_takeSign_5 (by decide) (fun c3 => ?_) (fun c3 => ?_)
  · rw [if_pos c3] at H
    refine z_aload_n (pc := 21) 0 dX12_takeSign_21 rfl rfl ?_
    refine z_iconst (pc := 22) (x := 1) dX12_takeSign_22 zc_iconst_1 ?_
    obtain ⟨z4, H⟩ := zifE H
    obtain ⟨h5, eh5, H⟩ := zbind H
    refine z_callV (pc := 23) (mc := 0) (ms := 0) (d' := 0) (mc' := 0) (ms' := 0) (rest := []) [.int 1] dX12_takeSign_23 md_X12_wrong ml_X12_268 im_X12_wrong se_X12_wrong rfl z4 rfl rfl (Nat.le_of_ble_eq_true rfl) (by omega) (k_X12_wrong eh5) ?_
    cases H
    exact z_return rfl dX12_takeSign_26
  · rw [if_neg c3] at H
    refine z_aload_n (pc := 8) 0 dX12_takeSign_8 rfl rfl ?_
    refine z_dup (pc := 9) dX12_takeSign_9 rfl ?_
    obtain ⟨x6, ex6, H⟩ := zbind H
    refine z_getI (pc := 10) dX12_takeSign_10 fd_X12_259 ex6 ?_
    refine z_iconst (pc := 13) (x := 1) dX12_takeSign_13 zc_iconst_1 ?_
    refine z_iadd (pc := 14) dX12_takeSign_14 ?_
    obtain ⟨h7, eh7, H⟩ := zbind H
    refine z_put (pc := 15) dX12_takeSign_15 fd_X12_259 rfl rfl eh7 ?_
    refine z_goto (pc := 18) 26 dX12_takeSign_18 (by decide) ?_
    cases H
    exact z_return rfl dX12_takeSign_26

def f_X12_hasSign (N : Nat) (v0 : Nat) (v1 : Int32) (h : zH) : Option (Int32 × zH) := zif (zob h v0 12) <| (f_X12_isSign N v0 v1 h).bind fun q2 => (gI h v0 12 7).bind fun x3 => if q2 = 0 then ((pF h v0 12 7 (.int (x3 + 0))).bind fun h5 => rZ q2 h5) else ((pF h v0 12 7 (.int (x3 + 1))).bind fun h6 => rZ q2 h6)
set_option maxRecDepth 100000 in
set_option maxHeartbeats 4000000 in
theorem k_X12_hasSign {N : Nat} {v0 : Nat} {v1 : Int32} {h : zH} {r : Int32 × zH} (H : f_X12_hasSign N v0 v1 h = some r) : zOk 1 0 0 yX12_hasSign cX12_hasSign 3 (some .boolean) [.ref v0, .int v1] h (some (.int r.1)) r.2 := by
  refine zOk.of (by decide) (Nat.le_of_ble_eq_true rfl) ?_
  unfold f_X12_hasSign at H
  refine z_aload_n (pc := 0) 0 dX12_hasSign_0 rfl rfl ?_
  refine z_iload_n (pc := 1) 1 dX12_hasSign_1 rfl rfl ?_
  obtain ⟨z1, H⟩ := zifE H
  obtain ⟨q2, eq2, H⟩ := zbind H
  refine z_callV (pc := 2) (mc := 0) (ms := 0) (d' := 0) (mc' := 0) (ms' := 0) (rest := []) [.int v1] dX12_hasSign_2 md_X12_isSign ml_X12_265 im_X12_isSign se_X12_isSign rfl z1 rfl rfl (Nat.le_of_ble_eq_true rfl) (by omega) (k_X12_isSign eq2) ?_
  refine z_istore_n (pc := 5) (lv' := [(2, .int q2), (0, .ref v0), (1, .int v1)]) dX12_hasSign_5 rfl (by decide) rfl ?_
  refine z_aload_n (pc := 6) 1 dX12_hasSign_6 rfl rfl ?_
  refine z_dup (pc := 7) dX12_hasSign_7 rfl ?_
  obtain ⟨x3, ex3, H⟩ := zbind H
  refine z_getI (pc := 8) dX12_hasSign_8 fd_X12_259 ex3 ?_
  refine z_iload_n (pc := 11) 0 dX12_hasSign_11 rfl rfl ?_
  refine z_if_eq (pc := 12) 19 dX12_hasSign_12 (by decide) (fun c4 => ?_) (fun c4 => ?_)
  · rw [if_pos c4] at H
    refine z_iconst (pc := 19) (x := 0) dX12_hasSign_19 zc_iconst_0 ?_
    refine z_iadd (pc := 20) dX12_hasSign_20 ?_
    obtain ⟨h5, eh5, H⟩ := zbind H
    refine z_put (pc := 21) dX12_hasSign_21 fd_X12_259 rfl rfl eh5 ?_
    refine z_iload_n (pc := 24) 0 dX12_hasSign_24 rfl rfl ?_
    obtain ⟨z9, H⟩ := rZE H
    cases H
    exact z_zreturn rfl dX12_hasSign_25 z9
  · rw [if_neg c4] at H
    refine z_iconst (pc := 15) (x := 1) dX12_hasSign_15 zc_iconst_1 ?_
    refine z_goto (pc := 16) 20 dX12_hasSign_16 (by decide) ?_
    refine z_iadd (pc := 20) dX12_hasSign_20 ?_
    obtain ⟨h6, eh6, H⟩ := zbind H
    refine z_put (pc := 21) dX12_hasSign_21 fd_X12_259 rfl rfl eh6 ?_
    refine z_iload_n (pc := 24) 0 dX12_hasSign_24 rfl rfl ?_
    obtain ⟨z9, H⟩ := rZE H
    cases H
    exact z_zreturn rfl dX12_hasSign_25 z9

theorem md_X12_isWord : zMd yX12_isWord cX12_isWord 2 1 (some .boolean) := ⟨zmw (zmt_7 _ (List.mem_of_getElem? (i := 90) rfl)) rfl, zmem 127 (by decide +kernel) rfl, by decide, by decide, by decide +kernel, by decide⟩
theorem ml_X12_272 : Cond.methodLink RX12 272 yX12_isWord ∈ zB := zmem 1638 (by decide +kernel) rfl
theorem im_X12_isWord : Cond.instanceMethod yX12_isWord ∈ zB := zmem 1640 (by decide +kernel) rfl
theorem se_X12_isWord : Cond.selects yX12_isWord.cls yX12_isWord yX12_isWord ∈ zB := zmem 63 (by decide +kernel) rfl
def f_X12_hasWord (N : Nat) (v0 : Nat) (v1 : Int32) (h : zH) : Option (Int32 × zH) := zif (zob h v0 12) <| (f_X12_isWord N v0 v1 h).bind fun q2 => (gI h v0 12 7).bind fun x3 => if q2 = 0 then ((pF h v0 12 7 (.int (x3 + 0))).bind fun h5 => rZ q2 h5) else ((pF h v0 12 7 (.int (x3 + 1))).bind fun h6 => rZ q2 h6)
set_option maxRecDepth 100000 in
set_option maxHeartbeats 4000000 in
theorem k_X12_hasWord {N : Nat} {v0 : Nat} {v1 : Int32} {h : zH} {r : Int32 × zH} (H : f_X12_hasWord N v0 v1 h = some r) : zOk 1 0 0 yX12_hasWord cX12_hasWord 3 (some .boolean) [.ref v0, .int v1] h (some (.int r.1)) r.2 := by
  refine zOk.of (by decide) (Nat.le_of_ble_eq_true rfl) ?_
  unfold f_X12_hasWord at H
  refine z_aload_n (pc := 0) 0 dX12_hasWord_0 rfl rfl ?_
  refine z_iload_n (pc := 1) 1 dX12_hasWord_1 rfl rfl ?_
  obtain ⟨z1, H⟩ := zifE H
  obtain ⟨q2, eq2, H⟩ := zbind H
  refine z_callV (pc := 2) (mc := 0) (ms := 0) (d' := 0) (mc' := 0) (ms' := 0) (rest := []) [.int v1] dX12_hasWord_2 md_X12_isWord ml_X12_272 im_X12_isWord se_X12_isWord rfl z1 rfl rfl (Nat.le_of_ble_eq_true rfl) (by omega) (k_X12_isWord eq2) ?_
  refine z_istore_n (pc := 5) (lv' := [(2, .int q2), (0, .ref v0), (1, .int v1)]) dX12_hasWord_5 rfl (by decide) rfl ?_
  refine z_aload_n (pc := 6) 1 dX12_hasWord_6 rfl rfl ?_
  refine z_dup (pc := 7) dX12_hasWord_7 rfl ?_
  obtain ⟨x3, ex3, H⟩ := zbind H
  refine z_getI (pc := 8) dX12_hasWord_8 fd_X12_259 ex3 ?_
  refine z_iload_n (pc := 11) 0 dX12_hasWord_11 rfl rfl ?_
  refine z_if_eq (pc := 12) 19 dX12_hasWord_12 (by decide) (fun c4 => ?_) (fun c4 => ?_)
  · rw [if_pos c4] at H
    refine z_iconst (pc := 19) (x := 0) dX12_hasWord_19 zc_iconst_0 ?_
    refine z_iadd (pc := 20) dX12_hasWord_20 ?_
    obtain ⟨h5, eh5, H⟩ := zbind H
    refine z_put (pc := 21) dX12_hasWord_21 fd_X12_259 rfl rfl eh5 ?_
    refine z_iload_n (pc := 24) 0 dX12_hasWord_24 rfl rfl ?_
    obtain ⟨z9, H⟩ := rZE H
    cases H
    exact z_zreturn rfl dX12_hasWord_25 z9
  · rw [if_neg c4] at H
    refine z_iconst (pc := 15) (x := 1) dX12_hasWord_15 zc_iconst_1 ?_
    refine z_goto (pc := 16) 20 dX12_hasWord_16 (by decide) ?_
    refine z_iadd (pc := 20) dX12_hasWord_20 ?_
    obtain ⟨h6, eh6, H⟩ := zbind H
    refine z_put (pc := 21) dX12_hasWord_21 fd_X12_259 rfl rfl eh6 ?_
    refine z_iload_n (pc := 24) 0 dX12_hasWord_24 rfl rfl ?_
    obtain ⟨z9, H⟩ := rZE H
    cases H
    exact z_zreturn rfl dX12_hasWord_25 z9

theorem md_X12_hasWord : zMd yX12_hasWord cX12_hasWord 3 1 (some .boolean) := ⟨zmw (zmt_7 _ (List.mem_of_getElem? (i := 142) rfl)) rfl, zmem 127 (by decide +kernel) rfl, by decide, by decide, by decide +kernel, by decide⟩
theorem ml_X12_275 : Cond.methodLink RX12 275 yX12_hasWord ∈ zB := zmem 1690 (by decide +kernel) rfl
theorem im_X12_hasWord : Cond.instanceMethod yX12_hasWord ∈ zB := zmem 1692 (by decide +kernel) rfl
theorem se_X12_hasWord : Cond.selects yX12_hasWord.cls yX12_hasWord yX12_hasWord ∈ zB := zmem 76 (by decide +kernel) rfl
def f_X12_takeWord (N : Nat) (v0 : Nat) (v1 : Int32) (h : zH) : Option (zH) := zif (zob h v0 12) <| (f_X12_hasWord N v0 v1 h).bind fun q2 => if q2.1 = 0 then (zif (zob q2.2 v0 12) <| (f_X12_wrong N v0 1 q2.2).bind fun h5 => some h5) else (some q2.2)
set_option maxRecDepth 100000 in
set_option maxHeartbeats 4000000 in
theorem k_X12_takeWord {N : Nat} {v0 : Nat} {v1 : Int32} {h : zH} {r : zH} (H : f_X12_takeWord N v0 v1 h = some r) : zOk 2 0 0 yX12_takeWord cX12_takeWord 2 none [.ref v0, .int v1] h none r := by
  refine zOk.of (by decide) (Nat.le_of_ble_eq_true rfl) ?_
  unfold f_X12_takeWord at H
  refine z_aload_n (pc := 0) 0 dX12_takeWord_0 rfl rfl ?_
  refine z_iload_n (pc := 1) 1 dX12_takeWord_1 rfl rfl ?_
  obtain ⟨z1, H⟩ := zifE H
  obtain ⟨q2, eq2, H⟩ := zbind H
  refine z_callV (pc := 2) (mc := 0) (ms := 0) (d' := 1) (mc' := 0) (ms' := 0) (rest := []) [.int v1] dX12_takeWord_2 md_X12_hasWord ml_X12_275 im_X12_hasWord se_X12_hasWord rfl z1 rfl rfl (Nat.le_of_ble_eq_true rfl) (by omega) (k_X12_hasWord eq2) ?_
  refine z_if_ne (pc := 5) 13 dX12_takeWord_5 (by decide) (fun c3 => ?_) (fun c3 => ?_)
  · rw [if_neg c3] at H
    cases H
    exact z_return rfl dX12_takeWord_13
  · rw [if_pos c3] at H
    refine z_aload_n (pc := 8) 0 dX12_takeWord_8 rfl rfl ?_
    refine z_iconst (pc := 9) (x := 1) dX12_takeWord_9 zc_iconst_1 ?_
    obtain ⟨z4, H⟩ := zifE H
    obtain ⟨h5, eh5, H⟩ := zbind H
    refine z_callV (pc := 10) (mc := 0) (ms := 0) (d' := 0) (mc' := 0) (ms' := 0) (rest := []) [.int 1] dX12_takeWord_10 md_X12_wrong ml_X12_268 im_X12_wrong se_X12_wrong rfl z4 rfl rfl (Nat.le_of_ble_eq_true rfl) (by omega) (k_X12_wrong eh5) ?_
    cases H
    exact z_return rfl dX12_takeWord_13

theorem zc_sipush_19200 : (Int16.ofInt (19200)).toInt32 = (19200 : Int32) := by decide
theorem fd_X12_278 : zFd RX12 278 12 19 (.int) false "WhoseStreetModel" := zFd.of cl_12 (by decide) (zmem 1389 (by decide +kernel) rfl) rfl rfl rfl
def f_X12_emit (N : Nat) (v0 : Nat) (v1 : Int32) (v2 : Int32) (h : zH) : Option (zH) := (gR h v0 12 20).bind fun r1 => (gI h v0 12 19).bind fun x2 => (sI h r1 (19200 + x2) v1).bind fun h3 => (gR h3 v0 12 21).bind fun r4 => (gI h3 v0 12 19).bind fun x5 => (sI h3 r4 (19200 + x5) v2).bind fun h6 => (gI h6 v0 12 19).bind fun x7 => (pF h6 v0 12 19 (.int (x7 + 1))).bind fun h8 => some h8
set_option maxRecDepth 100000 in
set_option maxHeartbeats 4000000 in
theorem k_X12_emit {N : Nat} {v0 : Nat} {v1 : Int32} {v2 : Int32} {h : zH} {r : zH} (H : f_X12_emit N v0 v1 v2 h = some r) : zOk 0 0 0 yX12_emit cX12_emit 3 none [.ref v0, .int v1, .int v2] h none r := by
  refine zOk.of (by decide) (Nat.le_of_ble_eq_true rfl) ?_
  unfold f_X12_emit at H
  refine z_aload_n (pc := 0) 0 dX12_emit_0 rfl rfl ?_
  obtain ⟨r1, er1, H⟩ := zbind H
  refine z_getR (pc := 1) dX12_emit_1 fd_X12_100 er1 ?_
  refine z_sipush (pc := 4) (x := 19200) dX12_emit_4 zc_sipush_19200 ?_
  refine z_aload_n (pc := 7) 0 dX12_emit_7 rfl rfl ?_
  obtain ⟨x2, ex2, H⟩ := zbind H
  refine z_getI (pc := 8) dX12_emit_8 fd_X12_278 ex2 ?_
  refine z_iadd (pc := 11) dX12_emit_11 ?_
  refine z_iload_n (pc := 12) 1 dX12_emit_12 rfl rfl ?_
  obtain ⟨h3, eh3, H⟩ := zbind H
  refine z_iastore (pc := 13) dX12_emit_13 eh3 ?_
  refine z_aload_n (pc := 14) 0 dX12_emit_14 rfl rfl ?_
  obtain ⟨r4, er4, H⟩ := zbind H
  refine z_getR (pc := 15) dX12_emit_15 fd_X12_103 er4 ?_
  refine z_sipush (pc := 18) (x := 19200) dX12_emit_18 zc_sipush_19200 ?_
  refine z_aload_n (pc := 21) 0 dX12_emit_21 rfl rfl ?_
  obtain ⟨x5, ex5, H⟩ := zbind H
  refine z_getI (pc := 22) dX12_emit_22 fd_X12_278 ex5 ?_
  refine z_iadd (pc := 25) dX12_emit_25 ?_
  refine z_iload_n (pc := 26) 2 dX12_emit_26 rfl rfl ?_
  obtain ⟨h6, eh6, H⟩ := zbind H
  refine z_iastore (pc := 27) dX12_emit_27 eh6 ?_
  refine z_aload_n (pc := 28) 0 dX12_emit_28 rfl rfl ?_
  refine z_dup (pc := 29) dX12_emit_29 rfl ?_
  obtain ⟨x7, ex7, H⟩ := zbind H
  refine z_getI (pc := 30) dX12_emit_30 fd_X12_278 ex7 ?_
  refine z_iconst (pc := 33) (x := 1) dX12_emit_33 zc_iconst_1 ?_
  refine z_iadd (pc := 34) dX12_emit_34 ?_
  obtain ⟨h8, eh8, H⟩ := zbind H
  refine z_put (pc := 35) dX12_emit_35 fd_X12_278 rfl rfl eh8 ?_
  cases H
  exact z_return rfl dX12_emit_38

def f_X12_isName_L28 (N : Nat) (v0 : Nat) (h : zH) : Nat → Int32 → Int32 → Option (Int32)
  | 0, _, _ => none
  | n + 1, v1, v2 => if 21 ≤ v2 then (some v1) else (if v1 = 0 then (f_X12_isName_L28 N v0 h n 0 (v2 + 1)) else ((gR h v0 12 6).bind fun r10 => (gI h v0 12 7).bind fun x11 => (aL h r10 x11).bind fun x12 => (gR h v0 12 9).bind fun r13 => (aL h r13 v2).bind fun x14 => if (lg_cmp x12 x14) = 0 then (f_X12_isName_L28 N v0 h n 0 (v2 + 1)) else (f_X12_isName_L28 N v0 h n 1 (v2 + 1))))
set_option maxRecDepth 100000 in
set_option maxHeartbeats 4000000 in
theorem s_X12_isName_L28 {d mc ms N : Nat} {vv : Option Value} {hh : zH} {v0 : Nat} {h : zH} (hd0 : 0 ≤ d) : ∀ (n : Nat) (v1 : Int32) (v2 : Int32) (m : Int32), f_X12_isName_L28 N v0 h n v1 v2 = some m → (zW yX12_isName cX12_isName 3 (some .boolean) d mc ms 69 [(1, .int m)] [] h vv hh) → zW yX12_isName cX12_isName 3 (some .boolean) d mc ms 28 [(0, .ref v0), (1, .int v1), (2, .int v2)] [] h vv hh := by
  intro n
  induction n with
  | zero =>
    intro v1 v2 m H
    cases H
  | succ n ih =>
    intro v1 v2 m H KE
    unfold f_X12_isName_L28 at H
    refine z_iload_n (pc := 28) 2 dX12_isName_28 rfl rfl ?_
    refine z_bipush (pc := 29) (x := 21) dX12_isName_29 zc_bipush_21 ?_
    refine z_icmp_ge (pc := 31) 69 dX12_isName_31 (by decide) (fun c8 => ?_) (fun c8 => ?_)
    · rw [if_pos c8] at H
      cases H
      exact z_sub [1] rfl (KE)
    · rw [if_neg c8] at H
      refine z_iload_n (pc := 34) 1 dX12_isName_34 rfl rfl ?_
      refine z_if_eq (pc := 35) 61 dX12_isName_35 (by decide) (fun c9 => ?_) (fun c9 => ?_)
      · rw [if_pos c9] at H
        refine z_iconst (pc := 61) (x := 0) dX12_isName_61 zc_iconst_0 ?_
        refine z_istore_n (pc := 62) (lv' := [(1, .int 0), (0, .ref v0), (2, .int v2)]) dX12_isName_62 rfl (by decide) rfl ?_
        refine z_iinc (pc := 63) (x' := v2 + 1) (lv' := [(2, .int (v2 + 1)), (1, .int 0), (0, .ref v0)]) 2 dX12_isName_63 rfl (by rfl) (by decide) rfl ?_
        refine z_goto (pc := 66) 28 dX12_isName_66 (by decide) ?_
        exact z_sub [2, 1, 0] rfl (ih 0 (v2 + 1) _ H KE)
      · rw [if_neg c9] at H
        refine z_aload_n (pc := 38) 0 dX12_isName_38 rfl rfl ?_
        obtain ⟨r10, er10, H⟩ := zbind H
        refine z_getR (pc := 39) dX12_isName_39 fd_X12_30 er10 ?_
        refine z_aload_n (pc := 42) 0 dX12_isName_42 rfl rfl ?_
        obtain ⟨x11, ex11, H⟩ := zbind H
        refine z_getI (pc := 43) dX12_isName_43 fd_X12_259 ex11 ?_
        obtain ⟨x12, ex12, H⟩ := zbind H
        refine z_laload (pc := 46) dX12_isName_46 ex12 ?_
        refine z_aload_n (pc := 47) 0 dX12_isName_47 rfl rfl ?_
        obtain ⟨r13, er13, H⟩ := zbind H
        refine z_getR (pc := 48) dX12_isName_48 fd_X12_76 er13 ?_
        refine z_iload_n (pc := 51) 2 dX12_isName_51 rfl rfl ?_
        obtain ⟨x14, ex14, H⟩ := zbind H
        refine z_laload (pc := 52) dX12_isName_52 ex14 ?_
        refine z_lcmp (pc := 53) dX12_isName_53 ?_
        refine z_if_eq (pc := 54) 61 dX12_isName_54 (by decide) (fun c15 => ?_) (fun c15 => ?_)
        · rw [if_pos c15] at H
          refine z_iconst (pc := 61) (x := 0) dX12_isName_61 zc_iconst_0 ?_
          refine z_istore_n (pc := 62) (lv' := [(1, .int 0), (0, .ref v0), (2, .int v2)]) dX12_isName_62 rfl (by decide) rfl ?_
          refine z_iinc (pc := 63) (x' := v2 + 1) (lv' := [(2, .int (v2 + 1)), (1, .int 0), (0, .ref v0)]) 2 dX12_isName_63 rfl (by rfl) (by decide) rfl ?_
          refine z_goto (pc := 66) 28 dX12_isName_66 (by decide) ?_
          exact z_sub [2, 1, 0] rfl (ih 0 (v2 + 1) _ H KE)
        · rw [if_neg c15] at H
          refine z_iconst (pc := 57) (x := 1) dX12_isName_57 zc_iconst_1 ?_
          refine z_goto (pc := 58) 62 dX12_isName_58 (by decide) ?_
          refine z_istore_n (pc := 62) (lv' := [(1, .int 1), (0, .ref v0), (2, .int v2)]) dX12_isName_62 rfl (by decide) rfl ?_
          refine z_iinc (pc := 63) (x' := v2 + 1) (lv' := [(2, .int (v2 + 1)), (1, .int 1), (0, .ref v0)]) 2 dX12_isName_63 rfl (by rfl) (by decide) rfl ?_
          refine z_goto (pc := 66) 28 dX12_isName_66 (by decide) ?_
          exact z_sub [2, 1, 0] rfl (ih 1 (v2 + 1) _ H KE)
def f_X12_isName (N : Nat) (v0 : Nat) (h : zH) : Option (Int32) := (gI h v0 12 8).bind fun x1 => (if x1 = 0 then ((gR h v0 12 4).bind fun r4 => (gI h v0 12 7).bind fun x5 => (aI h r4 x5).bind fun x6 => if x6 = 1 then (some 1) else (some 0)) else (some 0) : Option (Int32)).bind fun m2 => (f_X12_isName_L28 N v0 h N m2 0).bind fun m16 => rZ0 m16
set_option maxRecDepth 100000 in
set_option maxHeartbeats 4000000 in
theorem k_X12_isName {N : Nat} {v0 : Nat} {h : zH} {r : Int32} (H : f_X12_isName N v0 h = some r) : zOk 0 0 0 yX12_isName cX12_isName 3 (some .boolean) [.ref v0] h (some (.int r)) h := by
  refine zOk.of (by decide) (Nat.le_of_ble_eq_true rfl) ?_
  unfold f_X12_isName at H
  refine z_aload_n (pc := 0) 0 dX12_isName_0 rfl rfl ?_
  obtain ⟨x1, ex1, H⟩ := zbind H
  refine z_getI (pc := 1) dX12_isName_1 fd_X12_262 ex1 ?_
  obtain ⟨m2, em2, H⟩ := zbind H
  have Jm2 : zW yX12_isName cX12_isName 3 (some .boolean) 0 0 0 25 [(0, .ref v0)] [.int m2] h (some (.int r)) h := by
    refine z_istore_n (pc := 25) (lv' := [(1, .int m2), (0, .ref v0)]) dX12_isName_25 rfl (by decide) rfl ?_
    refine z_iconst (pc := 26) (x := 0) dX12_isName_26 zc_iconst_0 ?_
    refine z_istore_n (pc := 27) (lv' := [(2, .int 0), (1, .int m2), (0, .ref v0)]) dX12_isName_27 rfl (by decide) rfl ?_
    obtain ⟨m16, em16, H⟩ := zbind H
    refine z_sub [2, 1, 0] rfl (s_X12_isName_L28 (by omega) N m2 0 _ em16 ?_)
    refine z_iload_n (pc := 69) 0 dX12_isName_69 rfl rfl ?_
    obtain ⟨z9, H⟩ := rZ0E H
    cases H
    exact z_zreturn rfl dX12_isName_70 z9
  refine z_if_ne (pc := 4) 24 dX12_isName_4 (by decide) (fun c3 => ?_) (fun c3 => ?_)
  · rw [if_neg c3] at em2
    refine z_iconst (pc := 24) (x := 0) dX12_isName_24 zc_iconst_0 ?_
    cases em2
    exact z_sub [0] rfl Jm2
  · rw [if_pos c3] at em2
    refine z_aload_n (pc := 7) 0 dX12_isName_7 rfl rfl ?_
    obtain ⟨r4, er4, em2⟩ := zbind em2
    refine z_getR (pc := 8) dX12_isName_8 fd_X12_24 er4 ?_
    refine z_aload_n (pc := 11) 0 dX12_isName_11 rfl rfl ?_
    obtain ⟨x5, ex5, em2⟩ := zbind em2
    refine z_getI (pc := 12) dX12_isName_12 fd_X12_259 ex5 ?_
    obtain ⟨x6, ex6, em2⟩ := zbind em2
    refine z_iaload (pc := 15) dX12_isName_15 ex6 ?_
    refine z_iconst (pc := 16) (x := 1) dX12_isName_16 zc_iconst_1 ?_
    refine z_icmp_ne (pc := 17) 24 dX12_isName_17 (by decide) (fun c7 => ?_) (fun c7 => ?_)
    · rw [if_neg c7] at em2
      refine z_iconst (pc := 24) (x := 0) dX12_isName_24 zc_iconst_0 ?_
      cases em2
      exact z_sub [0] rfl Jm2
    · rw [if_pos c7] at em2
      refine z_iconst (pc := 20) (x := 1) dX12_isName_20 zc_iconst_1 ?_
      refine z_goto (pc := 21) 25 dX12_isName_21 (by decide) ?_
      cases em2
      exact z_sub [0] rfl Jm2

theorem fd_X12_287 : zFd RX12 287 12 17 (.int) false "WhoseStreetModel" := zFd.of cl_12 (by decide) (zmem 1387 (by decide +kernel) rfl) rfl rfl rfl
def f_X12_findName_L4 (N : Nat) (v0 : Nat) (h : zH) : Nat → Int32 → Int32 → Option (Int32)
  | 0, _, _ => none
  | n + 1, v1, v2 => (gI h v0 12 17).bind fun x1 => if x1 ≤ v2 then (some v1) else ((gR h v0 12 18).bind fun r3 => (aL h r3 v2).bind fun x4 => (gR h v0 12 6).bind fun r5 => (gI h v0 12 7).bind fun x6 => (aL h r5 x6).bind fun x7 => if (lg_cmp x4 x7) = 0 then (f_X12_findName_L4 N v0 h n v2 (v2 + 1)) else (f_X12_findName_L4 N v0 h n v1 (v2 + 1)))
set_option maxRecDepth 100000 in
set_option maxHeartbeats 4000000 in
theorem s_X12_findName_L4 {d mc ms N : Nat} {vv : Option Value} {hh : zH} {v0 : Nat} {h : zH} (hd0 : 0 ≤ d) : ∀ (n : Nat) (v1 : Int32) (v2 : Int32) (m : Int32), f_X12_findName_L4 N v0 h n v1 v2 = some m → (zW yX12_findName cX12_findName 3 (some .int) d mc ms 43 [(1, .int m)] [] h vv hh) → zW yX12_findName cX12_findName 3 (some .int) d mc ms 4 [(0, .ref v0), (1, .int v1), (2, .int v2)] [] h vv hh := by
  intro n
  induction n with
  | zero =>
    intro v1 v2 m H
    cases H
  | succ n ih =>
    intro v1 v2 m H KE
    unfold f_X12_findName_L4 at H
    refine z_iload_n (pc := 4) 2 dX12_findName_4 rfl rfl ?_
    refine z_aload_n (pc := 5) 0 dX12_findName_5 rfl rfl ?_
    obtain ⟨x1, ex1, H⟩ := zbind H
    refine z_getI (pc := 6) dX12_findName_6 fd_X12_287 ex1 ?_
    refine z_icmp_ge (pc := 9) 43 dX12_findName_9 (by decide) (fun c2 => ?_) (fun c2 => ?_)
    · rw [if_pos c2] at H
      cases H
      exact z_sub [1] rfl (KE)
    · rw [if_neg c2] at H
      refine z_aload_n (pc := 12) 0 dX12_findName_12 rfl rfl ?_
      obtain ⟨r3, er3, H⟩ := zbind H
      refine z_getR (pc := 13) dX12_findName_13 fd_X12_97 er3 ?_
      refine z_iload_n (pc := 16) 2 dX12_findName_16 rfl rfl ?_
      obtain ⟨x4, ex4, H⟩ := zbind H
      refine z_laload (pc := 17) dX12_findName_17 ex4 ?_
      refine z_aload_n (pc := 18) 0 dX12_findName_18 rfl rfl ?_
      obtain ⟨r5, er5, H⟩ := zbind H
      refine z_getR (pc := 19) dX12_findName_19 fd_X12_30 er5 ?_
      refine z_aload_n (pc := 22) 0 dX12_findName_22 rfl rfl ?_
      obtain ⟨x6, ex6, H⟩ := zbind H
      refine z_getI (pc := 23) dX12_findName_23 fd_X12_259 ex6 ?_
      obtain ⟨x7, ex7, H⟩ := zbind H
      refine z_laload (pc := 26) dX12_findName_26 ex7 ?_
      refine z_lcmp (pc := 27) dX12_findName_27 ?_
      refine z_if_ne (pc := 28) 35 dX12_findName_28 (by decide) (fun c8 => ?_) (fun c8 => ?_)
      · rw [if_neg c8] at H
        refine z_iload_n (pc := 35) 1 dX12_findName_35 rfl rfl ?_
        refine z_istore_n (pc := 36) (lv' := [(1, .int v1), (0, .ref v0), (2, .int v2)]) dX12_findName_36 rfl (by decide) rfl ?_
        refine z_iinc (pc := 37) (x' := v2 + 1) (lv' := [(2, .int (v2 + 1)), (1, .int v1), (0, .ref v0)]) 2 dX12_findName_37 rfl (by rfl) (by decide) rfl ?_
        refine z_goto (pc := 40) 4 dX12_findName_40 (by decide) ?_
        exact z_sub [2, 1, 0] rfl (ih v1 (v2 + 1) _ H KE)
      · rw [if_pos c8] at H
        refine z_iload_n (pc := 31) 2 dX12_findName_31 rfl rfl ?_
        refine z_goto (pc := 32) 36 dX12_findName_32 (by decide) ?_
        refine z_istore_n (pc := 36) (lv' := [(1, .int v2), (0, .ref v0), (2, .int v2)]) dX12_findName_36 rfl (by decide) rfl ?_
        refine z_iinc (pc := 37) (x' := v2 + 1) (lv' := [(2, .int (v2 + 1)), (1, .int v2), (0, .ref v0)]) 2 dX12_findName_37 rfl (by rfl) (by decide) rfl ?_
        refine z_goto (pc := 40) 4 dX12_findName_40 (by decide) ?_
        exact z_sub [2, 1, 0] rfl (ih v2 (v2 + 1) _ H KE)
def f_X12_findName (N : Nat) (v0 : Nat) (h : zH) : Option (Int32) := (f_X12_findName_L4 N v0 h N (-1) 0).bind fun m9 => some m9
set_option maxRecDepth 100000 in
set_option maxHeartbeats 4000000 in
theorem k_X12_findName {N : Nat} {v0 : Nat} {h : zH} {r : Int32} (H : f_X12_findName N v0 h = some r) : zOk 0 0 0 yX12_findName cX12_findName 3 (some .int) [.ref v0] h (some (.int r)) h := by
  refine zOk.of (by decide) (Nat.le_of_ble_eq_true rfl) ?_
  unfold f_X12_findName at H
  refine z_iconst (pc := 0) (x := (-1)) dX12_findName_0 zc_iconst_m1 ?_
  refine z_istore_n (pc := 1) (lv' := [(1, .int (-1)), (0, .ref v0)]) dX12_findName_1 rfl (by decide) rfl ?_
  refine z_iconst (pc := 2) (x := 0) dX12_findName_2 zc_iconst_0 ?_
  refine z_istore_n (pc := 3) (lv' := [(2, .int 0), (1, .int (-1)), (0, .ref v0)]) dX12_findName_3 rfl (by decide) rfl ?_
  obtain ⟨m9, em9, H⟩ := zbind H
  refine z_sub [2, 1, 0] rfl (s_X12_findName_L4 (by omega) N (-1) 0 _ em9 ?_)
  refine z_iload_n (pc := 43) 0 dX12_findName_43 rfl rfl ?_
  cases H
  exact z_ireturn rfl dX12_findName_44

theorem md_X12_takePart : zMd yX12_takePart cX12_takePart 5 1 none := ⟨zmw (zmt_7 _ (List.mem_of_getElem? (i := 138) rfl)) rfl, zmem 127 (by decide +kernel) rfl, by decide, by decide, by decide +kernel, by decide⟩
theorem ml_X12_345 : Cond.methodLink RX12 345 yX12_takePart ∈ zB := zmem 1686 (by decide +kernel) rfl
theorem im_X12_takePart : Cond.instanceMethod yX12_takePart ∈ zB := zmem 1688 (by decide +kernel) rfl
theorem se_X12_takePart : Cond.selects yX12_takePart.cls yX12_takePart yX12_takePart ∈ zB := zmem 75 (by decide +kernel) rfl
theorem md_X12_hasSign : zMd yX12_hasSign cX12_hasSign 3 1 (some .boolean) := ⟨zmw (zmt_7 _ (List.mem_of_getElem? (i := 150) rfl)) rfl, zmem 127 (by decide +kernel) rfl, by decide, by decide, by decide +kernel, by decide⟩
theorem ml_X12_339 : Cond.methodLink RX12 339 yX12_hasSign ∈ zB := zmem 1698 (by decide +kernel) rfl
theorem im_X12_hasSign : Cond.instanceMethod yX12_hasSign ∈ zB := zmem 1700 (by decide +kernel) rfl
theorem se_X12_hasSign : Cond.selects yX12_hasSign.cls yX12_hasSign yX12_hasSign ∈ zB := zmem 78 (by decide +kernel) rfl
theorem md_X12_emit : zMd yX12_emit cX12_emit 3 2 none := ⟨zmw (zmt_7 _ (List.mem_of_getElem? (i := 146) rfl)) rfl, zmem 127 (by decide +kernel) rfl, by decide, by decide, by decide +kernel, by decide⟩
theorem ml_X12_329 : Cond.methodLink RX12 329 yX12_emit ∈ zB := zmem 1694 (by decide +kernel) rfl
theorem im_X12_emit : Cond.instanceMethod yX12_emit ∈ zB := zmem 1696 (by decide +kernel) rfl
theorem se_X12_emit : Cond.selects yX12_emit.cls yX12_emit yX12_emit ∈ zB := zmem 77 (by decide +kernel) rfl
def f_X12_products_L5 (N : Nat) (tp : Nat → Int32 → zH → Option zH) (v0 : Nat) (v1 : Int32) : Nat → zH → Option (zH)
  | 0, _ => none
  | n + 1, h => zif (zob h v0 12) <| (f_X12_hasSign N v0 42 h).bind fun q4 => if q4.1 = 0 then (some q4.2) else (zif (zob q4.2 v0 12) <| (tp v0 v1 q4.2).bind fun h7 => zif (zob h7 v0 12) <| (f_X12_emit N v0 7 0 h7).bind fun h9 => f_X12_products_L5 N tp v0 v1 n h9)
set_option maxRecDepth 100000 in
set_option maxHeartbeats 4000000 in
theorem s_X12_products_L5 {d mc ms N D : Nat} {tp : Nat → Int32 → zH → Option zH} (Htp : ∀ v0 v1 h r, tp v0 v1 h = some r → zOk D 0 0 yX12_takePart cX12_takePart 5 none [.ref v0, .int v1] h none r) {vv : Option Value} {hh : zH} {v0 : Nat} {v1 : Int32} (hd0 : D + 2 ≤ d) : ∀ (n : Nat)  (h : zH) (m : zH), f_X12_products_L5 N tp v0 v1 n h = some m → (zW yX12_products cX12_products 2 none d mc ms 29 [] [] m vv hh) → zW yX12_products cX12_products 2 none d mc ms 5 [(0, .ref v0), (1, .int v1)] [] h vv hh := by
  intro n
  induction n with
  | zero =>
    intro  h m H
    cases H
  | succ n ih =>
    intro  h m H KE
    unfold f_X12_products_L5 at H
    refine z_aload_n (pc := 5) 0 dX12_products_5 rfl rfl ?_
    refine z_bipush (pc := 6) (x := 42) dX12_products_6 zc_bipush_42 ?_
    obtain ⟨z3, H⟩ := zifE H
    obtain ⟨q4, eq4, H⟩ := zbind H
    refine z_callV (pc := 8) (mc := mc) (ms := ms) (d' := 1) (mc' := 0) (ms' := 0) (rest := []) [.int 42] dX12_products_8 md_X12_hasSign ml_X12_339 im_X12_hasSign se_X12_hasSign rfl z3 rfl rfl (Nat.le_of_ble_eq_true rfl) (by omega) (k_X12_hasSign eq4) ?_
    refine z_if_eq (pc := 11) 29 dX12_products_11 (by decide) (fun c5 => ?_) (fun c5 => ?_)
    · rw [if_pos c5] at H
      cases H
      exact z_sub [] rfl (KE)
    · rw [if_neg c5] at H
      refine z_aload_n (pc := 14) 0 dX12_products_14 rfl rfl ?_
      refine z_iload_n (pc := 15) 1 dX12_products_15 rfl rfl ?_
      obtain ⟨z6, H⟩ := zifE H
      obtain ⟨h7, eh7, H⟩ := zbind H
      refine z_callV (pc := 16) (mc := mc) (ms := ms) (d' := D) (mc' := 0) (ms' := 0) (rest := []) [.int v1] dX12_products_16 md_X12_takePart ml_X12_345 im_X12_takePart se_X12_takePart rfl z6 rfl rfl (Nat.le_of_ble_eq_true rfl) (by omega) (Htp _ _ _ _ eh7) ?_
      refine z_aload_n (pc := 19) 0 dX12_products_19 rfl rfl ?_
      refine z_bipush (pc := 20) (x := 7) dX12_products_20 zc_bipush_7 ?_
      refine z_iconst (pc := 22) (x := 0) dX12_products_22 zc_iconst_0 ?_
      obtain ⟨z8, H⟩ := zifE H
      obtain ⟨h9, eh9, H⟩ := zbind H
      refine z_callV (pc := 23) (mc := mc) (ms := ms) (d' := 0) (mc' := 0) (ms' := 0) (rest := []) [.int 7, .int 0] dX12_products_23 md_X12_emit ml_X12_329 im_X12_emit se_X12_emit rfl z8 rfl rfl (Nat.le_of_ble_eq_true rfl) (by omega) (k_X12_emit eh9) ?_
      refine z_goto (pc := 26) 5 dX12_products_26 (by decide) ?_
      exact z_sub [0, 1] rfl (ih h9 _ H KE)
def f_X12_products (N : Nat) (tp : Nat → Int32 → zH → Option zH) (v0 : Nat) (v1 : Int32) (h : zH) : Option (zH) := zif (zob h v0 12) <| (tp v0 v1 h).bind fun h2 => (f_X12_products_L5 N tp v0 v1 N h2).bind fun m10 => some m10
set_option maxRecDepth 100000 in
set_option maxHeartbeats 4000000 in
theorem k_X12_products {N D : Nat} {tp : Nat → Int32 → zH → Option zH} (Htp : ∀ v0 v1 h r, tp v0 v1 h = some r → zOk D 0 0 yX12_takePart cX12_takePart 5 none [.ref v0, .int v1] h none r) {v0 : Nat} {v1 : Int32} {h : zH} {r : zH} (H : f_X12_products N tp v0 v1 h = some r) : zOk (D + 2) 0 0 yX12_products cX12_products 2 none [.ref v0, .int v1] h none r := by
  refine zOk.of (by decide) (Nat.le_of_ble_eq_true rfl) ?_
  unfold f_X12_products at H
  refine z_aload_n (pc := 0) 0 dX12_products_0 rfl rfl ?_
  refine z_iload_n (pc := 1) 1 dX12_products_1 rfl rfl ?_
  obtain ⟨z1, H⟩ := zifE H
  obtain ⟨h2, eh2, H⟩ := zbind H
  refine z_callV (pc := 2) (mc := 0) (ms := 0) (d' := D) (mc' := 0) (ms' := 0) (rest := []) [.int v1] dX12_products_2 md_X12_takePart ml_X12_345 im_X12_takePart se_X12_takePart rfl z1 rfl rfl (Nat.le_of_ble_eq_true rfl) (by omega) (Htp _ _ _ _ eh2) ?_
  obtain ⟨m10, em10, H⟩ := zbind H
  refine z_sub [0, 1] rfl (s_X12_products_L5 Htp (by omega) N h2 _ em10 ?_)
  cases H
  exact z_return rfl dX12_products_29

theorem md_X12_products : zMd yX12_products cX12_products 2 1 none := ⟨zmw (zmt_7 _ (List.mem_of_getElem? (i := 134) rfl)) rfl, zmem 127 (by decide +kernel) rfl, by decide, by decide, by decide +kernel, by decide⟩
theorem ml_X12_342 : Cond.methodLink RX12 342 yX12_products ∈ zB := zmem 1682 (by decide +kernel) rfl
theorem im_X12_products : Cond.instanceMethod yX12_products ∈ zB := zmem 1684 (by decide +kernel) rfl
theorem se_X12_products : Cond.selects yX12_products.cls yX12_products yX12_products ∈ zB := zmem 74 (by decide +kernel) rfl
def f_X12_sums_L5 (N : Nat) (tp : Nat → Int32 → zH → Option zH) (v0 : Nat) (v1 : Int32) : Nat → zH → Option (zH)
  | 0, _ => none
  | n + 1, h => zif (zob h v0 12) <| (f_X12_isSign N v0 43 h).bind fun q4 => (if q4 = 0 then (zif (zob h v0 12) <| (f_X12_isSign N v0 45 h).bind fun q9 => if q9 = 0 then ((some h).map .inr) else (some (.inl ()))) else (some (.inl ())) : Option ((Unit) ⊕ (zH))).bind fun m5 => zsum m5 fun s6 => zif (zob h v0 12) <| (f_X12_isSign N v0 43 h).bind fun q13 => (gI h v0 12 7).bind fun x14 => (pF h v0 12 7 (.int (x14 + 1))).bind fun h15 => zif (zob h15 v0 12) <| (f_X12_products N tp v0 v1 h15).bind fun h17 => (if q13 = 0 then (some 6) else (some 5) : Option (Int32)).bind fun m18 => zif (zob h17 v0 12) <| (f_X12_emit N v0 m18 0 h17).bind fun h21 => f_X12_sums_L5 N tp v0 v1 n h21
set_option maxRecDepth 100000 in
set_option maxHeartbeats 4000000 in
theorem s_X12_sums_L5 {d mc ms N D : Nat} {tp : Nat → Int32 → zH → Option zH} (Htp : ∀ v0 v1 h r, tp v0 v1 h = some r → zOk D 0 0 yX12_takePart cX12_takePart 5 none [.ref v0, .int v1] h none r) {vv : Option Value} {hh : zH} {v0 : Nat} {v1 : Int32} (hd0 : D + 3 ≤ d) : ∀ (n : Nat)  (h : zH) (m : zH), f_X12_sums_L5 N tp v0 v1 n h = some m → (zW yX12_sums cX12_sums 3 none d mc ms 63 [] [] m vv hh) → zW yX12_sums cX12_sums 3 none d mc ms 5 [(0, .ref v0), (1, .int v1)] [] h vv hh := by
  intro n
  induction n with
  | zero =>
    intro  h m H
    cases H
  | succ n ih =>
    intro  h m H KE
    unfold f_X12_sums_L5 at H
    refine z_aload_n (pc := 5) 0 dX12_sums_5 rfl rfl ?_
    refine z_bipush (pc := 6) (x := 43) dX12_sums_6 zc_bipush_43 ?_
    obtain ⟨z3, H⟩ := zifE H
    obtain ⟨q4, eq4, H⟩ := zbind H
    refine z_callV (pc := 8) (mc := mc) (ms := ms) (d' := 0) (mc' := 0) (ms' := 0) (rest := []) [.int 43] dX12_sums_8 md_X12_isSign ml_X12_265 im_X12_isSign se_X12_isSign rfl z3 rfl rfl (Nat.le_of_ble_eq_true rfl) (by omega) (k_X12_isSign eq4) ?_
    obtain ⟨m5, em5, H⟩ := zbind H
    have Jm5 : ∀ s6, m5 = .inl s6 → zW yX12_sums cX12_sums 3 none d mc ms 23 [(0, .ref v0), (1, .int v1)] [] h vv hh := by
      intro s6 e9
      subst e9
      have H := zsumL H
      refine z_aload_n (pc := 23) 0 dX12_sums_23 rfl rfl ?_
      refine z_bipush (pc := 24) (x := 43) dX12_sums_24 zc_bipush_43 ?_
      obtain ⟨z12, H⟩ := zifE H
      obtain ⟨q13, eq13, H⟩ := zbind H
      refine z_callV (pc := 26) (mc := mc) (ms := ms) (d' := 0) (mc' := 0) (ms' := 0) (rest := []) [.int 43] dX12_sums_26 md_X12_isSign ml_X12_265 im_X12_isSign se_X12_isSign rfl z12 rfl rfl (Nat.le_of_ble_eq_true rfl) (by omega) (k_X12_isSign eq13) ?_
      refine z_istore_n (pc := 29) (lv' := [(2, .int q13), (0, .ref v0), (1, .int v1)]) dX12_sums_29 rfl (by decide) rfl ?_
      refine z_aload_n (pc := 30) 1 dX12_sums_30 rfl rfl ?_
      refine z_dup (pc := 31) dX12_sums_31 rfl ?_
      obtain ⟨x14, ex14, H⟩ := zbind H
      refine z_getI (pc := 32) dX12_sums_32 fd_X12_259 ex14 ?_
      refine z_iconst (pc := 35) (x := 1) dX12_sums_35 zc_iconst_1 ?_
      refine z_iadd (pc := 36) dX12_sums_36 ?_
      obtain ⟨h15, eh15, H⟩ := zbind H
      refine z_put (pc := 37) dX12_sums_37 fd_X12_259 rfl rfl eh15 ?_
      refine z_aload_n (pc := 40) 1 dX12_sums_40 rfl rfl ?_
      refine z_iload_n (pc := 41) 2 dX12_sums_41 rfl rfl ?_
      obtain ⟨z16, H⟩ := zifE H
      obtain ⟨h17, eh17, H⟩ := zbind H
      refine z_callV (pc := 42) (mc := mc) (ms := ms) (d' := D + 2) (mc' := 0) (ms' := 0) (rest := []) [.int v1] dX12_sums_42 md_X12_products ml_X12_342 im_X12_products se_X12_products rfl z16 rfl rfl (Nat.le_of_ble_eq_true rfl) (by omega) (k_X12_products Htp eh17) ?_
      refine z_aload_n (pc := 45) 1 dX12_sums_45 rfl rfl ?_
      refine z_iload_n (pc := 46) 0 dX12_sums_46 rfl rfl ?_
      obtain ⟨m18, em18, H⟩ := zbind H
      have Jm18 : zW yX12_sums cX12_sums 3 none d mc ms 56 [(0, .ref v0), (1, .int v1)] [.int m18, .ref v0] h17 vv hh := by
        refine z_iconst (pc := 56) (x := 0) dX12_sums_56 zc_iconst_0 ?_
        obtain ⟨z20, H⟩ := zifE H
        obtain ⟨h21, eh21, H⟩ := zbind H
        refine z_callV (pc := 57) (mc := mc) (ms := ms) (d' := 0) (mc' := 0) (ms' := 0) (rest := []) [.int m18, .int 0] dX12_sums_57 md_X12_emit ml_X12_329 im_X12_emit se_X12_emit rfl z20 rfl rfl (Nat.le_of_ble_eq_true rfl) (by omega) (k_X12_emit eh21) ?_
        refine z_goto (pc := 60) 5 dX12_sums_60 (by decide) ?_
        exact z_sub [0, 1] rfl (ih h21 _ H KE)
      refine z_if_eq (pc := 47) 54 dX12_sums_47 (by decide) (fun c19 => ?_) (fun c19 => ?_)
      · rw [if_pos c19] at em18
        refine z_bipush (pc := 54) (x := 6) dX12_sums_54 zc_bipush_6 ?_
        cases em18
        exact z_sub [1, 2] rfl Jm18
      · rw [if_neg c19] at em18
        refine z_iconst (pc := 50) (x := 5) dX12_sums_50 zc_iconst_5 ?_
        refine z_goto (pc := 51) 56 dX12_sums_51 (by decide) ?_
        cases em18
        exact z_sub [1, 2] rfl Jm18
    refine z_if_ne (pc := 11) 23 dX12_sums_11 (by decide) (fun c7 => ?_) (fun c7 => ?_)
    · rw [if_neg c7] at em5
      cases em5
      exact z_sub [0, 1] rfl (Jm5 _ rfl)
    · rw [if_pos c7] at em5
      refine z_aload_n (pc := 14) 0 dX12_sums_14 rfl rfl ?_
      refine z_bipush (pc := 15) (x := 45) dX12_sums_15 zc_bipush_45 ?_
      obtain ⟨z8, em5⟩ := zifE em5
      obtain ⟨q9, eq9, em5⟩ := zbind em5
      refine z_callV (pc := 17) (mc := mc) (ms := ms) (d' := 0) (mc' := 0) (ms' := 0) (rest := []) [.int 45] dX12_sums_17 md_X12_isSign ml_X12_265 im_X12_isSign se_X12_isSign rfl z8 rfl rfl (Nat.le_of_ble_eq_true rfl) (by omega) (k_X12_isSign eq9) ?_
      refine z_if_eq (pc := 20) 63 dX12_sums_20 (by decide) (fun c10 => ?_) (fun c10 => ?_)
      · rw [if_pos c10] at em5
        obtain ⟨o11, H9, e9⟩ := zmapR em5
        subst e9
        have H9 := H9.trans (zsumR H)
        cases H9
        exact z_sub [] rfl (KE)
      · rw [if_neg c10] at em5
        cases em5
        exact z_sub [0, 1] rfl (Jm5 _ rfl)
def f_X12_sums (N : Nat) (tp : Nat → Int32 → zH → Option zH) (v0 : Nat) (v1 : Int32) (h : zH) : Option (zH) := zif (zob h v0 12) <| (f_X12_products N tp v0 v1 h).bind fun h2 => (f_X12_sums_L5 N tp v0 v1 N h2).bind fun m22 => some m22
set_option maxRecDepth 100000 in
set_option maxHeartbeats 4000000 in
theorem k_X12_sums {N D : Nat} {tp : Nat → Int32 → zH → Option zH} (Htp : ∀ v0 v1 h r, tp v0 v1 h = some r → zOk D 0 0 yX12_takePart cX12_takePart 5 none [.ref v0, .int v1] h none r) {v0 : Nat} {v1 : Int32} {h : zH} {r : zH} (H : f_X12_sums N tp v0 v1 h = some r) : zOk (D + 3) 0 0 yX12_sums cX12_sums 3 none [.ref v0, .int v1] h none r := by
  refine zOk.of (by decide) (Nat.le_of_ble_eq_true rfl) ?_
  unfold f_X12_sums at H
  refine z_aload_n (pc := 0) 0 dX12_sums_0 rfl rfl ?_
  refine z_iload_n (pc := 1) 1 dX12_sums_1 rfl rfl ?_
  obtain ⟨z1, H⟩ := zifE H
  obtain ⟨h2, eh2, H⟩ := zbind H
  refine z_callV (pc := 2) (mc := 0) (ms := 0) (d' := D + 2) (mc' := 0) (ms' := 0) (rest := []) [.int v1] dX12_sums_2 md_X12_products ml_X12_342 im_X12_products se_X12_products rfl z1 rfl rfl (Nat.le_of_ble_eq_true rfl) (by omega) (k_X12_products Htp eh2) ?_
  obtain ⟨m22, em22, H⟩ := zbind H
  refine z_sub [0, 1] rfl (s_X12_sums_L5 Htp (by omega) N h2 _ em22 ?_)
  cases H
  exact z_return rfl dX12_sums_63

theorem md_X12_sums : zMd yX12_sums cX12_sums 3 1 none := ⟨zmw (zmt_7 _ (List.mem_of_getElem? (i := 130) rfl)) rfl, zmem 127 (by decide +kernel) rfl, by decide, by decide, by decide +kernel, by decide⟩
theorem ml_X12_336 : Cond.methodLink RX12 336 yX12_sums ∈ zB := zmem 1678 (by decide +kernel) rfl
theorem im_X12_sums : Cond.instanceMethod yX12_sums ∈ zB := zmem 1680 (by decide +kernel) rfl
theorem se_X12_sums : Cond.selects yX12_sums.cls yX12_sums yX12_sums ∈ zB := zmem 73 (by decide +kernel) rfl
def f_X12_test (N : Nat) (tp : Nat → Int32 → zH → Option zH) (v0 : Nat) (v1 : Int32) (h : zH) : Option (zH) := zif (zob h v0 12) <| (f_X12_sums N tp v0 v1 h).bind fun h2 => zif (zob h2 v0 12) <| (f_X12_isSign N v0 60 h2).bind fun q4 => zif (zob h2 v0 12) <| (f_X12_hasSign N v0 60 h2).bind fun q6 => (if q6.1 = 0 then (zif (zob q6.2 v0 12) <| (f_X12_hasSign N v0 61 q6.2).bind fun q11 => if q11.1 = 0 then ((some q11.2).map .inr) else (some (.inl q11.2))) else (some (.inl q6.2)) : Option ((zH) ⊕ (zH))).bind fun m7 => zsum m7 fun s8 => zif (zob s8 v0 12) <| (f_X12_sums N tp v0 v1 s8).bind fun h15 => (if q4 = 0 then (some 9) else (some 8) : Option (Int32)).bind fun m16 => zif (zob h15 v0 12) <| (f_X12_emit N v0 m16 0 h15).bind fun h19 => some h19
set_option maxRecDepth 100000 in
set_option maxHeartbeats 4000000 in
theorem k_X12_test {N D : Nat} {tp : Nat → Int32 → zH → Option zH} (Htp : ∀ v0 v1 h r, tp v0 v1 h = some r → zOk D 0 0 yX12_takePart cX12_takePart 5 none [.ref v0, .int v1] h none r) {v0 : Nat} {v1 : Int32} {h : zH} {r : zH} (H : f_X12_test N tp v0 v1 h = some r) : zOk (D + 4) 0 0 yX12_test cX12_test 3 none [.ref v0, .int v1] h none r := by
  refine zOk.of (by decide) (Nat.le_of_ble_eq_true rfl) ?_
  unfold f_X12_test at H
  refine z_aload_n (pc := 0) 0 dX12_test_0 rfl rfl ?_
  refine z_iload_n (pc := 1) 1 dX12_test_1 rfl rfl ?_
  obtain ⟨z1, H⟩ := zifE H
  obtain ⟨h2, eh2, H⟩ := zbind H
  refine z_callV (pc := 2) (mc := 0) (ms := 0) (d' := D + 3) (mc' := 0) (ms' := 0) (rest := []) [.int v1] dX12_test_2 md_X12_sums ml_X12_336 im_X12_sums se_X12_sums rfl z1 rfl rfl (Nat.le_of_ble_eq_true rfl) (by omega) (k_X12_sums Htp eh2) ?_
  refine z_aload_n (pc := 5) 0 dX12_test_5 rfl rfl ?_
  refine z_bipush (pc := 6) (x := 60) dX12_test_6 zc_bipush_60 ?_
  obtain ⟨z3, H⟩ := zifE H
  obtain ⟨q4, eq4, H⟩ := zbind H
  refine z_callV (pc := 8) (mc := 0) (ms := 0) (d' := 0) (mc' := 0) (ms' := 0) (rest := []) [.int 60] dX12_test_8 md_X12_isSign ml_X12_265 im_X12_isSign se_X12_isSign rfl z3 rfl rfl (Nat.le_of_ble_eq_true rfl) (by omega) (k_X12_isSign eq4) ?_
  refine z_istore_n (pc := 11) (lv' := [(2, .int q4), (0, .ref v0), (1, .int v1)]) dX12_test_11 rfl (by decide) rfl ?_
  refine z_aload_n (pc := 12) 1 dX12_test_12 rfl rfl ?_
  refine z_bipush (pc := 13) (x := 60) dX12_test_13 zc_bipush_60 ?_
  obtain ⟨z5, H⟩ := zifE H
  obtain ⟨q6, eq6, H⟩ := zbind H
  refine z_callV (pc := 15) (mc := 0) (ms := 0) (d' := 1) (mc' := 0) (ms' := 0) (rest := []) [.int 60] dX12_test_15 md_X12_hasSign ml_X12_339 im_X12_hasSign se_X12_hasSign rfl z5 rfl rfl (Nat.le_of_ble_eq_true rfl) (by omega) (k_X12_hasSign eq6) ?_
  obtain ⟨m7, em7, H⟩ := zbind H
  have Jm7 : ∀ s8, m7 = .inl s8 → zW yX12_test cX12_test 3 none (D + 4) 0 0 30 [(0, .ref v0), (1, .int v1), (2, .int q4)] [] s8 none r := by
    intro s8 e9
    subst e9
    have H := zsumL H
    refine z_aload_n (pc := 30) 0 dX12_test_30 rfl rfl ?_
    refine z_iload_n (pc := 31) 1 dX12_test_31 rfl rfl ?_
    obtain ⟨z14, H⟩ := zifE H
    obtain ⟨h15, eh15, H⟩ := zbind H
    refine z_callV (pc := 32) (mc := 0) (ms := 0) (d' := D + 3) (mc' := 0) (ms' := 0) (rest := []) [.int v1] dX12_test_32 md_X12_sums ml_X12_336 im_X12_sums se_X12_sums rfl z14 rfl rfl (Nat.le_of_ble_eq_true rfl) (by omega) (k_X12_sums Htp eh15) ?_
    refine z_aload_n (pc := 35) 0 dX12_test_35 rfl rfl ?_
    refine z_iload_n (pc := 36) 2 dX12_test_36 rfl rfl ?_
    obtain ⟨m16, em16, H⟩ := zbind H
    have Jm16 : zW yX12_test cX12_test 3 none (D + 4) 0 0 47 [] [.int m16, .ref v0] h15 none r := by
      refine z_iconst (pc := 47) (x := 0) dX12_test_47 zc_iconst_0 ?_
      obtain ⟨z18, H⟩ := zifE H
      obtain ⟨h19, eh19, H⟩ := zbind H
      refine z_callV (pc := 48) (mc := 0) (ms := 0) (d' := 0) (mc' := 0) (ms' := 0) (rest := []) [.int m16, .int 0] dX12_test_48 md_X12_emit ml_X12_329 im_X12_emit se_X12_emit rfl z18 rfl rfl (Nat.le_of_ble_eq_true rfl) (by omega) (k_X12_emit eh19) ?_
      cases H
      exact z_return rfl dX12_test_51
    refine z_if_eq (pc := 37) 45 dX12_test_37 (by decide) (fun c17 => ?_) (fun c17 => ?_)
    · rw [if_pos c17] at em16
      refine z_bipush (pc := 45) (x := 9) dX12_test_45 zc_bipush_9 ?_
      cases em16
      exact z_sub [] rfl Jm16
    · rw [if_neg c17] at em16
      refine z_bipush (pc := 40) (x := 8) dX12_test_40 zc_bipush_8 ?_
      refine z_goto (pc := 42) 47 dX12_test_42 (by decide) ?_
      cases em16
      exact z_sub [] rfl Jm16
  refine z_if_ne (pc := 18) 30 dX12_test_18 (by decide) (fun c9 => ?_) (fun c9 => ?_)
  · rw [if_neg c9] at em7
    cases em7
    exact z_sub [1, 2, 0] rfl (Jm7 _ rfl)
  · rw [if_pos c9] at em7
    refine z_aload_n (pc := 21) 1 dX12_test_21 rfl rfl ?_
    refine z_bipush (pc := 22) (x := 61) dX12_test_22 zc_bipush_61 ?_
    obtain ⟨z10, em7⟩ := zifE em7
    obtain ⟨q11, eq11, em7⟩ := zbind em7
    refine z_callV (pc := 24) (mc := 0) (ms := 0) (d' := 1) (mc' := 0) (ms' := 0) (rest := []) [.int 61] dX12_test_24 md_X12_hasSign ml_X12_339 im_X12_hasSign se_X12_hasSign rfl z10 rfl rfl (Nat.le_of_ble_eq_true rfl) (by omega) (k_X12_hasSign eq11) ?_
    refine z_if_eq (pc := 27) 51 dX12_test_27 (by decide) (fun c12 => ?_) (fun c12 => ?_)
    · rw [if_pos c12] at em7
      obtain ⟨o13, H9, e9⟩ := zmapR em7
      subst e9
      have H9 := H9.trans (zsumR H)
      cases H9
      exact z_return rfl dX12_test_51
    · rw [if_neg c12] at em7
      cases em7
      exact z_sub [1, 2, 0] rfl (Jm7 _ rfl)

theorem md_X12_test : zMd yX12_test cX12_test 3 1 none := ⟨zmw (zmt_7 _ (List.mem_of_getElem? (i := 126) rfl)) rfl, zmem 127 (by decide +kernel) rfl, by decide, by decide, by decide +kernel, by decide⟩
theorem ml_X12_333 : Cond.methodLink RX12 333 yX12_test ∈ zB := zmem 1674 (by decide +kernel) rfl
theorem im_X12_test : Cond.instanceMethod yX12_test ∈ zB := zmem 1676 (by decide +kernel) rfl
theorem se_X12_test : Cond.selects yX12_test.cls yX12_test yX12_test ∈ zB := zmem 72 (by decide +kernel) rfl
def f_X12_all_L5 (N : Nat) (tp : Nat → Int32 → zH → Option zH) (v0 : Nat) (v1 : Int32) : Nat → zH → Option (zH)
  | 0, _ => none
  | n + 1, h => zif (zob h v0 12) <| (f_X12_isWord N v0 7 h).bind fun q4 => (if q4 = 0 then (zif (zob h v0 12) <| (f_X12_isWord N v0 8 h).bind fun q9 => if q9 = 0 then ((some h).map .inr) else (some (.inl ()))) else (some (.inl ())) : Option ((Unit) ⊕ (zH))).bind fun m5 => zsum m5 fun s6 => zif (zob h v0 12) <| (f_X12_isWord N v0 7 h).bind fun q13 => (gI h v0 12 7).bind fun x14 => (pF h v0 12 7 (.int (x14 + 1))).bind fun h15 => zif (zob h15 v0 12) <| (f_X12_test N tp v0 v1 h15).bind fun h17 => (if q13 = 0 then (some 11) else (some 10) : Option (Int32)).bind fun m18 => zif (zob h17 v0 12) <| (f_X12_emit N v0 m18 0 h17).bind fun h21 => f_X12_all_L5 N tp v0 v1 n h21
set_option maxRecDepth 100000 in
set_option maxHeartbeats 4000000 in
theorem s_X12_all_L5 {d mc ms N D : Nat} {tp : Nat → Int32 → zH → Option zH} (Htp : ∀ v0 v1 h r, tp v0 v1 h = some r → zOk D 0 0 yX12_takePart cX12_takePart 5 none [.ref v0, .int v1] h none r) {vv : Option Value} {hh : zH} {v0 : Nat} {v1 : Int32} (hd0 : D + 5 ≤ d) : ∀ (n : Nat)  (h : zH) (m : zH), f_X12_all_L5 N tp v0 v1 n h = some m → (zW yX12_all cX12_all 3 none d mc ms 64 [] [] m vv hh) → zW yX12_all cX12_all 3 none d mc ms 5 [(0, .ref v0), (1, .int v1)] [] h vv hh := by
  intro n
  induction n with
  | zero =>
    intro  h m H
    cases H
  | succ n ih =>
    intro  h m H KE
    unfold f_X12_all_L5 at H
    refine z_aload_n (pc := 5) 0 dX12_all_5 rfl rfl ?_
    refine z_bipush (pc := 6) (x := 7) dX12_all_6 zc_bipush_7 ?_
    obtain ⟨z3, H⟩ := zifE H
    obtain ⟨q4, eq4, H⟩ := zbind H
    refine z_callV (pc := 8) (mc := mc) (ms := ms) (d' := 0) (mc' := 0) (ms' := 0) (rest := []) [.int 7] dX12_all_8 md_X12_isWord ml_X12_272 im_X12_isWord se_X12_isWord rfl z3 rfl rfl (Nat.le_of_ble_eq_true rfl) (by omega) (k_X12_isWord eq4) ?_
    obtain ⟨m5, em5, H⟩ := zbind H
    have Jm5 : ∀ s6, m5 = .inl s6 → zW yX12_all cX12_all 3 none d mc ms 23 [(0, .ref v0), (1, .int v1)] [] h vv hh := by
      intro s6 e9
      subst e9
      have H := zsumL H
      refine z_aload_n (pc := 23) 0 dX12_all_23 rfl rfl ?_
      refine z_bipush (pc := 24) (x := 7) dX12_all_24 zc_bipush_7 ?_
      obtain ⟨z12, H⟩ := zifE H
      obtain ⟨q13, eq13, H⟩ := zbind H
      refine z_callV (pc := 26) (mc := mc) (ms := ms) (d' := 0) (mc' := 0) (ms' := 0) (rest := []) [.int 7] dX12_all_26 md_X12_isWord ml_X12_272 im_X12_isWord se_X12_isWord rfl z12 rfl rfl (Nat.le_of_ble_eq_true rfl) (by omega) (k_X12_isWord eq13) ?_
      refine z_istore_n (pc := 29) (lv' := [(2, .int q13), (0, .ref v0), (1, .int v1)]) dX12_all_29 rfl (by decide) rfl ?_
      refine z_aload_n (pc := 30) 1 dX12_all_30 rfl rfl ?_
      refine z_dup (pc := 31) dX12_all_31 rfl ?_
      obtain ⟨x14, ex14, H⟩ := zbind H
      refine z_getI (pc := 32) dX12_all_32 fd_X12_259 ex14 ?_
      refine z_iconst (pc := 35) (x := 1) dX12_all_35 zc_iconst_1 ?_
      refine z_iadd (pc := 36) dX12_all_36 ?_
      obtain ⟨h15, eh15, H⟩ := zbind H
      refine z_put (pc := 37) dX12_all_37 fd_X12_259 rfl rfl eh15 ?_
      refine z_aload_n (pc := 40) 1 dX12_all_40 rfl rfl ?_
      refine z_iload_n (pc := 41) 2 dX12_all_41 rfl rfl ?_
      obtain ⟨z16, H⟩ := zifE H
      obtain ⟨h17, eh17, H⟩ := zbind H
      refine z_callV (pc := 42) (mc := mc) (ms := ms) (d' := D + 4) (mc' := 0) (ms' := 0) (rest := []) [.int v1] dX12_all_42 md_X12_test ml_X12_333 im_X12_test se_X12_test rfl z16 rfl rfl (Nat.le_of_ble_eq_true rfl) (by omega) (k_X12_test Htp eh17) ?_
      refine z_aload_n (pc := 45) 1 dX12_all_45 rfl rfl ?_
      refine z_iload_n (pc := 46) 0 dX12_all_46 rfl rfl ?_
      obtain ⟨m18, em18, H⟩ := zbind H
      have Jm18 : zW yX12_all cX12_all 3 none d mc ms 57 [(0, .ref v0), (1, .int v1)] [.int m18, .ref v0] h17 vv hh := by
        refine z_iconst (pc := 57) (x := 0) dX12_all_57 zc_iconst_0 ?_
        obtain ⟨z20, H⟩ := zifE H
        obtain ⟨h21, eh21, H⟩ := zbind H
        refine z_callV (pc := 58) (mc := mc) (ms := ms) (d' := 0) (mc' := 0) (ms' := 0) (rest := []) [.int m18, .int 0] dX12_all_58 md_X12_emit ml_X12_329 im_X12_emit se_X12_emit rfl z20 rfl rfl (Nat.le_of_ble_eq_true rfl) (by omega) (k_X12_emit eh21) ?_
        refine z_goto (pc := 61) 5 dX12_all_61 (by decide) ?_
        exact z_sub [0, 1] rfl (ih h21 _ H KE)
      refine z_if_eq (pc := 47) 55 dX12_all_47 (by decide) (fun c19 => ?_) (fun c19 => ?_)
      · rw [if_pos c19] at em18
        refine z_bipush (pc := 55) (x := 11) dX12_all_55 zc_bipush_11 ?_
        cases em18
        exact z_sub [1, 2] rfl Jm18
      · rw [if_neg c19] at em18
        refine z_bipush (pc := 50) (x := 10) dX12_all_50 zc_bipush_10 ?_
        refine z_goto (pc := 52) 57 dX12_all_52 (by decide) ?_
        cases em18
        exact z_sub [1, 2] rfl Jm18
    refine z_if_ne (pc := 11) 23 dX12_all_11 (by decide) (fun c7 => ?_) (fun c7 => ?_)
    · rw [if_neg c7] at em5
      cases em5
      exact z_sub [0, 1] rfl (Jm5 _ rfl)
    · rw [if_pos c7] at em5
      refine z_aload_n (pc := 14) 0 dX12_all_14 rfl rfl ?_
      refine z_bipush (pc := 15) (x := 8) dX12_all_15 zc_bipush_8 ?_
      obtain ⟨z8, em5⟩ := zifE em5
      obtain ⟨q9, eq9, em5⟩ := zbind em5
      refine z_callV (pc := 17) (mc := mc) (ms := ms) (d' := 0) (mc' := 0) (ms' := 0) (rest := []) [.int 8] dX12_all_17 md_X12_isWord ml_X12_272 im_X12_isWord se_X12_isWord rfl z8 rfl rfl (Nat.le_of_ble_eq_true rfl) (by omega) (k_X12_isWord eq9) ?_
      refine z_if_eq (pc := 20) 64 dX12_all_20 (by decide) (fun c10 => ?_) (fun c10 => ?_)
      · rw [if_pos c10] at em5
        obtain ⟨o11, H9, e9⟩ := zmapR em5
        subst e9
        have H9 := H9.trans (zsumR H)
        cases H9
        exact z_sub [] rfl (KE)
      · rw [if_neg c10] at em5
        cases em5
        exact z_sub [0, 1] rfl (Jm5 _ rfl)
def f_X12_all (N : Nat) (tp : Nat → Int32 → zH → Option zH) (v0 : Nat) (v1 : Int32) (h : zH) : Option (zH) := zif (zob h v0 12) <| (f_X12_test N tp v0 v1 h).bind fun h2 => (f_X12_all_L5 N tp v0 v1 N h2).bind fun m22 => some m22
set_option maxRecDepth 100000 in
set_option maxHeartbeats 4000000 in
theorem k_X12_all {N D : Nat} {tp : Nat → Int32 → zH → Option zH} (Htp : ∀ v0 v1 h r, tp v0 v1 h = some r → zOk D 0 0 yX12_takePart cX12_takePart 5 none [.ref v0, .int v1] h none r) {v0 : Nat} {v1 : Int32} {h : zH} {r : zH} (H : f_X12_all N tp v0 v1 h = some r) : zOk (D + 5) 0 0 yX12_all cX12_all 3 none [.ref v0, .int v1] h none r := by
  refine zOk.of (by decide) (Nat.le_of_ble_eq_true rfl) ?_
  unfold f_X12_all at H
  refine z_aload_n (pc := 0) 0 dX12_all_0 rfl rfl ?_
  refine z_iload_n (pc := 1) 1 dX12_all_1 rfl rfl ?_
  obtain ⟨z1, H⟩ := zifE H
  obtain ⟨h2, eh2, H⟩ := zbind H
  refine z_callV (pc := 2) (mc := 0) (ms := 0) (d' := D + 4) (mc' := 0) (ms' := 0) (rest := []) [.int v1] dX12_all_2 md_X12_test ml_X12_333 im_X12_test se_X12_test rfl z1 rfl rfl (Nat.le_of_ble_eq_true rfl) (by omega) (k_X12_test Htp eh2) ?_
  obtain ⟨m22, em22, H⟩ := zbind H
  refine z_sub [0, 1] rfl (s_X12_all_L5 Htp (by omega) N h2 _ em22 ?_)
  cases H
  exact z_return rfl dX12_all_64

theorem md_X12_isName : zMd yX12_isName cX12_isName 3 0 (some .boolean) := ⟨zmw (zmt_7 _ (List.mem_of_getElem? (i := 102) rfl)) rfl, zmem 127 (by decide +kernel) rfl, by decide, by decide, by decide +kernel, by decide⟩
theorem ml_X12_319 : Cond.methodLink RX12 319 yX12_isName ∈ zB := zmem 1650 (by decide +kernel) rfl
theorem im_X12_isName : Cond.instanceMethod yX12_isName ∈ zB := zmem 1652 (by decide +kernel) rfl
theorem se_X12_isName : Cond.selects yX12_isName.cls yX12_isName yX12_isName ∈ zB := zmem 66 (by decide +kernel) rfl
theorem md_X12_findName : zMd yX12_findName cX12_findName 3 0 (some .int) := ⟨zmw (zmt_7 _ (List.mem_of_getElem? (i := 106) rfl)) rfl, zmem 127 (by decide +kernel) rfl, by decide, by decide, by decide +kernel, by decide⟩
theorem ml_X12_323 : Cond.methodLink RX12 323 yX12_findName ∈ zB := zmem 1654 (by decide +kernel) rfl
theorem im_X12_findName : Cond.instanceMethod yX12_findName ∈ zB := zmem 1656 (by decide +kernel) rfl
theorem se_X12_findName : Cond.selects yX12_findName.cls yX12_findName yX12_findName ∈ zB := zmem 67 (by decide +kernel) rfl
theorem md_X12_all : zMd yX12_all cX12_all 3 1 none := ⟨zmw (zmt_7 _ (List.mem_of_getElem? (i := 122) rfl)) rfl, zmem 127 (by decide +kernel) rfl, by decide, by decide, by decide +kernel, by decide⟩
theorem ml_X12_326 : Cond.methodLink RX12 326 yX12_all ∈ zB := zmem 1670 (by decide +kernel) rfl
theorem im_X12_all : Cond.instanceMethod yX12_all ∈ zB := zmem 1672 (by decide +kernel) rfl
theorem se_X12_all : Cond.selects yX12_all.cls yX12_all yX12_all ∈ zB := zmem 71 (by decide +kernel) rfl
theorem md_X12_takeSign : zMd yX12_takeSign cX12_takeSign 2 1 none := ⟨zmw (zmt_7 _ (List.mem_of_getElem? (i := 110) rfl)) rfl, zmem 127 (by decide +kernel) rfl, by decide, by decide, by decide +kernel, by decide⟩
theorem ml_X12_316 : Cond.methodLink RX12 316 yX12_takeSign ∈ zB := zmem 1658 (by decide +kernel) rfl
theorem im_X12_takeSign : Cond.instanceMethod yX12_takeSign ∈ zB := zmem 1660 (by decide +kernel) rfl
theorem se_X12_takeSign : Cond.selects yX12_takeSign.cls yX12_takeSign yX12_takeSign ∈ zB := zmem 68 (by decide +kernel) rfl
def f_X12_takePart_L13 (N : Nat) (v0 : Nat) (h : zH) : Nat → Int32 → Int32 → Option (Int32)
  | 0, _, _ => none
  | n + 1, v2, v3 => if 21 ≤ v3 then (some v2) else (zif (zob h v0 12) <| (f_X12_isWord N v0 v3 h).bind fun q5 => if q5 = 0 then (f_X12_takePart_L13 N v0 h n v2 (v3 + 1)) else (zlet (v3 - 10 : Int32) fun x7 => f_X12_takePart_L13 N v0 h n x7 (v3 + 1)))
set_option maxRecDepth 100000 in
set_option maxHeartbeats 4000000 in
theorem s_X12_takePart_L13 {d mc ms N : Nat} {vv : Option Value} {hh : zH} {v0 : Nat} {v1 : Int32} {h : zH} (hd0 : 2 ≤ d) : ∀ (n : Nat) (v2 : Int32) (v3 : Int32) (m : Int32), f_X12_takePart_L13 N v0 h n v2 v3 = some m → (zW yX12_takePart cX12_takePart 5 none d mc ms 42 [(0, .ref v0), (1, .int v1), (2, .int m)] [] h vv hh) → zW yX12_takePart cX12_takePart 5 none d mc ms 13 [(0, .ref v0), (1, .int v1), (2, .int v2), (3, .int v3)] [] h vv hh := by
  intro n
  induction n with
  | zero =>
    intro v2 v3 m H
    cases H
  | succ n ih =>
    intro v2 v3 m H KE
    unfold f_X12_takePart_L13 at H
    refine z_iload_n (pc := 13) 3 dX12_takePart_13 rfl rfl ?_
    refine z_bipush (pc := 14) (x := 21) dX12_takePart_14 zc_bipush_21 ?_
    refine z_icmp_ge (pc := 16) 42 dX12_takePart_16 (by decide) (fun c3 => ?_) (fun c3 => ?_)
    · rw [if_pos c3] at H
      cases H
      exact z_sub [0, 1, 2] rfl (KE)
    · rw [if_neg c3] at H
      refine z_aload_n (pc := 19) 0 dX12_takePart_19 rfl rfl ?_
      refine z_iload_n (pc := 20) 3 dX12_takePart_20 rfl rfl ?_
      obtain ⟨z4, H⟩ := zifE H
      obtain ⟨q5, eq5, H⟩ := zbind H
      refine z_callV (pc := 21) (mc := mc) (ms := ms) (d' := 0) (mc' := 0) (ms' := 0) (rest := []) [.int v3] dX12_takePart_21 md_X12_isWord ml_X12_272 im_X12_isWord se_X12_isWord rfl z4 rfl rfl (Nat.le_of_ble_eq_true rfl) (by omega) (k_X12_isWord eq5) ?_
      refine z_if_eq (pc := 24) 34 dX12_takePart_24 (by decide) (fun c6 => ?_) (fun c6 => ?_)
      · rw [if_pos c6] at H
        refine z_iload_n (pc := 34) 2 dX12_takePart_34 rfl rfl ?_
        refine z_istore_n (pc := 35) (lv' := [(2, .int v2), (0, .ref v0), (1, .int v1), (3, .int v3)]) dX12_takePart_35 rfl (by decide) rfl ?_
        refine z_iinc (pc := 36) (x' := v3 + 1) (lv' := [(3, .int (v3 + 1)), (2, .int v2), (0, .ref v0), (1, .int v1)]) 3 dX12_takePart_36 rfl (by rfl) (by decide) rfl ?_
        refine z_goto (pc := 39) 13 dX12_takePart_39 (by decide) ?_
        exact z_sub [2, 3, 1, 0] rfl (ih v2 (v3 + 1) _ H KE)
      · rw [if_neg c6] at H
        refine z_iload_n (pc := 27) 3 dX12_takePart_27 rfl rfl ?_
        refine z_bipush (pc := 28) (x := 10) dX12_takePart_28 zc_bipush_10 ?_
        refine z_isub (pc := 30) dX12_takePart_30 ?_
        refine z_goto (pc := 31) 35 dX12_takePart_31 (by decide) ?_
        obtain ⟨x7, ex7, H⟩ := zletE H
        refine z_nmI ex7 ?_
        refine z_istore_n (pc := 35) (lv' := [(2, .int x7), (0, .ref v0), (1, .int v1), (3, .int v3)]) dX12_takePart_35 rfl (by decide) rfl ?_
        refine z_iinc (pc := 36) (x' := v3 + 1) (lv' := [(3, .int (v3 + 1)), (2, .int x7), (0, .ref v0), (1, .int v1)]) 3 dX12_takePart_36 rfl (by rfl) (by decide) rfl ?_
        refine z_goto (pc := 39) 13 dX12_takePart_39 (by decide) ?_
        exact z_sub [2, 3, 1, 0] rfl (ih x7 (v3 + 1) _ H KE)
def f_X12_takePart (N : Nat) : Nat → Nat → Int32 → zH → Option (zH)
  | 0, _, _, _ => none
  | n + 1, v0, v1, h => (gI h v0 12 8).bind fun x1 => if x1 ≤ 0 then ((f_X12_takePart_L13 N v0 h N (-1) 10).bind fun m8 => (gR h v0 12 4).bind fun r9 => (gI h v0 12 7).bind fun x10 => (aI h r9 x10).bind fun x11 => (if x11 = 2 then (some 1) else (some 0) : Option (Int32)).bind fun m12 => zif (zob h v0 12) <| (f_X12_isName N v0 h).bind fun q15 => (if q15 = 0 then (some (-1)) else (zif (zob h v0 12) <| (f_X12_findName N v0 h).bind fun q19 => some q19) : Option (Int32)).bind fun m16 => (if 0 ≤ m8 then (zif (zob h v0 12) <| (f_X12_isName N v0 h).bind fun q23 => (if q23 = 0 then (some (.inl h)) else (if 0 ≤ m16 then (some (.inl h)) else (zif (zob h v0 12) <| (f_X12_wrong N v0 2 h).bind fun h29 => (some h29).map .inr)) : Option ((zH) ⊕ (zH))).bind fun m24 => zsum m24 fun s25 => if v1 = 4 then (zif (zob s25 v0 12) <| (f_X12_wrong N v0 5 s25).bind fun h33 => some h33) else (some s25)) else ((if m12 = 0 then (zif (zob h v0 12) <| (f_X12_isName N v0 h).bind fun q38 => if q38 = 0 then (zif (zob h v0 12) <| (f_X12_isSign N v0 40 h).bind fun q41 => if q41 = 0 then (zif (zob h v0 12) <| (f_X12_isWord N v0 9 h).bind fun q44 => if q44 = 0 then (zif (zob h v0 12) <| (f_X12_wrong N v0 1 h).bind fun h47 => (some h47).map .inr) else (some (.inl h))) else (some (.inl h))) else (some (.inl h))) else (some (.inl h)) : Option ((zH) ⊕ (zH))).bind fun m34 => zsum m34 fun s35 => zif (zob s35 v0 12) <| (f_X12_isName N v0 s35).bind fun q50 => (if q50 = 0 then (some (.inl s35)) else (if 0 ≤ m16 then (some (.inl s35)) else (zif (zob s35 v0 12) <| (f_X12_wrong N v0 2 s35).bind fun h56 => (some h56).map .inr)) : Option ((zH) ⊕ (zH))).bind fun m51 => zsum m51 fun s52 => if v1 = 4 then (zif (zob s52 v0 12) <| (f_X12_wrong N v0 5 s52).bind fun h60 => some h60) else (some s52)) : Option (zH)).bind fun m20 => (gI m20 v0 12 8).bind fun x61 => if x61 ≤ 0 then (zif (zob m20 v0 12) <| (f_X12_hasWord N v0 9 m20).bind fun q64 => if q64.1 = 0 then (zif (zob q64.2 v0 12) <| (f_X12_hasSign N v0 40 q64.2).bind fun q67 => if q67.1 = 0 then ((if m12 = 0 then (if m16 < 0 then (some 2) else (some 3)) else (some 1) : Option (Int32)).bind fun m69 => (if m12 = 0 then (if m16 < 0 then (some m8) else (some m16)) else ((gR q67.2 v0 12 6).bind fun r75 => (gI q67.2 v0 12 7).bind fun x76 => (aL q67.2 r75 x76).bind fun x77 => some (x77.toInt32)) : Option (Int32)).bind fun m72 => zif (zob q67.2 v0 12) <| (f_X12_emit N v0 m69 m72 q67.2).bind fun h79 => (gI h79 v0 12 7).bind fun x80 => (pF h79 v0 12 7 (.int (x80 + 1))).bind fun h81 => some h81) else (zif (zob q67.2 v0 12) <| (f_X12_all N (f_X12_takePart N n) v0 (v1 + 1) q67.2).bind fun h83 => zif (zob h83 v0 12) <| (f_X12_takeSign N v0 41 h83).bind fun h85 => some h85)) else (zif (zob q64.2 v0 12) <| (f_X12_takePart N n v0 (v1 + 1) q64.2).bind fun h87 => zif (zob h87 v0 12) <| (f_X12_emit N v0 4 0 h87).bind fun h89 => some h89)) else (some m20)) else (some h)
set_option maxRecDepth 100000 in
set_option maxHeartbeats 4000000 in
theorem k_X12_takePart {N : Nat} : ∀ (n : Nat) (v0 : Nat) (v1 : Int32) (h : zH) (r : zH), f_X12_takePart N n v0 v1 h = some r → zOk (n * 6 + 4) 0 0 yX12_takePart cX12_takePart 5 none [.ref v0, .int v1] h none r := by
  intro n
  induction n with
  | zero =>
    intro v0 v1 h r H
    cases H
  | succ n ih =>
    intro v0 v1 h r H
    refine zOk.of (by decide) (Nat.le_of_ble_eq_true rfl) ?_
    unfold f_X12_takePart at H
    refine z_aload_n (pc := 0) 0 dX12_takePart_0 rfl rfl ?_
    obtain ⟨x1, ex1, H⟩ := zbind H
    refine z_getI (pc := 1) dX12_takePart_1 fd_X12_262 ex1 ?_
    refine z_if_le (pc := 4) 8 dX12_takePart_4 (by decide) (fun c2 => ?_) (fun c2 => ?_)
    · rw [if_pos c2] at H
      refine z_iconst (pc := 8) (x := (-1)) dX12_takePart_8 zc_iconst_m1 ?_
      refine z_istore_n (pc := 9) (lv' := [(2, .int (-1)), (0, .ref v0), (1, .int v1)]) dX12_takePart_9 rfl (by decide) rfl ?_
      refine z_bipush (pc := 10) (x := 10) dX12_takePart_10 zc_bipush_10 ?_
      refine z_istore_n (pc := 12) (lv' := [(3, .int 10), (2, .int (-1)), (0, .ref v0), (1, .int v1)]) dX12_takePart_12 rfl (by decide) rfl ?_
      obtain ⟨m8, em8, H⟩ := zbind H
      refine z_sub [2, 3, 1, 0] rfl (s_X12_takePart_L13 (by omega) N (-1) 10 _ em8 ?_)
      refine z_aload_n (pc := 42) 0 dX12_takePart_42 rfl rfl ?_
      obtain ⟨r9, er9, H⟩ := zbind H
      refine z_getR (pc := 43) dX12_takePart_43 fd_X12_24 er9 ?_
      refine z_aload_n (pc := 46) 0 dX12_takePart_46 rfl rfl ?_
      obtain ⟨x10, ex10, H⟩ := zbind H
      refine z_getI (pc := 47) dX12_takePart_47 fd_X12_259 ex10 ?_
      obtain ⟨x11, ex11, H⟩ := zbind H
      refine z_iaload (pc := 50) dX12_takePart_50 ex11 ?_
      refine z_iconst (pc := 51) (x := 2) dX12_takePart_51 zc_iconst_2 ?_
      obtain ⟨m12, em12, H⟩ := zbind H
      have Jm12 : zW yX12_takePart cX12_takePart 5 none ((n + 1) * 6 + 4) 0 0 60 [(0, .ref v0), (1, .int v1), (2, .int m8)] [.int m12] h none r := by
        refine z_istore_n (pc := 60) (lv' := [(3, .int m12), (0, .ref v0), (1, .int v1), (2, .int m8)]) dX12_takePart_60 rfl (by decide) rfl ?_
        refine z_aload_n (pc := 61) 1 dX12_takePart_61 rfl rfl ?_
        obtain ⟨z14, H⟩ := zifE H
        obtain ⟨q15, eq15, H⟩ := zbind H
        refine z_callV (pc := 62) (mc := 0) (ms := 0) (d' := 0) (mc' := 0) (ms' := 0) (rest := []) [] dX12_takePart_62 md_X12_isName ml_X12_319 im_X12_isName se_X12_isName rfl z14 rfl rfl (Nat.le_of_ble_eq_true rfl) (by omega) (k_X12_isName eq15) ?_
        obtain ⟨m16, em16, H⟩ := zbind H
        have Jm16 : zW yX12_takePart cX12_takePart 5 none ((n + 1) * 6 + 4) 0 0 76 [(0, .ref v0), (1, .int v1), (2, .int m8), (3, .int m12)] [.int m16] h none r := by
          refine z_istore (pc := 76) (lv' := [(4, .int m16), (0, .ref v0), (1, .int v1), (2, .int m8), (3, .int m12)]) dX12_takePart_76 (by decide) rfl ?_
          refine z_iload_n (pc := 78) 3 dX12_takePart_78 rfl rfl ?_
          obtain ⟨m20, em20, H⟩ := zbind H
          have Jm20 : zW yX12_takePart cX12_takePart 5 none ((n + 1) * 6 + 4) 0 0 149 [(0, .ref v0), (1, .int v1), (2, .int m8), (3, .int m12), (4, .int m16)] [] m20 none r := by
            refine z_aload_n (pc := 149) 0 dX12_takePart_149 rfl rfl ?_
            obtain ⟨x61, ex61, H⟩ := zbind H
            refine z_getI (pc := 150) dX12_takePart_150 fd_X12_262 ex61 ?_
            refine z_if_le (pc := 153) 157 dX12_takePart_153 (by decide) (fun c62 => ?_) (fun c62 => ?_)
            · rw [if_pos c62] at H
              refine z_aload_n (pc := 157) 0 dX12_takePart_157 rfl rfl ?_
              refine z_bipush (pc := 158) (x := 9) dX12_takePart_158 zc_bipush_9 ?_
              obtain ⟨z63, H⟩ := zifE H
              obtain ⟨q64, eq64, H⟩ := zbind H
              refine z_callV (pc := 160) (mc := 0) (ms := 0) (d' := 1) (mc' := 0) (ms' := 0) (rest := []) [.int 9] dX12_takePart_160 md_X12_hasWord ml_X12_275 im_X12_hasWord se_X12_hasWord rfl z63 rfl rfl (Nat.le_of_ble_eq_true rfl) (by omega) (k_X12_hasWord eq64) ?_
              refine z_if_eq (pc := 163) 182 dX12_takePart_163 (by decide) (fun c65 => ?_) (fun c65 => ?_)
              · rw [if_pos c65] at H
                refine z_aload_n (pc := 182) 0 dX12_takePart_182 rfl rfl ?_
                refine z_bipush (pc := 183) (x := 40) dX12_takePart_183 zc_bipush_40 ?_
                obtain ⟨z66, H⟩ := zifE H
                obtain ⟨q67, eq67, H⟩ := zbind H
                refine z_callV (pc := 185) (mc := 0) (ms := 0) (d' := 1) (mc' := 0) (ms' := 0) (rest := []) [.int 40] dX12_takePart_185 md_X12_hasSign ml_X12_339 im_X12_hasSign se_X12_hasSign rfl z66 rfl rfl (Nat.le_of_ble_eq_true rfl) (by omega) (k_X12_hasSign eq67) ?_
                refine z_if_eq (pc := 188) 207 dX12_takePart_188 (by decide) (fun c68 => ?_) (fun c68 => ?_)
                · rw [if_pos c68] at H
                  refine z_aload_n (pc := 207) 0 dX12_takePart_207 rfl rfl ?_
                  refine z_iload_n (pc := 208) 3 dX12_takePart_208 rfl rfl ?_
                  obtain ⟨m69, em69, H⟩ := zbind H
                  have Jm69 : zW yX12_takePart cX12_takePart 5 none ((n + 1) * 6 + 4) 0 0 226 [(0, .ref v0), (2, .int m8), (3, .int m12), (4, .int m16)] [.int m69, .ref v0] q67.2 none r := by
                    refine z_iload_n (pc := 226) 2 dX12_takePart_226 rfl rfl ?_
                    obtain ⟨m72, em72, H⟩ := zbind H
                    have Jm72 : zW yX12_takePart cX12_takePart 5 none ((n + 1) * 6 + 4) 0 0 254 [(0, .ref v0)] [.int m72, .int m69, .ref v0] q67.2 none r := by
                      obtain ⟨z78, H⟩ := zifE H
                      obtain ⟨h79, eh79, H⟩ := zbind H
                      refine z_callV (pc := 254) (mc := 0) (ms := 0) (d' := 0) (mc' := 0) (ms' := 0) (rest := []) [.int m69, .int m72] dX12_takePart_254 md_X12_emit ml_X12_329 im_X12_emit se_X12_emit rfl z78 rfl rfl (Nat.le_of_ble_eq_true rfl) (by omega) (k_X12_emit eh79) ?_
                      refine z_aload_n (pc := 257) 0 dX12_takePart_257 rfl rfl ?_
                      refine z_dup (pc := 258) dX12_takePart_258 rfl ?_
                      obtain ⟨x80, ex80, H⟩ := zbind H
                      refine z_getI (pc := 259) dX12_takePart_259 fd_X12_259 ex80 ?_
                      refine z_iconst (pc := 262) (x := 1) dX12_takePart_262 zc_iconst_1 ?_
                      refine z_iadd (pc := 263) dX12_takePart_263 ?_
                      obtain ⟨h81, eh81, H⟩ := zbind H
                      refine z_put (pc := 264) dX12_takePart_264 fd_X12_259 rfl rfl eh81 ?_
                      cases H
                      exact z_return rfl dX12_takePart_267
                    refine z_if_eq (pc := 227) 243 dX12_takePart_227 (by decide) (fun c73 => ?_) (fun c73 => ?_)
                    · rw [if_pos c73] at em72
                      refine z_iload (pc := 243) 3 dX12_takePart_243 rfl ?_
                      refine z_if_lt (pc := 245) 253 dX12_takePart_245 (by decide) (fun c74 => ?_) (fun c74 => ?_)
                      · rw [if_pos c74] at em72
                        refine z_iload_n (pc := 253) 1 dX12_takePart_253 rfl rfl ?_
                        cases em72
                        exact z_sub [0] rfl Jm72
                      · rw [if_neg c74] at em72
                        refine z_iload (pc := 248) 3 dX12_takePart_248 rfl ?_
                        refine z_goto (pc := 250) 254 dX12_takePart_250 (by decide) ?_
                        cases em72
                        exact z_sub [0] rfl Jm72
                    · rw [if_neg c73] at em72
                      refine z_aload_n (pc := 230) 0 dX12_takePart_230 rfl rfl ?_
                      obtain ⟨r75, er75, em72⟩ := zbind em72
                      refine z_getR (pc := 231) dX12_takePart_231 fd_X12_30 er75 ?_
                      refine z_aload_n (pc := 234) 0 dX12_takePart_234 rfl rfl ?_
                      obtain ⟨x76, ex76, em72⟩ := zbind em72
                      refine z_getI (pc := 235) dX12_takePart_235 fd_X12_259 ex76 ?_
                      obtain ⟨x77, ex77, em72⟩ := zbind em72
                      refine z_laload (pc := 238) dX12_takePart_238 ex77 ?_
                      refine z_l2i (pc := 239) dX12_takePart_239 ?_
                      refine z_goto (pc := 240) 254 dX12_takePart_240 (by decide) ?_
                      cases em72
                      exact z_sub [0] rfl Jm72
                  refine z_if_eq (pc := 209) 216 dX12_takePart_209 (by decide) (fun c70 => ?_) (fun c70 => ?_)
                  · rw [if_pos c70] at em69
                    refine z_iload (pc := 216) 4 dX12_takePart_216 rfl ?_
                    refine z_if_lt (pc := 218) 225 dX12_takePart_218 (by decide) (fun c71 => ?_) (fun c71 => ?_)
                    · rw [if_pos c71] at em69
                      refine z_iconst (pc := 225) (x := 2) dX12_takePart_225 zc_iconst_2 ?_
                      cases em69
                      exact z_sub [0, 2, 3, 4] rfl Jm69
                    · rw [if_neg c71] at em69
                      refine z_iconst (pc := 221) (x := 3) dX12_takePart_221 zc_iconst_3 ?_
                      refine z_goto (pc := 222) 226 dX12_takePart_222 (by decide) ?_
                      cases em69
                      exact z_sub [0, 2, 3, 4] rfl Jm69
                  · rw [if_neg c70] at em69
                    refine z_iconst (pc := 212) (x := 1) dX12_takePart_212 zc_iconst_1 ?_
                    refine z_goto (pc := 213) 226 dX12_takePart_213 (by decide) ?_
                    cases em69
                    exact z_sub [0, 2, 3, 4] rfl Jm69
                · rw [if_neg c68] at H
                  refine z_aload_n (pc := 191) 0 dX12_takePart_191 rfl rfl ?_
                  refine z_iload_n (pc := 192) 1 dX12_takePart_192 rfl rfl ?_
                  refine z_iconst (pc := 193) (x := 1) dX12_takePart_193 zc_iconst_1 ?_
                  refine z_iadd (pc := 194) dX12_takePart_194 ?_
                  obtain ⟨z82, H⟩ := zifE H
                  obtain ⟨h83, eh83, H⟩ := zbind H
                  refine z_callV (pc := 195) (mc := 0) (ms := 0) (d' := n * 6 + 4 + 5) (mc' := 0) (ms' := 0) (rest := []) [.int (v1 + 1)] dX12_takePart_195 md_X12_all ml_X12_326 im_X12_all se_X12_all rfl z82 rfl rfl (Nat.le_of_ble_eq_true rfl) (by omega) (k_X12_all (fun v0 v1 h r e9 => ih v0 v1 h r e9) eh83) ?_
                  refine z_aload_n (pc := 198) 0 dX12_takePart_198 rfl rfl ?_
                  refine z_bipush (pc := 199) (x := 41) dX12_takePart_199 zc_bipush_41 ?_
                  obtain ⟨z84, H⟩ := zifE H
                  obtain ⟨h85, eh85, H⟩ := zbind H
                  refine z_callV (pc := 201) (mc := 0) (ms := 0) (d' := 1) (mc' := 0) (ms' := 0) (rest := []) [.int 41] dX12_takePart_201 md_X12_takeSign ml_X12_316 im_X12_takeSign se_X12_takeSign rfl z84 rfl rfl (Nat.le_of_ble_eq_true rfl) (by omega) (k_X12_takeSign eh85) ?_
                  refine z_goto (pc := 204) 267 dX12_takePart_204 (by decide) ?_
                  cases H
                  exact z_return rfl dX12_takePart_267
              · rw [if_neg c65] at H
                refine z_aload_n (pc := 166) 0 dX12_takePart_166 rfl rfl ?_
                refine z_iload_n (pc := 167) 1 dX12_takePart_167 rfl rfl ?_
                refine z_iconst (pc := 168) (x := 1) dX12_takePart_168 zc_iconst_1 ?_
                refine z_iadd (pc := 169) dX12_takePart_169 ?_
                obtain ⟨z86, H⟩ := zifE H
                obtain ⟨h87, eh87, H⟩ := zbind H
                refine z_callV (pc := 170) (mc := 0) (ms := 0) (d' := n * 6 + 4) (mc' := 0) (ms' := 0) (rest := []) [.int (v1 + 1)] dX12_takePart_170 md_X12_takePart ml_X12_345 im_X12_takePart se_X12_takePart rfl z86 rfl rfl (Nat.le_of_ble_eq_true rfl) (by omega) (ih _ _ _ _ eh87) ?_
                refine z_aload_n (pc := 173) 0 dX12_takePart_173 rfl rfl ?_
                refine z_iconst (pc := 174) (x := 4) dX12_takePart_174 zc_iconst_4 ?_
                refine z_iconst (pc := 175) (x := 0) dX12_takePart_175 zc_iconst_0 ?_
                obtain ⟨z88, H⟩ := zifE H
                obtain ⟨h89, eh89, H⟩ := zbind H
                refine z_callV (pc := 176) (mc := 0) (ms := 0) (d' := 0) (mc' := 0) (ms' := 0) (rest := []) [.int 4, .int 0] dX12_takePart_176 md_X12_emit ml_X12_329 im_X12_emit se_X12_emit rfl z88 rfl rfl (Nat.le_of_ble_eq_true rfl) (by omega) (k_X12_emit eh89) ?_
                refine z_goto (pc := 179) 267 dX12_takePart_179 (by decide) ?_
                cases H
                exact z_return rfl dX12_takePart_267
            · rw [if_neg c62] at H
              cases H
              exact z_return rfl dX12_takePart_156
          refine z_if_ge (pc := 79) 119 dX12_takePart_79 (by decide) (fun c21 => ?_) (fun c21 => ?_)
          · rw [if_pos c21] at em20
            refine z_aload_n (pc := 119) 1 dX12_takePart_119 rfl rfl ?_
            obtain ⟨z22, em20⟩ := zifE em20
            obtain ⟨q23, eq23, em20⟩ := zbind em20
            refine z_callV (pc := 120) (mc := 0) (ms := 0) (d' := 0) (mc' := 0) (ms' := 0) (rest := []) [] dX12_takePart_120 md_X12_isName ml_X12_319 im_X12_isName se_X12_isName rfl z22 rfl rfl (Nat.le_of_ble_eq_true rfl) (by omega) (k_X12_isName eq23) ?_
            obtain ⟨m24, em24, em20⟩ := zbind em20
            have Jm24 : ∀ s25, m24 = .inl s25 → zW yX12_takePart cX12_takePart 5 none ((n + 1) * 6 + 4) 0 0 139 [(0, .ref v0), (1, .int v1), (2, .int m8), (3, .int m12), (4, .int m16)] [] s25 none r := by
              intro s25 e9
              subst e9
              have em20 := zsumL em20
              refine z_iload_n (pc := 139) 1 dX12_takePart_139 rfl rfl ?_
              refine z_iconst (pc := 140) (x := 4) dX12_takePart_140 zc_iconst_4 ?_
              refine z_icmp_ne (pc := 141) 149 dX12_takePart_141 (by decide) (fun c31 => ?_) (fun c31 => ?_)
              · rw [if_neg c31] at em20
                cases em20
                exact z_sub [0, 1, 2, 3, 4] rfl Jm20
              · rw [if_pos c31] at em20
                refine z_aload_n (pc := 144) 0 dX12_takePart_144 rfl rfl ?_
                refine z_iconst (pc := 145) (x := 5) dX12_takePart_145 zc_iconst_5 ?_
                obtain ⟨z32, em20⟩ := zifE em20
                obtain ⟨h33, eh33, em20⟩ := zbind em20
                refine z_callV (pc := 146) (mc := 0) (ms := 0) (d' := 0) (mc' := 0) (ms' := 0) (rest := []) [.int 5] dX12_takePart_146 md_X12_wrong ml_X12_268 im_X12_wrong se_X12_wrong rfl z32 rfl rfl (Nat.le_of_ble_eq_true rfl) (by omega) (k_X12_wrong eh33) ?_
                cases em20
                exact z_sub [0, 1, 2, 3, 4] rfl Jm20
            refine z_if_eq (pc := 123) 139 dX12_takePart_123 (by decide) (fun c26 => ?_) (fun c26 => ?_)
            · rw [if_pos c26] at em24
              cases em24
              exact z_sub [1, 2, 3, 4, 0] rfl (Jm24 _ rfl)
            · rw [if_neg c26] at em24
              refine z_iload (pc := 126) 0 dX12_takePart_126 rfl ?_
              refine z_if_ge (pc := 128) 139 dX12_takePart_128 (by decide) (fun c27 => ?_) (fun c27 => ?_)
              · rw [if_pos c27] at em24
                cases em24
                exact z_sub [1, 2, 3, 4, 0] rfl (Jm24 _ rfl)
              · rw [if_neg c27] at em24
                refine z_aload_n (pc := 131) 1 dX12_takePart_131 rfl rfl ?_
                refine z_iconst (pc := 132) (x := 2) dX12_takePart_132 zc_iconst_2 ?_
                obtain ⟨z28, em24⟩ := zifE em24
                obtain ⟨h29, eh29, em24⟩ := zbind em24
                refine z_callV (pc := 133) (mc := 0) (ms := 0) (d' := 0) (mc' := 0) (ms' := 0) (rest := []) [.int 2] dX12_takePart_133 md_X12_wrong ml_X12_268 im_X12_wrong se_X12_wrong rfl z28 rfl rfl (Nat.le_of_ble_eq_true rfl) (by omega) (k_X12_wrong eh29) ?_
                refine z_goto (pc := 136) 149 dX12_takePart_136 (by decide) ?_
                obtain ⟨o30, H9, e9⟩ := zmapR em24
                subst e9
                have H9 := H9.trans (zsumR em20)
                cases H9
                exact z_sub [1, 2, 3, 4, 0] rfl Jm20
          · rw [if_neg c21] at em20
            refine z_iload_n (pc := 82) 4 dX12_takePart_82 rfl rfl ?_
            obtain ⟨m34, em34, em20⟩ := zbind em20
            have Jm34 : ∀ s35, m34 = .inl s35 → zW yX12_takePart cX12_takePart 5 none ((n + 1) * 6 + 4) 0 0 119 [(0, .ref v0), (1, .int v1), (2, .int m8), (3, .int m12), (4, .int m16)] [] s35 none r := by
              intro s35 e9
              subst e9
              have em20 := zsumL em20
              refine z_aload_n (pc := 119) 0 dX12_takePart_119 rfl rfl ?_
              obtain ⟨z49, em20⟩ := zifE em20
              obtain ⟨q50, eq50, em20⟩ := zbind em20
              refine z_callV (pc := 120) (mc := 0) (ms := 0) (d' := 0) (mc' := 0) (ms' := 0) (rest := []) [] dX12_takePart_120 md_X12_isName ml_X12_319 im_X12_isName se_X12_isName rfl z49 rfl rfl (Nat.le_of_ble_eq_true rfl) (by omega) (k_X12_isName eq50) ?_
              obtain ⟨m51, em51, em20⟩ := zbind em20
              have Jm51 : ∀ s52, m51 = .inl s52 → zW yX12_takePart cX12_takePart 5 none ((n + 1) * 6 + 4) 0 0 139 [(0, .ref v0), (1, .int v1), (2, .int m8), (3, .int m12), (4, .int m16)] [] s52 none r := by
                intro s52 e9
                subst e9
                have em20 := zsumL em20
                refine z_iload_n (pc := 139) 1 dX12_takePart_139 rfl rfl ?_
                refine z_iconst (pc := 140) (x := 4) dX12_takePart_140 zc_iconst_4 ?_
                refine z_icmp_ne (pc := 141) 149 dX12_takePart_141 (by decide) (fun c58 => ?_) (fun c58 => ?_)
                · rw [if_neg c58] at em20
                  cases em20
                  exact z_sub [0, 1, 2, 3, 4] rfl Jm20
                · rw [if_pos c58] at em20
                  refine z_aload_n (pc := 144) 0 dX12_takePart_144 rfl rfl ?_
                  refine z_iconst (pc := 145) (x := 5) dX12_takePart_145 zc_iconst_5 ?_
                  obtain ⟨z59, em20⟩ := zifE em20
                  obtain ⟨h60, eh60, em20⟩ := zbind em20
                  refine z_callV (pc := 146) (mc := 0) (ms := 0) (d' := 0) (mc' := 0) (ms' := 0) (rest := []) [.int 5] dX12_takePart_146 md_X12_wrong ml_X12_268 im_X12_wrong se_X12_wrong rfl z59 rfl rfl (Nat.le_of_ble_eq_true rfl) (by omega) (k_X12_wrong eh60) ?_
                  cases em20
                  exact z_sub [0, 1, 2, 3, 4] rfl Jm20
              refine z_if_eq (pc := 123) 139 dX12_takePart_123 (by decide) (fun c53 => ?_) (fun c53 => ?_)
              · rw [if_pos c53] at em51
                cases em51
                exact z_sub [0, 1, 2, 3, 4] rfl (Jm51 _ rfl)
              · rw [if_neg c53] at em51
                refine z_iload (pc := 126) 4 dX12_takePart_126 rfl ?_
                refine z_if_ge (pc := 128) 139 dX12_takePart_128 (by decide) (fun c54 => ?_) (fun c54 => ?_)
                · rw [if_pos c54] at em51
                  cases em51
                  exact z_sub [0, 1, 2, 3, 4] rfl (Jm51 _ rfl)
                · rw [if_neg c54] at em51
                  refine z_aload_n (pc := 131) 0 dX12_takePart_131 rfl rfl ?_
                  refine z_iconst (pc := 132) (x := 2) dX12_takePart_132 zc_iconst_2 ?_
                  obtain ⟨z55, em51⟩ := zifE em51
                  obtain ⟨h56, eh56, em51⟩ := zbind em51
                  refine z_callV (pc := 133) (mc := 0) (ms := 0) (d' := 0) (mc' := 0) (ms' := 0) (rest := []) [.int 2] dX12_takePart_133 md_X12_wrong ml_X12_268 im_X12_wrong se_X12_wrong rfl z55 rfl rfl (Nat.le_of_ble_eq_true rfl) (by omega) (k_X12_wrong eh56) ?_
                  refine z_goto (pc := 136) 149 dX12_takePart_136 (by decide) ?_
                  obtain ⟨o57, H9, e9⟩ := zmapR em51
                  subst e9
                  have H9 := H9.trans (zsumR em20)
                  cases H9
                  exact z_sub [0, 1, 2, 3, 4] rfl Jm20
            refine z_if_ne (pc := 83) 119 dX12_takePart_83 (by decide) (fun c36 => ?_) (fun c36 => ?_)
            · rw [if_neg c36] at em34
              cases em34
              exact z_sub [1, 2, 3, 4, 0] rfl (Jm34 _ rfl)
            · rw [if_pos c36] at em34
              refine z_aload_n (pc := 86) 1 dX12_takePart_86 rfl rfl ?_
              obtain ⟨z37, em34⟩ := zifE em34
              obtain ⟨q38, eq38, em34⟩ := zbind em34
              refine z_callV (pc := 87) (mc := 0) (ms := 0) (d' := 0) (mc' := 0) (ms' := 0) (rest := []) [] dX12_takePart_87 md_X12_isName ml_X12_319 im_X12_isName se_X12_isName rfl z37 rfl rfl (Nat.le_of_ble_eq_true rfl) (by omega) (k_X12_isName eq38) ?_
              refine z_if_ne (pc := 90) 119 dX12_takePart_90 (by decide) (fun c39 => ?_) (fun c39 => ?_)
              · rw [if_neg c39] at em34
                cases em34
                exact z_sub [1, 2, 3, 4, 0] rfl (Jm34 _ rfl)
              · rw [if_pos c39] at em34
                refine z_aload_n (pc := 93) 1 dX12_takePart_93 rfl rfl ?_
                refine z_bipush (pc := 94) (x := 40) dX12_takePart_94 zc_bipush_40 ?_
                obtain ⟨z40, em34⟩ := zifE em34
                obtain ⟨q41, eq41, em34⟩ := zbind em34
                refine z_callV (pc := 96) (mc := 0) (ms := 0) (d' := 0) (mc' := 0) (ms' := 0) (rest := []) [.int 40] dX12_takePart_96 md_X12_isSign ml_X12_265 im_X12_isSign se_X12_isSign rfl z40 rfl rfl (Nat.le_of_ble_eq_true rfl) (by omega) (k_X12_isSign eq41) ?_
                refine z_if_ne (pc := 99) 119 dX12_takePart_99 (by decide) (fun c42 => ?_) (fun c42 => ?_)
                · rw [if_neg c42] at em34
                  cases em34
                  exact z_sub [1, 2, 3, 4, 0] rfl (Jm34 _ rfl)
                · rw [if_pos c42] at em34
                  refine z_aload_n (pc := 102) 1 dX12_takePart_102 rfl rfl ?_
                  refine z_bipush (pc := 103) (x := 9) dX12_takePart_103 zc_bipush_9 ?_
                  obtain ⟨z43, em34⟩ := zifE em34
                  obtain ⟨q44, eq44, em34⟩ := zbind em34
                  refine z_callV (pc := 105) (mc := 0) (ms := 0) (d' := 0) (mc' := 0) (ms' := 0) (rest := []) [.int 9] dX12_takePart_105 md_X12_isWord ml_X12_272 im_X12_isWord se_X12_isWord rfl z43 rfl rfl (Nat.le_of_ble_eq_true rfl) (by omega) (k_X12_isWord eq44) ?_
                  refine z_if_ne (pc := 108) 119 dX12_takePart_108 (by decide) (fun c45 => ?_) (fun c45 => ?_)
                  · rw [if_neg c45] at em34
                    cases em34
                    exact z_sub [1, 2, 3, 4, 0] rfl (Jm34 _ rfl)
                  · rw [if_pos c45] at em34
                    refine z_aload_n (pc := 111) 1 dX12_takePart_111 rfl rfl ?_
                    refine z_iconst (pc := 112) (x := 1) dX12_takePart_112 zc_iconst_1 ?_
                    obtain ⟨z46, em34⟩ := zifE em34
                    obtain ⟨h47, eh47, em34⟩ := zbind em34
                    refine z_callV (pc := 113) (mc := 0) (ms := 0) (d' := 0) (mc' := 0) (ms' := 0) (rest := []) [.int 1] dX12_takePart_113 md_X12_wrong ml_X12_268 im_X12_wrong se_X12_wrong rfl z46 rfl rfl (Nat.le_of_ble_eq_true rfl) (by omega) (k_X12_wrong eh47) ?_
                    refine z_goto (pc := 116) 149 dX12_takePart_116 (by decide) ?_
                    obtain ⟨o48, H9, e9⟩ := zmapR em34
                    subst e9
                    have H9 := H9.trans (zsumR em20)
                    cases H9
                    exact z_sub [1, 2, 3, 4, 0] rfl Jm20
        refine z_if_eq (pc := 65) 75 dX12_takePart_65 (by decide) (fun c17 => ?_) (fun c17 => ?_)
        · rw [if_pos c17] at em16
          refine z_iconst (pc := 75) (x := (-1)) dX12_takePart_75 zc_iconst_m1 ?_
          cases em16
          exact z_sub [1, 2, 3, 0] rfl Jm16
        · rw [if_neg c17] at em16
          refine z_aload_n (pc := 68) 1 dX12_takePart_68 rfl rfl ?_
          obtain ⟨z18, em16⟩ := zifE em16
          obtain ⟨q19, eq19, em16⟩ := zbind em16
          refine z_callV (pc := 69) (mc := 0) (ms := 0) (d' := 0) (mc' := 0) (ms' := 0) (rest := []) [] dX12_takePart_69 md_X12_findName ml_X12_323 im_X12_findName se_X12_findName rfl z18 rfl rfl (Nat.le_of_ble_eq_true rfl) (by omega) (k_X12_findName eq19) ?_
          refine z_goto (pc := 72) 76 dX12_takePart_72 (by decide) ?_
          cases em16
          exact z_sub [1, 2, 3, 0] rfl Jm16
      refine z_icmp_ne (pc := 52) 59 dX12_takePart_52 (by decide) (fun c13 => ?_) (fun c13 => ?_)
      · rw [if_neg c13] at em12
        refine z_iconst (pc := 59) (x := 0) dX12_takePart_59 zc_iconst_0 ?_
        cases em12
        exact z_sub [0, 1, 2] rfl Jm12
      · rw [if_pos c13] at em12
        refine z_iconst (pc := 55) (x := 1) dX12_takePart_55 zc_iconst_1 ?_
        refine z_goto (pc := 56) 60 dX12_takePart_56 (by decide) ?_
        cases em12
        exact z_sub [0, 1, 2] rfl Jm12
    · rw [if_neg c2] at H
      cases H
      exact z_return rfl dX12_takePart_7

def f_X12_readTests (N : Nat) (v0 : Nat) (h : zH) : Option (Int32 × zH) := (gI h v0 12 19).bind fun x1 => zlet (19200 + x1 : Int32) fun x2 => zif (zob h v0 12) <| (f_X12_all N (f_X12_takePart N 6) v0 0 h).bind fun h4 => zif (zob h4 v0 12) <| (f_X12_emit N v0 0 0 h4).bind fun h6 => some (x2, h6)
set_option maxRecDepth 100000 in
set_option maxHeartbeats 4000000 in
theorem k_X12_readTests {N : Nat} {v0 : Nat} {h : zH} {r : Int32 × zH} (H : f_X12_readTests N v0 h = some r) : zOk 46 0 0 yX12_readTests cX12_readTests 2 (some .int) [.ref v0] h (some (.int r.1)) r.2 := by
  refine zOk.of (by decide) (Nat.le_of_ble_eq_true rfl) ?_
  unfold f_X12_readTests at H
  refine z_sipush (pc := 0) (x := 19200) dX12_readTests_0 zc_sipush_19200 ?_
  refine z_aload_n (pc := 3) 0 dX12_readTests_3 rfl rfl ?_
  obtain ⟨x1, ex1, H⟩ := zbind H
  refine z_getI (pc := 4) dX12_readTests_4 fd_X12_278 ex1 ?_
  refine z_iadd (pc := 7) dX12_readTests_7 ?_
  obtain ⟨x2, ex2, H⟩ := zletE H
  refine z_nmI ex2 ?_
  refine z_istore_n (pc := 8) (lv' := [(1, .int x2), (0, .ref v0)]) dX12_readTests_8 rfl (by decide) rfl ?_
  refine z_aload_n (pc := 9) 1 dX12_readTests_9 rfl rfl ?_
  refine z_iconst (pc := 10) (x := 0) dX12_readTests_10 zc_iconst_0 ?_
  obtain ⟨z3, H⟩ := zifE H
  obtain ⟨h4, eh4, H⟩ := zbind H
  refine z_callV (pc := 11) (mc := 0) (ms := 0) (d' := 45) (mc' := 0) (ms' := 0) (rest := []) [.int 0] dX12_readTests_11 md_X12_all ml_X12_326 im_X12_all se_X12_all rfl z3 rfl rfl (Nat.le_of_ble_eq_true rfl) (by omega) (k_X12_all (fun v0 v1 h r e9 => k_X12_takePart 6 v0 v1 h r e9) eh4) ?_
  refine z_aload_n (pc := 14) 1 dX12_readTests_14 rfl rfl ?_
  refine z_iconst (pc := 15) (x := 0) dX12_readTests_15 zc_iconst_0 ?_
  refine z_iconst (pc := 16) (x := 0) dX12_readTests_16 zc_iconst_0 ?_
  obtain ⟨z5, H⟩ := zifE H
  obtain ⟨h6, eh6, H⟩ := zbind H
  refine z_callV (pc := 17) (mc := 0) (ms := 0) (d' := 0) (mc' := 0) (ms' := 0) (rest := []) [.int 0, .int 0] dX12_readTests_17 md_X12_emit ml_X12_329 im_X12_emit se_X12_emit rfl z5 rfl rfl (Nat.le_of_ble_eq_true rfl) (by omega) (k_X12_emit eh6) ?_
  refine z_iload_n (pc := 20) 0 dX12_readTests_20 rfl rfl ?_
  cases H
  exact z_ireturn rfl dX12_readTests_21

