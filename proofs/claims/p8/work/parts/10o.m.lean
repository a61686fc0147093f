theorem md_X12_isSo : zMd yX12_isSo cX12_isSo 3 2 (some .boolean) := ⟨zmw (zmt_8 _ (List.mem_of_getElem? (i := 34) rfl)) rfl, zmem 127 (by decide +kernel) rfl, by decide, by decide, by decide +kernel, by decide⟩
theorem ml_X12_427 : Cond.methodLink RX12 427 yX12_isSo ∈ zB := zmem 1822 (by decide +kernel) rfl
theorem im_X12_isSo : Cond.instanceMethod yX12_isSo ∈ zB := zmem 1824 (by decide +kernel) rfl
theorem se_X12_isSo : Cond.selects yX12_isSo.cls yX12_isSo yX12_isSo ∈ zB := zmem 96 (by decide +kernel) rfl
def f_X12_findCustoms_L21 (N : Nat) (v0 : Nat) (v1 : Int32) (v3 : Int32) : Nat → Int32 → zH → Option (zH)
  | 0, _, _ => none
  | n + 1, v4, h => (gI h v0 12 49).bind fun x4 => if x4 ≤ v4 then (some h) else ((gR h v0 12 52).bind fun r6 => (aI h r6 v4).bind fun x7 => zif (zob h v0 12) <| (f_X12_viewYear N v0 h).bind fun q9 => if (p_X12_within x7 v1 q9) = 0 then (f_X12_findCustoms_L21 N v0 v1 v3 n (v4 + 1) h) else ((gR h v0 12 53).bind fun r11 => (gR h v0 12 50).bind fun r12 => (aI h r12 v4).bind fun x13 => (aI h r11 x13).bind fun x14 => zif (zob h v0 12) <| (f_X12_isSo N v0 v3 x14 h).bind fun q16 => (gR h v0 12 51).bind fun r17 => (aZ h r17 v4).bind fun x18 => if q16 = x18 then (f_X12_findCustoms_L21 N v0 v1 v3 n (v4 + 1) h) else ((gR h v0 12 56).bind fun r20 => (sZ h r20 v3 0).bind fun h21 => f_X12_findCustoms_L21 N v0 v1 v3 n (v4 + 1) h21)))
def f_X12_findCustoms_L4 (N : Nat) (v0 : Nat) (v1 : Int32) : Nat → Int32 → Int32 → zH → Option (Int32 × zH)
  | 0, _, _, _ => none
  | n + 1, v2, v3, h => if 128 ≤ v3 then (some (v2, h)) else ((gR h v0 12 56).bind fun r2 => (sZ h r2 v3 1).bind fun h3 => (f_X12_findCustoms_L21 N v0 v1 v3 N 0 h3).bind fun m22 => (gR m22 v0 12 56).bind fun r23 => (aZ m22 r23 v3).bind fun x24 => if x24 = 0 then (zlet (v2 + 0 : Int32) fun x26 => f_X12_findCustoms_L4 N v0 v1 n x26 (v3 + 1) m22) else (zlet (v2 + 1 : Int32) fun x27 => f_X12_findCustoms_L4 N v0 v1 n x27 (v3 + 1) m22))
set_option maxRecDepth 100000 in
set_option maxHeartbeats 4000000 in
theorem s_X12_findCustoms_L21 {d mc ms N : Nat} {vv : Option Value} {hh : zH} {v0 : Nat} {v1 : Int32} {v3 : Int32} {v2 : Int32} (hd0 : 2 ≤ d) : ∀ (n : Nat) (v4 : Int32) (h : zH) (m : zH), f_X12_findCustoms_L21 N v0 v1 v3 n v4 h = some m → (zW yX12_findCustoms cX12_findCustoms 5 (some .int) d mc ms 88 [(0, .ref v0), (1, .int v1), (2, .int v2), (3, .int v3)] [] m vv hh) → zW yX12_findCustoms cX12_findCustoms 5 (some .int) d mc ms 21 [(0, .ref v0), (1, .int v1), (2, .int v2), (3, .int v3), (4, .int v4)] [] h vv hh := by
  intro n
  induction n with
  | zero =>
    intro v4 h m H
    cases H
  | succ n ih =>
    intro v4 h m H KE
    unfold f_X12_findCustoms_L21 at H
    refine z_iload (pc := 21) 4 dX12_findCustoms_21 rfl ?_
    refine z_aload_n (pc := 23) 0 dX12_findCustoms_23 rfl rfl ?_
    obtain ⟨x4, ex4, H⟩ := zbind H
    refine z_getI (pc := 24) dX12_findCustoms_24 fd_X12_420 ex4 ?_
    refine z_icmp_ge (pc := 27) 88 dX12_findCustoms_27 (by decide) (fun c5 => ?_) (fun c5 => ?_)
    · rw [if_pos c5] at H
      cases H
      exact z_sub [0, 1, 2, 3] rfl (KE)
    · rw [if_neg c5] at H
      refine z_aload_n (pc := 30) 0 dX12_findCustoms_30 rfl rfl ?_
      obtain ⟨r6, er6, H⟩ := zbind H
      refine z_getR (pc := 31) dX12_findCustoms_31 fd_X12_164 er6 ?_
      refine z_iload (pc := 34) 4 dX12_findCustoms_34 rfl ?_
      obtain ⟨x7, ex7, H⟩ := zbind H
      refine z_iaload (pc := 36) dX12_findCustoms_36 ex7 ?_
      refine z_iload_n (pc := 37) 1 dX12_findCustoms_37 rfl rfl ?_
      refine z_aload_n (pc := 38) 0 dX12_findCustoms_38 rfl rfl ?_
      obtain ⟨z8, H⟩ := zifE H
      obtain ⟨q9, eq9, H⟩ := zbind H
      refine z_callV (pc := 39) (mc := mc) (ms := ms) (d' := 0) (mc' := 0) (ms' := 0) (rest := [.int v1, .int x7]) [] dX12_findCustoms_39 md_X12_viewYear ml_X12_396 im_X12_viewYear se_X12_viewYear rfl z8 rfl rfl (Nat.le_of_ble_eq_true rfl) (by omega) (k_X12_viewYear eq9) ?_
      refine z_callS (pc := 42) (mc := mc) (ms := ms) (d' := 0) (mc' := 0) (ms' := 0) (rest := []) [.int x7, .int v1, .int q9] dX12_findCustoms_42 md_X12_within ml_X12_352 sm_X12_within rfl rfl (Nat.le_of_ble_eq_true rfl) (by omega) (k_X12_within x7 v1 q9 h _ rfl) ?_
      refine z_if_eq (pc := 45) 82 dX12_findCustoms_45 (by decide) (fun c10 => ?_) (fun c10 => ?_)
      · rw [if_pos c10] at H
        refine z_iinc (pc := 82) (x' := v4 + 1) (lv' := [(4, .int (v4 + 1)), (0, .ref v0), (1, .int v1), (2, .int v2), (3, .int v3)]) 4 dX12_findCustoms_82 rfl (by rfl) (by decide) rfl ?_
        refine z_goto (pc := 85) 21 dX12_findCustoms_85 (by decide) ?_
        exact z_sub [1, 2, 3, 4, 0] rfl (ih (v4 + 1) h _ H KE)
      · rw [if_neg c10] at H
        refine z_aload_n (pc := 48) 0 dX12_findCustoms_48 rfl rfl ?_
        refine z_iload_n (pc := 49) 3 dX12_findCustoms_49 rfl rfl ?_
        refine z_aload_n (pc := 50) 0 dX12_findCustoms_50 rfl rfl ?_
        obtain ⟨r11, er11, H⟩ := zbind H
        refine z_getR (pc := 51) dX12_findCustoms_51 fd_X12_167 er11 ?_
        refine z_aload_n (pc := 54) 0 dX12_findCustoms_54 rfl rfl ?_
        obtain ⟨r12, er12, H⟩ := zbind H
        refine z_getR (pc := 55) dX12_findCustoms_55 fd_X12_157 er12 ?_
        refine z_iload (pc := 58) 4 dX12_findCustoms_58 rfl ?_
        obtain ⟨x13, ex13, H⟩ := zbind H
        refine z_iaload (pc := 60) dX12_findCustoms_60 ex13 ?_
        obtain ⟨x14, ex14, H⟩ := zbind H
        refine z_iaload (pc := 61) dX12_findCustoms_61 ex14 ?_
        obtain ⟨z15, H⟩ := zifE H
        obtain ⟨q16, eq16, H⟩ := zbind H
        refine z_callV (pc := 62) (mc := mc) (ms := ms) (d' := 1) (mc' := 0) (ms' := 0) (rest := []) [.int v3, .int x14] dX12_findCustoms_62 md_X12_isSo ml_X12_427 im_X12_isSo se_X12_isSo rfl z15 rfl rfl (Nat.le_of_ble_eq_true rfl) (by omega) (k_X12_isSo eq16) ?_
        refine z_aload_n (pc := 65) 0 dX12_findCustoms_65 rfl rfl ?_
        obtain ⟨r17, er17, H⟩ := zbind H
        refine z_getR (pc := 66) dX12_findCustoms_66 fd_X12_160 er17 ?_
        refine z_iload (pc := 69) 4 dX12_findCustoms_69 rfl ?_
        obtain ⟨x18, ex18, H⟩ := zbind H
        refine z_zaload (pc := 71) dX12_findCustoms_71 ex18 ?_
        refine z_icmp_eq (pc := 72) 82 dX12_findCustoms_72 (by decide) (fun c19 => ?_) (fun c19 => ?_)
        · rw [if_pos c19] at H
          refine z_iinc (pc := 82) (x' := v4 + 1) (lv' := [(4, .int (v4 + 1)), (0, .ref v0), (1, .int v1), (2, .int v2), (3, .int v3)]) 4 dX12_findCustoms_82 rfl (by rfl) (by decide) rfl ?_
          refine z_goto (pc := 85) 21 dX12_findCustoms_85 (by decide) ?_
          exact z_sub [1, 2, 3, 4, 0] rfl (ih (v4 + 1) h _ H KE)
        · rw [if_neg c19] at H
          refine z_aload_n (pc := 75) 0 dX12_findCustoms_75 rfl rfl ?_
          obtain ⟨r20, er20, H⟩ := zbind H
          refine z_getR (pc := 76) dX12_findCustoms_76 fd_X12_176 er20 ?_
          refine z_iload_n (pc := 79) 3 dX12_findCustoms_79 rfl rfl ?_
          refine z_iconst (pc := 80) (x := 0) dX12_findCustoms_80 zc_iconst_0 ?_
          obtain ⟨h21, eh21, H⟩ := zbind H
          refine z_zastore (pc := 81) dX12_findCustoms_81 eh21 ?_
          refine z_iinc (pc := 82) (x' := v4 + 1) (lv' := [(4, .int (v4 + 1)), (0, .ref v0), (1, .int v1), (2, .int v2), (3, .int v3)]) 4 dX12_findCustoms_82 rfl (by rfl) (by decide) rfl ?_
          refine z_goto (pc := 85) 21 dX12_findCustoms_85 (by decide) ?_
          exact z_sub [1, 2, 3, 4, 0] rfl (ih (v4 + 1) h21 _ H KE)
set_option maxRecDepth 100000 in
set_option maxHeartbeats 4000000 in
theorem s_X12_findCustoms_L4 {d mc ms N : Nat} {vv : Option Value} {hh : zH} {v0 : Nat} {v1 : Int32} (hd0 : 2 ≤ d) : ∀ (n : Nat) (v2 : Int32) (v3 : Int32) (h : zH) (m : Int32 × zH), f_X12_findCustoms_L4 N v0 v1 n v2 v3 h = some m → (zW yX12_findCustoms cX12_findCustoms 5 (some .int) d mc ms 111 [(2, .int m.1)] [] m.2 vv hh) → zW yX12_findCustoms cX12_findCustoms 5 (some .int) d mc ms 4 [(0, .ref v0), (1, .int v1), (2, .int v2), (3, .int v3)] [] h vv hh := by
  intro n
  induction n with
  | zero =>
    intro v2 v3 h m H
    cases H
  | succ n ih =>
    intro v2 v3 h m H KE
    unfold f_X12_findCustoms_L4 at H
    refine z_iload_n (pc := 4) 3 dX12_findCustoms_4 rfl rfl ?_
    refine z_sipush (pc := 5) (x := 128) dX12_findCustoms_5 zc_sipush_128 ?_
    refine z_icmp_ge (pc := 8) 111 dX12_findCustoms_8 (by decide) (fun c1 => ?_) (fun c1 => ?_)
    · rw [if_pos c1] at H
      cases H
      exact z_sub [2] rfl (KE)
    · rw [if_neg c1] at H
      refine z_aload_n (pc := 11) 0 dX12_findCustoms_11 rfl rfl ?_
      obtain ⟨r2, er2, H⟩ := zbind H
      refine z_getR (pc := 12) dX12_findCustoms_12 fd_X12_176 er2 ?_
      refine z_iload_n (pc := 15) 3 dX12_findCustoms_15 rfl rfl ?_
      refine z_iconst (pc := 16) (x := 1) dX12_findCustoms_16 zc_iconst_1 ?_
      obtain ⟨h3, eh3, H⟩ := zbind H
      refine z_zastore (pc := 17) dX12_findCustoms_17 eh3 ?_
      refine z_iconst (pc := 18) (x := 0) dX12_findCustoms_18 zc_iconst_0 ?_
      refine z_istore (pc := 19) (lv' := [(4, .int 0), (0, .ref v0), (1, .int v1), (2, .int v2), (3, .int v3)]) dX12_findCustoms_19 (by decide) rfl ?_
      obtain ⟨m22, em22, H⟩ := zbind H
      refine z_sub [1, 2, 3, 4, 0] rfl (s_X12_findCustoms_L21 (by omega) N 0 h3 _ em22 ?_)
      refine z_iload_n (pc := 88) 2 dX12_findCustoms_88 rfl rfl ?_
      refine z_aload_n (pc := 89) 0 dX12_findCustoms_89 rfl rfl ?_
      obtain ⟨r23, er23, H⟩ := zbind H
      refine z_getR (pc := 90) dX12_findCustoms_90 fd_X12_176 er23 ?_
      refine z_iload_n (pc := 93) 3 dX12_findCustoms_93 rfl rfl ?_
      obtain ⟨x24, ex24, H⟩ := zbind H
      refine z_zaload (pc := 94) dX12_findCustoms_94 ex24 ?_
      refine z_if_eq (pc := 95) 102 dX12_findCustoms_95 (by decide) (fun c25 => ?_) (fun c25 => ?_)
      · rw [if_pos c25] at H
        refine z_iconst (pc := 102) (x := 0) dX12_findCustoms_102 zc_iconst_0 ?_
        refine z_iadd (pc := 103) dX12_findCustoms_103 ?_
        obtain ⟨x26, ex26, H⟩ := zletE H
        refine z_nmI ex26 ?_
        refine z_istore_n (pc := 104) (lv' := [(2, .int x26), (0, .ref v0), (1, .int v1), (3, .int v3)]) dX12_findCustoms_104 rfl (by decide) rfl ?_
        refine z_iinc (pc := 105) (x' := v3 + 1) (lv' := [(3, .int (v3 + 1)), (2, .int x26), (0, .ref v0), (1, .int v1)]) 3 dX12_findCustoms_105 rfl (by rfl) (by decide) rfl ?_
        refine z_goto (pc := 108) 4 dX12_findCustoms_108 (by decide) ?_
        exact z_sub [2, 3, 1, 0] rfl (ih x26 (v3 + 1) m22 _ H KE)
      · rw [if_neg c25] at H
        refine z_iconst (pc := 98) (x := 1) dX12_findCustoms_98 zc_iconst_1 ?_
        refine z_goto (pc := 99) 103 dX12_findCustoms_99 (by decide) ?_
        refine z_iadd (pc := 103) dX12_findCustoms_103 ?_
        obtain ⟨x27, ex27, H⟩ := zletE H
        refine z_nmI ex27 ?_
        refine z_istore_n (pc := 104) (lv' := [(2, .int x27), (0, .ref v0), (1, .int v1), (3, .int v3)]) dX12_findCustoms_104 rfl (by decide) rfl ?_
        refine z_iinc (pc := 105) (x' := v3 + 1) (lv' := [(3, .int (v3 + 1)), (2, .int x27), (0, .ref v0), (1, .int v1)]) 3 dX12_findCustoms_105 rfl (by rfl) (by decide) rfl ?_
        refine z_goto (pc := 108) 4 dX12_findCustoms_108 (by decide) ?_
        exact z_sub [2, 3, 1, 0] rfl (ih x27 (v3 + 1) m22 _ H KE)
def f_X12_findCustoms (N : Nat) (v0 : Nat) (v1 : Int32) (h : zH) : Option (Int32 × zH) := (f_X12_findCustoms_L4 N v0 v1 N 0 0 h).bind fun m28 => some (m28.1, m28.2)
set_option maxRecDepth 100000 in
set_option maxHeartbeats 4000000 in
theorem k_X12_findCustoms {N : Nat} {v0 : Nat} {v1 : Int32} {h : zH} {r : Int32 × zH} (H : f_X12_findCustoms N v0 v1 h = some r) : zOk 2 0 0 yX12_findCustoms cX12_findCustoms 5 (some .int) [.ref v0, .int v1] h (some (.int r.1)) r.2 := by
  refine zOk.of (by decide) (Nat.le_of_ble_eq_true rfl) ?_
  unfold f_X12_findCustoms at H
  refine z_iconst (pc := 0) (x := 0) dX12_findCustoms_0 zc_iconst_0 ?_
  refine z_istore_n (pc := 1) (lv' := [(2, .int 0), (0, .ref v0), (1, .int v1)]) dX12_findCustoms_1 rfl (by decide) rfl ?_
  refine z_iconst (pc := 2) (x := 0) dX12_findCustoms_2 zc_iconst_0 ?_
  refine z_istore_n (pc := 3) (lv' := [(3, .int 0), (2, .int 0), (0, .ref v0), (1, .int v1)]) dX12_findCustoms_3 rfl (by decide) rfl ?_
  obtain ⟨m28, em28, H⟩ := zbind H
  refine z_sub [2, 3, 1, 0] rfl (s_X12_findCustoms_L4 (by omega) N 0 0 h _ em28 ?_)
  refine z_iload_n (pc := 111) 0 dX12_findCustoms_111 rfl rfl ?_
  cases H
  exact z_ireturn rfl dX12_findCustoms_112

theorem md_X12_findSigns : zMd yX12_findSigns cX12_findSigns 4 0 none := ⟨zmw (zmt_8 _ (List.mem_of_getElem? (i := 26) rfl)) rfl, zmem 127 (by decide +kernel) rfl, by decide, by decide, by decide +kernel, by decide⟩
theorem ml_X12_430 : Cond.methodLink RX12 430 yX12_findSigns ∈ zB := zmem 1814 (by decide +kernel) rfl
theorem im_X12_findSigns : Cond.instanceMethod yX12_findSigns ∈ zB := zmem 1816 (by decide +kernel) rfl
theorem se_X12_findSigns : Cond.selects yX12_findSigns.cls yX12_findSigns yX12_findSigns ∈ zB := zmem 94 (by decide +kernel) rfl
theorem md_X12_findCustoms : zMd yX12_findCustoms cX12_findCustoms 5 1 (some .int) := ⟨zmw (zmt_8 _ (List.mem_of_getElem? (i := 30) rfl)) rfl, zmem 127 (by decide +kernel) rfl, by decide, by decide, by decide +kernel, by decide⟩
theorem ml_X12_433 : Cond.methodLink RX12 433 yX12_findCustoms ∈ zB := zmem 1818 (by decide +kernel) rfl
theorem im_X12_findCustoms : Cond.instanceMethod yX12_findCustoms ∈ zB := zmem 1820 (by decide +kernel) rfl
theorem se_X12_findCustoms : Cond.selects yX12_findCustoms.cls yX12_findCustoms yX12_findCustoms ∈ zB := zmem 95 (by decide +kernel) rfl
def f_X12_customs (N : Nat) (v0 : Nat) (v1 : Int32) (h : zH) : Option (Int32 × zH) := (pF h v0 12 0 (.int 0)).bind fun h1 => (f_X12_isYear N v1 h1).bind fun q2 => if q2 = 0 then (some ((-1), h1)) else (zif (zob h1 v0 12) <| (f_X12_findSigns N v0 h1).bind fun h5 => zif (zob h5 v0 12) <| (f_X12_findCustoms N v0 v1 h5).bind fun q7 => some (q7.1, q7.2))
set_option maxRecDepth 100000 in
set_option maxHeartbeats 4000000 in
theorem k_X12_customs {N : Nat} {v0 : Nat} {v1 : Int32} {h : zH} {r : Int32 × zH} (H : f_X12_customs N v0 v1 h = some r) : zOk 4 0 0 yX12_customs cX12_customs 2 (some .int) [.ref v0, .int v1] h (some (.int r.1)) r.2 := by
  refine zOk.of (by decide) (Nat.le_of_ble_eq_true rfl) ?_
  unfold f_X12_customs at H
  refine z_aload_n (pc := 0) 0 dX12_customs_0 rfl rfl ?_
  refine z_iconst (pc := 1) (x := 0) dX12_customs_1 zc_iconst_0 ?_
  obtain ⟨h1, eh1, H⟩ := zbind H
  refine z_put (pc := 2) dX12_customs_2 fd_X12_1 rfl rfl eh1 ?_
  refine z_iload_n (pc := 5) 1 dX12_customs_5 rfl rfl ?_
  obtain ⟨q2, eq2, H⟩ := zbind H
  refine z_callS (pc := 6) (mc := 0) (ms := 0) (d' := 1) (mc' := 0) (ms' := 0) (rest := []) [.int v1] dX12_customs_6 md_X12_isYear ml_X12_356 sm_X12_isYear rfl rfl (Nat.le_of_ble_eq_true rfl) (by omega) (k_X12_isYear eq2) ?_
  refine z_if_ne (pc := 9) 14 dX12_customs_9 (by decide) (fun c3 => ?_) (fun c3 => ?_)
  · rw [if_neg c3] at H
    refine z_aload_n (pc := 14) 0 dX12_customs_14 rfl rfl ?_
    obtain ⟨z4, H⟩ := zifE H
    obtain ⟨h5, eh5, H⟩ := zbind H
    refine z_callV (pc := 15) (mc := 0) (ms := 0) (d' := 3) (mc' := 0) (ms' := 0) (rest := []) [] dX12_customs_15 md_X12_findSigns ml_X12_430 im_X12_findSigns se_X12_findSigns rfl z4 rfl rfl (Nat.le_of_ble_eq_true rfl) (by omega) (k_X12_findSigns eh5) ?_
    refine z_aload_n (pc := 18) 0 dX12_customs_18 rfl rfl ?_
    refine z_iload_n (pc := 19) 1 dX12_customs_19 rfl rfl ?_
    obtain ⟨z6, H⟩ := zifE H
    obtain ⟨q7, eq7, H⟩ := zbind H
    refine z_callV (pc := 20) (mc := 0) (ms := 0) (d' := 2) (mc' := 0) (ms' := 0) (rest := []) [.int v1] dX12_customs_20 md_X12_findCustoms ml_X12_433 im_X12_findCustoms se_X12_findCustoms rfl z6 rfl rfl (Nat.le_of_ble_eq_true rfl) (by omega) (k_X12_findCustoms eq7) ?_
    cases H
    exact z_ireturn rfl dX12_customs_23
  · rw [if_pos c3] at H
    refine z_iconst (pc := 12) (x := (-1)) dX12_customs_12 zc_iconst_m1 ?_
    cases H
    exact z_ireturn rfl dX12_customs_13

def f_X12_held_L44 (N : Nat) (v0 : Nat) (v1 : Int32) (h : zH) : Nat → Int32 → Int32 → Int32 → Option (Int32 × Int32)
  | 0, _, _, _ => none
  | n + 1, v3, v4, v5 => if 128 ≤ v5 then (some (v3, v4)) else ((gR h v0 12 56).bind fun r13 => (aZ h r13 v5).bind fun x14 => if x14 = 0 then (f_X12_held_L44 N v0 v1 h n v3 v4 (v5 + 1)) else ((if v3 = 0 then (some 0) else ((gR h v0 12 53).bind fun r18 => (aI h r18 v1).bind fun x19 => zif (zob h v0 12) <| (f_X12_isSo N v0 v5 x19 h).bind fun q21 => if q21 = 0 then (some 0) else (some 1)) : Option (Int32)).bind fun m16 => if v4 = 0 then ((gR h v0 12 53).bind fun r24 => (aI h r24 v1).bind fun x25 => zif (zob h v0 12) <| (f_X12_isSo N v0 v5 x25 h).bind fun q27 => if q27 = 0 then (f_X12_held_L44 N v0 v1 h n m16 0 (v5 + 1)) else (f_X12_held_L44 N v0 v1 h n m16 1 (v5 + 1))) else (f_X12_held_L44 N v0 v1 h n m16 1 (v5 + 1))))
set_option maxRecDepth 100000 in
set_option maxHeartbeats 4000000 in
theorem s_X12_held_L44 {d mc ms N : Nat} {vv : Option Value} {hh : zH} {v0 : Nat} {v1 : Int32} {h : zH} (hd0 : 4 ≤ d) : ∀ (n : Nat) (v3 : Int32) (v4 : Int32) (v5 : Int32) (m : Int32 × Int32), f_X12_held_L44 N v0 v1 h n v3 v4 v5 = some m → (zW yX12_held cX12_held 6 (some .int) d mc ms 120 [(3, .int m.1), (4, .int m.2)] [] h vv hh) → zW yX12_held cX12_held 6 (some .int) d mc ms 44 [(0, .ref v0), (1, .int v1), (3, .int v3), (4, .int v4), (5, .int v5)] [] h vv hh := by
  intro n
  induction n with
  | zero =>
    intro v3 v4 v5 m H
    cases H
  | succ n ih =>
    intro v3 v4 v5 m H KE
    unfold f_X12_held_L44 at H
    refine z_iload (pc := 44) 4 dX12_held_44 rfl ?_
    refine z_sipush (pc := 46) (x := 128) dX12_held_46 zc_sipush_128 ?_
    refine z_icmp_ge (pc := 49) 120 dX12_held_49 (by decide) (fun c12 => ?_) (fun c12 => ?_)
    · rw [if_pos c12] at H
      cases H
      exact z_sub [2, 3] rfl (KE)
    · rw [if_neg c12] at H
      refine z_aload_n (pc := 52) 0 dX12_held_52 rfl rfl ?_
      obtain ⟨r13, er13, H⟩ := zbind H
      refine z_getR (pc := 53) dX12_held_53 fd_X12_176 er13 ?_
      refine z_iload (pc := 56) 4 dX12_held_56 rfl ?_
      obtain ⟨x14, ex14, H⟩ := zbind H
      refine z_zaload (pc := 58) dX12_held_58 ex14 ?_
      refine z_if_eq (pc := 59) 114 dX12_held_59 (by decide) (fun c15 => ?_) (fun c15 => ?_)
      · rw [if_pos c15] at H
        refine z_iinc (pc := 114) (x' := v5 + 1) (lv' := [(5, .int (v5 + 1)), (0, .ref v0), (1, .int v1), (3, .int v3), (4, .int v4)]) 4 dX12_held_114 rfl (by rfl) (by decide) rfl ?_
        refine z_goto (pc := 117) 44 dX12_held_117 (by decide) ?_
        exact z_sub [1, 2, 3, 4, 0] rfl (ih v3 v4 (v5 + 1) _ H KE)
      · rw [if_neg c15] at H
        refine z_iload_n (pc := 62) 2 dX12_held_62 rfl rfl ?_
        obtain ⟨m16, em16, H⟩ := zbind H
        have Jm16 : zW yX12_held cX12_held 6 (some .int) d mc ms 86 [(0, .ref v0), (1, .int v1), (4, .int v4), (5, .int v5)] [.int m16] h vv hh := by
          refine z_istore_n (pc := 86) (lv' := [(3, .int m16), (0, .ref v0), (1, .int v1), (4, .int v4), (5, .int v5)]) dX12_held_86 rfl (by decide) rfl ?_
          refine z_iload (pc := 87) 3 dX12_held_87 rfl ?_
          refine z_if_ne (pc := 89) 107 dX12_held_89 (by decide) (fun c23 => ?_) (fun c23 => ?_)
          · rw [if_neg c23] at H
            refine z_iconst (pc := 107) (x := 1) dX12_held_107 zc_iconst_1 ?_
            refine z_goto (pc := 108) 112 dX12_held_108 (by decide) ?_
            refine z_istore (pc := 112) (lv' := [(4, .int 1), (3, .int m16), (0, .ref v0), (1, .int v1), (5, .int v5)]) dX12_held_112 (by decide) rfl ?_
            refine z_iinc (pc := 114) (x' := v5 + 1) (lv' := [(5, .int (v5 + 1)), (4, .int 1), (3, .int m16), (0, .ref v0), (1, .int v1)]) 4 dX12_held_114 rfl (by rfl) (by decide) rfl ?_
            refine z_goto (pc := 117) 44 dX12_held_117 (by decide) ?_
            exact z_sub [3, 4, 2, 1, 0] rfl (ih m16 1 (v5 + 1) _ H KE)
          · rw [if_pos c23] at H
            refine z_aload_n (pc := 92) 1 dX12_held_92 rfl rfl ?_
            refine z_iload (pc := 93) 4 dX12_held_93 rfl ?_
            refine z_aload_n (pc := 95) 1 dX12_held_95 rfl rfl ?_
            obtain ⟨r24, er24, H⟩ := zbind H
            refine z_getR (pc := 96) dX12_held_96 fd_X12_167 er24 ?_
            refine z_iload_n (pc := 99) 2 dX12_held_99 rfl rfl ?_
            obtain ⟨x25, ex25, H⟩ := zbind H
            refine z_iaload (pc := 100) dX12_held_100 ex25 ?_
            obtain ⟨z26, H⟩ := zifE H
            obtain ⟨q27, eq27, H⟩ := zbind H
            refine z_callV (pc := 101) (mc := mc) (ms := ms) (d' := 1) (mc' := 0) (ms' := 0) (rest := []) [.int v5, .int x25] dX12_held_101 md_X12_isSo ml_X12_427 im_X12_isSo se_X12_isSo rfl z26 rfl rfl (Nat.le_of_ble_eq_true rfl) (by omega) (k_X12_isSo eq27) ?_
            refine z_if_eq (pc := 104) 111 dX12_held_104 (by decide) (fun c28 => ?_) (fun c28 => ?_)
            · rw [if_pos c28] at H
              refine z_iconst (pc := 111) (x := 0) dX12_held_111 zc_iconst_0 ?_
              refine z_istore (pc := 112) (lv' := [(4, .int 0), (3, .int m16), (0, .ref v0), (1, .int v1), (5, .int v5)]) dX12_held_112 (by decide) rfl ?_
              refine z_iinc (pc := 114) (x' := v5 + 1) (lv' := [(5, .int (v5 + 1)), (4, .int 0), (3, .int m16), (0, .ref v0), (1, .int v1)]) 4 dX12_held_114 rfl (by rfl) (by decide) rfl ?_
              refine z_goto (pc := 117) 44 dX12_held_117 (by decide) ?_
              exact z_sub [3, 4, 2, 1, 0] rfl (ih m16 0 (v5 + 1) _ H KE)
            · rw [if_neg c28] at H
              refine z_iconst (pc := 107) (x := 1) dX12_held_107 zc_iconst_1 ?_
              refine z_goto (pc := 108) 112 dX12_held_108 (by decide) ?_
              refine z_istore (pc := 112) (lv' := [(4, .int 1), (3, .int m16), (0, .ref v0), (1, .int v1), (5, .int v5)]) dX12_held_112 (by decide) rfl ?_
              refine z_iinc (pc := 114) (x' := v5 + 1) (lv' := [(5, .int (v5 + 1)), (4, .int 1), (3, .int m16), (0, .ref v0), (1, .int v1)]) 4 dX12_held_114 rfl (by rfl) (by decide) rfl ?_
              refine z_goto (pc := 117) 44 dX12_held_117 (by decide) ?_
              exact z_sub [3, 4, 2, 1, 0] rfl (ih m16 1 (v5 + 1) _ H KE)
        refine z_if_eq (pc := 63) 85 dX12_held_63 (by decide) (fun c17 => ?_) (fun c17 => ?_)
        · rw [if_pos c17] at em16
          refine z_iconst (pc := 85) (x := 0) dX12_held_85 zc_iconst_0 ?_
          cases em16
          exact z_sub [0, 1, 3, 4] rfl Jm16
        · rw [if_neg c17] at em16
          refine z_aload_n (pc := 66) 0 dX12_held_66 rfl rfl ?_
          refine z_iload (pc := 67) 4 dX12_held_67 rfl ?_
          refine z_aload_n (pc := 69) 0 dX12_held_69 rfl rfl ?_
          obtain ⟨r18, er18, em16⟩ := zbind em16
          refine z_getR (pc := 70) dX12_held_70 fd_X12_167 er18 ?_
          refine z_iload_n (pc := 73) 1 dX12_held_73 rfl rfl ?_
          obtain ⟨x19, ex19, em16⟩ := zbind em16
          refine z_iaload (pc := 74) dX12_held_74 ex19 ?_
          obtain ⟨z20, em16⟩ := zifE em16
          obtain ⟨q21, eq21, em16⟩ := zbind em16
          refine z_callV (pc := 75) (mc := mc) (ms := ms) (d' := 1) (mc' := 0) (ms' := 0) (rest := []) [.int v5, .int x19] dX12_held_75 md_X12_isSo ml_X12_427 im_X12_isSo se_X12_isSo rfl z20 rfl rfl (Nat.le_of_ble_eq_true rfl) (by omega) (k_X12_isSo eq21) ?_
          refine z_if_eq (pc := 78) 85 dX12_held_78 (by decide) (fun c22 => ?_) (fun c22 => ?_)
          · rw [if_pos c22] at em16
            refine z_iconst (pc := 85) (x := 0) dX12_held_85 zc_iconst_0 ?_
            cases em16
            exact z_sub [0, 1, 3, 4] rfl Jm16
          · rw [if_neg c22] at em16
            refine z_iconst (pc := 81) (x := 1) dX12_held_81 zc_iconst_1 ?_
            refine z_goto (pc := 82) 86 dX12_held_82 (by decide) ?_
            cases em16
            exact z_sub [0, 1, 3, 4] rfl Jm16
def f_X12_held (N : Nat) (v0 : Nat) (v1 : Int32) (v2 : Int32) (h : zH) : Option (Int32 × zH) := (pF h v0 12 0 (.int 0)).bind fun h1 => zif (zob h1 v0 12) <| (f_X12_isMeeting N v0 v1 h1).bind fun q3 => if q3 = 0 then (some ((-1), h1)) else ((f_X12_isYear N v2 h1).bind fun q5 => if q5 = 0 then (some ((-1), h1)) else (zif (zob h1 v0 12) <| (f_X12_findSigns N v0 h1).bind fun h8 => zif (zob h8 v0 12) <| (f_X12_findCustoms N v0 v2 h8).bind fun q10 => if q10.1 = 0 then (some ((-1), q10.2)) else ((f_X12_held_L44 N v0 v1 q10.2 N 1 0 0).bind fun m29 => if m29.1 = 0 then (if m29.2 = 0 then (some (0, q10.2)) else (some (1, q10.2))) else (some (2, q10.2)))))
set_option maxRecDepth 100000 in
set_option maxHeartbeats 4000000 in
theorem k_X12_held {N : Nat} {v0 : Nat} {v1 : Int32} {v2 : Int32} {h : zH} {r : Int32 × zH} (H : f_X12_held N v0 v1 v2 h = some r) : zOk 4 0 0 yX12_held cX12_held 6 (some .int) [.ref v0, .int v1, .int v2] h (some (.int r.1)) r.2 := by
  refine zOk.of (by decide) (Nat.le_of_ble_eq_true rfl) ?_
  unfold f_X12_held at H
  refine z_aload_n (pc := 0) 0 dX12_held_0 rfl rfl ?_
  refine z_iconst (pc := 1) (x := 0) dX12_held_1 zc_iconst_0 ?_
  obtain ⟨h1, eh1, H⟩ := zbind H
  refine z_put (pc := 2) dX12_held_2 fd_X12_1 rfl rfl eh1 ?_
  refine z_aload_n (pc := 5) 0 dX12_held_5 rfl rfl ?_
  refine z_iload_n (pc := 6) 1 dX12_held_6 rfl rfl ?_
  obtain ⟨z2, H⟩ := zifE H
  obtain ⟨q3, eq3, H⟩ := zbind H
  refine z_callV (pc := 7) (mc := 0) (ms := 0) (d' := 0) (mc' := 0) (ms' := 0) (rest := []) [.int v1] dX12_held_7 md_X12_isMeeting ml_X12_362 im_X12_isMeeting se_X12_isMeeting rfl z2 rfl rfl (Nat.le_of_ble_eq_true rfl) (by omega) (k_X12_isMeeting eq3) ?_
  refine z_if_eq (pc := 10) 20 dX12_held_10 (by decide) (fun c4 => ?_) (fun c4 => ?_)
  · rw [if_pos c4] at H
    refine z_iconst (pc := 20) (x := (-1)) dX12_held_20 zc_iconst_m1 ?_
    cases H
    exact z_ireturn rfl dX12_held_21
  · rw [if_neg c4] at H
    refine z_iload_n (pc := 13) 2 dX12_held_13 rfl rfl ?_
    obtain ⟨q5, eq5, H⟩ := zbind H
    refine z_callS (pc := 14) (mc := 0) (ms := 0) (d' := 1) (mc' := 0) (ms' := 0) (rest := []) [.int v2] dX12_held_14 md_X12_isYear ml_X12_356 sm_X12_isYear rfl rfl (Nat.le_of_ble_eq_true rfl) (by omega) (k_X12_isYear eq5) ?_
    refine z_if_ne (pc := 17) 22 dX12_held_17 (by decide) (fun c6 => ?_) (fun c6 => ?_)
    · rw [if_neg c6] at H
      refine z_aload_n (pc := 22) 0 dX12_held_22 rfl rfl ?_
      obtain ⟨z7, H⟩ := zifE H
      obtain ⟨h8, eh8, H⟩ := zbind H
      refine z_callV (pc := 23) (mc := 0) (ms := 0) (d' := 3) (mc' := 0) (ms' := 0) (rest := []) [] dX12_held_23 md_X12_findSigns ml_X12_430 im_X12_findSigns se_X12_findSigns rfl z7 rfl rfl (Nat.le_of_ble_eq_true rfl) (by omega) (k_X12_findSigns eh8) ?_
      refine z_aload_n (pc := 26) 0 dX12_held_26 rfl rfl ?_
      refine z_iload_n (pc := 27) 2 dX12_held_27 rfl rfl ?_
      obtain ⟨z9, H⟩ := zifE H
      obtain ⟨q10, eq10, H⟩ := zbind H
      refine z_callV (pc := 28) (mc := 0) (ms := 0) (d' := 2) (mc' := 0) (ms' := 0) (rest := []) [.int v2] dX12_held_28 md_X12_findCustoms ml_X12_433 im_X12_findCustoms se_X12_findCustoms rfl z9 rfl rfl (Nat.le_of_ble_eq_true rfl) (by omega) (k_X12_findCustoms eq10) ?_
      refine z_if_ne (pc := 31) 36 dX12_held_31 (by decide) (fun c11 => ?_) (fun c11 => ?_)
      · rw [if_neg c11] at H
        refine z_iconst (pc := 36) (x := 1) dX12_held_36 zc_iconst_1 ?_
        refine z_istore_n (pc := 37) (lv' := [(3, .int 1), (0, .ref v0), (1, .int v1), (2, .int v2)]) dX12_held_37 rfl (by decide) rfl ?_
        refine z_iconst (pc := 38) (x := 0) dX12_held_38 zc_iconst_0 ?_
        refine z_istore (pc := 39) (lv' := [(4, .int 0), (3, .int 1), (0, .ref v0), (1, .int v1), (2, .int v2)]) dX12_held_39 (by decide) rfl ?_
        refine z_iconst (pc := 41) (x := 0) dX12_held_41 zc_iconst_0 ?_
        refine z_istore (pc := 42) (lv' := [(5, .int 0), (4, .int 0), (3, .int 1), (0, .ref v0), (1, .int v1), (2, .int v2)]) dX12_held_42 (by decide) rfl ?_
        obtain ⟨m29, em29, H⟩ := zbind H
        refine z_sub [3, 4, 2, 1, 0] rfl (s_X12_held_L44 (by omega) N 1 0 0 _ em29 ?_)
        refine z_iload_n (pc := 120) 0 dX12_held_120 rfl rfl ?_
        refine z_if_eq (pc := 121) 128 dX12_held_121 (by decide) (fun c30 => ?_) (fun c30 => ?_)
        · rw [if_pos c30] at H
          refine z_iload (pc := 128) 1 dX12_held_128 rfl ?_
          refine z_if_eq (pc := 130) 137 dX12_held_130 (by decide) (fun c31 => ?_) (fun c31 => ?_)
          · rw [if_pos c31] at H
            refine z_iconst (pc := 137) (x := 0) dX12_held_137 zc_iconst_0 ?_
            cases H
            exact z_ireturn rfl dX12_held_138
          · rw [if_neg c31] at H
            refine z_iconst (pc := 133) (x := 1) dX12_held_133 zc_iconst_1 ?_
            refine z_goto (pc := 134) 138 dX12_held_134 (by decide) ?_
            cases H
            exact z_ireturn rfl dX12_held_138
        · rw [if_neg c30] at H
          refine z_iconst (pc := 124) (x := 2) dX12_held_124 zc_iconst_2 ?_
          refine z_goto (pc := 125) 138 dX12_held_125 (by decide) ?_
          cases H
          exact z_ireturn rfl dX12_held_138
      · rw [if_pos c11] at H
        refine z_iconst (pc := 34) (x := (-1)) dX12_held_34 zc_iconst_m1 ?_
        cases H
        exact z_ireturn rfl dX12_held_35
    · rw [if_pos c6] at H
      refine z_iconst (pc := 20) (x := (-1)) dX12_held_20 zc_iconst_m1 ?_
      cases H
      exact z_ireturn rfl dX12_held_21

def f_X12_since_L36 (N : Nat) (v0 : Nat) (v2 : Int32) (h : zH) : Nat → Int32 → Int32 → Option (Int32)
  | 0, _, _ => none
  | n + 1, v3, v4 => (gI h v0 12 49).bind fun x8 => if x8 ≤ v4 then (some v3) else (if v3 = 0 then ((gR h v0 12 52).bind fun r11 => (aI h r11 v4).bind fun x12 => zif (zob h v0 12) <| (f_X12_viewYear N v0 h).bind fun q14 => if (p_X12_within x12 v2 q14) = 0 then (f_X12_since_L36 N v0 v2 h n 0 (v4 + 1)) else (f_X12_since_L36 N v0 v2 h n 1 (v4 + 1))) else (f_X12_since_L36 N v0 v2 h n 1 (v4 + 1)))
def f_X12_since_L101 (N : Nat) (v0 : Nat) (v1 : Int32) (h : zH) : Nat → Int32 → Int32 → Option (Int32)
  | 0, _, _ => none
  | n + 1, v4, v5 => if 128 ≤ v5 then (some v4) else (if v4 = 0 then (some v4) else ((gR h v0 12 56).bind fun r24 => (aZ h r24 v5).bind fun x25 => if x25 = 0 then (f_X12_since_L101 N v0 v1 h n 1 (v5 + 1)) else ((gR h v0 12 54).bind fun r27 => (aI h r27 v5).bind fun x28 => if x28 = v1 then (f_X12_since_L101 N v0 v1 h n 1 (v5 + 1)) else ((gR h v0 12 55).bind fun r30 => (aI h r30 v5).bind fun x31 => if x31 = v1 then (f_X12_since_L101 N v0 v1 h n 1 (v5 + 1)) else (f_X12_since_L101 N v0 v1 h n 0 (v5 + 1))))))
def f_X12_since_L23 (N : Nat) (v0 : Nat) (v1 : Int32) : Nat → Int32 → zH → Option ((zH) ⊕ (Int32 × zH))
  | 0, _, _ => none
  | n + 1, v2, h => zif (zob h v0 12) <| (f_X12_viewYear N v0 h).bind fun q6 => if q6 < v2 then (some (.inl h)) else ((f_X12_since_L36 N v0 v2 h N 0 0).bind fun m16 => (if m16 = 0 then (some (0, h)) else (zif (zob h v0 12) <| (f_X12_findCustoms N v0 v2 h).bind fun q20 => if q20.1 ≤ 0 then (some (0, q20.2)) else (some (1, q20.2))) : Option (Int32 × zH)).bind fun m17 => (f_X12_since_L101 N v0 v1 m17.2 N m17.1 0).bind fun m33 => if m33 = 0 then (f_X12_since_L23 N v0 v1 n (v2 + 1) m17.2) else (some (.inr (v2, m17.2))))
set_option maxRecDepth 100000 in
set_option maxHeartbeats 4000000 in
theorem s_X12_since_L36 {d mc ms N : Nat} {vv : Option Value} {hh : zH} {v0 : Nat} {v2 : Int32} {v1 : Int32} {h : zH} (hd0 : 4 ≤ d) : ∀ (n : Nat) (v3 : Int32) (v4 : Int32) (m : Int32), f_X12_since_L36 N v0 v2 h n v3 v4 = some m → (zW yX12_since cX12_since 6 (some .int) d mc ms 79 [(0, .ref v0), (1, .int v1), (2, .int v2), (3, .int m)] [] h vv hh) → zW yX12_since cX12_since 6 (some .int) d mc ms 36 [(0, .ref v0), (1, .int v1), (2, .int v2), (3, .int v3), (4, .int v4)] [] h vv hh := by
  intro n
  induction n with
  | zero =>
    intro v3 v4 m H
    cases H
  | succ n ih =>
    intro v3 v4 m H KE
    unfold f_X12_since_L36 at H
    refine z_iload (pc := 36) 4 dX12_since_36 rfl ?_
    refine z_aload_n (pc := 38) 0 dX12_since_38 rfl rfl ?_
    obtain ⟨x8, ex8, H⟩ := zbind H
    refine z_getI (pc := 39) dX12_since_39 fd_X12_420 ex8 ?_
    refine z_icmp_ge (pc := 42) 79 dX12_since_42 (by decide) (fun c9 => ?_) (fun c9 => ?_)
    · rw [if_pos c9] at H
      cases H
      exact z_sub [0, 1, 2, 3] rfl (KE)
    · rw [if_neg c9] at H
      refine z_iload_n (pc := 45) 3 dX12_since_45 rfl rfl ?_
      refine z_if_ne (pc := 46) 67 dX12_since_46 (by decide) (fun c10 => ?_) (fun c10 => ?_)
      · rw [if_neg c10] at H
        refine z_iconst (pc := 67) (x := 1) dX12_since_67 zc_iconst_1 ?_
        refine z_goto (pc := 68) 72 dX12_since_68 (by decide) ?_
        refine z_istore_n (pc := 72) (lv' := [(3, .int 1), (0, .ref v0), (1, .int v1), (2, .int v2), (4, .int v4)]) dX12_since_72 rfl (by decide) rfl ?_
        refine z_iinc (pc := 73) (x' := v4 + 1) (lv' := [(4, .int (v4 + 1)), (3, .int 1), (0, .ref v0), (1, .int v1), (2, .int v2)]) 4 dX12_since_73 rfl (by rfl) (by decide) rfl ?_
        refine z_goto (pc := 76) 36 dX12_since_76 (by decide) ?_
        exact z_sub [2, 3, 4, 1, 0] rfl (ih 1 (v4 + 1) _ H KE)
      · rw [if_pos c10] at H
        refine z_aload_n (pc := 49) 0 dX12_since_49 rfl rfl ?_
        obtain ⟨r11, er11, H⟩ := zbind H
        refine z_getR (pc := 50) dX12_since_50 fd_X12_164 er11 ?_
        refine z_iload (pc := 53) 4 dX12_since_53 rfl ?_
        obtain ⟨x12, ex12, H⟩ := zbind H
        refine z_iaload (pc := 55) dX12_since_55 ex12 ?_
        refine z_iload_n (pc := 56) 2 dX12_since_56 rfl rfl ?_
        refine z_aload_n (pc := 57) 0 dX12_since_57 rfl rfl ?_
        obtain ⟨z13, H⟩ := zifE H
        obtain ⟨q14, eq14, H⟩ := zbind H
        refine z_callV (pc := 58) (mc := mc) (ms := ms) (d' := 0) (mc' := 0) (ms' := 0) (rest := [.int v2, .int x12]) [] dX12_since_58 md_X12_viewYear ml_X12_396 im_X12_viewYear se_X12_viewYear rfl z13 rfl rfl (Nat.le_of_ble_eq_true rfl) (by omega) (k_X12_viewYear eq14) ?_
        refine z_callS (pc := 61) (mc := mc) (ms := ms) (d' := 0) (mc' := 0) (ms' := 0) (rest := []) [.int x12, .int v2, .int q14] dX12_since_61 md_X12_within ml_X12_352 sm_X12_within rfl rfl (Nat.le_of_ble_eq_true rfl) (by omega) (k_X12_within x12 v2 q14 h _ rfl) ?_
        refine z_if_eq (pc := 64) 71 dX12_since_64 (by decide) (fun c15 => ?_) (fun c15 => ?_)
        · rw [if_pos c15] at H
          refine z_iconst (pc := 71) (x := 0) dX12_since_71 zc_iconst_0 ?_
          refine z_istore_n (pc := 72) (lv' := [(3, .int 0), (0, .ref v0), (1, .int v1), (2, .int v2), (4, .int v4)]) dX12_since_72 rfl (by decide) rfl ?_
          refine z_iinc (pc := 73) (x' := v4 + 1) (lv' := [(4, .int (v4 + 1)), (3, .int 0), (0, .ref v0), (1, .int v1), (2, .int v2)]) 4 dX12_since_73 rfl (by rfl) (by decide) rfl ?_
          refine z_goto (pc := 76) 36 dX12_since_76 (by decide) ?_
          exact z_sub [2, 3, 4, 1, 0] rfl (ih 0 (v4 + 1) _ H KE)
        · rw [if_neg c15] at H
          refine z_iconst (pc := 67) (x := 1) dX12_since_67 zc_iconst_1 ?_
          refine z_goto (pc := 68) 72 dX12_since_68 (by decide) ?_
          refine z_istore_n (pc := 72) (lv' := [(3, .int 1), (0, .ref v0), (1, .int v1), (2, .int v2), (4, .int v4)]) dX12_since_72 rfl (by decide) rfl ?_
          refine z_iinc (pc := 73) (x' := v4 + 1) (lv' := [(4, .int (v4 + 1)), (3, .int 1), (0, .ref v0), (1, .int v1), (2, .int v2)]) 4 dX12_since_73 rfl (by rfl) (by decide) rfl ?_
          refine z_goto (pc := 76) 36 dX12_since_76 (by decide) ?_
          exact z_sub [2, 3, 4, 1, 0] rfl (ih 1 (v4 + 1) _ H KE)
set_option maxRecDepth 100000 in
set_option maxHeartbeats 4000000 in
theorem s_X12_since_L101 {d mc ms N : Nat} {vv : Option Value} {hh : zH} {v0 : Nat} {v1 : Int32} {v2 : Int32} {h : zH} (hd0 : 4 ≤ d) : ∀ (n : Nat) (v4 : Int32) (v5 : Int32) (m : Int32), f_X12_since_L101 N v0 v1 h n v4 v5 = some m → (zW yX12_since cX12_since 6 (some .int) d mc ms 159 [(0, .ref v0), (1, .int v1), (2, .int v2), (4, .int m)] [] h vv hh) → zW yX12_since cX12_since 6 (some .int) d mc ms 101 [(0, .ref v0), (1, .int v1), (2, .int v2), (4, .int v4), (5, .int v5)] [] h vv hh := by
  intro n
  induction n with
  | zero =>
    intro v4 v5 m H
    cases H
  | succ n ih =>
    intro v4 v5 m H KE
    unfold f_X12_since_L101 at H
    refine z_iload (pc := 101) 4 dX12_since_101 rfl ?_
    refine z_sipush (pc := 103) (x := 128) dX12_since_103 zc_sipush_128 ?_
    refine z_icmp_ge (pc := 106) 159 dX12_since_106 (by decide) (fun c22 => ?_) (fun c22 => ?_)
    · rw [if_pos c22] at H
      cases H
      exact z_sub [0, 1, 2, 3] rfl (KE)
    · rw [if_neg c22] at H
      refine z_iload (pc := 109) 3 dX12_since_109 rfl ?_
      refine z_if_eq (pc := 111) 159 dX12_since_111 (by decide) (fun c23 => ?_) (fun c23 => ?_)
      · rw [if_pos c23] at H
        cases H
        exact z_sub [0, 1, 2, 3] rfl (KE)
      · rw [if_neg c23] at H
        refine z_aload_n (pc := 114) 0 dX12_since_114 rfl rfl ?_
        obtain ⟨r24, er24, H⟩ := zbind H
        refine z_getR (pc := 115) dX12_since_115 fd_X12_176 er24 ?_
        refine z_iload (pc := 118) 4 dX12_since_118 rfl ?_
        obtain ⟨x25, ex25, H⟩ := zbind H
        refine z_zaload (pc := 120) dX12_since_120 ex25 ?_
        refine z_if_eq (pc := 121) 146 dX12_since_121 (by decide) (fun c26 => ?_) (fun c26 => ?_)
        · rw [if_pos c26] at H
          refine z_iconst (pc := 146) (x := 1) dX12_since_146 zc_iconst_1 ?_
          refine z_goto (pc := 147) 151 dX12_since_147 (by decide) ?_
          refine z_istore (pc := 151) (lv' := [(4, .int 1), (0, .ref v0), (1, .int v1), (2, .int v2), (5, .int v5)]) dX12_since_151 (by decide) rfl ?_
          refine z_iinc (pc := 153) (x' := v5 + 1) (lv' := [(5, .int (v5 + 1)), (4, .int 1), (0, .ref v0), (1, .int v1), (2, .int v2)]) 4 dX12_since_153 rfl (by rfl) (by decide) rfl ?_
          refine z_goto (pc := 156) 101 dX12_since_156 (by decide) ?_
          exact z_sub [2, 3, 4, 1, 0] rfl (ih 1 (v5 + 1) _ H KE)
        · rw [if_neg c26] at H
          refine z_aload_n (pc := 124) 0 dX12_since_124 rfl rfl ?_
          obtain ⟨r27, er27, H⟩ := zbind H
          refine z_getR (pc := 125) dX12_since_125 fd_X12_170 er27 ?_
          refine z_iload (pc := 128) 4 dX12_since_128 rfl ?_
          obtain ⟨x28, ex28, H⟩ := zbind H
          refine z_iaload (pc := 130) dX12_since_130 ex28 ?_
          refine z_iload_n (pc := 131) 1 dX12_since_131 rfl rfl ?_
          refine z_icmp_eq (pc := 132) 146 dX12_since_132 (by decide) (fun c29 => ?_) (fun c29 => ?_)
          · rw [if_pos c29] at H
            refine z_iconst (pc := 146) (x := 1) dX12_since_146 zc_iconst_1 ?_
            refine z_goto (pc := 147) 151 dX12_since_147 (by decide) ?_
            refine z_istore (pc := 151) (lv' := [(4, .int 1), (0, .ref v0), (1, .int v1), (2, .int v2), (5, .int v5)]) dX12_since_151 (by decide) rfl ?_
            refine z_iinc (pc := 153) (x' := v5 + 1) (lv' := [(5, .int (v5 + 1)), (4, .int 1), (0, .ref v0), (1, .int v1), (2, .int v2)]) 4 dX12_since_153 rfl (by rfl) (by decide) rfl ?_
            refine z_goto (pc := 156) 101 dX12_since_156 (by decide) ?_
            exact z_sub [2, 3, 4, 1, 0] rfl (ih 1 (v5 + 1) _ H KE)
          · rw [if_neg c29] at H
            refine z_aload_n (pc := 135) 0 dX12_since_135 rfl rfl ?_
            obtain ⟨r30, er30, H⟩ := zbind H
            refine z_getR (pc := 136) dX12_since_136 fd_X12_173 er30 ?_
            refine z_iload (pc := 139) 4 dX12_since_139 rfl ?_
            obtain ⟨x31, ex31, H⟩ := zbind H
            refine z_iaload (pc := 141) dX12_since_141 ex31 ?_
            refine z_iload_n (pc := 142) 1 dX12_since_142 rfl rfl ?_
            refine z_icmp_ne (pc := 143) 150 dX12_since_143 (by decide) (fun c32 => ?_) (fun c32 => ?_)
            · rw [if_neg c32] at H
              refine z_iconst (pc := 150) (x := 0) dX12_since_150 zc_iconst_0 ?_
              refine z_istore (pc := 151) (lv' := [(4, .int 0), (0, .ref v0), (1, .int v1), (2, .int v2), (5, .int v5)]) dX12_since_151 (by decide) rfl ?_
              refine z_iinc (pc := 153) (x' := v5 + 1) (lv' := [(5, .int (v5 + 1)), (4, .int 0), (0, .ref v0), (1, .int v1), (2, .int v2)]) 4 dX12_since_153 rfl (by rfl) (by decide) rfl ?_
              refine z_goto (pc := 156) 101 dX12_since_156 (by decide) ?_
              exact z_sub [2, 3, 4, 1, 0] rfl (ih 0 (v5 + 1) _ H KE)
            · rw [if_pos c32] at H
              refine z_iconst (pc := 146) (x := 1) dX12_since_146 zc_iconst_1 ?_
              refine z_goto (pc := 147) 151 dX12_since_147 (by decide) ?_
              refine z_istore (pc := 151) (lv' := [(4, .int 1), (0, .ref v0), (1, .int v1), (2, .int v2), (5, .int v5)]) dX12_since_151 (by decide) rfl ?_
              refine z_iinc (pc := 153) (x' := v5 + 1) (lv' := [(5, .int (v5 + 1)), (4, .int 1), (0, .ref v0), (1, .int v1), (2, .int v2)]) 4 dX12_since_153 rfl (by rfl) (by decide) rfl ?_
              refine z_goto (pc := 156) 101 dX12_since_156 (by decide) ?_
              exact z_sub [2, 3, 4, 1, 0] rfl (ih 1 (v5 + 1) _ H KE)
set_option maxRecDepth 100000 in
set_option maxHeartbeats 4000000 in
theorem s_X12_since_L23 {d mc ms N : Nat} {vv : Option Value} {hh : zH} {v0 : Nat} {v1 : Int32} (hd0 : 4 ≤ d) : ∀ (n : Nat) (v2 : Int32) (h : zH) (m : (zH) ⊕ (Int32 × zH)), f_X12_since_L23 N v0 v1 n v2 h = some m → (∀ s, m = .inl s → zW yX12_since cX12_since 6 (some .int) d mc ms 172 [] [] s vv hh) → (∀ r, m = .inr r → vv = (some (.int r.1)) ∧ hh = r.2) → zW yX12_since cX12_since 6 (some .int) d mc ms 23 [(0, .ref v0), (1, .int v1), (2, .int v2)] [] h vv hh := by
  intro n
  induction n with
  | zero =>
    intro v2 h m H
    cases H
  | succ n ih =>
    intro v2 h m H KE KR
    unfold f_X12_since_L23 at H
    refine z_iload_n (pc := 23) 2 dX12_since_23 rfl rfl ?_
    refine z_aload_n (pc := 24) 0 dX12_since_24 rfl rfl ?_
    obtain ⟨z5, H⟩ := zifE H
    obtain ⟨q6, eq6, H⟩ := zbind H
    refine z_callV (pc := 25) (mc := mc) (ms := ms) (d' := 0) (mc' := 0) (ms' := 0) (rest := [.int v2]) [] dX12_since_25 md_X12_viewYear ml_X12_396 im_X12_viewYear se_X12_viewYear rfl z5 rfl rfl (Nat.le_of_ble_eq_true rfl) (by omega) (k_X12_viewYear eq6) ?_
    refine z_icmp_gt (pc := 28) 172 dX12_since_28 (by decide) (fun c7 => ?_) (fun c7 => ?_)
    · rw [if_pos c7] at H
      cases H
      exact z_sub [] rfl (KE _ rfl)
    · rw [if_neg c7] at H
      refine z_iconst (pc := 31) (x := 0) dX12_since_31 zc_iconst_0 ?_
      refine z_istore_n (pc := 32) (lv' := [(3, .int 0), (0, .ref v0), (1, .int v1), (2, .int v2)]) dX12_since_32 rfl (by decide) rfl ?_
      refine z_iconst (pc := 33) (x := 0) dX12_since_33 zc_iconst_0 ?_
      refine z_istore (pc := 34) (lv' := [(4, .int 0), (3, .int 0), (0, .ref v0), (1, .int v1), (2, .int v2)]) dX12_since_34 (by decide) rfl ?_
      obtain ⟨m16, em16, H⟩ := zbind H
      refine z_sub [2, 3, 4, 1, 0] rfl (s_X12_since_L36 (by omega) N 0 0 _ em16 ?_)
      refine z_iload_n (pc := 79) 3 dX12_since_79 rfl rfl ?_
      obtain ⟨m17, em17, H⟩ := zbind H
      have Jm17 : zW yX12_since cX12_since 6 (some .int) d mc ms 96 [(0, .ref v0), (1, .int v1), (2, .int v2)] [.int m17.1] m17.2 vv hh := by
        refine z_istore (pc := 96) (lv' := [(4, .int m17.1), (0, .ref v0), (1, .int v1), (2, .int v2)]) dX12_since_96 (by decide) rfl ?_
        refine z_iconst (pc := 98) (x := 0) dX12_since_98 zc_iconst_0 ?_
        refine z_istore (pc := 99) (lv' := [(5, .int 0), (4, .int m17.1), (0, .ref v0), (1, .int v1), (2, .int v2)]) dX12_since_99 (by decide) rfl ?_
        obtain ⟨m33, em33, H⟩ := zbind H
        refine z_sub [2, 3, 4, 1, 0] rfl (s_X12_since_L101 (by omega) N m17.1 0 _ em33 ?_)
        refine z_iload (pc := 159) 3 dX12_since_159 rfl ?_
        refine z_if_eq (pc := 161) 166 dX12_since_161 (by decide) (fun c34 => ?_) (fun c34 => ?_)
        · rw [if_pos c34] at H
          refine z_iinc (pc := 166) (x' := v2 + 1) (lv' := [(2, .int (v2 + 1)), (0, .ref v0), (1, .int v1), (4, .int m33)]) 2 dX12_since_166 rfl (by rfl) (by decide) rfl ?_
          refine z_goto (pc := 169) 23 dX12_since_169 (by decide) ?_
          exact z_sub [1, 2, 0] rfl (ih (v2 + 1) m17.2 _ H KE KR)
        · rw [if_neg c34] at H
          refine z_iload_n (pc := 164) 2 dX12_since_164 rfl rfl ?_
          cases H
          obtain ⟨e8, e9⟩ := KR _ rfl
          subst e8
          subst e9
          exact z_ireturn rfl dX12_since_165
      refine z_if_eq (pc := 80) 95 dX12_since_80 (by decide) (fun c18 => ?_) (fun c18 => ?_)
      · rw [if_pos c18] at em17
        refine z_iconst (pc := 95) (x := 0) dX12_since_95 zc_iconst_0 ?_
        cases em17
        exact z_sub [0, 1, 2] rfl Jm17
      · rw [if_neg c18] at em17
        refine z_aload_n (pc := 83) 0 dX12_since_83 rfl rfl ?_
        refine z_iload_n (pc := 84) 2 dX12_since_84 rfl rfl ?_
        obtain ⟨z19, em17⟩ := zifE em17
        obtain ⟨q20, eq20, em17⟩ := zbind em17
        refine z_callV (pc := 85) (mc := mc) (ms := ms) (d' := 2) (mc' := 0) (ms' := 0) (rest := []) [.int v2] dX12_since_85 md_X12_findCustoms ml_X12_433 im_X12_findCustoms se_X12_findCustoms rfl z19 rfl rfl (Nat.le_of_ble_eq_true rfl) (by omega) (k_X12_findCustoms eq20) ?_
        refine z_if_le (pc := 88) 95 dX12_since_88 (by decide) (fun c21 => ?_) (fun c21 => ?_)
        · rw [if_pos c21] at em17
          refine z_iconst (pc := 95) (x := 0) dX12_since_95 zc_iconst_0 ?_
          cases em17
          exact z_sub [0, 1, 2] rfl Jm17
        · rw [if_neg c21] at em17
          refine z_iconst (pc := 91) (x := 1) dX12_since_91 zc_iconst_1 ?_
          refine z_goto (pc := 92) 96 dX12_since_92 (by decide) ?_
          cases em17
          exact z_sub [0, 1, 2] rfl Jm17
def f_X12_since (N : Nat) (v0 : Nat) (v1 : Int32) (h : zH) : Option (Int32 × zH) := (pF h v0 12 0 (.int 0)).bind fun h1 => if (p_X12_within v1 0 15) = 0 then (some ((-1), h1)) else (zif (zob h1 v0 12) <| (f_X12_findSigns N v0 h1).bind fun h4 => (f_X12_since_L23 N v0 v1 N 0 h4).bind fun m35 => zsum m35 fun s36 => some ((-1), s36))
set_option maxRecDepth 100000 in
set_option maxHeartbeats 4000000 in
theorem k_X12_since {N : Nat} {v0 : Nat} {v1 : Int32} {h : zH} {r : Int32 × zH} (H : f_X12_since N v0 v1 h = some r) : zOk 4 0 0 yX12_since cX12_since 6 (some .int) [.ref v0, .int v1] h (some (.int r.1)) r.2 := by
  refine zOk.of (by decide) (Nat.le_of_ble_eq_true rfl) ?_
  unfold f_X12_since at H
  refine z_aload_n (pc := 0) 0 dX12_since_0 rfl rfl ?_
  refine z_iconst (pc := 1) (x := 0) dX12_since_1 zc_iconst_0 ?_
  obtain ⟨h1, eh1, H⟩ := zbind H
  refine z_put (pc := 2) dX12_since_2 fd_X12_1 rfl rfl eh1 ?_
  refine z_iload_n (pc := 5) 1 dX12_since_5 rfl rfl ?_
  refine z_iconst (pc := 6) (x := 0) dX12_since_6 zc_iconst_0 ?_
  refine z_bipush (pc := 7) (x := 15) dX12_since_7 zc_bipush_15 ?_
  refine z_callS (pc := 9) (mc := 0) (ms := 0) (d' := 0) (mc' := 0) (ms' := 0) (rest := []) [.int v1, .int 0, .int 15] dX12_since_9 md_X12_within ml_X12_352 sm_X12_within rfl rfl (Nat.le_of_ble_eq_true rfl) (by omega) (k_X12_within v1 0 15 h1 _ rfl) ?_
  refine z_if_ne (pc := 12) 17 dX12_since_12 (by decide) (fun c2 => ?_) (fun c2 => ?_)
  · rw [if_neg c2] at H
    refine z_aload_n (pc := 17) 0 dX12_since_17 rfl rfl ?_
    obtain ⟨z3, H⟩ := zifE H
    obtain ⟨h4, eh4, H⟩ := zbind H
    refine z_callV (pc := 18) (mc := 0) (ms := 0) (d' := 3) (mc' := 0) (ms' := 0) (rest := []) [] dX12_since_18 md_X12_findSigns ml_X12_430 im_X12_findSigns se_X12_findSigns rfl z3 rfl rfl (Nat.le_of_ble_eq_true rfl) (by omega) (k_X12_findSigns eh4) ?_
    refine z_iconst (pc := 21) (x := 0) dX12_since_21 zc_iconst_0 ?_
    refine z_istore_n (pc := 22) (lv' := [(2, .int 0), (0, .ref v0), (1, .int v1)]) dX12_since_22 rfl (by decide) rfl ?_
    obtain ⟨m35, em35, H⟩ := zbind H
    refine z_sub [1, 2, 0] rfl (s_X12_since_L23 (by omega) N 0 h4 _ em35 ?_ ?_)
    · intro s36 e9
      subst e9
      have H := zsumL H
      refine z_iconst (pc := 172) (x := (-1)) dX12_since_172 zc_iconst_m1 ?_
      cases H
      exact z_ireturn rfl dX12_since_173
    · intro r e9
      subst e9
      have H := zsumR H
      cases H
      exact ⟨rfl, rfl⟩
  · rw [if_pos c2] at H
    refine z_iconst (pc := 15) (x := (-1)) dX12_since_15 zc_iconst_m1 ?_
    cases H
    exact z_ireturn rfl dX12_since_16

def f_X12_isStreamNumber (N : Nat) (v0 : Int32) (h : zH) : Option (Int32) := rZ0 (p_X12_within v0 0 3)
set_option maxRecDepth 100000 in
set_option maxHeartbeats 4000000 in
theorem k_X12_isStreamNumber {N : Nat} {v0 : Int32} {h : zH} {r : Int32} (H : f_X12_isStreamNumber N v0 h = some r) : zOk 1 0 0 yX12_isStreamNumber cX12_isStreamNumber 1 (some .boolean) [.int v0] h (some (.int r)) h := by
  refine zOk.of (by decide) (Nat.le_of_ble_eq_true rfl) ?_
  unfold f_X12_isStreamNumber at H
  refine z_iload_n (pc := 0) 0 dX12_isStreamNumber_0 rfl rfl ?_
  refine z_iconst (pc := 1) (x := 0) dX12_isStreamNumber_1 zc_iconst_0 ?_
  refine z_iconst (pc := 2) (x := 3) dX12_isStreamNumber_2 zc_iconst_3 ?_
  refine z_callS (pc := 3) (mc := 0) (ms := 0) (d' := 0) (mc' := 0) (ms' := 0) (rest := []) [.int v0, .int 0, .int 3] dX12_isStreamNumber_3 md_X12_within ml_X12_352 sm_X12_within rfl rfl (Nat.le_of_ble_eq_true rfl) (by omega) (k_X12_within v0 0 3 h _ rfl) ?_
  obtain ⟨z9, H⟩ := rZ0E H
  cases H
  exact z_zreturn rfl dX12_isStreamNumber_6 z9

theorem md_X12_isStreamNumber : zMd yX12_isStreamNumber cX12_isStreamNumber 1 1 (some .boolean) := ⟨zmw (zmt_8 _ (List.mem_of_getElem? (i := 52) rfl)) rfl, zmem 127 (by decide +kernel) rfl, by decide, by decide, by decide +kernel, by decide⟩
theorem ml_X12_436 : Cond.methodLink RX12 436 yX12_isStreamNumber ∈ zB := zmem 1841 (by decide +kernel) rfl
theorem sm_X12_isStreamNumber : Cond.static yX12_isStreamNumber ∈ zB := zmem 1842 (by decide +kernel) rfl
def f_X12_stream (N : Nat) (v0 : Nat) (v1 : Int32) (v2 : Int32) (v3 : Int32) (v4 : Int32) (v5 : Int32) (h : zH) : Option (Int32 × zH) := (pF h v0 12 0 (.int 0)).bind fun h1 => (if v2 = 0 then (some 1) else (if (p_X12_within v2 1 99) = 0 then (some 0) else (if (p_X12_within v3 1 60) = 0 then (some 0) else (some 1))) : Option (Int32)).bind fun m2 => (f_X12_isStreamNumber N v1 h1).bind fun q6 => if q6 = 0 then (some (0, h1)) else (if m2 = 0 then (some (0, h1)) else (if (p_X12_within v4 1 60) = 0 then (some (0, h1)) else (if (p_X12_within v5 0 999) = 0 then (some (0, h1)) else ((gR h1 v0 12 57).bind fun r11 => (sZ h1 r11 v1 1).bind fun h12 => (gR h12 v0 12 58).bind fun r13 => (sI h12 r13 v1 v2).bind fun h14 => (gR h14 v0 12 59).bind fun r15 => (sI h14 r15 v1 v3).bind fun h16 => (gR h16 v0 12 60).bind fun r17 => (sI h16 r17 v1 v4).bind fun h18 => (gR h18 v0 12 61).bind fun r19 => (sI h18 r19 v1 v5).bind fun h20 => some (1, h20)))))
set_option maxRecDepth 100000 in
set_option maxHeartbeats 4000000 in
theorem k_X12_stream {N : Nat} {v0 : Nat} {v1 : Int32} {v2 : Int32} {v3 : Int32} {v4 : Int32} {v5 : Int32} {h : zH} {r : Int32 × zH} (H : f_X12_stream N v0 v1 v2 v3 v4 v5 h = some r) : zOk 2 0 0 yX12_stream cX12_stream 7 (some .boolean) [.ref v0, .int v1, .int v2, .int v3, .int v4, .int v5] h (some (.int r.1)) r.2 := by
  refine zOk.of (by decide) (Nat.le_of_ble_eq_true rfl) ?_
  unfold f_X12_stream at H
  refine z_aload_n (pc := 0) 0 dX12_stream_0 rfl rfl ?_
  refine z_iconst (pc := 1) (x := 0) dX12_stream_1 zc_iconst_0 ?_
  obtain ⟨h1, eh1, H⟩ := zbind H
  refine z_put (pc := 2) dX12_stream_2 fd_X12_1 rfl rfl eh1 ?_
  refine z_iload_n (pc := 5) 2 dX12_stream_5 rfl rfl ?_
  obtain ⟨m2, em2, H⟩ := zbind H
  have Jm2 : zW yX12_stream cX12_stream 7 (some .boolean) 2 0 0 34 [(0, .ref v0), (1, .int v1), (2, .int v2), (3, .int v3), (4, .int v4), (5, .int v5)] [.int m2] h1 (some (.int r.1)) r.2 := by
    refine z_istore (pc := 34) (lv' := [(6, .int m2), (0, .ref v0), (1, .int v1), (2, .int v2), (3, .int v3), (4, .int v4), (5, .int v5)]) dX12_stream_34 (by decide) rfl ?_
    refine z_iload_n (pc := 36) 2 dX12_stream_36 rfl rfl ?_
    obtain ⟨q6, eq6, H⟩ := zbind H
    refine z_callS (pc := 37) (mc := 0) (ms := 0) (d' := 1) (mc' := 0) (ms' := 0) (rest := []) [.int v1] dX12_stream_37 md_X12_isStreamNumber ml_X12_436 sm_X12_isStreamNumber rfl rfl (Nat.le_of_ble_eq_true rfl) (by omega) (k_X12_isStreamNumber eq6) ?_
    refine z_if_eq (pc := 40) 71 dX12_stream_40 (by decide) (fun c7 => ?_) (fun c7 => ?_)
    · rw [if_pos c7] at H
      refine z_iconst (pc := 71) (x := 0) dX12_stream_71 zc_iconst_0 ?_
      cases H
      exact z_zreturn rfl dX12_stream_72 (by decide)
    · rw [if_neg c7] at H
      refine z_iload (pc := 43) 0 dX12_stream_43 rfl ?_
      refine z_if_eq (pc := 45) 71 dX12_stream_45 (by decide) (fun c8 => ?_) (fun c8 => ?_)
      · rw [if_pos c8] at H
        refine z_iconst (pc := 71) (x := 0) dX12_stream_71 zc_iconst_0 ?_
        cases H
        exact z_zreturn rfl dX12_stream_72 (by decide)
      · rw [if_neg c8] at H
        refine z_iload (pc := 48) 5 dX12_stream_48 rfl ?_
        refine z_iconst (pc := 50) (x := 1) dX12_stream_50 zc_iconst_1 ?_
        refine z_bipush (pc := 51) (x := 60) dX12_stream_51 zc_bipush_60 ?_
        refine z_callS (pc := 53) (mc := 0) (ms := 0) (d' := 0) (mc' := 0) (ms' := 0) (rest := []) [.int v4, .int 1, .int 60] dX12_stream_53 md_X12_within ml_X12_352 sm_X12_within rfl rfl (Nat.le_of_ble_eq_true rfl) (by omega) (k_X12_within v4 1 60 h1 _ rfl) ?_
        refine z_if_eq (pc := 56) 71 dX12_stream_56 (by decide) (fun c9 => ?_) (fun c9 => ?_)
        · rw [if_pos c9] at H
          refine z_iconst (pc := 71) (x := 0) dX12_stream_71 zc_iconst_0 ?_
          cases H
          exact z_zreturn rfl dX12_stream_72 (by decide)
        · rw [if_neg c9] at H
          refine z_iload (pc := 59) 6 dX12_stream_59 rfl ?_
          refine z_iconst (pc := 61) (x := 0) dX12_stream_61 zc_iconst_0 ?_
          refine z_sipush (pc := 62) (x := 999) dX12_stream_62 zc_sipush_999 ?_
          refine z_callS (pc := 65) (mc := 0) (ms := 0) (d' := 0) (mc' := 0) (ms' := 0) (rest := []) [.int v5, .int 0, .int 999] dX12_stream_65 md_X12_within ml_X12_352 sm_X12_within rfl rfl (Nat.le_of_ble_eq_true rfl) (by omega) (k_X12_within v5 0 999 h1 _ rfl) ?_
          refine z_if_ne (pc := 68) 73 dX12_stream_68 (by decide) (fun c10 => ?_) (fun c10 => ?_)
          · rw [if_neg c10] at H
            refine z_aload_n (pc := 73) 1 dX12_stream_73 rfl rfl ?_
            obtain ⟨r11, er11, H⟩ := zbind H
            refine z_getR (pc := 74) dX12_stream_74 fd_X12_179 er11 ?_
            refine z_iload_n (pc := 77) 2 dX12_stream_77 rfl rfl ?_
            refine z_iconst (pc := 78) (x := 1) dX12_stream_78 zc_iconst_1 ?_
            obtain ⟨h12, eh12, H⟩ := zbind H
            refine z_zastore (pc := 79) dX12_stream_79 eh12 ?_
            refine z_aload_n (pc := 80) 1 dX12_stream_80 rfl rfl ?_
            obtain ⟨r13, er13, H⟩ := zbind H
            refine z_getR (pc := 81) dX12_stream_81 fd_X12_182 er13 ?_
            refine z_iload_n (pc := 84) 2 dX12_stream_84 rfl rfl ?_
            refine z_iload_n (pc := 85) 3 dX12_stream_85 rfl rfl ?_
            obtain ⟨h14, eh14, H⟩ := zbind H
            refine z_iastore (pc := 86) dX12_stream_86 eh14 ?_
            refine z_aload_n (pc := 87) 1 dX12_stream_87 rfl rfl ?_
            obtain ⟨r15, er15, H⟩ := zbind H
            refine z_getR (pc := 88) dX12_stream_88 fd_X12_185 er15 ?_
            refine z_iload_n (pc := 91) 2 dX12_stream_91 rfl rfl ?_
            refine z_iload_n (pc := 92) 4 dX12_stream_92 rfl rfl ?_
            obtain ⟨h16, eh16, H⟩ := zbind H
            refine z_iastore (pc := 93) dX12_stream_93 eh16 ?_
            refine z_aload_n (pc := 94) 1 dX12_stream_94 rfl rfl ?_
            obtain ⟨r17, er17, H⟩ := zbind H
            refine z_getR (pc := 95) dX12_stream_95 fd_X12_188 er17 ?_
            refine z_iload_n (pc := 98) 2 dX12_stream_98 rfl rfl ?_
            refine z_iload (pc := 99) 5 dX12_stream_99 rfl ?_
            obtain ⟨h18, eh18, H⟩ := zbind H
            refine z_iastore (pc := 101) dX12_stream_101 eh18 ?_
            refine z_aload_n (pc := 102) 1 dX12_stream_102 rfl rfl ?_
            obtain ⟨r19, er19, H⟩ := zbind H
            refine z_getR (pc := 103) dX12_stream_103 fd_X12_191 er19 ?_
            refine z_iload_n (pc := 106) 2 dX12_stream_106 rfl rfl ?_
            refine z_iload (pc := 107) 6 dX12_stream_107 rfl ?_
            obtain ⟨h20, eh20, H⟩ := zbind H
            refine z_iastore (pc := 109) dX12_stream_109 eh20 ?_
            refine z_iconst (pc := 110) (x := 1) dX12_stream_110 zc_iconst_1 ?_
            cases H
            exact z_zreturn rfl dX12_stream_111 (by decide)
          · rw [if_pos c10] at H
            refine z_iconst (pc := 71) (x := 0) dX12_stream_71 zc_iconst_0 ?_
            cases H
            exact z_zreturn rfl dX12_stream_72 (by decide)
  refine z_if_eq (pc := 6) 29 dX12_stream_6 (by decide) (fun c3 => ?_) (fun c3 => ?_)
  · rw [if_pos c3] at em2
    refine z_iconst (pc := 29) (x := 1) dX12_stream_29 zc_iconst_1 ?_
    refine z_goto (pc := 30) 34 dX12_stream_30 (by decide) ?_
    cases em2
    exact z_sub [0, 1, 2, 3, 4, 5] rfl Jm2
  · rw [if_neg c3] at em2
    refine z_iload_n (pc := 9) 2 dX12_stream_9 rfl rfl ?_
    refine z_iconst (pc := 10) (x := 1) dX12_stream_10 zc_iconst_1 ?_
    refine z_bipush (pc := 11) (x := 99) dX12_stream_11 zc_bipush_99 ?_
    refine z_callS (pc := 13) (mc := 0) (ms := 0) (d' := 0) (mc' := 0) (ms' := 0) (rest := []) [.int v2, .int 1, .int 99] dX12_stream_13 md_X12_within ml_X12_352 sm_X12_within rfl rfl (Nat.le_of_ble_eq_true rfl) (by omega) (k_X12_within v2 1 99 h1 _ rfl) ?_
    refine z_if_eq (pc := 16) 33 dX12_stream_16 (by decide) (fun c4 => ?_) (fun c4 => ?_)
    · rw [if_pos c4] at em2
      refine z_iconst (pc := 33) (x := 0) dX12_stream_33 zc_iconst_0 ?_
      cases em2
      exact z_sub [0, 1, 2, 3, 4, 5] rfl Jm2
    · rw [if_neg c4] at em2
      refine z_iload_n (pc := 19) 3 dX12_stream_19 rfl rfl ?_
      refine z_iconst (pc := 20) (x := 1) dX12_stream_20 zc_iconst_1 ?_
      refine z_bipush (pc := 21) (x := 60) dX12_stream_21 zc_bipush_60 ?_
      refine z_callS (pc := 23) (mc := 0) (ms := 0) (d' := 0) (mc' := 0) (ms' := 0) (rest := []) [.int v3, .int 1, .int 60] dX12_stream_23 md_X12_within ml_X12_352 sm_X12_within rfl rfl (Nat.le_of_ble_eq_true rfl) (by omega) (k_X12_within v3 1 60 h1 _ rfl) ?_
      refine z_if_eq (pc := 26) 33 dX12_stream_26 (by decide) (fun c5 => ?_) (fun c5 => ?_)
      · rw [if_pos c5] at em2
        refine z_iconst (pc := 33) (x := 0) dX12_stream_33 zc_iconst_0 ?_
        cases em2
        exact z_sub [0, 1, 2, 3, 4, 5] rfl Jm2
      · rw [if_neg c5] at em2
        refine z_iconst (pc := 29) (x := 1) dX12_stream_29 zc_iconst_1 ?_
        refine z_goto (pc := 30) 34 dX12_stream_30 (by decide) ?_
        cases em2
        exact z_sub [0, 1, 2, 3, 4, 5] rfl Jm2

def f_X12_together (N : Nat) (v0 : Nat) (v1 : Int32) (v2 : Int32) (v3 : Int32) (h : zH) : Option (Int32 × zH) := (pF h v0 12 0 (.int 0)).bind fun h1 => (f_X12_isStreamNumber N v1 h1).bind fun q2 => if q2 = 0 then (some (0, h1)) else ((f_X12_isStreamNumber N v2 h1).bind fun q4 => if q4 = 0 then (some (0, h1)) else (if v1 = v2 then (some (0, h1)) else ((gR h1 v0 12 62).bind fun r7 => (sZ h1 r7 ((4 * v1) + v2) v3).bind fun h8 => (gR h8 v0 12 62).bind fun r9 => (sZ h8 r9 ((4 * v2) + v1) v3).bind fun h10 => some (1, h10))))
set_option maxRecDepth 100000 in
set_option maxHeartbeats 4000000 in
theorem k_X12_together {N : Nat} {v0 : Nat} {v1 : Int32} {v2 : Int32} {v3 : Int32} {h : zH} {r : Int32 × zH} (H : f_X12_together N v0 v1 v2 v3 h = some r) : zOk 2 0 0 yX12_together cX12_together 4 (some .boolean) [.ref v0, .int v1, .int v2, .int v3] h (some (.int r.1)) r.2 := by
  refine zOk.of (by decide) (Nat.le_of_ble_eq_true rfl) ?_
  unfold f_X12_together at H
  refine z_aload_n (pc := 0) 0 dX12_together_0 rfl rfl ?_
  refine z_iconst (pc := 1) (x := 0) dX12_together_1 zc_iconst_0 ?_
  obtain ⟨h1, eh1, H⟩ := zbind H
  refine z_put (pc := 2) dX12_together_2 fd_X12_1 rfl rfl eh1 ?_
  refine z_iload_n (pc := 5) 1 dX12_together_5 rfl rfl ?_
  obtain ⟨q2, eq2, H⟩ := zbind H
  refine z_callS (pc := 6) (mc := 0) (ms := 0) (d' := 1) (mc' := 0) (ms' := 0) (rest := []) [.int v1] dX12_together_6 md_X12_isStreamNumber ml_X12_436 sm_X12_isStreamNumber rfl rfl (Nat.le_of_ble_eq_true rfl) (by omega) (k_X12_isStreamNumber eq2) ?_
  refine z_if_eq (pc := 9) 24 dX12_together_9 (by decide) (fun c3 => ?_) (fun c3 => ?_)
  · rw [if_pos c3] at H
    refine z_iconst (pc := 24) (x := 0) dX12_together_24 zc_iconst_0 ?_
    cases H
    exact z_zreturn rfl dX12_together_25 (by decide)
  · rw [if_neg c3] at H
    refine z_iload_n (pc := 12) 2 dX12_together_12 rfl rfl ?_
    obtain ⟨q4, eq4, H⟩ := zbind H
    refine z_callS (pc := 13) (mc := 0) (ms := 0) (d' := 1) (mc' := 0) (ms' := 0) (rest := []) [.int v2] dX12_together_13 md_X12_isStreamNumber ml_X12_436 sm_X12_isStreamNumber rfl rfl (Nat.le_of_ble_eq_true rfl) (by omega) (k_X12_isStreamNumber eq4) ?_
    refine z_if_eq (pc := 16) 24 dX12_together_16 (by decide) (fun c5 => ?_) (fun c5 => ?_)
    · rw [if_pos c5] at H
      refine z_iconst (pc := 24) (x := 0) dX12_together_24 zc_iconst_0 ?_
      cases H
      exact z_zreturn rfl dX12_together_25 (by decide)
    · rw [if_neg c5] at H
      refine z_iload_n (pc := 19) 1 dX12_together_19 rfl rfl ?_
      refine z_iload_n (pc := 20) 2 dX12_together_20 rfl rfl ?_
      refine z_icmp_ne (pc := 21) 26 dX12_together_21 (by decide) (fun c6 => ?_) (fun c6 => ?_)
      · rw [if_neg c6] at H
        refine z_aload_n (pc := 26) 0 dX12_together_26 rfl rfl ?_
        obtain ⟨r7, er7, H⟩ := zbind H
        refine z_getR (pc := 27) dX12_together_27 fd_X12_194 er7 ?_
        refine z_iconst (pc := 30) (x := 4) dX12_together_30 zc_iconst_4 ?_
        refine z_iload_n (pc := 31) 1 dX12_together_31 rfl rfl ?_
        refine z_imul (pc := 32) dX12_together_32 ?_
        refine z_iload_n (pc := 33) 2 dX12_together_33 rfl rfl ?_
        refine z_iadd (pc := 34) dX12_together_34 ?_
        refine z_iload_n (pc := 35) 3 dX12_together_35 rfl rfl ?_
        obtain ⟨h8, eh8, H⟩ := zbind H
        refine z_zastore (pc := 36) dX12_together_36 eh8 ?_
        refine z_aload_n (pc := 37) 0 dX12_together_37 rfl rfl ?_
        obtain ⟨r9, er9, H⟩ := zbind H
        refine z_getR (pc := 38) dX12_together_38 fd_X12_194 er9 ?_
        refine z_iconst (pc := 41) (x := 4) dX12_together_41 zc_iconst_4 ?_
        refine z_iload_n (pc := 42) 2 dX12_together_42 rfl rfl ?_
        refine z_imul (pc := 43) dX12_together_43 ?_
        refine z_iload_n (pc := 44) 1 dX12_together_44 rfl rfl ?_
        refine z_iadd (pc := 45) dX12_together_45 ?_
        refine z_iload_n (pc := 46) 3 dX12_together_46 rfl rfl ?_
        obtain ⟨h10, eh10, H⟩ := zbind H
        refine z_zastore (pc := 47) dX12_together_47 eh10 ?_
        refine z_iconst (pc := 48) (x := 1) dX12_together_48 zc_iconst_1 ?_
        cases H
        exact z_zreturn rfl dX12_together_49 (by decide)
      · rw [if_pos c6] at H
        refine z_iconst (pc := 24) (x := 0) dX12_together_24 zc_iconst_0 ?_
        cases H
        exact z_zreturn rfl dX12_together_25 (by decide)

def f_X12_needOf (N : Nat) (v0 : Nat) (v1 : Int32) (h : zH) : Option (Int32) := (gR h v0 12 58).bind fun r1 => (aI h r1 v1).bind fun x2 => (if x2 = 0 then (some 0) else ((gR h v0 12 58).bind fun r5 => (aI h r5 v1).bind fun x6 => (gR h v0 12 59).bind fun r7 => (aI h r7 v1).bind fun x8 => (f_X12_upwards N (10 * x6) x8 h).bind fun q9 => some q9) : Option (Int32)).bind fun m3 => (gR h v0 12 60).bind fun r10 => (aI h r10 v1).bind fun x11 => if m3 ≤ x11 then ((gR h v0 12 60).bind fun r13 => (aI h r13 v1).bind fun x14 => some x14) else (some m3)
set_option maxRecDepth 100000 in
set_option maxHeartbeats 4000000 in
theorem k_X12_needOf {N : Nat} {v0 : Nat} {v1 : Int32} {h : zH} {r : Int32} (H : f_X12_needOf N v0 v1 h = some r) : zOk 1 0 0 yX12_needOf cX12_needOf 3 (some .int) [.ref v0, .int v1] h (some (.int r)) h := by
  refine zOk.of (by decide) (Nat.le_of_ble_eq_true rfl) ?_
  unfold f_X12_needOf at H
  refine z_aload_n (pc := 0) 0 dX12_needOf_0 rfl rfl ?_
  obtain ⟨r1, er1, H⟩ := zbind H
  refine z_getR (pc := 1) dX12_needOf_1 fd_X12_182 er1 ?_
  refine z_iload_n (pc := 4) 1 dX12_needOf_4 rfl rfl ?_
  obtain ⟨x2, ex2, H⟩ := zbind H
  refine z_iaload (pc := 5) dX12_needOf_5 ex2 ?_
  obtain ⟨m3, em3, H⟩ := zbind H
  have Jm3 : zW yX12_needOf cX12_needOf 3 (some .int) 1 0 0 31 [(0, .ref v0), (1, .int v1)] [.int m3] h (some (.int r)) h := by
    refine z_istore_n (pc := 31) (lv' := [(2, .int m3), (0, .ref v0), (1, .int v1)]) dX12_needOf_31 rfl (by decide) rfl ?_
    refine z_iload_n (pc := 32) 0 dX12_needOf_32 rfl rfl ?_
    refine z_aload_n (pc := 33) 1 dX12_needOf_33 rfl rfl ?_
    obtain ⟨r10, er10, H⟩ := zbind H
    refine z_getR (pc := 34) dX12_needOf_34 fd_X12_188 er10 ?_
    refine z_iload_n (pc := 37) 2 dX12_needOf_37 rfl rfl ?_
    obtain ⟨x11, ex11, H⟩ := zbind H
    refine z_iaload (pc := 38) dX12_needOf_38 ex11 ?_
    refine z_icmp_le (pc := 39) 46 dX12_needOf_39 (by decide) (fun c12 => ?_) (fun c12 => ?_)
    · rw [if_pos c12] at H
      refine z_aload_n (pc := 46) 1 dX12_needOf_46 rfl rfl ?_
      obtain ⟨r13, er13, H⟩ := zbind H
      refine z_getR (pc := 47) dX12_needOf_47 fd_X12_188 er13 ?_
      refine z_iload_n (pc := 50) 2 dX12_needOf_50 rfl rfl ?_
      obtain ⟨x14, ex14, H⟩ := zbind H
      refine z_iaload (pc := 51) dX12_needOf_51 ex14 ?_
      cases H
      exact z_ireturn rfl dX12_needOf_52
    · rw [if_neg c12] at H
      refine z_iload_n (pc := 42) 0 dX12_needOf_42 rfl rfl ?_
      refine z_goto (pc := 43) 52 dX12_needOf_43 (by decide) ?_
      cases H
      exact z_ireturn rfl dX12_needOf_52
  refine z_if_ne (pc := 6) 13 dX12_needOf_6 (by decide) (fun c4 => ?_) (fun c4 => ?_)
  · rw [if_neg c4] at em3
    refine z_bipush (pc := 13) (x := 10) dX12_needOf_13 zc_bipush_10 ?_
    refine z_aload_n (pc := 15) 0 dX12_needOf_15 rfl rfl ?_
    obtain ⟨r5, er5, em3⟩ := zbind em3
    refine z_getR (pc := 16) dX12_needOf_16 fd_X12_182 er5 ?_
    refine z_iload_n (pc := 19) 1 dX12_needOf_19 rfl rfl ?_
    obtain ⟨x6, ex6, em3⟩ := zbind em3
    refine z_iaload (pc := 20) dX12_needOf_20 ex6 ?_
    refine z_imul (pc := 21) dX12_needOf_21 ?_
    refine z_aload_n (pc := 22) 0 dX12_needOf_22 rfl rfl ?_
    obtain ⟨r7, er7, em3⟩ := zbind em3
    refine z_getR (pc := 23) dX12_needOf_23 fd_X12_185 er7 ?_
    refine z_iload_n (pc := 26) 1 dX12_needOf_26 rfl rfl ?_
    obtain ⟨x8, ex8, em3⟩ := zbind em3
    refine z_iaload (pc := 27) dX12_needOf_27 ex8 ?_
    obtain ⟨q9, eq9, em3⟩ := zbind em3
    refine z_callS (pc := 28) (mc := 0) (ms := 0) (d' := 0) (mc' := 0) (ms' := 0) (rest := []) [.int (10 * x6), .int x8] dX12_needOf_28 md_X12_upwards ml_X12_378 sm_X12_upwards rfl rfl (Nat.le_of_ble_eq_true rfl) (by omega) (k_X12_upwards eq9) ?_
    cases em3
    exact z_sub [0, 1] rfl Jm3
  · rw [if_pos c4] at em3
    refine z_iconst (pc := 9) (x := 0) dX12_needOf_9 zc_iconst_0 ?_
    refine z_goto (pc := 10) 31 dX12_needOf_10 (by decide) ?_
    cases em3
    exact z_sub [0, 1] rfl Jm3

def p_X12_phaseOf (v0 : Int32) (v1 : Int32) : Int32 := (v0 >>> ((2 * v1) &&& 31)) &&& 3
set_option maxRecDepth 100000 in
set_option maxHeartbeats 4000000 in
theorem k_X12_phaseOf (v0 : Int32) (v1 : Int32) (h : zH) (r : Int32) (H : p_X12_phaseOf v0 v1 = r) : zOk 0 0 0 yX12_phaseOf cX12_phaseOf 2 (some .int) [.int v0, .int v1] h (some (.int r)) h := by
  refine zOk.of (by decide) (Nat.le_of_ble_eq_true rfl) ?_
  unfold p_X12_phaseOf at H
  refine z_iload_n (pc := 0) 0 dX12_phaseOf_0 rfl rfl ?_
  refine z_iconst (pc := 1) (x := 2) dX12_phaseOf_1 zc_iconst_2 ?_
  refine z_iload_n (pc := 2) 1 dX12_phaseOf_2 rfl rfl ?_
  refine z_imul (pc := 3) dX12_phaseOf_3 ?_
  refine z_ishr (pc := 4) dX12_phaseOf_4 ?_
  refine z_iconst (pc := 5) (x := 3) dX12_phaseOf_5 zc_iconst_3 ?_
  refine z_iand (pc := 6) dX12_phaseOf_6 ?_
  subst H
  exact z_ireturn rfl dX12_phaseOf_7

theorem md_X12_phaseOf : zMd yX12_phaseOf cX12_phaseOf 2 2 (some .int) := ⟨zmw (zmt_8 _ (List.mem_of_getElem? (i := 71) rfl)) rfl, zmem 127 (by decide +kernel) rfl, by decide, by decide, by decide +kernel, by decide⟩
theorem ml_X12_439 : Cond.methodLink RX12 439 yX12_phaseOf ∈ zB := zmem 1860 (by decide +kernel) rfl
theorem sm_X12_phaseOf : Cond.static yX12_phaseOf ∈ zB := zmem 1861 (by decide +kernel) rfl
def f_X12_arePhases_L57 (N : Nat) (v0 : Nat) (v1 : Int32) (v3 : Int32) (v4 : Int32) (h : zH) : Nat → Int32 → Option ((Unit) ⊕ (Int32))
  | 0, _ => none
  | n + 1, v5 => if v3 ≤ v5 then (some (.inl ())) else ((gR h v0 12 57).bind fun r10 => (aZ h r10 v5).bind fun x11 => if x11 = 0 then (f_X12_arePhases_L57 N v0 v1 v3 v4 h n (v5 + 1)) else (if (p_X12_phaseOf v1 v5) = v4 then ((gR h v0 12 62).bind fun r14 => (aZ h r14 ((4 * v3) + v5)).bind fun x15 => if x15 = 0 then (some (.inr 0)) else (f_X12_arePhases_L57 N v0 v1 v3 v4 h n (v5 + 1))) else (f_X12_arePhases_L57 N v0 v1 v3 v4 h n (v5 + 1))))
def f_X12_arePhases_L4 (N : Nat) (v0 : Nat) (v1 : Int32) (h : zH) : Nat → Int32 → Int32 → Option ((Int32) ⊕ (Int32))
  | 0, _, _ => none
  | n + 1, v2, v3 => if 4 ≤ v3 then (some (.inl v2)) else (zlet (p_X12_phaseOf v1 v3 : Int32) fun x2 => (gR h v0 12 57).bind fun r3 => (aZ h r3 v3).bind fun x4 => if x4 = 0 then (if x2 = 0 then (f_X12_arePhases_L4 N v0 v1 h n v2 (v3 + 1)) else (some (.inr 0))) else (if x2 ≤ v2 then ((if x2 = v2 then (some (v2 + 1)) else (some v2) : Option (Int32)).bind fun m7 => (f_X12_arePhases_L57 N v0 v1 v3 x2 h N 0).bind fun m17 => zsumW m17 fun s18 => f_X12_arePhases_L4 N v0 v1 h n m7 (v3 + 1)) else (some (.inr 0))))
set_option maxRecDepth 100000 in
set_option maxHeartbeats 4000000 in
theorem s_X12_arePhases_L57 {d mc ms N : Nat} {vv : Option Value} {hh : zH} {v0 : Nat} {v1 : Int32} {v3 : Int32} {v4 : Int32} {v2 : Int32} {h : zH} (hd0 : 1 ≤ d) : ∀ (n : Nat) (v5 : Int32) (m : (Unit) ⊕ (Int32)), f_X12_arePhases_L57 N v0 v1 v3 v4 h n v5 = some m → (∀ s, m = .inl s → zW yX12_arePhases cX12_arePhases 6 (some .boolean) d mc ms 106 [(0, .ref v0), (1, .int v1), (2, .int v2), (3, .int v3)] [] h vv hh) → (∀ r, m = .inr r → vv = (some (.int r)) ∧ hh = h) → zW yX12_arePhases cX12_arePhases 6 (some .boolean) d mc ms 57 [(0, .ref v0), (1, .int v1), (2, .int v2), (3, .int v3), (4, .int v4), (5, .int v5)] [] h vv hh := by
  intro n
  induction n with
  | zero =>
    intro v5 m H
    cases H
  | succ n ih =>
    intro v5 m H KE KR
    unfold f_X12_arePhases_L57 at H
    refine z_iload (pc := 57) 5 dX12_arePhases_57 rfl ?_
    refine z_iload_n (pc := 59) 3 dX12_arePhases_59 rfl rfl ?_
    refine z_icmp_ge (pc := 60) 106 dX12_arePhases_60 (by decide) (fun c9 => ?_) (fun c9 => ?_)
    · rw [if_pos c9] at H
      cases H
      exact z_sub [0, 1, 2, 3] rfl (KE _ rfl)
    · rw [if_neg c9] at H
      refine z_aload_n (pc := 63) 0 dX12_arePhases_63 rfl rfl ?_
      obtain ⟨r10, er10, H⟩ := zbind H
      refine z_getR (pc := 64) dX12_arePhases_64 fd_X12_179 er10 ?_
      refine z_iload (pc := 67) 5 dX12_arePhases_67 rfl ?_
      obtain ⟨x11, ex11, H⟩ := zbind H
      refine z_zaload (pc := 69) dX12_arePhases_69 ex11 ?_
      refine z_if_eq (pc := 70) 100 dX12_arePhases_70 (by decide) (fun c12 => ?_) (fun c12 => ?_)
      · rw [if_pos c12] at H
        refine z_iinc (pc := 100) (x' := v5 + 1) (lv' := [(5, .int (v5 + 1)), (0, .ref v0), (1, .int v1), (2, .int v2), (3, .int v3), (4, .int v4)]) 5 dX12_arePhases_100 rfl (by rfl) (by decide) rfl ?_
        refine z_goto (pc := 103) 57 dX12_arePhases_103 (by decide) ?_
        exact z_sub [1, 2, 3, 4, 5, 0] rfl (ih (v5 + 1) _ H KE KR)
      · rw [if_neg c12] at H
        refine z_iload_n (pc := 73) 1 dX12_arePhases_73 rfl rfl ?_
        refine z_iload (pc := 74) 5 dX12_arePhases_74 rfl ?_
        refine z_callS (pc := 76) (mc := mc) (ms := ms) (d' := 0) (mc' := 0) (ms' := 0) (rest := []) [.int v1, .int v5] dX12_arePhases_76 md_X12_phaseOf ml_X12_439 sm_X12_phaseOf rfl rfl (Nat.le_of_ble_eq_true rfl) (by omega) (k_X12_phaseOf v1 v5 h _ rfl) ?_
        refine z_iload (pc := 79) 4 dX12_arePhases_79 rfl ?_
        refine z_icmp_ne (pc := 81) 100 dX12_arePhases_81 (by decide) (fun c13 => ?_) (fun c13 => ?_)
        · rw [if_neg c13] at H
          refine z_iinc (pc := 100) (x' := v5 + 1) (lv' := [(5, .int (v5 + 1)), (0, .ref v0), (1, .int v1), (2, .int v2), (3, .int v3), (4, .int v4)]) 5 dX12_arePhases_100 rfl (by rfl) (by decide) rfl ?_
          refine z_goto (pc := 103) 57 dX12_arePhases_103 (by decide) ?_
          exact z_sub [1, 2, 3, 4, 5, 0] rfl (ih (v5 + 1) _ H KE KR)
        · rw [if_pos c13] at H
          refine z_aload_n (pc := 84) 0 dX12_arePhases_84 rfl rfl ?_
          obtain ⟨r14, er14, H⟩ := zbind H
          refine z_getR (pc := 85) dX12_arePhases_85 fd_X12_194 er14 ?_
          refine z_iconst (pc := 88) (x := 4) dX12_arePhases_88 zc_iconst_4 ?_
          refine z_iload_n (pc := 89) 3 dX12_arePhases_89 rfl rfl ?_
          refine z_imul (pc := 90) dX12_arePhases_90 ?_
          refine z_iload (pc := 91) 5 dX12_arePhases_91 rfl ?_
          refine z_iadd (pc := 93) dX12_arePhases_93 ?_
          obtain ⟨x15, ex15, H⟩ := zbind H
          refine z_zaload (pc := 94) dX12_arePhases_94 ex15 ?_
          refine z_if_ne (pc := 95) 100 dX12_arePhases_95 (by decide) (fun c16 => ?_) (fun c16 => ?_)
          · rw [if_neg c16] at H
            refine z_iinc (pc := 100) (x' := v5 + 1) (lv' := [(5, .int (v5 + 1)), (0, .ref v0), (1, .int v1), (2, .int v2), (3, .int v3), (4, .int v4)]) 5 dX12_arePhases_100 rfl (by rfl) (by decide) rfl ?_
            refine z_goto (pc := 103) 57 dX12_arePhases_103 (by decide) ?_
            exact z_sub [1, 2, 3, 4, 5, 0] rfl (ih (v5 + 1) _ H KE KR)
          · rw [if_pos c16] at H
            refine z_iconst (pc := 98) (x := 0) dX12_arePhases_98 zc_iconst_0 ?_
            cases H
            obtain ⟨e8, e9⟩ := KR _ rfl
            subst e8
            subst e9
            exact z_zreturn rfl dX12_arePhases_99 (by decide)
set_option maxRecDepth 100000 in
set_option maxHeartbeats 4000000 in
theorem s_X12_arePhases_L4 {d mc ms N : Nat} {vv : Option Value} {hh : zH} {v0 : Nat} {v1 : Int32} {h : zH} (hd0 : 1 ≤ d) : ∀ (n : Nat) (v2 : Int32) (v3 : Int32) (m : (Int32) ⊕ (Int32)), f_X12_arePhases_L4 N v0 v1 h n v2 v3 = some m → (∀ s, m = .inl s → zW yX12_arePhases cX12_arePhases 6 (some .boolean) d mc ms 112 [(2, .int s)] [] h vv hh) → (∀ r, m = .inr r → vv = (some (.int r)) ∧ hh = h) → zW yX12_arePhases cX12_arePhases 6 (some .boolean) d mc ms 4 [(0, .ref v0), (1, .int v1), (2, .int v2), (3, .int v3)] [] h vv hh := by
  intro n
  induction n with
  | zero =>
    intro v2 v3 m H
    cases H
  | succ n ih =>
    intro v2 v3 m H KE KR
    unfold f_X12_arePhases_L4 at H
    refine z_iload_n (pc := 4) 3 dX12_arePhases_4 rfl rfl ?_
    refine z_iconst (pc := 5) (x := 4) dX12_arePhases_5 zc_iconst_4 ?_
    refine z_icmp_ge (pc := 6) 112 dX12_arePhases_6 (by decide) (fun c1 => ?_) (fun c1 => ?_)
    · rw [if_pos c1] at H
      cases H
      exact z_sub [2] rfl (KE _ rfl)
    · rw [if_neg c1] at H
      refine z_iload_n (pc := 9) 1 dX12_arePhases_9 rfl rfl ?_
      refine z_iload_n (pc := 10) 3 dX12_arePhases_10 rfl rfl ?_
      refine z_callS (pc := 11) (mc := mc) (ms := ms) (d' := 0) (mc' := 0) (ms' := 0) (rest := []) [.int v1, .int v3] dX12_arePhases_11 md_X12_phaseOf ml_X12_439 sm_X12_phaseOf rfl rfl (Nat.le_of_ble_eq_true rfl) (by omega) (k_X12_phaseOf v1 v3 h _ rfl) ?_
      obtain ⟨x2, ex2, H⟩ := zletE H
      refine z_nmI ex2 ?_
      refine z_istore (pc := 14) (lv' := [(4, .int x2), (0, .ref v0), (1, .int v1), (2, .int v2), (3, .int v3)]) dX12_arePhases_14 (by decide) rfl ?_
      refine z_aload_n (pc := 16) 1 dX12_arePhases_16 rfl rfl ?_
      obtain ⟨r3, er3, H⟩ := zbind H
      refine z_getR (pc := 17) dX12_arePhases_17 fd_X12_179 er3 ?_
      refine z_iload_n (pc := 20) 4 dX12_arePhases_20 rfl rfl ?_
      obtain ⟨x4, ex4, H⟩ := zbind H
      refine z_zaload (pc := 21) dX12_arePhases_21 ex4 ?_
      refine z_if_ne (pc := 22) 32 dX12_arePhases_22 (by decide) (fun c5 => ?_) (fun c5 => ?_)
      · rw [if_neg c5] at H
        refine z_iload (pc := 32) 0 dX12_arePhases_32 rfl ?_
        refine z_iload_n (pc := 34) 3 dX12_arePhases_34 rfl rfl ?_
        refine z_icmp_le (pc := 35) 40 dX12_arePhases_35 (by decide) (fun c6 => ?_) (fun c6 => ?_)
        · rw [if_pos c6] at H
          refine z_iload (pc := 40) 0 dX12_arePhases_40 rfl ?_
          refine z_iload_n (pc := 42) 3 dX12_arePhases_42 rfl rfl ?_
          obtain ⟨m7, em7, H⟩ := zbind H
          have Jm7 : zW yX12_arePhases cX12_arePhases 6 (some .boolean) d mc ms 53 [(0, .ref v0), (1, .int v1), (3, .int v3), (4, .int x2)] [.int m7] h vv hh := by
            refine z_istore_n (pc := 53) (lv' := [(2, .int m7), (0, .ref v0), (1, .int v1), (3, .int v3), (4, .int x2)]) dX12_arePhases_53 rfl (by decide) rfl ?_
            refine z_iconst (pc := 54) (x := 0) dX12_arePhases_54 zc_iconst_0 ?_
            refine z_istore (pc := 55) (lv' := [(5, .int 0), (2, .int m7), (0, .ref v0), (1, .int v1), (3, .int v3), (4, .int x2)]) dX12_arePhases_55 (by decide) rfl ?_
            obtain ⟨m17, em17, H⟩ := zbind H
            refine z_sub [2, 3, 1, 4, 5, 0] rfl (s_X12_arePhases_L57 (by omega) N 0 _ em17 ?_ ?_)
            · intro s18 e9
              subst e9
              have H := zsumWL H
              refine z_iinc (pc := 106) (x' := v3 + 1) (lv' := [(3, .int (v3 + 1)), (0, .ref v0), (1, .int v1), (2, .int m7)]) 3 dX12_arePhases_106 rfl (by rfl) (by decide) rfl ?_
              refine z_goto (pc := 109) 4 dX12_arePhases_109 (by decide) ?_
              exact z_sub [1, 2, 3, 0] rfl (ih m7 (v3 + 1) _ H KE KR)
            · intro r e9
              subst e9
              have H := zsumWR H
              cases H
              exact KR _ rfl
          refine z_icmp_ne (pc := 43) 52 dX12_arePhases_43 (by decide) (fun c8 => ?_) (fun c8 => ?_)
          · rw [if_neg c8] at em7
            refine z_iload_n (pc := 52) 3 dX12_arePhases_52 rfl rfl ?_
            cases em7
            exact z_sub [1, 2, 4, 0] rfl Jm7
          · rw [if_pos c8] at em7
            refine z_iload_n (pc := 46) 3 dX12_arePhases_46 rfl rfl ?_
            refine z_iconst (pc := 47) (x := 1) dX12_arePhases_47 zc_iconst_1 ?_
            refine z_iadd (pc := 48) dX12_arePhases_48 ?_
            refine z_goto (pc := 49) 53 dX12_arePhases_49 (by decide) ?_
            cases em7
            exact z_sub [1, 2, 4, 0] rfl Jm7
        · rw [if_neg c6] at H
          refine z_iconst (pc := 38) (x := 0) dX12_arePhases_38 zc_iconst_0 ?_
          cases H
          obtain ⟨e8, e9⟩ := KR _ rfl
          subst e8
          subst e9
          exact z_zreturn rfl dX12_arePhases_39 (by decide)
      · rw [if_pos c5] at H
        refine z_iload (pc := 25) 0 dX12_arePhases_25 rfl ?_
        refine z_if_eq (pc := 27) 106 dX12_arePhases_27 (by decide) (fun c19 => ?_) (fun c19 => ?_)
        · rw [if_pos c19] at H
          refine z_iinc (pc := 106) (x' := v3 + 1) (lv' := [(3, .int (v3 + 1)), (4, .int x2), (0, .ref v0), (1, .int v1), (2, .int v2)]) 4 dX12_arePhases_106 rfl (by rfl) (by decide) rfl ?_
          refine z_goto (pc := 109) 4 dX12_arePhases_109 (by decide) ?_
          exact z_sub [2, 3, 4, 0] rfl (ih v2 (v3 + 1) _ H KE KR)
        · rw [if_neg c19] at H
          refine z_iconst (pc := 30) (x := 0) dX12_arePhases_30 zc_iconst_0 ?_
          cases H
          obtain ⟨e8, e9⟩ := KR _ rfl
          subst e8
          subst e9
          exact z_zreturn rfl dX12_arePhases_31 (by decide)
def f_X12_arePhases (N : Nat) (v0 : Nat) (v1 : Int32) (h : zH) : Option (Int32) := (f_X12_arePhases_L4 N v0 v1 h N 0 0).bind fun m20 => zsum m20 fun s21 => if s21 ≤ 0 then (some 0) else (some 1)
set_option maxRecDepth 100000 in
set_option maxHeartbeats 4000000 in
theorem k_X12_arePhases {N : Nat} {v0 : Nat} {v1 : Int32} {h : zH} {r : Int32} (H : f_X12_arePhases N v0 v1 h = some r) : zOk 1 0 0 yX12_arePhases cX12_arePhases 6 (some .boolean) [.ref v0, .int v1] h (some (.int r)) h := by
  refine zOk.of (by decide) (Nat.le_of_ble_eq_true rfl) ?_
  unfold f_X12_arePhases at H
  refine z_iconst (pc := 0) (x := 0) dX12_arePhases_0 zc_iconst_0 ?_
  refine z_istore_n (pc := 1) (lv' := [(2, .int 0), (0, .ref v0), (1, .int v1)]) dX12_arePhases_1 rfl (by decide) rfl ?_
  refine z_iconst (pc := 2) (x := 0) dX12_arePhases_2 zc_iconst_0 ?_
  refine z_istore_n (pc := 3) (lv' := [(3, .int 0), (2, .int 0), (0, .ref v0), (1, .int v1)]) dX12_arePhases_3 rfl (by decide) rfl ?_
  obtain ⟨m20, em20, H⟩ := zbind H
  refine z_sub [2, 3, 1, 0] rfl (s_X12_arePhases_L4 (by omega) N 0 0 _ em20 ?_ ?_)
  · intro s21 e9
    subst e9
    have H := zsumL H
    refine z_iload_n (pc := 112) 0 dX12_arePhases_112 rfl rfl ?_
    refine z_if_le (pc := 113) 120 dX12_arePhases_113 (by decide) (fun c22 => ?_) (fun c22 => ?_)
    · rw [if_pos c22] at H
      refine z_iconst (pc := 120) (x := 0) dX12_arePhases_120 zc_iconst_0 ?_
      cases H
      exact z_zreturn rfl dX12_arePhases_121 (by decide)
    · rw [if_neg c22] at H
      refine z_iconst (pc := 116) (x := 1) dX12_arePhases_116 zc_iconst_1 ?_
      refine z_goto (pc := 117) 121 dX12_arePhases_117 (by decide) ?_
      cases H
      exact z_zreturn rfl dX12_arePhases_121 (by decide)
  · intro r e9
    subst e9
    have H := zsumR H
    cases H
    exact ⟨rfl, rfl⟩

theorem md_X12_needOf : zMd yX12_needOf cX12_needOf 3 1 (some .int) := ⟨zmw (zmt_8 _ (List.mem_of_getElem? (i := 79) rfl)) rfl, zmem 127 (by decide +kernel) rfl, by decide, by decide, by decide +kernel, by decide⟩
theorem ml_X12_442 : Cond.methodLink RX12 442 yX12_needOf ∈ zB := zmem 1867 (by decide +kernel) rfl
theorem im_X12_needOf : Cond.instanceMethod yX12_needOf ∈ zB := zmem 1869 (by decide +kernel) rfl
theorem se_X12_needOf : Cond.selects yX12_needOf.cls yX12_needOf yX12_needOf ∈ zB := zmem 100 (by decide +kernel) rfl
def f_X12_roundOf_L22 (N : Nat) (v0 : Nat) (v1 : Int32) (v4 : Int32) : Nat → Int32 → zH → Option (zH)
  | 0, _, _ => none
  | n + 1, v5, h => if 4 ≤ v5 then (some h) else ((gR h v0 12 57).bind fun r5 => (aZ h r5 v5).bind fun x6 => (if x6 = 0 then (some 0) else (if (p_X12_phaseOf v1 v5) = v4 then (zif (zob h v0 12) <| (f_X12_needOf N v0 v5 h).bind fun q11 => some q11) else (some 0)) : Option (Int32)).bind fun m7 => (gR h v0 12 66).bind fun r12 => (gR h v0 12 66).bind fun r13 => (aI h r13 v4).bind fun x14 => if m7 ≤ x14 then ((gR h v0 12 66).bind fun r16 => (aI h r16 v4).bind fun x17 => (sI h r12 v4 x17).bind fun h18 => f_X12_roundOf_L22 N v0 v1 v4 n (v5 + 1) h18) else ((sI h r12 v4 m7).bind fun h19 => f_X12_roundOf_L22 N v0 v1 v4 n (v5 + 1) h19))
def f_X12_roundOf_L5 (N : Nat) (v0 : Nat) (v1 : Int32) (v2 : Int32) : Nat → Int32 → Int32 → zH → Option (Int32 × zH)
  | 0, _, _, _ => none
  | n + 1, v3, v4, h => if 4 ≤ v4 then (some (v3, h)) else ((gR h v0 12 66).bind fun r2 => (sI h r2 v4 0).bind fun h3 => (f_X12_roundOf_L22 N v0 v1 v4 N 0 h3).bind fun m20 => (gR m20 v0 12 66).bind fun r21 => (aI m20 r21 v4).bind fun x22 => if x22 = 0 then (zlet (v3 + 0 : Int32) fun x27 => f_X12_roundOf_L5 N v0 v1 v2 n x27 (v4 + 1) m20) else ((gR m20 v0 12 66).bind fun r24 => (aI m20 r24 v4).bind fun x25 => zlet (v3 + (x25 + v2) : Int32) fun x26 => f_X12_roundOf_L5 N v0 v1 v2 n x26 (v4 + 1) m20))
set_option maxRecDepth 100000 in
set_option maxHeartbeats 4000000 in
theorem s_X12_roundOf_L22 {d mc ms N : Nat} {vv : Option Value} {hh : zH} {v0 : Nat} {v1 : Int32} {v4 : Int32} {v2 : Int32} {v3 : Int32} (hd0 : 2 ≤ d) : ∀ (n : Nat) (v5 : Int32) (h : zH) (m : zH), f_X12_roundOf_L22 N v0 v1 v4 n v5 h = some m → (zW yX12_roundOf cX12_roundOf 7 (some .int) d mc ms 98 [(0, .ref v0), (1, .int v1), (2, .int v2), (3, .int v3), (4, .int v4)] [] m vv hh) → zW yX12_roundOf cX12_roundOf 7 (some .int) d mc ms 22 [(0, .ref v0), (1, .int v1), (2, .int v2), (3, .int v3), (4, .int v4), (5, .int v5)] [] h vv hh := by
  intro n
  induction n with
  | zero =>
    intro v5 h m H
    cases H
  | succ n ih =>
    intro v5 h m H KE
    unfold f_X12_roundOf_L22 at H
    refine z_iload (pc := 22) 5 dX12_roundOf_22 rfl ?_
    refine z_iconst (pc := 24) (x := 4) dX12_roundOf_24 zc_iconst_4 ?_
    refine z_icmp_ge (pc := 25) 98 dX12_roundOf_25 (by decide) (fun c4 => ?_) (fun c4 => ?_)
    · rw [if_pos c4] at H
      cases H
      exact z_sub [0, 1, 2, 3, 4] rfl (KE)
    · rw [if_neg c4] at H
      refine z_aload_n (pc := 28) 0 dX12_roundOf_28 rfl rfl ?_
      obtain ⟨r5, er5, H⟩ := zbind H
      refine z_getR (pc := 29) dX12_roundOf_29 fd_X12_179 er5 ?_
      refine z_iload (pc := 32) 5 dX12_roundOf_32 rfl ?_
      obtain ⟨x6, ex6, H⟩ := zbind H
      refine z_zaload (pc := 34) dX12_roundOf_34 ex6 ?_
      obtain ⟨m7, em7, H⟩ := zbind H
      have Jm7 : zW yX12_roundOf cX12_roundOf 7 (some .int) d mc ms 59 [(0, .ref v0), (1, .int v1), (2, .int v2), (3, .int v3), (4, .int v4), (5, .int v5)] [.int m7] h vv hh := by
        refine z_istore (pc := 59) (lv' := [(6, .int m7), (0, .ref v0), (1, .int v1), (2, .int v2), (3, .int v3), (4, .int v4), (5, .int v5)]) dX12_roundOf_59 (by decide) rfl ?_
        refine z_aload_n (pc := 61) 1 dX12_roundOf_61 rfl rfl ?_
        obtain ⟨r12, er12, H⟩ := zbind H
        refine z_getR (pc := 62) dX12_roundOf_62 fd_X12_197 er12 ?_
        refine z_iload (pc := 65) 5 dX12_roundOf_65 rfl ?_
        refine z_iload (pc := 67) 0 dX12_roundOf_67 rfl ?_
        refine z_aload_n (pc := 69) 1 dX12_roundOf_69 rfl rfl ?_
        obtain ⟨r13, er13, H⟩ := zbind H
        refine z_getR (pc := 70) dX12_roundOf_70 fd_X12_197 er13 ?_
        refine z_iload (pc := 73) 5 dX12_roundOf_73 rfl ?_
        obtain ⟨x14, ex14, H⟩ := zbind H
        refine z_iaload (pc := 75) dX12_roundOf_75 ex14 ?_
        refine z_icmp_le (pc := 76) 84 dX12_roundOf_76 (by decide) (fun c15 => ?_) (fun c15 => ?_)
        · rw [if_pos c15] at H
          refine z_aload_n (pc := 84) 1 dX12_roundOf_84 rfl rfl ?_
          obtain ⟨r16, er16, H⟩ := zbind H
          refine z_getR (pc := 85) dX12_roundOf_85 fd_X12_197 er16 ?_
          refine z_iload (pc := 88) 5 dX12_roundOf_88 rfl ?_
          obtain ⟨x17, ex17, H⟩ := zbind H
          refine z_iaload (pc := 90) dX12_roundOf_90 ex17 ?_
          obtain ⟨h18, eh18, H⟩ := zbind H
          refine z_iastore (pc := 91) dX12_roundOf_91 eh18 ?_
          refine z_iinc (pc := 92) (x' := v5 + 1) (lv' := [(5, .int (v5 + 1)), (6, .int m7), (0, .ref v0), (1, .int v1), (2, .int v2), (3, .int v3), (4, .int v4)]) 6 dX12_roundOf_92 rfl (by rfl) (by decide) rfl ?_
          refine z_goto (pc := 95) 22 dX12_roundOf_95 (by decide) ?_
          exact z_sub [2, 3, 4, 5, 6, 0] rfl (ih (v5 + 1) h18 _ H KE)
        · rw [if_neg c15] at H
          refine z_iload (pc := 79) 0 dX12_roundOf_79 rfl ?_
          refine z_goto (pc := 81) 91 dX12_roundOf_81 (by decide) ?_
          obtain ⟨h19, eh19, H⟩ := zbind H
          refine z_iastore (pc := 91) dX12_roundOf_91 eh19 ?_
          refine z_iinc (pc := 92) (x' := v5 + 1) (lv' := [(5, .int (v5 + 1)), (6, .int m7), (0, .ref v0), (1, .int v1), (2, .int v2), (3, .int v3), (4, .int v4)]) 6 dX12_roundOf_92 rfl (by rfl) (by decide) rfl ?_
          refine z_goto (pc := 95) 22 dX12_roundOf_95 (by decide) ?_
          exact z_sub [2, 3, 4, 5, 6, 0] rfl (ih (v5 + 1) h19 _ H KE)
      refine z_if_eq (pc := 35) 58 dX12_roundOf_35 (by decide) (fun c8 => ?_) (fun c8 => ?_)
      · rw [if_pos c8] at em7
        refine z_iconst (pc := 58) (x := 0) dX12_roundOf_58 zc_iconst_0 ?_
        cases em7
        exact z_sub [0, 1, 2, 3, 4, 5] rfl Jm7
      · rw [if_neg c8] at em7
        refine z_iload_n (pc := 38) 1 dX12_roundOf_38 rfl rfl ?_
        refine z_iload (pc := 39) 5 dX12_roundOf_39 rfl ?_
        refine z_callS (pc := 41) (mc := mc) (ms := ms) (d' := 0) (mc' := 0) (ms' := 0) (rest := []) [.int v1, .int v5] dX12_roundOf_41 md_X12_phaseOf ml_X12_439 sm_X12_phaseOf rfl rfl (Nat.le_of_ble_eq_true rfl) (by omega) (k_X12_phaseOf v1 v5 h _ rfl) ?_
        refine z_iload (pc := 44) 4 dX12_roundOf_44 rfl ?_
        refine z_icmp_ne (pc := 46) 58 dX12_roundOf_46 (by decide) (fun c9 => ?_) (fun c9 => ?_)
        · rw [if_neg c9] at em7
          refine z_iconst (pc := 58) (x := 0) dX12_roundOf_58 zc_iconst_0 ?_
          cases em7
          exact z_sub [0, 1, 2, 3, 4, 5] rfl Jm7
        · rw [if_pos c9] at em7
          refine z_aload_n (pc := 49) 0 dX12_roundOf_49 rfl rfl ?_
          refine z_iload (pc := 50) 5 dX12_roundOf_50 rfl ?_
          obtain ⟨z10, em7⟩ := zifE em7
          obtain ⟨q11, eq11, em7⟩ := zbind em7
          refine z_callV (pc := 52) (mc := mc) (ms := ms) (d' := 1) (mc' := 0) (ms' := 0) (rest := []) [.int v5] dX12_roundOf_52 md_X12_needOf ml_X12_442 im_X12_needOf se_X12_needOf rfl z10 rfl rfl (Nat.le_of_ble_eq_true rfl) (by omega) (k_X12_needOf eq11) ?_
          refine z_goto (pc := 55) 59 dX12_roundOf_55 (by decide) ?_
          cases em7
          exact z_sub [0, 1, 2, 3, 4, 5] rfl Jm7
set_option maxRecDepth 100000 in
set_option maxHeartbeats 4000000 in
theorem s_X12_roundOf_L5 {d mc ms N : Nat} {vv : Option Value} {hh : zH} {v0 : Nat} {v1 : Int32} {v2 : Int32} (hd0 : 2 ≤ d) : ∀ (n : Nat) (v3 : Int32) (v4 : Int32) (h : zH) (m : Int32 × zH), f_X12_roundOf_L5 N v0 v1 v2 n v3 v4 h = some m → (zW yX12_roundOf cX12_roundOf 7 (some .int) d mc ms 130 [(3, .int m.1)] [] m.2 vv hh) → zW yX12_roundOf cX12_roundOf 7 (some .int) d mc ms 5 [(0, .ref v0), (1, .int v1), (2, .int v2), (3, .int v3), (4, .int v4)] [] h vv hh := by
  intro n
  induction n with
  | zero =>
    intro v3 v4 h m H
    cases H
  | succ n ih =>
    intro v3 v4 h m H KE
    unfold f_X12_roundOf_L5 at H
    refine z_iload (pc := 5) 4 dX12_roundOf_5 rfl ?_
    refine z_iconst (pc := 7) (x := 4) dX12_roundOf_7 zc_iconst_4 ?_
    refine z_icmp_ge (pc := 8) 130 dX12_roundOf_8 (by decide) (fun c1 => ?_) (fun c1 => ?_)
    · rw [if_pos c1] at H
      cases H
      exact z_sub [3] rfl (KE)
    · rw [if_neg c1] at H
      refine z_aload_n (pc := 11) 0 dX12_roundOf_11 rfl rfl ?_
      obtain ⟨r2, er2, H⟩ := zbind H
      refine z_getR (pc := 12) dX12_roundOf_12 fd_X12_197 er2 ?_
      refine z_iload (pc := 15) 4 dX12_roundOf_15 rfl ?_
      refine z_iconst (pc := 17) (x := 0) dX12_roundOf_17 zc_iconst_0 ?_
      obtain ⟨h3, eh3, H⟩ := zbind H
      refine z_iastore (pc := 18) dX12_roundOf_18 eh3 ?_
      refine z_iconst (pc := 19) (x := 0) dX12_roundOf_19 zc_iconst_0 ?_
      refine z_istore (pc := 20) (lv' := [(5, .int 0), (0, .ref v0), (1, .int v1), (2, .int v2), (3, .int v3), (4, .int v4)]) dX12_roundOf_20 (by decide) rfl ?_
      obtain ⟨m20, em20, H⟩ := zbind H
      refine z_sub [1, 2, 3, 4, 5, 0] rfl (s_X12_roundOf_L22 (by omega) N 0 h3 _ em20 ?_)
      refine z_iload_n (pc := 98) 3 dX12_roundOf_98 rfl rfl ?_
      refine z_aload_n (pc := 99) 0 dX12_roundOf_99 rfl rfl ?_
      obtain ⟨r21, er21, H⟩ := zbind H
      refine z_getR (pc := 100) dX12_roundOf_100 fd_X12_197 er21 ?_
      refine z_iload (pc := 103) 4 dX12_roundOf_103 rfl ?_
      obtain ⟨x22, ex22, H⟩ := zbind H
      refine z_iaload (pc := 105) dX12_roundOf_105 ex22 ?_
      refine z_if_ne (pc := 106) 113 dX12_roundOf_106 (by decide) (fun c23 => ?_) (fun c23 => ?_)
      · rw [if_neg c23] at H
        refine z_aload_n (pc := 113) 0 dX12_roundOf_113 rfl rfl ?_
        obtain ⟨r24, er24, H⟩ := zbind H
        refine z_getR (pc := 114) dX12_roundOf_114 fd_X12_197 er24 ?_
        refine z_iload (pc := 117) 4 dX12_roundOf_117 rfl ?_
        obtain ⟨x25, ex25, H⟩ := zbind H
        refine z_iaload (pc := 119) dX12_roundOf_119 ex25 ?_
        refine z_iload_n (pc := 120) 2 dX12_roundOf_120 rfl rfl ?_
        refine z_iadd (pc := 121) dX12_roundOf_121 ?_
        refine z_iadd (pc := 122) dX12_roundOf_122 ?_
        obtain ⟨x26, ex26, H⟩ := zletE H
        refine z_nmI ex26 ?_
        refine z_istore_n (pc := 123) (lv' := [(3, .int x26), (0, .ref v0), (1, .int v1), (2, .int v2), (4, .int v4)]) dX12_roundOf_123 rfl (by decide) rfl ?_
        refine z_iinc (pc := 124) (x' := v4 + 1) (lv' := [(4, .int (v4 + 1)), (3, .int x26), (0, .ref v0), (1, .int v1), (2, .int v2)]) 4 dX12_roundOf_124 rfl (by rfl) (by decide) rfl ?_
        refine z_goto (pc := 127) 5 dX12_roundOf_127 (by decide) ?_
        exact z_sub [2, 3, 4, 1, 0] rfl (ih x26 (v4 + 1) m20 _ H KE)
      · rw [if_pos c23] at H
        refine z_iconst (pc := 109) (x := 0) dX12_roundOf_109 zc_iconst_0 ?_
        refine z_goto (pc := 110) 122 dX12_roundOf_110 (by decide) ?_
        refine z_iadd (pc := 122) dX12_roundOf_122 ?_
        obtain ⟨x27, ex27, H⟩ := zletE H
        refine z_nmI ex27 ?_
        refine z_istore_n (pc := 123) (lv' := [(3, .int x27), (0, .ref v0), (1, .int v1), (2, .int v2), (4, .int v4)]) dX12_roundOf_123 rfl (by decide) rfl ?_
        refine z_iinc (pc := 124) (x' := v4 + 1) (lv' := [(4, .int (v4 + 1)), (3, .int x27), (0, .ref v0), (1, .int v1), (2, .int v2)]) 4 dX12_roundOf_124 rfl (by rfl) (by decide) rfl ?_
        refine z_goto (pc := 127) 5 dX12_roundOf_127 (by decide) ?_
        exact z_sub [2, 3, 4, 1, 0] rfl (ih x27 (v4 + 1) m20 _ H KE)
def f_X12_roundOf (N : Nat) (v0 : Nat) (v1 : Int32) (v2 : Int32) (h : zH) : Option (Int32 × zH) := (f_X12_roundOf_L5 N v0 v1 v2 N 0 0 h).bind fun m28 => some (m28.1, m28.2)
set_option maxRecDepth 100000 in
set_option maxHeartbeats 4000000 in
theorem k_X12_roundOf {N : Nat} {v0 : Nat} {v1 : Int32} {v2 : Int32} {h : zH} {r : Int32 × zH} (H : f_X12_roundOf N v0 v1 v2 h = some r) : zOk 2 0 0 yX12_roundOf cX12_roundOf 7 (some .int) [.ref v0, .int v1, .int v2] h (some (.int r.1)) r.2 := by
  refine zOk.of (by decide) (Nat.le_of_ble_eq_true rfl) ?_
  unfold f_X12_roundOf at H
  refine z_iconst (pc := 0) (x := 0) dX12_roundOf_0 zc_iconst_0 ?_
  refine z_istore_n (pc := 1) (lv' := [(3, .int 0), (0, .ref v0), (1, .int v1), (2, .int v2)]) dX12_roundOf_1 rfl (by decide) rfl ?_
  refine z_iconst (pc := 2) (x := 0) dX12_roundOf_2 zc_iconst_0 ?_
  refine z_istore (pc := 3) (lv' := [(4, .int 0), (3, .int 0), (0, .ref v0), (1, .int v1), (2, .int v2)]) dX12_roundOf_3 (by decide) rfl ?_
  obtain ⟨m28, em28, H⟩ := zbind H
  refine z_sub [2, 3, 4, 1, 0] rfl (s_X12_roundOf_L5 (by omega) N 0 0 h _ em28 ?_)
  refine z_iload_n (pc := 130) 0 dX12_roundOf_130 rfl rfl ?_
  cases H
  exact z_ireturn rfl dX12_roundOf_131

def f_X12_waitingOf (N : Nat) (v0 : Nat) (v1 : Int32) (v2 : Int32) (v3 : Int32) (h : zH) : Option (Int32) := (gR h v0 12 61).bind fun r1 => (aI h r1 v3).bind fun x2 => (gR h v0 12 66).bind fun r3 => (aI h r3 (p_X12_phaseOf v1 v3)).bind fun x4 => some (x2 * (v2 - x4))
set_option maxRecDepth 100000 in
set_option maxHeartbeats 4000000 in
theorem k_X12_waitingOf {N : Nat} {v0 : Nat} {v1 : Int32} {v2 : Int32} {v3 : Int32} {h : zH} {r : Int32} (H : f_X12_waitingOf N v0 v1 v2 v3 h = some r) : zOk 1 0 0 yX12_waitingOf cX12_waitingOf 4 (some .int) [.ref v0, .int v1, .int v2, .int v3] h (some (.int r)) h := by
  refine zOk.of (by decide) (Nat.le_of_ble_eq_true rfl) ?_
  unfold f_X12_waitingOf at H
  refine z_aload_n (pc := 0) 0 dX12_waitingOf_0 rfl rfl ?_
  obtain ⟨r1, er1, H⟩ := zbind H
  refine z_getR (pc := 1) dX12_waitingOf_1 fd_X12_191 er1 ?_
  refine z_iload_n (pc := 4) 3 dX12_waitingOf_4 rfl rfl ?_
  obtain ⟨x2, ex2, H⟩ := zbind H
  refine z_iaload (pc := 5) dX12_waitingOf_5 ex2 ?_
  refine z_iload_n (pc := 6) 2 dX12_waitingOf_6 rfl rfl ?_
  refine z_aload_n (pc := 7) 0 dX12_waitingOf_7 rfl rfl ?_
  obtain ⟨r3, er3, H⟩ := zbind H
  refine z_getR (pc := 8) dX12_waitingOf_8 fd_X12_197 er3 ?_
  refine z_iload_n (pc := 11) 1 dX12_waitingOf_11 rfl rfl ?_
  refine z_iload_n (pc := 12) 3 dX12_waitingOf_12 rfl rfl ?_
  refine z_callS (pc := 13) (mc := 0) (ms := 0) (d' := 0) (mc' := 0) (ms' := 0) (rest := [.ref r3, .int v2, .int x2]) [.int v1, .int v3] dX12_waitingOf_13 md_X12_phaseOf ml_X12_439 sm_X12_phaseOf rfl rfl (Nat.le_of_ble_eq_true rfl) (by omega) (k_X12_phaseOf v1 v3 h _ rfl) ?_
  obtain ⟨x4, ex4, H⟩ := zbind H
  refine z_iaload (pc := 16) dX12_waitingOf_16 ex4 ?_
  refine z_isub (pc := 17) dX12_waitingOf_17 ?_
  refine z_imul (pc := 18) dX12_waitingOf_18 ?_
  cases H
  exact z_ireturn rfl dX12_waitingOf_19

