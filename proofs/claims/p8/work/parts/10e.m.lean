theorem fd_X7_41 : zFd RX7 41 9 4 (.int) false "WhoseStreet$Tape" := zFd.of cl_9 (by decide) (zmem 242 (by decide +kernel) rfl) rfl rfl rfl
theorem fd_X7_81 : zFd RX7 81 9 7 (.long) false "WhoseStreet$Tape" := zFd.of cl_9 (by decide) (zmem 249 (by decide +kernel) rfl) rfl rfl rfl
theorem md_X7_nameOf : zMd yX7_nameOf cX7_nameOf 4 1 (some .int) := ⟨zmw (zmt_4 _ (List.mem_of_getElem? (i := 0) rfl)) rfl, zmem 119 (by decide +kernel) rfl, by decide, by decide, by decide +kernel, by decide⟩
theorem ml_X7_85 : Cond.methodLink RX7 85 yX7_nameOf ∈ zB := zmem 828 (by decide +kernel) rfl
theorem im_X7_nameOf : Cond.instanceMethod yX7_nameOf ∈ zB := zmem 830 (by decide +kernel) rfl
theorem se_X7_nameOf : Cond.selects yX7_nameOf.cls yX7_nameOf yX7_nameOf ∈ zB := zmem 16 (by decide +kernel) rfl
theorem md_X7_write : zMd yX7_write cX7_write 2 1 none := ⟨zmw (zmt_3 _ (List.mem_of_getElem? (i := 227) rfl)) rfl, zmem 119 (by decide +kernel) rfl, by decide, by decide, by decide +kernel, by decide⟩
theorem ml_X7_57 : Cond.methodLink RX7 57 yX7_write ∈ zB := zmem 815 (by decide +kernel) rfl
theorem im_X7_write : Cond.instanceMethod yX7_write ∈ zB := zmem 817 (by decide +kernel) rfl
theorem se_X7_write : Cond.selects yX7_write.cls yX7_write yX7_write ∈ zB := zmem 13 (by decide +kernel) rfl
theorem ml_X7_60 : Cond.methodLink RX7 60 yX9_advance ∈ zB := zmem 819 (by decide +kernel) rfl
theorem md_X7_wrong : zMd yX7_wrong cX7_wrong 2 1 none := ⟨zmw (zmt_3 _ (List.mem_of_getElem? (i := 223) rfl)) rfl, zmem 119 (by decide +kernel) rfl, by decide, by decide, by decide +kernel, by decide⟩
theorem ml_X7_54 : Cond.methodLink RX7 54 yX7_wrong ∈ zB := zmem 811 (by decide +kernel) rfl
theorem im_X7_wrong : Cond.instanceMethod yX7_wrong ∈ zB := zmem 813 (by decide +kernel) rfl
theorem se_X7_wrong : Cond.selects yX7_wrong.cls yX7_wrong yX7_wrong ∈ zB := zmem 12 (by decide +kernel) rfl
def f_X7_readNewName (N : Nat) (v0 : Nat) (h : zH) : Option (zH) := (gR h v0 7 3).bind fun r1 => (gI h r1 9 4).bind fun x2 => if x2 = 200 then ((gR h v0 7 3).bind fun r4 => (gL h r4 9 7).bind fun x5 => zif (zob h v0 7) <| (f_X7_nameOf N v0 x5 h).bind fun q7 => if q7 = (-1) then ((gI h v0 7 4).bind fun x9 => if x9 < 8 then ((gR h v0 7 0).bind fun r11 => (gI h v0 7 4).bind fun x12 => (gR h v0 7 3).bind fun r13 => (gL h r13 9 7).bind fun x14 => (sL h r11 x12 x14).bind fun h15 => (gI h15 v0 7 4).bind fun x16 => zif (zob h15 v0 7) <| (f_X7_write N v0 x16 h15).bind fun h18 => (gR h18 v0 7 3).bind fun r19 => zif (zob h18 r19 9) <| (f_X9_advance N r19 h18).bind fun h21 => some h21) else (zif (zob h v0 7) <| (f_X7_wrong N v0 5 h).bind fun h23 => some h23)) else (zif (zob h v0 7) <| (f_X7_wrong N v0 3 h).bind fun h25 => some h25)) else (zif (zob h v0 7) <| (f_X7_wrong N v0 1 h).bind fun h27 => some h27)
set_option maxRecDepth 100000 in
set_option maxHeartbeats 4000000 in
theorem k_X7_readNewName {N : Nat} {v0 : Nat} {h : zH} {r : zH} (H : f_X7_readNewName N v0 h = some r) : zOk 5 0 0 yX7_readNewName cX7_readNewName 1 none [.ref v0] h none r := by
  refine zOk.of (by decide) (Nat.le_of_ble_eq_true rfl) ?_
  unfold f_X7_readNewName at H
  refine z_aload_n (pc := 0) 0 dX7_readNewName_0 rfl rfl ?_
  obtain ⟨r1, er1, H⟩ := zbind H
  refine z_getR (pc := 1) dX7_readNewName_1 fd_X7_24 er1 ?_
  obtain ⟨x2, ex2, H⟩ := zbind H
  refine z_getI (pc := 4) dX7_readNewName_4 fd_X7_41 ex2 ?_
  refine z_sipush (pc := 7) (x := 200) dX7_readNewName_7 zc_sipush_200 ?_
  refine z_icmp_eq (pc := 10) 21 dX7_readNewName_10 (by decide) (fun c3 => ?_) (fun c3 => ?_)
  · rw [if_pos c3] at H
    refine z_aload_n (pc := 21) 0 dX7_readNewName_21 rfl rfl ?_
    refine z_aload_n (pc := 22) 0 dX7_readNewName_22 rfl rfl ?_
    obtain ⟨r4, er4, H⟩ := zbind H
    refine z_getR (pc := 23) dX7_readNewName_23 fd_X7_24 er4 ?_
    obtain ⟨x5, ex5, H⟩ := zbind H
    refine z_getL (pc := 26) dX7_readNewName_26 fd_X7_81 ex5 ?_
    obtain ⟨z6, H⟩ := zifE H
    obtain ⟨q7, eq7, H⟩ := zbind H
    refine z_callV (pc := 29) (mc := 0) (ms := 0) (d' := 0) (mc' := 0) (ms' := 0) (rest := []) [.long x5] dX7_readNewName_29 md_X7_nameOf ml_X7_85 im_X7_nameOf se_X7_nameOf rfl z6 rfl rfl (Nat.le_of_ble_eq_true rfl) (by omega) (k_X7_nameOf eq7) ?_
    refine z_iconst (pc := 32) (x := (-1)) dX7_readNewName_32 zc_iconst_m1 ?_
    refine z_icmp_eq (pc := 33) 44 dX7_readNewName_33 (by decide) (fun c8 => ?_) (fun c8 => ?_)
    · rw [if_pos c8] at H
      refine z_aload_n (pc := 44) 0 dX7_readNewName_44 rfl rfl ?_
      obtain ⟨x9, ex9, H⟩ := zbind H
      refine z_getI (pc := 45) dX7_readNewName_45 fd_X7_28 ex9 ?_
      refine z_bipush (pc := 48) (x := 8) dX7_readNewName_48 zc_bipush_8 ?_
      refine z_icmp_lt (pc := 50) 61 dX7_readNewName_50 (by decide) (fun c10 => ?_) (fun c10 => ?_)
      · rw [if_pos c10] at H
        refine z_aload_n (pc := 61) 0 dX7_readNewName_61 rfl rfl ?_
        obtain ⟨r11, er11, H⟩ := zbind H
        refine z_getR (pc := 62) dX7_readNewName_62 fd_X7_11 er11 ?_
        refine z_aload_n (pc := 65) 0 dX7_readNewName_65 rfl rfl ?_
        obtain ⟨x12, ex12, H⟩ := zbind H
        refine z_getI (pc := 66) dX7_readNewName_66 fd_X7_28 ex12 ?_
        refine z_aload_n (pc := 69) 0 dX7_readNewName_69 rfl rfl ?_
        obtain ⟨r13, er13, H⟩ := zbind H
        refine z_getR (pc := 70) dX7_readNewName_70 fd_X7_24 er13 ?_
        obtain ⟨x14, ex14, H⟩ := zbind H
        refine z_getL (pc := 73) dX7_readNewName_73 fd_X7_81 ex14 ?_
        obtain ⟨h15, eh15, H⟩ := zbind H
        refine z_lastore (pc := 76) dX7_readNewName_76 eh15 ?_
        refine z_aload_n (pc := 77) 0 dX7_readNewName_77 rfl rfl ?_
        refine z_aload_n (pc := 78) 0 dX7_readNewName_78 rfl rfl ?_
        obtain ⟨x16, ex16, H⟩ := zbind H
        refine z_getI (pc := 79) dX7_readNewName_79 fd_X7_28 ex16 ?_
        obtain ⟨z17, H⟩ := zifE H
        obtain ⟨h18, eh18, H⟩ := zbind H
        refine z_callV (pc := 82) (mc := 0) (ms := 0) (d' := 0) (mc' := 0) (ms' := 0) (rest := []) [.int x16] dX7_readNewName_82 md_X7_write ml_X7_57 im_X7_write se_X7_write rfl z17 rfl rfl (Nat.le_of_ble_eq_true rfl) (by omega) (k_X7_write eh18) ?_
        refine z_aload_n (pc := 85) 0 dX7_readNewName_85 rfl rfl ?_
        obtain ⟨r19, er19, H⟩ := zbind H
        refine z_getR (pc := 86) dX7_readNewName_86 fd_X7_24 er19 ?_
        obtain ⟨z20, H⟩ := zifE H
        obtain ⟨h21, eh21, H⟩ := zbind H
        refine z_callV (pc := 89) (mc := 0) (ms := 0) (d' := 4) (mc' := 0) (ms' := 0) (rest := []) [] dX7_readNewName_89 md_X9_advance ml_X7_60 im_X9_advance se_X9_advance rfl z20 rfl rfl (Nat.le_of_ble_eq_true rfl) (by omega) (k_X9_advance eh21) ?_
        cases H
        exact z_return rfl dX7_readNewName_92
      · rw [if_neg c10] at H
        refine z_aload_n (pc := 53) 0 dX7_readNewName_53 rfl rfl ?_
        refine z_iconst (pc := 54) (x := 5) dX7_readNewName_54 zc_iconst_5 ?_
        obtain ⟨z22, H⟩ := zifE H
        obtain ⟨h23, eh23, H⟩ := zbind H
        refine z_callV (pc := 55) (mc := 0) (ms := 0) (d' := 0) (mc' := 0) (ms' := 0) (rest := []) [.int 5] dX7_readNewName_55 md_X7_wrong ml_X7_54 im_X7_wrong se_X7_wrong rfl z22 rfl rfl (Nat.le_of_ble_eq_true rfl) (by omega) (k_X7_wrong eh23) ?_
        refine z_goto (pc := 58) 92 dX7_readNewName_58 (by decide) ?_
        cases H
        exact z_return rfl dX7_readNewName_92
    · rw [if_neg c8] at H
      refine z_aload_n (pc := 36) 0 dX7_readNewName_36 rfl rfl ?_
      refine z_iconst (pc := 37) (x := 3) dX7_readNewName_37 zc_iconst_3 ?_
      obtain ⟨z24, H⟩ := zifE H
      obtain ⟨h25, eh25, H⟩ := zbind H
      refine z_callV (pc := 38) (mc := 0) (ms := 0) (d' := 0) (mc' := 0) (ms' := 0) (rest := []) [.int 3] dX7_readNewName_38 md_X7_wrong ml_X7_54 im_X7_wrong se_X7_wrong rfl z24 rfl rfl (Nat.le_of_ble_eq_true rfl) (by omega) (k_X7_wrong eh25) ?_
      refine z_goto (pc := 41) 92 dX7_readNewName_41 (by decide) ?_
      cases H
      exact z_return rfl dX7_readNewName_92
  · rw [if_neg c3] at H
    refine z_aload_n (pc := 13) 0 dX7_readNewName_13 rfl rfl ?_
    refine z_iconst (pc := 14) (x := 1) dX7_readNewName_14 zc_iconst_1 ?_
    obtain ⟨z26, H⟩ := zifE H
    obtain ⟨h27, eh27, H⟩ := zbind H
    refine z_callV (pc := 15) (mc := 0) (ms := 0) (d' := 0) (mc' := 0) (ms' := 0) (rest := []) [.int 1] dX7_readNewName_15 md_X7_wrong ml_X7_54 im_X7_wrong se_X7_wrong rfl z26 rfl rfl (Nat.le_of_ble_eq_true rfl) (by omega) (k_X7_wrong eh27) ?_
    refine z_goto (pc := 18) 92 dX7_readNewName_18 (by decide) ?_
    cases H
    exact z_return rfl dX7_readNewName_92

theorem zc_sipush_999 : (Int16.ofInt (999)).toInt32 = (999 : Int32) := by decide
theorem fd_X7_89 : zFd RX7 89 9 6 (.int) false "WhoseStreet$Tape" := zFd.of cl_9 (by decide) (zmem 247 (by decide +kernel) rfl) rfl rfl rfl
theorem ns_X7_92 : (RX7, 92, yX11_within, "WhoseStreet") ∈ zNs := by decide +kernel
def f_X7_readLimit (N : Nat) (v0 : Nat) (h : zH) : Option (zH) := (gR h v0 7 3).bind fun r1 => (gI h r1 9 4).bind fun x2 => if x2 = 201 then ((gR h v0 7 3).bind fun r4 => (gI h r4 9 6).bind fun x5 => if (p_X11_within x5 1 999) = 0 then (zif (zob h v0 7) <| (f_X7_wrong N v0 4 h).bind fun h15 => some h15) else ((gR h v0 7 3).bind fun r7 => (gI h r7 9 6).bind fun x8 => zif (zob h v0 7) <| (f_X7_write N v0 x8 h).bind fun h10 => (gR h10 v0 7 3).bind fun r11 => zif (zob h10 r11 9) <| (f_X9_advance N r11 h10).bind fun h13 => some h13)) else (zif (zob h v0 7) <| (f_X7_wrong N v0 1 h).bind fun h17 => some h17)
set_option maxRecDepth 100000 in
set_option maxHeartbeats 4000000 in
theorem k_X7_readLimit {N : Nat} {v0 : Nat} {h : zH} {r : zH} (H : f_X7_readLimit N v0 h = some r) : zOk 5 0 0 yX7_readLimit cX7_readLimit 1 none [.ref v0] h none r := by
  refine zOk.of (by decide) (Nat.le_of_ble_eq_true rfl) ?_
  unfold f_X7_readLimit at H
  refine z_aload_n (pc := 0) 0 dX7_readLimit_0 rfl rfl ?_
  obtain ⟨r1, er1, H⟩ := zbind H
  refine z_getR (pc := 1) dX7_readLimit_1 fd_X7_24 er1 ?_
  obtain ⟨x2, ex2, H⟩ := zbind H
  refine z_getI (pc := 4) dX7_readLimit_4 fd_X7_41 ex2 ?_
  refine z_sipush (pc := 7) (x := 201) dX7_readLimit_7 zc_sipush_201 ?_
  refine z_icmp_eq (pc := 10) 21 dX7_readLimit_10 (by decide) (fun c3 => ?_) (fun c3 => ?_)
  · rw [if_pos c3] at H
    refine z_aload_n (pc := 21) 0 dX7_readLimit_21 rfl rfl ?_
    obtain ⟨r4, er4, H⟩ := zbind H
    refine z_getR (pc := 22) dX7_readLimit_22 fd_X7_24 er4 ?_
    obtain ⟨x5, ex5, H⟩ := zbind H
    refine z_getI (pc := 25) dX7_readLimit_25 fd_X7_89 ex5 ?_
    refine z_iconst (pc := 28) (x := 1) dX7_readLimit_28 zc_iconst_1 ?_
    refine z_sipush (pc := 29) (x := 999) dX7_readLimit_29 zc_sipush_999 ?_
    refine z_callSN (pc := 32) (mc := 0) (ms := 0) (d' := 0) (mc' := 0) (ms' := 0) (rest := []) [.int x5, .int 1, .int 999] dX7_readLimit_32 md_X11_within ns_X7_92 sm_X11_within rfl rfl (Nat.le_of_ble_eq_true rfl) (by omega) (k_X11_within x5 1 999 h _ rfl) ?_
    refine z_if_ne (pc := 35) 46 dX7_readLimit_35 (by decide) (fun c6 => ?_) (fun c6 => ?_)
    · rw [if_neg c6] at H
      refine z_aload_n (pc := 46) 0 dX7_readLimit_46 rfl rfl ?_
      refine z_aload_n (pc := 47) 0 dX7_readLimit_47 rfl rfl ?_
      obtain ⟨r7, er7, H⟩ := zbind H
      refine z_getR (pc := 48) dX7_readLimit_48 fd_X7_24 er7 ?_
      obtain ⟨x8, ex8, H⟩ := zbind H
      refine z_getI (pc := 51) dX7_readLimit_51 fd_X7_89 ex8 ?_
      obtain ⟨z9, H⟩ := zifE H
      obtain ⟨h10, eh10, H⟩ := zbind H
      refine z_callV (pc := 54) (mc := 0) (ms := 0) (d' := 0) (mc' := 0) (ms' := 0) (rest := []) [.int x8] dX7_readLimit_54 md_X7_write ml_X7_57 im_X7_write se_X7_write rfl z9 rfl rfl (Nat.le_of_ble_eq_true rfl) (by omega) (k_X7_write eh10) ?_
      refine z_aload_n (pc := 57) 0 dX7_readLimit_57 rfl rfl ?_
      obtain ⟨r11, er11, H⟩ := zbind H
      refine z_getR (pc := 58) dX7_readLimit_58 fd_X7_24 er11 ?_
      obtain ⟨z12, H⟩ := zifE H
      obtain ⟨h13, eh13, H⟩ := zbind H
      refine z_callV (pc := 61) (mc := 0) (ms := 0) (d' := 4) (mc' := 0) (ms' := 0) (rest := []) [] dX7_readLimit_61 md_X9_advance ml_X7_60 im_X9_advance se_X9_advance rfl z12 rfl rfl (Nat.le_of_ble_eq_true rfl) (by omega) (k_X9_advance eh13) ?_
      cases H
      exact z_return rfl dX7_readLimit_64
    · rw [if_pos c6] at H
      refine z_aload_n (pc := 38) 0 dX7_readLimit_38 rfl rfl ?_
      refine z_iconst (pc := 39) (x := 4) dX7_readLimit_39 zc_iconst_4 ?_
      obtain ⟨z14, H⟩ := zifE H
      obtain ⟨h15, eh15, H⟩ := zbind H
      refine z_callV (pc := 40) (mc := 0) (ms := 0) (d' := 0) (mc' := 0) (ms' := 0) (rest := []) [.int 4] dX7_readLimit_40 md_X7_wrong ml_X7_54 im_X7_wrong se_X7_wrong rfl z14 rfl rfl (Nat.le_of_ble_eq_true rfl) (by omega) (k_X7_wrong eh15) ?_
      refine z_goto (pc := 43) 64 dX7_readLimit_43 (by decide) ?_
      cases H
      exact z_return rfl dX7_readLimit_64
  · rw [if_neg c3] at H
    refine z_aload_n (pc := 13) 0 dX7_readLimit_13 rfl rfl ?_
    refine z_iconst (pc := 14) (x := 1) dX7_readLimit_14 zc_iconst_1 ?_
    obtain ⟨z16, H⟩ := zifE H
    obtain ⟨h17, eh17, H⟩ := zbind H
    refine z_callV (pc := 15) (mc := 0) (ms := 0) (d' := 0) (mc' := 0) (ms' := 0) (rest := []) [.int 1] dX7_readLimit_15 md_X7_wrong ml_X7_54 im_X7_wrong se_X7_wrong rfl z16 rfl rfl (Nat.le_of_ble_eq_true rfl) (by omega) (k_X7_wrong eh17) ?_
    refine z_goto (pc := 18) 64 dX7_readLimit_18 (by decide) ?_
    cases H
    exact z_return rfl dX7_readLimit_64

def f_X7_readWho (N : Nat) (v0 : Nat) (h : zH) : Option (zH) := (gR h v0 7 3).bind fun r1 => (gI h r1 9 4).bind fun x2 => if (p_X11_within x2 0 3) = 0 then (zif (zob h v0 7) <| (f_X7_wrong N v0 1 h).bind fun h12 => some h12) else ((gR h v0 7 3).bind fun r4 => (gI h r4 9 4).bind fun x5 => zif (zob h v0 7) <| (f_X7_write N v0 x5 h).bind fun h7 => (gR h7 v0 7 3).bind fun r8 => zif (zob h7 r8 9) <| (f_X9_advance N r8 h7).bind fun h10 => some h10)
set_option maxRecDepth 100000 in
set_option maxHeartbeats 4000000 in
theorem k_X7_readWho {N : Nat} {v0 : Nat} {h : zH} {r : zH} (H : f_X7_readWho N v0 h = some r) : zOk 5 0 0 yX7_readWho cX7_readWho 1 none [.ref v0] h none r := by
  refine zOk.of (by decide) (Nat.le_of_ble_eq_true rfl) ?_
  unfold f_X7_readWho at H
  refine z_aload_n (pc := 0) 0 dX7_readWho_0 rfl rfl ?_
  obtain ⟨r1, er1, H⟩ := zbind H
  refine z_getR (pc := 1) dX7_readWho_1 fd_X7_24 er1 ?_
  obtain ⟨x2, ex2, H⟩ := zbind H
  refine z_getI (pc := 4) dX7_readWho_4 fd_X7_41 ex2 ?_
  refine z_iconst (pc := 7) (x := 0) dX7_readWho_7 zc_iconst_0 ?_
  refine z_iconst (pc := 8) (x := 3) dX7_readWho_8 zc_iconst_3 ?_
  refine z_callSN (pc := 9) (mc := 0) (ms := 0) (d' := 0) (mc' := 0) (ms' := 0) (rest := []) [.int x2, .int 0, .int 3] dX7_readWho_9 md_X11_within ns_X7_92 sm_X11_within rfl rfl (Nat.le_of_ble_eq_true rfl) (by omega) (k_X11_within x2 0 3 h _ rfl) ?_
  refine z_if_ne (pc := 12) 23 dX7_readWho_12 (by decide) (fun c3 => ?_) (fun c3 => ?_)
  · rw [if_neg c3] at H
    refine z_aload_n (pc := 23) 0 dX7_readWho_23 rfl rfl ?_
    refine z_aload_n (pc := 24) 0 dX7_readWho_24 rfl rfl ?_
    obtain ⟨r4, er4, H⟩ := zbind H
    refine z_getR (pc := 25) dX7_readWho_25 fd_X7_24 er4 ?_
    obtain ⟨x5, ex5, H⟩ := zbind H
    refine z_getI (pc := 28) dX7_readWho_28 fd_X7_41 ex5 ?_
    obtain ⟨z6, H⟩ := zifE H
    obtain ⟨h7, eh7, H⟩ := zbind H
    refine z_callV (pc := 31) (mc := 0) (ms := 0) (d' := 0) (mc' := 0) (ms' := 0) (rest := []) [.int x5] dX7_readWho_31 md_X7_write ml_X7_57 im_X7_write se_X7_write rfl z6 rfl rfl (Nat.le_of_ble_eq_true rfl) (by omega) (k_X7_write eh7) ?_
    refine z_aload_n (pc := 34) 0 dX7_readWho_34 rfl rfl ?_
    obtain ⟨r8, er8, H⟩ := zbind H
    refine z_getR (pc := 35) dX7_readWho_35 fd_X7_24 er8 ?_
    obtain ⟨z9, H⟩ := zifE H
    obtain ⟨h10, eh10, H⟩ := zbind H
    refine z_callV (pc := 38) (mc := 0) (ms := 0) (d' := 4) (mc' := 0) (ms' := 0) (rest := []) [] dX7_readWho_38 md_X9_advance ml_X7_60 im_X9_advance se_X9_advance rfl z9 rfl rfl (Nat.le_of_ble_eq_true rfl) (by omega) (k_X9_advance eh10) ?_
    cases H
    exact z_return rfl dX7_readWho_41
  · rw [if_pos c3] at H
    refine z_aload_n (pc := 15) 0 dX7_readWho_15 rfl rfl ?_
    refine z_iconst (pc := 16) (x := 1) dX7_readWho_16 zc_iconst_1 ?_
    obtain ⟨z11, H⟩ := zifE H
    obtain ⟨h12, eh12, H⟩ := zbind H
    refine z_callV (pc := 17) (mc := 0) (ms := 0) (d' := 0) (mc' := 0) (ms' := 0) (rest := []) [.int 1] dX7_readWho_17 md_X7_wrong ml_X7_54 im_X7_wrong se_X7_wrong rfl z11 rfl rfl (Nat.le_of_ble_eq_true rfl) (by omega) (k_X7_wrong eh12) ?_
    refine z_goto (pc := 20) 41 dX7_readWho_20 (by decide) ?_
    cases H
    exact z_return rfl dX7_readWho_41

theorem md_X7_readWho : zMd yX7_readWho cX7_readWho 1 0 none := ⟨zmw (zmt_4 _ (List.mem_of_getElem? (i := 9) rfl)) rfl, zmem 119 (by decide +kernel) rfl, by decide, by decide, by decide +kernel, by decide⟩
theorem ml_X7_78 : Cond.methodLink RX7 78 yX7_readWho ∈ zB := zmem 837 (by decide +kernel) rfl
theorem im_X7_readWho : Cond.instanceMethod yX7_readWho ∈ zB := zmem 839 (by decide +kernel) rfl
theorem se_X7_readWho : Cond.selects yX7_readWho.cls yX7_readWho yX7_readWho ∈ zB := zmem 18 (by decide +kernel) rfl
theorem md_X7_readLimit : zMd yX7_readLimit cX7_readLimit 1 0 none := ⟨zmw (zmt_4 _ (List.mem_of_getElem? (i := 4) rfl)) rfl, zmem 119 (by decide +kernel) rfl, by decide, by decide, by decide +kernel, by decide⟩
theorem ml_X7_75 : Cond.methodLink RX7 75 yX7_readLimit ∈ zB := zmem 832 (by decide +kernel) rfl
theorem im_X7_readLimit : Cond.instanceMethod yX7_readLimit ∈ zB := zmem 834 (by decide +kernel) rfl
theorem se_X7_readLimit : Cond.selects yX7_readLimit.cls yX7_readLimit yX7_readLimit ∈ zB := zmem 17 (by decide +kernel) rfl
theorem md_X7_readNewName : zMd yX7_readNewName cX7_readNewName 1 0 none := ⟨zmw (zmt_3 _ (List.mem_of_getElem? (i := 236) rfl)) rfl, zmem 119 (by decide +kernel) rfl, by decide, by decide, by decide +kernel, by decide⟩
theorem ml_X7_72 : Cond.methodLink RX7 72 yX7_readNewName ∈ zB := zmem 824 (by decide +kernel) rfl
theorem im_X7_readNewName : Cond.instanceMethod yX7_readNewName ∈ zB := zmem 826 (by decide +kernel) rfl
theorem se_X7_readNewName : Cond.selects yX7_readNewName.cls yX7_readNewName yX7_readNewName ∈ zB := zmem 15 (by decide +kernel) rfl
def f_X7_readWhatFor (N : Nat) (v0 : Nat) (v1 : Int32) (h : zH) : Option (zH) := if v1 = 4 then (zif (zob h v0 7) <| (f_X7_readNewName N v0 h).bind fun h8 => some h8) else (if v1 = 20 then (zif (zob h v0 7) <| (f_X7_readLimit N v0 h).bind fun h6 => some h6) else (zif (zob h v0 7) <| (f_X7_readWho N v0 h).bind fun h4 => some h4))
set_option maxRecDepth 100000 in
set_option maxHeartbeats 4000000 in
theorem k_X7_readWhatFor {N : Nat} {v0 : Nat} {v1 : Int32} {h : zH} {r : zH} (H : f_X7_readWhatFor N v0 v1 h = some r) : zOk 6 0 0 yX7_readWhatFor cX7_readWhatFor 2 none [.ref v0, .int v1] h none r := by
  refine zOk.of (by decide) (Nat.le_of_ble_eq_true rfl) ?_
  unfold f_X7_readWhatFor at H
  refine z_iload_n (pc := 0) 1 dX7_readWhatFor_0 rfl rfl ?_
  refine z_iconst (pc := 1) (x := 4) dX7_readWhatFor_1 zc_iconst_4 ?_
  refine z_icmp_ne (pc := 2) 12 dX7_readWhatFor_2 (by decide) (fun c1 => ?_) (fun c1 => ?_)
  · rw [if_neg c1] at H
    refine z_iload_n (pc := 12) 1 dX7_readWhatFor_12 rfl rfl ?_
    refine z_bipush (pc := 13) (x := 20) dX7_readWhatFor_13 zc_bipush_20 ?_
    refine z_icmp_ne (pc := 15) 25 dX7_readWhatFor_15 (by decide) (fun c2 => ?_) (fun c2 => ?_)
    · rw [if_neg c2] at H
      refine z_aload_n (pc := 25) 0 dX7_readWhatFor_25 rfl rfl ?_
      obtain ⟨z3, H⟩ := zifE H
      obtain ⟨h4, eh4, H⟩ := zbind H
      refine z_callV (pc := 26) (mc := 0) (ms := 0) (d' := 5) (mc' := 0) (ms' := 0) (rest := []) [] dX7_readWhatFor_26 md_X7_readWho ml_X7_78 im_X7_readWho se_X7_readWho rfl z3 rfl rfl (Nat.le_of_ble_eq_true rfl) (by omega) (k_X7_readWho eh4) ?_
      cases H
      exact z_return rfl dX7_readWhatFor_29
    · rw [if_pos c2] at H
      refine z_aload_n (pc := 18) 0 dX7_readWhatFor_18 rfl rfl ?_
      obtain ⟨z5, H⟩ := zifE H
      obtain ⟨h6, eh6, H⟩ := zbind H
      refine z_callV (pc := 19) (mc := 0) (ms := 0) (d' := 5) (mc' := 0) (ms' := 0) (rest := []) [] dX7_readWhatFor_19 md_X7_readLimit ml_X7_75 im_X7_readLimit se_X7_readLimit rfl z5 rfl rfl (Nat.le_of_ble_eq_true rfl) (by omega) (k_X7_readLimit eh6) ?_
      refine z_goto (pc := 22) 29 dX7_readWhatFor_22 (by decide) ?_
      cases H
      exact z_return rfl dX7_readWhatFor_29
  · rw [if_pos c1] at H
    refine z_aload_n (pc := 5) 0 dX7_readWhatFor_5 rfl rfl ?_
    obtain ⟨z7, H⟩ := zifE H
    obtain ⟨h8, eh8, H⟩ := zbind H
    refine z_callV (pc := 6) (mc := 0) (ms := 0) (d' := 5) (mc' := 0) (ms' := 0) (rest := []) [] dX7_readWhatFor_6 md_X7_readNewName ml_X7_72 im_X7_readNewName se_X7_readNewName rfl z7 rfl rfl (Nat.le_of_ble_eq_true rfl) (by omega) (k_X7_readNewName eh8) ?_
    refine z_goto (pc := 9) 29 dX7_readWhatFor_9 (by decide) ?_
    cases H
    exact z_return rfl dX7_readWhatFor_29

def f_X7_expect (N : Nat) (v0 : Nat) (v1 : Int32) (h : zH) : Option (zH) := (gR h v0 7 3).bind fun r1 => (gI h r1 9 4).bind fun x2 => if x2 = v1 then ((gI h v0 7 8).bind fun x4 => if x4 = 0 then ((gR h v0 7 3).bind fun r6 => zif (zob h r6 9) <| (f_X9_advance N r6 h).bind fun h8 => some h8) else (some h)) else (zif (zob h v0 7) <| (f_X7_wrong N v0 1 h).bind fun h10 => some h10)
set_option maxRecDepth 100000 in
set_option maxHeartbeats 4000000 in
theorem k_X7_expect {N : Nat} {v0 : Nat} {v1 : Int32} {h : zH} {r : zH} (H : f_X7_expect N v0 v1 h = some r) : zOk 5 0 0 yX7_expect cX7_expect 2 none [.ref v0, .int v1] h none r := by
  refine zOk.of (by decide) (Nat.le_of_ble_eq_true rfl) ?_
  unfold f_X7_expect at H
  refine z_aload_n (pc := 0) 0 dX7_expect_0 rfl rfl ?_
  obtain ⟨r1, er1, H⟩ := zbind H
  refine z_getR (pc := 1) dX7_expect_1 fd_X7_24 er1 ?_
  obtain ⟨x2, ex2, H⟩ := zbind H
  refine z_getI (pc := 4) dX7_expect_4 fd_X7_41 ex2 ?_
  refine z_iload_n (pc := 7) 1 dX7_expect_7 rfl rfl ?_
  refine z_icmp_eq (pc := 8) 19 dX7_expect_8 (by decide) (fun c3 => ?_) (fun c3 => ?_)
  · rw [if_pos c3] at H
    refine z_aload_n (pc := 19) 0 dX7_expect_19 rfl rfl ?_
    obtain ⟨x4, ex4, H⟩ := zbind H
    refine z_getI (pc := 20) dX7_expect_20 fd_X7_35 ex4 ?_
    refine z_if_ne (pc := 23) 33 dX7_expect_23 (by decide) (fun c5 => ?_) (fun c5 => ?_)
    · rw [if_neg c5] at H
      cases H
      exact z_return rfl dX7_expect_33
    · rw [if_pos c5] at H
      refine z_aload_n (pc := 26) 0 dX7_expect_26 rfl rfl ?_
      obtain ⟨r6, er6, H⟩ := zbind H
      refine z_getR (pc := 27) dX7_expect_27 fd_X7_24 er6 ?_
      obtain ⟨z7, H⟩ := zifE H
      obtain ⟨h8, eh8, H⟩ := zbind H
      refine z_callV (pc := 30) (mc := 0) (ms := 0) (d' := 4) (mc' := 0) (ms' := 0) (rest := []) [] dX7_expect_30 md_X9_advance ml_X7_60 im_X9_advance se_X9_advance rfl z7 rfl rfl (Nat.le_of_ble_eq_true rfl) (by omega) (k_X9_advance eh8) ?_
      cases H
      exact z_return rfl dX7_expect_33
  · rw [if_neg c3] at H
    refine z_aload_n (pc := 11) 0 dX7_expect_11 rfl rfl ?_
    refine z_iconst (pc := 12) (x := 1) dX7_expect_12 zc_iconst_1 ?_
    obtain ⟨z9, H⟩ := zifE H
    obtain ⟨h10, eh10, H⟩ := zbind H
    refine z_callV (pc := 13) (mc := 0) (ms := 0) (d' := 0) (mc' := 0) (ms' := 0) (rest := []) [.int 1] dX7_expect_13 md_X7_wrong ml_X7_54 im_X7_wrong se_X7_wrong rfl z9 rfl rfl (Nat.le_of_ble_eq_true rfl) (by omega) (k_X7_wrong eh10) ?_
    refine z_goto (pc := 16) 33 dX7_expect_16 (by decide) ?_
    cases H
    exact z_return rfl dX7_expect_33

theorem fd_X7_96 : zFd RX7 96 7 6 (.int) false "WhoseStreet$Reader" := zFd.of cl_7 (by decide) (zmem 281 (by decide +kernel) rfl) rfl rfl rfl
def f_X7_hold (N : Nat) (v0 : Nat) (v1 : Int32) (h : zH) : Option (zH) := (gI h v0 7 6).bind fun x1 => (gR h v0 7 2).bind fun r2 => (aN h r2).bind fun x3 => if x3 ≤ x1 then (some h) else ((gR h v0 7 2).bind fun r5 => (gI h v0 7 6).bind fun x6 => (sI h r5 x6 v1).bind fun h7 => (gI h7 v0 7 6).bind fun x8 => (pF h7 v0 7 6 (.int (x8 + 1))).bind fun h9 => some h9)
set_option maxRecDepth 100000 in
set_option maxHeartbeats 4000000 in
theorem k_X7_hold {N : Nat} {v0 : Nat} {v1 : Int32} {h : zH} {r : zH} (H : f_X7_hold N v0 v1 h = some r) : zOk 0 0 0 yX7_hold cX7_hold 2 none [.ref v0, .int v1] h none r := by
  refine zOk.of (by decide) (Nat.le_of_ble_eq_true rfl) ?_
  unfold f_X7_hold at H
  refine z_aload_n (pc := 0) 0 dX7_hold_0 rfl rfl ?_
  obtain ⟨x1, ex1, H⟩ := zbind H
  refine z_getI (pc := 1) dX7_hold_1 fd_X7_96 ex1 ?_
  refine z_aload_n (pc := 4) 0 dX7_hold_4 rfl rfl ?_
  obtain ⟨r2, er2, H⟩ := zbind H
  refine z_getR (pc := 5) dX7_hold_5 fd_X7_21 er2 ?_
  obtain ⟨x3, ex3, H⟩ := zbind H
  refine z_alen (pc := 8) dX7_hold_8 ex3 ?_
  refine z_icmp_ge (pc := 9) 32 dX7_hold_9 (by decide) (fun c4 => ?_) (fun c4 => ?_)
  · rw [if_pos c4] at H
    cases H
    exact z_return rfl dX7_hold_32
  · rw [if_neg c4] at H
    refine z_aload_n (pc := 12) 0 dX7_hold_12 rfl rfl ?_
    obtain ⟨r5, er5, H⟩ := zbind H
    refine z_getR (pc := 13) dX7_hold_13 fd_X7_21 er5 ?_
    refine z_aload_n (pc := 16) 0 dX7_hold_16 rfl rfl ?_
    obtain ⟨x6, ex6, H⟩ := zbind H
    refine z_getI (pc := 17) dX7_hold_17 fd_X7_96 ex6 ?_
    refine z_iload_n (pc := 20) 1 dX7_hold_20 rfl rfl ?_
    obtain ⟨h7, eh7, H⟩ := zbind H
    refine z_iastore (pc := 21) dX7_hold_21 eh7 ?_
    refine z_aload_n (pc := 22) 0 dX7_hold_22 rfl rfl ?_
    refine z_dup (pc := 23) dX7_hold_23 rfl ?_
    obtain ⟨x8, ex8, H⟩ := zbind H
    refine z_getI (pc := 24) dX7_hold_24 fd_X7_96 ex8 ?_
    refine z_iconst (pc := 27) (x := 1) dX7_hold_27 zc_iconst_1 ?_
    refine z_iadd (pc := 28) dX7_hold_28 ?_
    obtain ⟨h9, eh9, H⟩ := zbind H
    refine z_put (pc := 29) dX7_hold_29 fd_X7_96 rfl rfl eh9 ?_
    cases H
    exact z_return rfl dX7_hold_32

def f_X7_lastWaiting (N : Nat) (v0 : Nat) (h : zH) : Option (Int32) := (gI h v0 7 6).bind fun x1 => if x1 ≤ 0 then (some (-1)) else ((gI h v0 7 6).bind fun x3 => (gR h v0 7 2).bind fun r4 => (aN h r4).bind fun x5 => if x5 < x3 then (some (-1)) else ((gR h v0 7 2).bind fun r7 => (gI h v0 7 6).bind fun x8 => (aI h r7 (x8 - 1)).bind fun x9 => some x9))
set_option maxRecDepth 100000 in
set_option maxHeartbeats 4000000 in
theorem k_X7_lastWaiting {N : Nat} {v0 : Nat} {h : zH} {r : Int32} (H : f_X7_lastWaiting N v0 h = some r) : zOk 0 0 0 yX7_lastWaiting cX7_lastWaiting 1 (some .int) [.ref v0] h (some (.int r)) h := by
  refine zOk.of (by decide) (Nat.le_of_ble_eq_true rfl) ?_
  unfold f_X7_lastWaiting at H
  refine z_aload_n (pc := 0) 0 dX7_lastWaiting_0 rfl rfl ?_
  obtain ⟨x1, ex1, H⟩ := zbind H
  refine z_getI (pc := 1) dX7_lastWaiting_1 fd_X7_96 ex1 ?_
  refine z_if_le (pc := 4) 33 dX7_lastWaiting_4 (by decide) (fun c2 => ?_) (fun c2 => ?_)
  · rw [if_pos c2] at H
    refine z_iconst (pc := 33) (x := (-1)) dX7_lastWaiting_33 zc_iconst_m1 ?_
    cases H
    exact z_ireturn rfl dX7_lastWaiting_34
  · rw [if_neg c2] at H
    refine z_aload_n (pc := 7) 0 dX7_lastWaiting_7 rfl rfl ?_
    obtain ⟨x3, ex3, H⟩ := zbind H
    refine z_getI (pc := 8) dX7_lastWaiting_8 fd_X7_96 ex3 ?_
    refine z_aload_n (pc := 11) 0 dX7_lastWaiting_11 rfl rfl ?_
    obtain ⟨r4, er4, H⟩ := zbind H
    refine z_getR (pc := 12) dX7_lastWaiting_12 fd_X7_21 er4 ?_
    obtain ⟨x5, ex5, H⟩ := zbind H
    refine z_alen (pc := 15) dX7_lastWaiting_15 ex5 ?_
    refine z_icmp_gt (pc := 16) 33 dX7_lastWaiting_16 (by decide) (fun c6 => ?_) (fun c6 => ?_)
    · rw [if_pos c6] at H
      refine z_iconst (pc := 33) (x := (-1)) dX7_lastWaiting_33 zc_iconst_m1 ?_
      cases H
      exact z_ireturn rfl dX7_lastWaiting_34
    · rw [if_neg c6] at H
      refine z_aload_n (pc := 19) 0 dX7_lastWaiting_19 rfl rfl ?_
      obtain ⟨r7, er7, H⟩ := zbind H
      refine z_getR (pc := 20) dX7_lastWaiting_20 fd_X7_21 er7 ?_
      refine z_aload_n (pc := 23) 0 dX7_lastWaiting_23 rfl rfl ?_
      obtain ⟨x8, ex8, H⟩ := zbind H
      refine z_getI (pc := 24) dX7_lastWaiting_24 fd_X7_96 ex8 ?_
      refine z_iconst (pc := 27) (x := 1) dX7_lastWaiting_27 zc_iconst_1 ?_
      refine z_isub (pc := 28) dX7_lastWaiting_28 ?_
      obtain ⟨x9, ex9, H⟩ := zbind H
      refine z_iaload (pc := 29) dX7_lastWaiting_29 ex9 ?_
      refine z_goto (pc := 30) 34 dX7_lastWaiting_30 (by decide) ?_
      cases H
      exact z_ireturn rfl dX7_lastWaiting_34

theorem zc_sipush_30009 : (Int16.ofInt (30009)).toInt32 = (30009 : Int32) := by decide
theorem md_X7_lastWaiting : zMd yX7_lastWaiting cX7_lastWaiting 1 0 (some .int) := ⟨zmw (zmt_4 _ (List.mem_of_getElem? (i := 33) rfl)) rfl, zmem 119 (by decide +kernel) rfl, by decide, by decide, by decide +kernel, by decide⟩
theorem ml_X7_125 : Cond.methodLink RX7 125 yX7_lastWaiting ∈ zB := zmem 861 (by decide +kernel) rfl
theorem im_X7_lastWaiting : Cond.instanceMethod yX7_lastWaiting ∈ zB := zmem 863 (by decide +kernel) rfl
theorem se_X7_lastWaiting : Cond.selects yX7_lastWaiting.cls yX7_lastWaiting yX7_lastWaiting ∈ zB := zmem 24 (by decide +kernel) rfl
theorem fd_X7_99 : zFd RX7 99 7 7 (.int) false "WhoseStreet$Reader" := zFd.of cl_7 (by decide) (zmem 282 (by decide +kernel) rfl) rfl rfl rfl
def f_X7_writeNots_L2 (N : Nat) (v0 : Nat) : Nat → Int32 → zH → Option (zH)
  | 0, _, _ => none
  | n + 1, v1, h => if 4 ≤ v1 then (some h) else (zif (zob h v0 7) <| (f_X7_lastWaiting N v0 h).bind fun q3 => if q3 = 9 then (zif (zob h v0 7) <| (f_X7_write N v0 30009 h).bind fun h6 => (gI h6 v0 7 6).bind fun x7 => (pF h6 v0 7 6 (.int (x7 - 1))).bind fun h8 => (gI h8 v0 7 7).bind fun x9 => (pF h8 v0 7 7 (.int (x9 - 1))).bind fun h10 => f_X7_writeNots_L2 N v0 n (v1 + 1) h10) else (some h))
set_option maxRecDepth 100000 in
set_option maxHeartbeats 4000000 in
theorem s_X7_writeNots_L2 {d mc ms N : Nat} {vv : Option Value} {hh : zH} {v0 : Nat} (hd0 : 1 ≤ d) : ∀ (n : Nat) (v1 : Int32) (h : zH) (m : zH), f_X7_writeNots_L2 N v0 n v1 h = some m → (zW yX7_writeNots cX7_writeNots 2 none d mc ms 49 [] [] m vv hh) → zW yX7_writeNots cX7_writeNots 2 none d mc ms 2 [(0, .ref v0), (1, .int v1)] [] h vv hh := by
  intro n
  induction n with
  | zero =>
    intro v1 h m H
    cases H
  | succ n ih =>
    intro v1 h m H KE
    unfold f_X7_writeNots_L2 at H
    refine z_iload_n (pc := 2) 1 dX7_writeNots_2 rfl rfl ?_
    refine z_iconst (pc := 3) (x := 4) dX7_writeNots_3 zc_iconst_4 ?_
    refine z_icmp_ge (pc := 4) 49 dX7_writeNots_4 (by decide) (fun c1 => ?_) (fun c1 => ?_)
    · rw [if_pos c1] at H
      cases H
      exact z_sub [] rfl (KE)
    · rw [if_neg c1] at H
      refine z_aload_n (pc := 7) 0 dX7_writeNots_7 rfl rfl ?_
      obtain ⟨z2, H⟩ := zifE H
      obtain ⟨q3, eq3, H⟩ := zbind H
      refine z_callV (pc := 8) (mc := mc) (ms := ms) (d' := 0) (mc' := 0) (ms' := 0) (rest := []) [] dX7_writeNots_8 md_X7_lastWaiting ml_X7_125 im_X7_lastWaiting se_X7_lastWaiting rfl z2 rfl rfl (Nat.le_of_ble_eq_true rfl) (by omega) (k_X7_lastWaiting eq3) ?_
      refine z_bipush (pc := 11) (x := 9) dX7_writeNots_11 zc_bipush_9 ?_
      refine z_icmp_ne (pc := 13) 49 dX7_writeNots_13 (by decide) (fun c4 => ?_) (fun c4 => ?_)
      · rw [if_neg c4] at H
        cases H
        exact z_sub [] rfl (KE)
      · rw [if_pos c4] at H
        refine z_aload_n (pc := 16) 0 dX7_writeNots_16 rfl rfl ?_
        refine z_sipush (pc := 17) (x := 30009) dX7_writeNots_17 zc_sipush_30009 ?_
        obtain ⟨z5, H⟩ := zifE H
        obtain ⟨h6, eh6, H⟩ := zbind H
        refine z_callV (pc := 20) (mc := mc) (ms := ms) (d' := 0) (mc' := 0) (ms' := 0) (rest := []) [.int 30009] dX7_writeNots_20 md_X7_write ml_X7_57 im_X7_write se_X7_write rfl z5 rfl rfl (Nat.le_of_ble_eq_true rfl) (by omega) (k_X7_write eh6) ?_
        refine z_aload_n (pc := 23) 0 dX7_writeNots_23 rfl rfl ?_
        refine z_dup (pc := 24) dX7_writeNots_24 rfl ?_
        obtain ⟨x7, ex7, H⟩ := zbind H
        refine z_getI (pc := 25) dX7_writeNots_25 fd_X7_96 ex7 ?_
        refine z_iconst (pc := 28) (x := 1) dX7_writeNots_28 zc_iconst_1 ?_
        refine z_isub (pc := 29) dX7_writeNots_29 ?_
        obtain ⟨h8, eh8, H⟩ := zbind H
        refine z_put (pc := 30) dX7_writeNots_30 fd_X7_96 rfl rfl eh8 ?_
        refine z_aload_n (pc := 33) 0 dX7_writeNots_33 rfl rfl ?_
        refine z_dup (pc := 34) dX7_writeNots_34 rfl ?_
        obtain ⟨x9, ex9, H⟩ := zbind H
        refine z_getI (pc := 35) dX7_writeNots_35 fd_X7_99 ex9 ?_
        refine z_iconst (pc := 38) (x := 1) dX7_writeNots_38 zc_iconst_1 ?_
        refine z_isub (pc := 39) dX7_writeNots_39 ?_
        obtain ⟨h10, eh10, H⟩ := zbind H
        refine z_put (pc := 40) dX7_writeNots_40 fd_X7_99 rfl rfl eh10 ?_
        refine z_iinc (pc := 43) (x' := v1 + 1) (lv' := [(1, .int (v1 + 1)), (0, .ref v0)]) 1 dX7_writeNots_43 rfl (by rfl) (by decide) rfl ?_
        refine z_goto (pc := 46) 2 dX7_writeNots_46 (by decide) ?_
        exact z_sub [1, 0] rfl (ih (v1 + 1) h10 _ H KE)
def f_X7_writeNots (N : Nat) (v0 : Nat) (h : zH) : Option (zH) := (f_X7_writeNots_L2 N v0 N 0 h).bind fun m11 => some m11
set_option maxRecDepth 100000 in
set_option maxHeartbeats 4000000 in
theorem k_X7_writeNots {N : Nat} {v0 : Nat} {h : zH} {r : zH} (H : f_X7_writeNots N v0 h = some r) : zOk 1 0 0 yX7_writeNots cX7_writeNots 2 none [.ref v0] h none r := by
  refine zOk.of (by decide) (Nat.le_of_ble_eq_true rfl) ?_
  unfold f_X7_writeNots at H
  refine z_iconst (pc := 0) (x := 0) dX7_writeNots_0 zc_iconst_0 ?_
  refine z_istore_n (pc := 1) (lv' := [(1, .int 0), (0, .ref v0)]) dX7_writeNots_1 rfl (by decide) rfl ?_
  obtain ⟨m11, em11, H⟩ := zbind H
  refine z_sub [1, 0] rfl (s_X7_writeNots_L2 (by omega) N 0 h _ em11 ?_)
  cases H
  exact z_return rfl dX7_writeNots_49

theorem zc_bipush_40 : (Int8.ofInt (40)).toInt32 = (40 : Int32) := by decide
theorem md_X7_writeNots : zMd yX7_writeNots cX7_writeNots 2 0 none := ⟨zmw (zmt_4 _ (List.mem_of_getElem? (i := 29) rfl)) rfl, zmem 119 (by decide +kernel) rfl, by decide, by decide, by decide +kernel, by decide⟩
theorem ml_X7_122 : Cond.methodLink RX7 122 yX7_writeNots ∈ zB := zmem 857 (by decide +kernel) rfl
theorem im_X7_writeNots : Cond.instanceMethod yX7_writeNots ∈ zB := zmem 859 (by decide +kernel) rfl
theorem se_X7_writeNots : Cond.selects yX7_writeNots.cls yX7_writeNots yX7_writeNots ∈ zB := zmem 23 (by decide +kernel) rfl
theorem md_X7_hold : zMd yX7_hold cX7_hold 2 1 none := ⟨zmw (zmt_4 _ (List.mem_of_getElem? (i := 25) rfl)) rfl, zmem 119 (by decide +kernel) rfl, by decide, by decide, by decide +kernel, by decide⟩
theorem ml_X7_119 : Cond.methodLink RX7 119 yX7_hold ∈ zB := zmem 853 (by decide +kernel) rfl
theorem im_X7_hold : Cond.instanceMethod yX7_hold ∈ zB := zmem 855 (by decide +kernel) rfl
theorem se_X7_hold : Cond.selects yX7_hold.cls yX7_hold yX7_hold ∈ zB := zmem 22 (by decide +kernel) rfl
def f_X7_readPart (N : Nat) (v0 : Nat) (h : zH) : Option (Int32 × zH) := (gR h v0 7 3).bind fun r1 => (gI h r1 9 4).bind fun x2 => (if x2 = 9 then (some 1) else (if x2 = 40 then (some 1) else (some 0)) : Option (Int32)).bind fun m3 => (if x2 = 200 then ((gR h v0 7 3).bind fun r8 => (gL h r8 9 7).bind fun x9 => zif (zob h v0 7) <| (f_X7_nameOf N v0 x9 h).bind fun q11 => some q11) else (some (-1)) : Option (Int32)).bind fun m6 => (if (p_X11_within x2 10 20) = 0 then (if x2 = 200 then (some 1) else (if x2 = 201 then (some 1) else (some 0))) else (some 1) : Option (Int32)).bind fun m12 => (if m3 = 0 then (if m12 = 0 then (zif (zob h v0 7) <| (f_X7_wrong N v0 1 h).bind fun h21 => (rZ m3 h21).map .inr) else (some (.inl h))) else (some (.inl h)) : Option ((zH) ⊕ (Int32 × zH))).bind fun m16 => zsum m16 fun s17 => (if x2 = 200 then (if m6 = (-1) then (zif (zob s17 v0 7) <| (f_X7_wrong N v0 2 s17).bind fun h28 => (rZ m3 h28).map .inr) else (some (.inl s17))) else (some (.inl s17)) : Option ((zH) ⊕ (Int32 × zH))).bind fun m23 => zsum m23 fun s24 => (gI s24 v0 7 7).bind fun x30 => if x30 < 4 then (if m3 = 0 then ((if x2 = 201 then ((gR s24 v0 7 3).bind fun r36 => (gI s24 r36 9 6).bind fun x37 => some x37) else (if x2 = 200 then (some (20000 + m6)) else (some (10000 + x2))) : Option (Int32)).bind fun m33 => zif (zob s24 v0 7) <| (f_X7_write N v0 m33 s24).bind fun h39 => zif (zob h39 v0 7) <| (f_X7_writeNots N v0 h39).bind fun h41 => (gR h41 v0 7 3).bind fun r42 => zif (zob h41 r42 9) <| (f_X9_advance N r42 h41).bind fun h44 => rZ m3 h44) else (zif (zob s24 v0 7) <| (f_X7_hold N v0 x2 s24).bind fun h46 => (gI h46 v0 7 7).bind fun x47 => (pF h46 v0 7 7 (.int (x47 + 1))).bind fun h48 => (gR h48 v0 7 3).bind fun r49 => zif (zob h48 r49 9) <| (f_X9_advance N r49 h48).bind fun h51 => rZ m3 h51)) else (zif (zob s24 v0 7) <| (f_X7_wrong N v0 5 s24).bind fun h53 => rZ m3 h53)
set_option maxRecDepth 100000 in
set_option maxHeartbeats 4000000 in
theorem k_X7_readPart {N : Nat} {v0 : Nat} {h : zH} {r : Int32 × zH} (H : f_X7_readPart N v0 h = some r) : zOk 5 0 0 yX7_readPart cX7_readPart 5 (some .boolean) [.ref v0] h (some (.int r.1)) r.2 := by
  refine zOk.of (by decide) (Nat.le_of_ble_eq_true rfl) ?_
  unfold f_X7_readPart at H
  refine z_aload_n (pc := 0) 0 dX7_readPart_0 rfl rfl ?_
  obtain ⟨r1, er1, H⟩ := zbind H
  refine z_getR (pc := 1) dX7_readPart_1 fd_X7_24 er1 ?_
  obtain ⟨x2, ex2, H⟩ := zbind H
  refine z_getI (pc := 4) dX7_readPart_4 fd_X7_41 ex2 ?_
  refine z_istore_n (pc := 7) (lv' := [(1, .int x2), (0, .ref v0)]) dX7_readPart_7 rfl (by decide) rfl ?_
  refine z_iload_n (pc := 8) 0 dX7_readPart_8 rfl rfl ?_
  refine z_bipush (pc := 9) (x := 9) dX7_readPart_9 zc_bipush_9 ?_
  obtain ⟨m3, em3, H⟩ := zbind H
  have Jm3 : zW yX7_readPart cX7_readPart 5 (some .boolean) 5 0 0 25 [(0, .ref v0), (1, .int x2)] [.int m3] h (some (.int r.1)) r.2 := by
    refine z_istore_n (pc := 25) (lv' := [(2, .int m3), (0, .ref v0), (1, .int x2)]) dX7_readPart_25 rfl (by decide) rfl ?_
    refine z_iload_n (pc := 26) 2 dX7_readPart_26 rfl rfl ?_
    refine z_sipush (pc := 27) (x := 200) dX7_readPart_27 zc_sipush_200 ?_
    obtain ⟨m6, em6, H⟩ := zbind H
    have Jm6 : zW yX7_readPart cX7_readPart 5 (some .boolean) 5 0 0 48 [(0, .ref v0), (1, .int x2), (2, .int m3)] [.int m6] h (some (.int r.1)) r.2 := by
      refine z_istore_n (pc := 48) (lv' := [(3, .int m6), (0, .ref v0), (1, .int x2), (2, .int m3)]) dX7_readPart_48 rfl (by decide) rfl ?_
      refine z_iload_n (pc := 49) 2 dX7_readPart_49 rfl rfl ?_
      refine z_bipush (pc := 50) (x := 10) dX7_readPart_50 zc_bipush_10 ?_
      refine z_bipush (pc := 52) (x := 20) dX7_readPart_52 zc_bipush_20 ?_
      refine z_callSN (pc := 54) (mc := 0) (ms := 0) (d' := 0) (mc' := 0) (ms' := 0) (rest := []) [.int x2, .int 10, .int 20] dX7_readPart_54 md_X11_within ns_X7_92 sm_X11_within rfl rfl (Nat.le_of_ble_eq_true rfl) (by omega) (k_X11_within x2 10 20 h _ rfl) ?_
      obtain ⟨m12, em12, H⟩ := zbind H
      have Jm12 : zW yX7_readPart cX7_readPart 5 (some .boolean) 5 0 0 79 [(0, .ref v0), (1, .int x2), (2, .int m3), (3, .int m6)] [.int m12] h (some (.int r.1)) r.2 := by
        refine z_istore (pc := 79) (lv' := [(4, .int m12), (0, .ref v0), (1, .int x2), (2, .int m3), (3, .int m6)]) dX7_readPart_79 (by decide) rfl ?_
        refine z_iload_n (pc := 81) 3 dX7_readPart_81 rfl rfl ?_
        obtain ⟨m16, em16, H⟩ := zbind H
        have Jm16 : ∀ s17, m16 = .inl s17 → zW yX7_readPart cX7_readPart 5 (some .boolean) 5 0 0 98 [(0, .ref v0), (1, .int x2), (2, .int m3), (3, .int m6)] [] s17 (some (.int r.1)) r.2 := by
          intro s17 e9
          subst e9
          have H := zsumL H
          refine z_iload_n (pc := 98) 1 dX7_readPart_98 rfl rfl ?_
          refine z_sipush (pc := 99) (x := 200) dX7_readPart_99 zc_sipush_200 ?_
          obtain ⟨m23, em23, H⟩ := zbind H
          have Jm23 : ∀ s24, m23 = .inl s24 → zW yX7_readPart cX7_readPart 5 (some .boolean) 5 0 0 118 [(0, .ref v0), (1, .int x2), (2, .int m3), (3, .int m6)] [] s24 (some (.int r.1)) r.2 := by
            intro s24 e9
            subst e9
            have H := zsumL H
            refine z_aload_n (pc := 118) 0 dX7_readPart_118 rfl rfl ?_
            obtain ⟨x30, ex30, H⟩ := zbind H
            refine z_getI (pc := 119) dX7_readPart_119 fd_X7_99 ex30 ?_
            refine z_iconst (pc := 122) (x := 4) dX7_readPart_122 zc_iconst_4 ?_
            refine z_icmp_lt (pc := 123) 134 dX7_readPart_123 (by decide) (fun c31 => ?_) (fun c31 => ?_)
            · rw [if_pos c31] at H
              refine z_iload_n (pc := 134) 2 dX7_readPart_134 rfl rfl ?_
              refine z_if_eq (pc := 135) 163 dX7_readPart_135 (by decide) (fun c32 => ?_) (fun c32 => ?_)
              · rw [if_pos c32] at H
                refine z_aload_n (pc := 163) 0 dX7_readPart_163 rfl rfl ?_
                refine z_iload_n (pc := 164) 1 dX7_readPart_164 rfl rfl ?_
                refine z_sipush (pc := 165) (x := 201) dX7_readPart_165 zc_sipush_201 ?_
                obtain ⟨m33, em33, H⟩ := zbind H
                have Jm33 : zW yX7_readPart cX7_readPart 5 (some .boolean) 5 0 0 201 [(0, .ref v0), (2, .int m3)] [.int m33, .ref v0] s24 (some (.int r.1)) r.2 := by
                  obtain ⟨z38, H⟩ := zifE H
                  obtain ⟨h39, eh39, H⟩ := zbind H
                  refine z_callV (pc := 201) (mc := 0) (ms := 0) (d' := 0) (mc' := 0) (ms' := 0) (rest := []) [.int m33] dX7_readPart_201 md_X7_write ml_X7_57 im_X7_write se_X7_write rfl z38 rfl rfl (Nat.le_of_ble_eq_true rfl) (by omega) (k_X7_write eh39) ?_
                  refine z_aload_n (pc := 204) 0 dX7_readPart_204 rfl rfl ?_
                  obtain ⟨z40, H⟩ := zifE H
                  obtain ⟨h41, eh41, H⟩ := zbind H
                  refine z_callV (pc := 205) (mc := 0) (ms := 0) (d' := 1) (mc' := 0) (ms' := 0) (rest := []) [] dX7_readPart_205 md_X7_writeNots ml_X7_122 im_X7_writeNots se_X7_writeNots rfl z40 rfl rfl (Nat.le_of_ble_eq_true rfl) (by omega) (k_X7_writeNots eh41) ?_
                  refine z_aload_n (pc := 208) 0 dX7_readPart_208 rfl rfl ?_
                  obtain ⟨r42, er42, H⟩ := zbind H
                  refine z_getR (pc := 209) dX7_readPart_209 fd_X7_24 er42 ?_
                  obtain ⟨z43, H⟩ := zifE H
                  obtain ⟨h44, eh44, H⟩ := zbind H
                  refine z_callV (pc := 212) (mc := 0) (ms := 0) (d' := 4) (mc' := 0) (ms' := 0) (rest := []) [] dX7_readPart_212 md_X9_advance ml_X7_60 im_X9_advance se_X9_advance rfl z43 rfl rfl (Nat.le_of_ble_eq_true rfl) (by omega) (k_X9_advance eh44) ?_
                  refine z_iload_n (pc := 215) 1 dX7_readPart_215 rfl rfl ?_
                  obtain ⟨z9, H⟩ := rZE H
                  cases H
                  exact z_zreturn rfl dX7_readPart_216 z9
                refine z_icmp_ne (pc := 168) 181 dX7_readPart_168 (by decide) (fun c34 => ?_) (fun c34 => ?_)
                · rw [if_neg c34] at em33
                  refine z_iload_n (pc := 181) 1 dX7_readPart_181 rfl rfl ?_
                  refine z_sipush (pc := 182) (x := 200) dX7_readPart_182 zc_sipush_200 ?_
                  refine z_icmp_ne (pc := 185) 196 dX7_readPart_185 (by decide) (fun c35 => ?_) (fun c35 => ?_)
                  · rw [if_neg c35] at em33
                    refine z_sipush (pc := 196) (x := 10000) dX7_readPart_196 zc_sipush_10000 ?_
                    refine z_iload_n (pc := 199) 1 dX7_readPart_199 rfl rfl ?_
                    refine z_iadd (pc := 200) dX7_readPart_200 ?_
                    cases em33
                    exact z_sub [0, 2] rfl Jm33
                  · rw [if_pos c35] at em33
                    refine z_sipush (pc := 188) (x := 20000) dX7_readPart_188 zc_sipush_20000 ?_
                    refine z_iload_n (pc := 191) 3 dX7_readPart_191 rfl rfl ?_
                    refine z_iadd (pc := 192) dX7_readPart_192 ?_
                    refine z_goto (pc := 193) 201 dX7_readPart_193 (by decide) ?_
                    cases em33
                    exact z_sub [0, 2] rfl Jm33
                · rw [if_pos c34] at em33
                  refine z_aload_n (pc := 171) 0 dX7_readPart_171 rfl rfl ?_
                  obtain ⟨r36, er36, em33⟩ := zbind em33
                  refine z_getR (pc := 172) dX7_readPart_172 fd_X7_24 er36 ?_
                  obtain ⟨x37, ex37, em33⟩ := zbind em33
                  refine z_getI (pc := 175) dX7_readPart_175 fd_X7_89 ex37 ?_
                  refine z_goto (pc := 178) 201 dX7_readPart_178 (by decide) ?_
                  cases em33
                  exact z_sub [0, 2] rfl Jm33
              · rw [if_neg c32] at H
                refine z_aload_n (pc := 138) 0 dX7_readPart_138 rfl rfl ?_
                refine z_iload_n (pc := 139) 1 dX7_readPart_139 rfl rfl ?_
                obtain ⟨z45, H⟩ := zifE H
                obtain ⟨h46, eh46, H⟩ := zbind H
                refine z_callV (pc := 140) (mc := 0) (ms := 0) (d' := 0) (mc' := 0) (ms' := 0) (rest := []) [.int x2] dX7_readPart_140 md_X7_hold ml_X7_119 im_X7_hold se_X7_hold rfl z45 rfl rfl (Nat.le_of_ble_eq_true rfl) (by omega) (k_X7_hold eh46) ?_
                refine z_aload_n (pc := 143) 0 dX7_readPart_143 rfl rfl ?_
                refine z_dup (pc := 144) dX7_readPart_144 rfl ?_
                obtain ⟨x47, ex47, H⟩ := zbind H
                refine z_getI (pc := 145) dX7_readPart_145 fd_X7_99 ex47 ?_
                refine z_iconst (pc := 148) (x := 1) dX7_readPart_148 zc_iconst_1 ?_
                refine z_iadd (pc := 149) dX7_readPart_149 ?_
                obtain ⟨h48, eh48, H⟩ := zbind H
                refine z_put (pc := 150) dX7_readPart_150 fd_X7_99 rfl rfl eh48 ?_
                refine z_aload_n (pc := 153) 0 dX7_readPart_153 rfl rfl ?_
                obtain ⟨r49, er49, H⟩ := zbind H
                refine z_getR (pc := 154) dX7_readPart_154 fd_X7_24 er49 ?_
                obtain ⟨z50, H⟩ := zifE H
                obtain ⟨h51, eh51, H⟩ := zbind H
                refine z_callV (pc := 157) (mc := 0) (ms := 0) (d' := 4) (mc' := 0) (ms' := 0) (rest := []) [] dX7_readPart_157 md_X9_advance ml_X7_60 im_X9_advance se_X9_advance rfl z50 rfl rfl (Nat.le_of_ble_eq_true rfl) (by omega) (k_X9_advance eh51) ?_
                refine z_goto (pc := 160) 215 dX7_readPart_160 (by decide) ?_
                refine z_iload_n (pc := 215) 2 dX7_readPart_215 rfl rfl ?_
                obtain ⟨z9, H⟩ := rZE H
                cases H
                exact z_zreturn rfl dX7_readPart_216 z9
            · rw [if_neg c31] at H
              refine z_aload_n (pc := 126) 0 dX7_readPart_126 rfl rfl ?_
              refine z_iconst (pc := 127) (x := 5) dX7_readPart_127 zc_iconst_5 ?_
              obtain ⟨z52, H⟩ := zifE H
              obtain ⟨h53, eh53, H⟩ := zbind H
              refine z_callV (pc := 128) (mc := 0) (ms := 0) (d' := 0) (mc' := 0) (ms' := 0) (rest := []) [.int 5] dX7_readPart_128 md_X7_wrong ml_X7_54 im_X7_wrong se_X7_wrong rfl z52 rfl rfl (Nat.le_of_ble_eq_true rfl) (by omega) (k_X7_wrong eh53) ?_
              refine z_goto (pc := 131) 215 dX7_readPart_131 (by decide) ?_
              refine z_iload_n (pc := 215) 2 dX7_readPart_215 rfl rfl ?_
              obtain ⟨z9, H⟩ := rZE H
              cases H
              exact z_zreturn rfl dX7_readPart_216 z9
          refine z_icmp_ne (pc := 102) 118 dX7_readPart_102 (by decide) (fun c25 => ?_) (fun c25 => ?_)
          · rw [if_neg c25] at em23
            cases em23
            exact z_sub [0, 1, 2, 3] rfl (Jm23 _ rfl)
          · rw [if_pos c25] at em23
            refine z_iload_n (pc := 105) 3 dX7_readPart_105 rfl rfl ?_
            refine z_iconst (pc := 106) (x := (-1)) dX7_readPart_106 zc_iconst_m1 ?_
            refine z_icmp_ne (pc := 107) 118 dX7_readPart_107 (by decide) (fun c26 => ?_) (fun c26 => ?_)
            · rw [if_neg c26] at em23
              cases em23
              exact z_sub [0, 1, 2, 3] rfl (Jm23 _ rfl)
            · rw [if_pos c26] at em23
              refine z_aload_n (pc := 110) 0 dX7_readPart_110 rfl rfl ?_
              refine z_iconst (pc := 111) (x := 2) dX7_readPart_111 zc_iconst_2 ?_
              obtain ⟨z27, em23⟩ := zifE em23
              obtain ⟨h28, eh28, em23⟩ := zbind em23
              refine z_callV (pc := 112) (mc := 0) (ms := 0) (d' := 0) (mc' := 0) (ms' := 0) (rest := []) [.int 2] dX7_readPart_112 md_X7_wrong ml_X7_54 im_X7_wrong se_X7_wrong rfl z27 rfl rfl (Nat.le_of_ble_eq_true rfl) (by omega) (k_X7_wrong eh28) ?_
              refine z_goto (pc := 115) 215 dX7_readPart_115 (by decide) ?_
              refine z_iload_n (pc := 215) 2 dX7_readPart_215 rfl rfl ?_
              obtain ⟨o29, H9, e9⟩ := zmapR em23
              subst e9
              have H9 := H9.trans (zsumR H)
              obtain ⟨z9, H9⟩ := rZE H9
              cases H9
              exact z_zreturn rfl dX7_readPart_216 z9
        refine z_if_ne (pc := 82) 98 dX7_readPart_82 (by decide) (fun c18 => ?_) (fun c18 => ?_)
        · rw [if_neg c18] at em16
          cases em16
          exact z_sub [1, 2, 3, 4] rfl (Jm16 _ rfl)
        · rw [if_pos c18] at em16
          refine z_iload (pc := 85) 0 dX7_readPart_85 rfl ?_
          refine z_if_ne (pc := 87) 98 dX7_readPart_87 (by decide) (fun c19 => ?_) (fun c19 => ?_)
          · rw [if_neg c19] at em16
            cases em16
            exact z_sub [1, 2, 3, 4] rfl (Jm16 _ rfl)
          · rw [if_pos c19] at em16
            refine z_aload_n (pc := 90) 1 dX7_readPart_90 rfl rfl ?_
            refine z_iconst (pc := 91) (x := 1) dX7_readPart_91 zc_iconst_1 ?_
            obtain ⟨z20, em16⟩ := zifE em16
            obtain ⟨h21, eh21, em16⟩ := zbind em16
            refine z_callV (pc := 92) (mc := 0) (ms := 0) (d' := 0) (mc' := 0) (ms' := 0) (rest := []) [.int 1] dX7_readPart_92 md_X7_wrong ml_X7_54 im_X7_wrong se_X7_wrong rfl z20 rfl rfl (Nat.le_of_ble_eq_true rfl) (by omega) (k_X7_wrong eh21) ?_
            refine z_goto (pc := 95) 215 dX7_readPart_95 (by decide) ?_
            refine z_iload_n (pc := 215) 3 dX7_readPart_215 rfl rfl ?_
            obtain ⟨o22, H9, e9⟩ := zmapR em16
            subst e9
            have H9 := H9.trans (zsumR H)
            obtain ⟨z9, H9⟩ := rZE H9
            cases H9
            exact z_zreturn rfl dX7_readPart_216 z9
      refine z_if_ne (pc := 57) 74 dX7_readPart_57 (by decide) (fun c13 => ?_) (fun c13 => ?_)
      · rw [if_neg c13] at em12
        refine z_iconst (pc := 74) (x := 1) dX7_readPart_74 zc_iconst_1 ?_
        refine z_goto (pc := 75) 79 dX7_readPart_75 (by decide) ?_
        cases em12
        exact z_sub [1, 2, 3, 0] rfl Jm12
      · rw [if_pos c13] at em12
        refine z_iload_n (pc := 60) 2 dX7_readPart_60 rfl rfl ?_
        refine z_sipush (pc := 61) (x := 200) dX7_readPart_61 zc_sipush_200 ?_
        refine z_icmp_eq (pc := 64) 74 dX7_readPart_64 (by decide) (fun c14 => ?_) (fun c14 => ?_)
        · rw [if_pos c14] at em12
          refine z_iconst (pc := 74) (x := 1) dX7_readPart_74 zc_iconst_1 ?_
          refine z_goto (pc := 75) 79 dX7_readPart_75 (by decide) ?_
          cases em12
          exact z_sub [1, 2, 3, 0] rfl Jm12
        · rw [if_neg c14] at em12
          refine z_iload_n (pc := 67) 2 dX7_readPart_67 rfl rfl ?_
          refine z_sipush (pc := 68) (x := 201) dX7_readPart_68 zc_sipush_201 ?_
          refine z_icmp_ne (pc := 71) 78 dX7_readPart_71 (by decide) (fun c15 => ?_) (fun c15 => ?_)
          · rw [if_neg c15] at em12
            refine z_iconst (pc := 78) (x := 0) dX7_readPart_78 zc_iconst_0 ?_
            cases em12
            exact z_sub [1, 2, 3, 0] rfl Jm12
          · rw [if_pos c15] at em12
            refine z_iconst (pc := 74) (x := 1) dX7_readPart_74 zc_iconst_1 ?_
            refine z_goto (pc := 75) 79 dX7_readPart_75 (by decide) ?_
            cases em12
            exact z_sub [1, 2, 3, 0] rfl Jm12
    refine z_icmp_ne (pc := 30) 47 dX7_readPart_30 (by decide) (fun c7 => ?_) (fun c7 => ?_)
    · rw [if_neg c7] at em6
      refine z_iconst (pc := 47) (x := (-1)) dX7_readPart_47 zc_iconst_m1 ?_
      cases em6
      exact z_sub [1, 2, 0] rfl Jm6
    · rw [if_pos c7] at em6
      refine z_aload_n (pc := 33) 1 dX7_readPart_33 rfl rfl ?_
      refine z_aload_n (pc := 34) 1 dX7_readPart_34 rfl rfl ?_
      obtain ⟨r8, er8, em6⟩ := zbind em6
      refine z_getR (pc := 35) dX7_readPart_35 fd_X7_24 er8 ?_
      obtain ⟨x9, ex9, em6⟩ := zbind em6
      refine z_getL (pc := 38) dX7_readPart_38 fd_X7_81 ex9 ?_
      obtain ⟨z10, em6⟩ := zifE em6
      obtain ⟨q11, eq11, em6⟩ := zbind em6
      refine z_callV (pc := 41) (mc := 0) (ms := 0) (d' := 0) (mc' := 0) (ms' := 0) (rest := []) [.long x9] dX7_readPart_41 md_X7_nameOf ml_X7_85 im_X7_nameOf se_X7_nameOf rfl z10 rfl rfl (Nat.le_of_ble_eq_true rfl) (by omega) (k_X7_nameOf eq11) ?_
      refine z_goto (pc := 44) 48 dX7_readPart_44 (by decide) ?_
      cases em6
      exact z_sub [1, 2, 0] rfl Jm6
  refine z_icmp_eq (pc := 11) 20 dX7_readPart_11 (by decide) (fun c4 => ?_) (fun c4 => ?_)
  · rw [if_pos c4] at em3
    refine z_iconst (pc := 20) (x := 1) dX7_readPart_20 zc_iconst_1 ?_
    refine z_goto (pc := 21) 25 dX7_readPart_21 (by decide) ?_
    cases em3
    exact z_sub [1, 0] rfl Jm3
  · rw [if_neg c4] at em3
    refine z_iload_n (pc := 14) 0 dX7_readPart_14 rfl rfl ?_
    refine z_bipush (pc := 15) (x := 40) dX7_readPart_15 zc_bipush_40 ?_
    refine z_icmp_ne (pc := 17) 24 dX7_readPart_17 (by decide) (fun c5 => ?_) (fun c5 => ?_)
    · rw [if_neg c5] at em3
      refine z_iconst (pc := 24) (x := 0) dX7_readPart_24 zc_iconst_0 ?_
      cases em3
      exact z_sub [1, 0] rfl Jm3
    · rw [if_pos c5] at em3
      refine z_iconst (pc := 20) (x := 1) dX7_readPart_20 zc_iconst_1 ?_
      refine z_goto (pc := 21) 25 dX7_readPart_21 (by decide) ?_
      cases em3
      exact z_sub [1, 0] rfl Jm3

def p_X7_rank (v0 : Int32) : Int32 := if v0 = 7 then (1) else (if v0 = 8 then (1) else (if v0 = 42 then (4) else (if v0 = 43 then (3) else (if v0 = 45 then (3) else (if v0 = 60 then (2) else (if v0 = 61 then (2) else (0)))))))
set_option maxRecDepth 100000 in
set_option maxHeartbeats 4000000 in
theorem k_X7_rank (v0 : Int32) (h : zH) (r : Int32) (H : p_X7_rank v0 = r) : zOk 0 0 0 yX7_rank cX7_rank 1 (some .int) [.int v0] h (some (.int r)) h := by
  refine zOk.of (by decide) (Nat.le_of_ble_eq_true rfl) ?_
  unfold p_X7_rank at H
  refine z_iload_n (pc := 0) 0 dX7_rank_0 rfl rfl ?_
  by_cases c1 : v0 = 7
  · rw [if_pos c1] at H
    refine z_lsw (pc := 1) (off := 67) 68 dX7_rank_1 (by decide) (by rw [c1]; decide) (by decide) ?_
    refine z_iconst (pc := 68) (x := 1) dX7_rank_68 zc_iconst_1 ?_
    subst H
    exact z_ireturn rfl dX7_rank_69
  rw [if_neg c1] at H
  by_cases c2 : v0 = 8
  · rw [if_pos c2] at H
    refine z_lsw (pc := 1) (off := 67) 68 dX7_rank_1 (by decide) (by rw [c2]; decide) (by decide) ?_
    refine z_iconst (pc := 68) (x := 1) dX7_rank_68 zc_iconst_1 ?_
    subst H
    exact z_ireturn rfl dX7_rank_69
  rw [if_neg c2] at H
  by_cases c3 : v0 = 42
  · rw [if_pos c3] at H
    refine z_lsw (pc := 1) (off := 73) 74 dX7_rank_1 (by decide) (by rw [c3]; decide) (by decide) ?_
    refine z_iconst (pc := 74) (x := 4) dX7_rank_74 zc_iconst_4 ?_
    subst H
    exact z_ireturn rfl dX7_rank_75
  rw [if_neg c3] at H
  by_cases c4 : v0 = 43
  · rw [if_pos c4] at H
    refine z_lsw (pc := 1) (off := 71) 72 dX7_rank_1 (by decide) (by rw [c4]; decide) (by decide) ?_
    refine z_iconst (pc := 72) (x := 3) dX7_rank_72 zc_iconst_3 ?_
    subst H
    exact z_ireturn rfl dX7_rank_73
  rw [if_neg c4] at H
  by_cases c5 : v0 = 45
  · rw [if_pos c5] at H
    refine z_lsw (pc := 1) (off := 71) 72 dX7_rank_1 (by decide) (by rw [c5]; decide) (by decide) ?_
    refine z_iconst (pc := 72) (x := 3) dX7_rank_72 zc_iconst_3 ?_
    subst H
    exact z_ireturn rfl dX7_rank_73
  rw [if_neg c5] at H
  by_cases c6 : v0 = 60
  · rw [if_pos c6] at H
    refine z_lsw (pc := 1) (off := 69) 70 dX7_rank_1 (by decide) (by rw [c6]; decide) (by decide) ?_
    refine z_iconst (pc := 70) (x := 2) dX7_rank_70 zc_iconst_2 ?_
    subst H
    exact z_ireturn rfl dX7_rank_71
  rw [if_neg c6] at H
  by_cases c7 : v0 = 61
  · rw [if_pos c7] at H
    refine z_lsw (pc := 1) (off := 69) 70 dX7_rank_1 (by decide) (by rw [c7]; decide) (by decide) ?_
    refine z_iconst (pc := 70) (x := 2) dX7_rank_70 zc_iconst_2 ?_
    subst H
    exact z_ireturn rfl dX7_rank_71
  rw [if_neg c7] at H
  refine z_lsw (pc := 1) (off := 75) 76 dX7_rank_1 (by decide) (by show Op.lookupswitch.offset [(7, 67), (8, 67), (42, 73), (43, 71), (45, 71), (60, 69), (61, 69)] 75 v0.toInt = 75; rw [lv_osw c1 (by decide), lv_osw c2 (by decide), lv_osw c3 (by decide), lv_osw c4 (by decide), lv_osw c5 (by decide), lv_osw c6 (by decide), lv_osw c7 (by decide)]; rfl) (by decide) ?_
  refine z_iconst (pc := 76) (x := 0) dX7_rank_76 zc_iconst_0 ?_
  subst H
  exact z_ireturn rfl dX7_rank_77

theorem md_X7_rank : zMd yX7_rank cX7_rank 1 1 (some .int) := ⟨zmw (zmt_4 _ (List.mem_of_getElem? (i := 44) rfl)) rfl, zmem 119 (by decide +kernel) rfl, by decide, by decide, by decide +kernel, by decide⟩
theorem ml_X7_109 : Cond.methodLink RX7 109 yX7_rank ∈ zB := zmem 873 (by decide +kernel) rfl
theorem sm_X7_rank : Cond.static yX7_rank ∈ zB := zmem 874 (by decide +kernel) rfl
def f_X7_writeWaiting_L2 (N : Nat) (v0 : Nat) (v1 : Int32) : Nat → Int32 → zH → Option (zH)
  | 0, _, _ => none
  | n + 1, v2, h => (gR h v0 7 2).bind fun r1 => (aN h r1).bind fun x2 => if x2 ≤ v2 then (some h) else (zif (zob h v0 7) <| (f_X7_lastWaiting N v0 h).bind fun q5 => if (p_X7_rank q5) < v1 then (some h) else (zif (zob h v0 7) <| (f_X7_lastWaiting N v0 h).bind fun q8 => zif (zob h v0 7) <| (f_X7_write N v0 (30000 + q8) h).bind fun h10 => (gI h10 v0 7 6).bind fun x11 => (pF h10 v0 7 6 (.int (x11 - 1))).bind fun h12 => f_X7_writeWaiting_L2 N v0 v1 n (v2 + 1) h12))
set_option maxRecDepth 100000 in
set_option maxHeartbeats 4000000 in
theorem s_X7_writeWaiting_L2 {d mc ms N : Nat} {vv : Option Value} {hh : zH} {v0 : Nat} {v1 : Int32} (hd0 : 1 ≤ d) : ∀ (n : Nat) (v2 : Int32) (h : zH) (m : zH), f_X7_writeWaiting_L2 N v0 v1 n v2 h = some m → (zW yX7_writeWaiting cX7_writeWaiting 3 none d mc ms 50 [] [] m vv hh) → zW yX7_writeWaiting cX7_writeWaiting 3 none d mc ms 2 [(0, .ref v0), (1, .int v1), (2, .int v2)] [] h vv hh := by
  intro n
  induction n with
  | zero =>
    intro v2 h m H
    cases H
  | succ n ih =>
    intro v2 h m H KE
    unfold f_X7_writeWaiting_L2 at H
    refine z_iload_n (pc := 2) 2 dX7_writeWaiting_2 rfl rfl ?_
    refine z_aload_n (pc := 3) 0 dX7_writeWaiting_3 rfl rfl ?_
    obtain ⟨r1, er1, H⟩ := zbind H
    refine z_getR (pc := 4) dX7_writeWaiting_4 fd_X7_21 er1 ?_
    obtain ⟨x2, ex2, H⟩ := zbind H
    refine z_alen (pc := 7) dX7_writeWaiting_7 ex2 ?_
    refine z_icmp_ge (pc := 8) 50 dX7_writeWaiting_8 (by decide) (fun c3 => ?_) (fun c3 => ?_)
    · rw [if_pos c3] at H
      cases H
      exact z_sub [] rfl (KE)
    · rw [if_neg c3] at H
      refine z_aload_n (pc := 11) 0 dX7_writeWaiting_11 rfl rfl ?_
      obtain ⟨z4, H⟩ := zifE H
      obtain ⟨q5, eq5, H⟩ := zbind H
      refine z_callV (pc := 12) (mc := mc) (ms := ms) (d' := 0) (mc' := 0) (ms' := 0) (rest := []) [] dX7_writeWaiting_12 md_X7_lastWaiting ml_X7_125 im_X7_lastWaiting se_X7_lastWaiting rfl z4 rfl rfl (Nat.le_of_ble_eq_true rfl) (by omega) (k_X7_lastWaiting eq5) ?_
      refine z_callS (pc := 15) (mc := mc) (ms := ms) (d' := 0) (mc' := 0) (ms' := 0) (rest := []) [.int q5] dX7_writeWaiting_15 md_X7_rank ml_X7_109 sm_X7_rank rfl rfl (Nat.le_of_ble_eq_true rfl) (by omega) (k_X7_rank q5 h _ rfl) ?_
      refine z_iload_n (pc := 18) 1 dX7_writeWaiting_18 rfl rfl ?_
      refine z_icmp_lt (pc := 19) 50 dX7_writeWaiting_19 (by decide) (fun c6 => ?_) (fun c6 => ?_)
      · rw [if_pos c6] at H
        cases H
        exact z_sub [] rfl (KE)
      · rw [if_neg c6] at H
        refine z_aload_n (pc := 22) 0 dX7_writeWaiting_22 rfl rfl ?_
        refine z_sipush (pc := 23) (x := 30000) dX7_writeWaiting_23 zc_sipush_30000 ?_
        refine z_aload_n (pc := 26) 0 dX7_writeWaiting_26 rfl rfl ?_
        obtain ⟨z7, H⟩ := zifE H
        obtain ⟨q8, eq8, H⟩ := zbind H
        refine z_callV (pc := 27) (mc := mc) (ms := ms) (d' := 0) (mc' := 0) (ms' := 0) (rest := [.int 30000, .ref v0]) [] dX7_writeWaiting_27 md_X7_lastWaiting ml_X7_125 im_X7_lastWaiting se_X7_lastWaiting rfl z7 rfl rfl (Nat.le_of_ble_eq_true rfl) (by omega) (k_X7_lastWaiting eq8) ?_
        refine z_iadd (pc := 30) dX7_writeWaiting_30 ?_
        obtain ⟨z9, H⟩ := zifE H
        obtain ⟨h10, eh10, H⟩ := zbind H
        refine z_callV (pc := 31) (mc := mc) (ms := ms) (d' := 0) (mc' := 0) (ms' := 0) (rest := []) [.int (30000 + q8)] dX7_writeWaiting_31 md_X7_write ml_X7_57 im_X7_write se_X7_write rfl z9 rfl rfl (Nat.le_of_ble_eq_true rfl) (by omega) (k_X7_write eh10) ?_
        refine z_aload_n (pc := 34) 0 dX7_writeWaiting_34 rfl rfl ?_
        refine z_dup (pc := 35) dX7_writeWaiting_35 rfl ?_
        obtain ⟨x11, ex11, H⟩ := zbind H
        refine z_getI (pc := 36) dX7_writeWaiting_36 fd_X7_96 ex11 ?_
        refine z_iconst (pc := 39) (x := 1) dX7_writeWaiting_39 zc_iconst_1 ?_
        refine z_isub (pc := 40) dX7_writeWaiting_40 ?_
        obtain ⟨h12, eh12, H⟩ := zbind H
        refine z_put (pc := 41) dX7_writeWaiting_41 fd_X7_96 rfl rfl eh12 ?_
        refine z_iinc (pc := 44) (x' := v2 + 1) (lv' := [(2, .int (v2 + 1)), (0, .ref v0), (1, .int v1)]) 2 dX7_writeWaiting_44 rfl (by rfl) (by decide) rfl ?_
        refine z_goto (pc := 47) 2 dX7_writeWaiting_47 (by decide) ?_
        exact z_sub [1, 2, 0] rfl (ih (v2 + 1) h12 _ H KE)
def f_X7_writeWaiting (N : Nat) (v0 : Nat) (v1 : Int32) (h : zH) : Option (zH) := (f_X7_writeWaiting_L2 N v0 v1 N 0 h).bind fun m13 => some m13
set_option maxRecDepth 100000 in
set_option maxHeartbeats 4000000 in
theorem k_X7_writeWaiting {N : Nat} {v0 : Nat} {v1 : Int32} {h : zH} {r : zH} (H : f_X7_writeWaiting N v0 v1 h = some r) : zOk 1 0 0 yX7_writeWaiting cX7_writeWaiting 3 none [.ref v0, .int v1] h none r := by
  refine zOk.of (by decide) (Nat.le_of_ble_eq_true rfl) ?_
  unfold f_X7_writeWaiting at H
  refine z_iconst (pc := 0) (x := 0) dX7_writeWaiting_0 zc_iconst_0 ?_
  refine z_istore_n (pc := 1) (lv' := [(2, .int 0), (0, .ref v0), (1, .int v1)]) dX7_writeWaiting_1 rfl (by decide) rfl ?_
  obtain ⟨m13, em13, H⟩ := zbind H
  refine z_sub [1, 2, 0] rfl (s_X7_writeWaiting_L2 (by omega) N 0 h _ em13 ?_)
  cases H
  exact z_return rfl dX7_writeWaiting_50

theorem md_X7_writeWaiting : zMd yX7_writeWaiting cX7_writeWaiting 3 1 none := ⟨zmw (zmt_4 _ (List.mem_of_getElem? (i := 41) rfl)) rfl, zmem 119 (by decide +kernel) rfl, by decide, by decide, by decide +kernel, by decide⟩
theorem ml_X7_116 : Cond.methodLink RX7 116 yX7_writeWaiting ∈ zB := zmem 869 (by decide +kernel) rfl
theorem im_X7_writeWaiting : Cond.instanceMethod yX7_writeWaiting ∈ zB := zmem 871 (by decide +kernel) rfl
theorem se_X7_writeWaiting : Cond.selects yX7_writeWaiting.cls yX7_writeWaiting yX7_writeWaiting ∈ zB := zmem 26 (by decide +kernel) rfl
def f_X7_closeBracket (N : Nat) (v0 : Nat) (h : zH) : Option (zH) := zif (zob h v0 7) <| (f_X7_writeWaiting N v0 1 h).bind fun h2 => zif (zob h2 v0 7) <| (f_X7_lastWaiting N v0 h2).bind fun q4 => (if q4 = 40 then ((gI h2 v0 7 6).bind fun x7 => (pF h2 v0 7 6 (.int (x7 - 1))).bind fun h8 => (gI h8 v0 7 7).bind fun x9 => (pF h8 v0 7 7 (.int (x9 - 1))).bind fun h10 => some h10) else (some h2) : Option (zH)).bind fun m5 => zif (zob m5 v0 7) <| (f_X7_writeNots N v0 m5).bind fun h12 => (gR h12 v0 7 3).bind fun r13 => zif (zob h12 r13 9) <| (f_X9_advance N r13 h12).bind fun h15 => some h15
set_option maxRecDepth 100000 in
set_option maxHeartbeats 4000000 in
theorem k_X7_closeBracket {N : Nat} {v0 : Nat} {h : zH} {r : zH} (H : f_X7_closeBracket N v0 h = some r) : zOk 5 0 0 yX7_closeBracket cX7_closeBracket 1 none [.ref v0] h none r := by
  refine zOk.of (by decide) (Nat.le_of_ble_eq_true rfl) ?_
  unfold f_X7_closeBracket at H
  refine z_aload_n (pc := 0) 0 dX7_closeBracket_0 rfl rfl ?_
  refine z_iconst (pc := 1) (x := 1) dX7_closeBracket_1 zc_iconst_1 ?_
  obtain ⟨z1, H⟩ := zifE H
  obtain ⟨h2, eh2, H⟩ := zbind H
  refine z_callV (pc := 2) (mc := 0) (ms := 0) (d' := 1) (mc' := 0) (ms' := 0) (rest := []) [.int 1] dX7_closeBracket_2 md_X7_writeWaiting ml_X7_116 im_X7_writeWaiting se_X7_writeWaiting rfl z1 rfl rfl (Nat.le_of_ble_eq_true rfl) (by omega) (k_X7_writeWaiting eh2) ?_
  refine z_aload_n (pc := 5) 0 dX7_closeBracket_5 rfl rfl ?_
  obtain ⟨z3, H⟩ := zifE H
  obtain ⟨q4, eq4, H⟩ := zbind H
  refine z_callV (pc := 6) (mc := 0) (ms := 0) (d' := 0) (mc' := 0) (ms' := 0) (rest := []) [] dX7_closeBracket_6 md_X7_lastWaiting ml_X7_125 im_X7_lastWaiting se_X7_lastWaiting rfl z3 rfl rfl (Nat.le_of_ble_eq_true rfl) (by omega) (k_X7_lastWaiting eq4) ?_
  refine z_bipush (pc := 9) (x := 40) dX7_closeBracket_9 zc_bipush_40 ?_
  obtain ⟨m5, em5, H⟩ := zbind H
  have Jm5 : zW yX7_closeBracket cX7_closeBracket 1 none 5 0 0 34 [(0, .ref v0)] [] m5 none r := by
    refine z_aload_n (pc := 34) 0 dX7_closeBracket_34 rfl rfl ?_
    obtain ⟨z11, H⟩ := zifE H
    obtain ⟨h12, eh12, H⟩ := zbind H
    refine z_callV (pc := 35) (mc := 0) (ms := 0) (d' := 1) (mc' := 0) (ms' := 0) (rest := []) [] dX7_closeBracket_35 md_X7_writeNots ml_X7_122 im_X7_writeNots se_X7_writeNots rfl z11 rfl rfl (Nat.le_of_ble_eq_true rfl) (by omega) (k_X7_writeNots eh12) ?_
    refine z_aload_n (pc := 38) 0 dX7_closeBracket_38 rfl rfl ?_
    obtain ⟨r13, er13, H⟩ := zbind H
    refine z_getR (pc := 39) dX7_closeBracket_39 fd_X7_24 er13 ?_
    obtain ⟨z14, H⟩ := zifE H
    obtain ⟨h15, eh15, H⟩ := zbind H
    refine z_callV (pc := 42) (mc := 0) (ms := 0) (d' := 4) (mc' := 0) (ms' := 0) (rest := []) [] dX7_closeBracket_42 md_X9_advance ml_X7_60 im_X9_advance se_X9_advance rfl z14 rfl rfl (Nat.le_of_ble_eq_true rfl) (by omega) (k_X9_advance eh15) ?_
    cases H
    exact z_return rfl dX7_closeBracket_45
  refine z_icmp_ne (pc := 11) 34 dX7_closeBracket_11 (by decide) (fun c6 => ?_) (fun c6 => ?_)
  · rw [if_neg c6] at em5
    cases em5
    exact z_sub [0] rfl Jm5
  · rw [if_pos c6] at em5
    refine z_aload_n (pc := 14) 0 dX7_closeBracket_14 rfl rfl ?_
    refine z_dup (pc := 15) dX7_closeBracket_15 rfl ?_
    obtain ⟨x7, ex7, em5⟩ := zbind em5
    refine z_getI (pc := 16) dX7_closeBracket_16 fd_X7_96 ex7 ?_
    refine z_iconst (pc := 19) (x := 1) dX7_closeBracket_19 zc_iconst_1 ?_
    refine z_isub (pc := 20) dX7_closeBracket_20 ?_
    obtain ⟨h8, eh8, em5⟩ := zbind em5
    refine z_put (pc := 21) dX7_closeBracket_21 fd_X7_96 rfl rfl eh8 ?_
    refine z_aload_n (pc := 24) 0 dX7_closeBracket_24 rfl rfl ?_
    refine z_dup (pc := 25) dX7_closeBracket_25 rfl ?_
    obtain ⟨x9, ex9, em5⟩ := zbind em5
    refine z_getI (pc := 26) dX7_closeBracket_26 fd_X7_99 ex9 ?_
    refine z_iconst (pc := 29) (x := 1) dX7_closeBracket_29 zc_iconst_1 ?_
    refine z_isub (pc := 30) dX7_closeBracket_30 ?_
    obtain ⟨h10, eh10, em5⟩ := zbind em5
    refine z_put (pc := 31) dX7_closeBracket_31 fd_X7_99 rfl rfl eh10 ?_
    cases em5
    exact z_sub [0] rfl Jm5

def f_X7_readOperator (N : Nat) (v0 : Nat) (h : zH) : Option (zH) := (gR h v0 7 3).bind fun r1 => (gI h r1 9 4).bind fun x2 => zlet (p_X7_rank x2 : Int32) fun x3 => zif (zob h v0 7) <| (f_X7_writeWaiting N v0 (x3 + 1) h).bind fun h5 => (if x3 = 2 then (zif (zob h5 v0 7) <| (f_X7_lastWaiting N v0 h5).bind fun q10 => if (p_X7_rank q10) = 2 then (zif (zob h5 v0 7) <| (f_X7_wrong N v0 1 h5).bind fun h13 => (some h13).map .inr) else (some (.inl h5))) else (some (.inl h5)) : Option ((zH) ⊕ (zH))).bind fun m6 => zsum m6 fun s7 => zif (zob s7 v0 7) <| (f_X7_writeWaiting N v0 x3 s7).bind fun h16 => zif (zob h16 v0 7) <| (f_X7_hold N v0 x2 h16).bind fun h18 => (gR h18 v0 7 3).bind fun r19 => zif (zob h18 r19 9) <| (f_X9_advance N r19 h18).bind fun h21 => some h21
set_option maxRecDepth 100000 in
set_option maxHeartbeats 4000000 in
theorem k_X7_readOperator {N : Nat} {v0 : Nat} {h : zH} {r : zH} (H : f_X7_readOperator N v0 h = some r) : zOk 5 0 0 yX7_readOperator cX7_readOperator 3 none [.ref v0] h none r := by
  refine zOk.of (by decide) (Nat.le_of_ble_eq_true rfl) ?_
  unfold f_X7_readOperator at H
  refine z_aload_n (pc := 0) 0 dX7_readOperator_0 rfl rfl ?_
  obtain ⟨r1, er1, H⟩ := zbind H
  refine z_getR (pc := 1) dX7_readOperator_1 fd_X7_24 er1 ?_
  obtain ⟨x2, ex2, H⟩ := zbind H
  refine z_getI (pc := 4) dX7_readOperator_4 fd_X7_41 ex2 ?_
  refine z_istore_n (pc := 7) (lv' := [(1, .int x2), (0, .ref v0)]) dX7_readOperator_7 rfl (by decide) rfl ?_
  refine z_iload_n (pc := 8) 0 dX7_readOperator_8 rfl rfl ?_
  refine z_callS (pc := 9) (mc := 0) (ms := 0) (d' := 0) (mc' := 0) (ms' := 0) (rest := []) [.int x2] dX7_readOperator_9 md_X7_rank ml_X7_109 sm_X7_rank rfl rfl (Nat.le_of_ble_eq_true rfl) (by omega) (k_X7_rank x2 h _ rfl) ?_
  obtain ⟨x3, ex3, H⟩ := zletE H
  refine z_nmI ex3 ?_
  refine z_istore_n (pc := 12) (lv' := [(2, .int x3), (1, .int x2), (0, .ref v0)]) dX7_readOperator_12 rfl (by decide) rfl ?_
  refine z_aload_n (pc := 13) 2 dX7_readOperator_13 rfl rfl ?_
  refine z_iload_n (pc := 14) 0 dX7_readOperator_14 rfl rfl ?_
  refine z_iconst (pc := 15) (x := 1) dX7_readOperator_15 zc_iconst_1 ?_
  refine z_iadd (pc := 16) dX7_readOperator_16 ?_
  obtain ⟨z4, H⟩ := zifE H
  obtain ⟨h5, eh5, H⟩ := zbind H
  refine z_callV (pc := 17) (mc := 0) (ms := 0) (d' := 1) (mc' := 0) (ms' := 0) (rest := []) [.int (x3 + 1)] dX7_readOperator_17 md_X7_writeWaiting ml_X7_116 im_X7_writeWaiting se_X7_writeWaiting rfl z4 rfl rfl (Nat.le_of_ble_eq_true rfl) (by omega) (k_X7_writeWaiting eh5) ?_
  refine z_iload_n (pc := 20) 0 dX7_readOperator_20 rfl rfl ?_
  refine z_iconst (pc := 21) (x := 2) dX7_readOperator_21 zc_iconst_2 ?_
  obtain ⟨m6, em6, H⟩ := zbind H
  have Jm6 : ∀ s7, m6 = .inl s7 → zW yX7_readOperator cX7_readOperator 3 none 5 0 0 42 [(0, .ref v0), (1, .int x2), (2, .int x3)] [] s7 none r := by
    intro s7 e9
    subst e9
    have H := zsumL H
    refine z_aload_n (pc := 42) 0 dX7_readOperator_42 rfl rfl ?_
    refine z_iload_n (pc := 43) 2 dX7_readOperator_43 rfl rfl ?_
    obtain ⟨z15, H⟩ := zifE H
    obtain ⟨h16, eh16, H⟩ := zbind H
    refine z_callV (pc := 44) (mc := 0) (ms := 0) (d' := 1) (mc' := 0) (ms' := 0) (rest := []) [.int x3] dX7_readOperator_44 md_X7_writeWaiting ml_X7_116 im_X7_writeWaiting se_X7_writeWaiting rfl z15 rfl rfl (Nat.le_of_ble_eq_true rfl) (by omega) (k_X7_writeWaiting eh16) ?_
    refine z_aload_n (pc := 47) 0 dX7_readOperator_47 rfl rfl ?_
    refine z_iload_n (pc := 48) 1 dX7_readOperator_48 rfl rfl ?_
    obtain ⟨z17, H⟩ := zifE H
    obtain ⟨h18, eh18, H⟩ := zbind H
    refine z_callV (pc := 49) (mc := 0) (ms := 0) (d' := 0) (mc' := 0) (ms' := 0) (rest := []) [.int x2] dX7_readOperator_49 md_X7_hold ml_X7_119 im_X7_hold se_X7_hold rfl z17 rfl rfl (Nat.le_of_ble_eq_true rfl) (by omega) (k_X7_hold eh18) ?_
    refine z_aload_n (pc := 52) 0 dX7_readOperator_52 rfl rfl ?_
    obtain ⟨r19, er19, H⟩ := zbind H
    refine z_getR (pc := 53) dX7_readOperator_53 fd_X7_24 er19 ?_
    obtain ⟨z20, H⟩ := zifE H
    obtain ⟨h21, eh21, H⟩ := zbind H
    refine z_callV (pc := 56) (mc := 0) (ms := 0) (d' := 4) (mc' := 0) (ms' := 0) (rest := []) [] dX7_readOperator_56 md_X9_advance ml_X7_60 im_X9_advance se_X9_advance rfl z20 rfl rfl (Nat.le_of_ble_eq_true rfl) (by omega) (k_X9_advance eh21) ?_
    cases H
    exact z_return rfl dX7_readOperator_59
  refine z_icmp_ne (pc := 22) 42 dX7_readOperator_22 (by decide) (fun c8 => ?_) (fun c8 => ?_)
  · rw [if_neg c8] at em6
    cases em6
    exact z_sub [2, 1, 0] rfl (Jm6 _ rfl)
  · rw [if_pos c8] at em6
    refine z_aload_n (pc := 25) 2 dX7_readOperator_25 rfl rfl ?_
    obtain ⟨z9, em6⟩ := zifE em6
    obtain ⟨q10, eq10, em6⟩ := zbind em6
    refine z_callV (pc := 26) (mc := 0) (ms := 0) (d' := 0) (mc' := 0) (ms' := 0) (rest := []) [] dX7_readOperator_26 md_X7_lastWaiting ml_X7_125 im_X7_lastWaiting se_X7_lastWaiting rfl z9 rfl rfl (Nat.le_of_ble_eq_true rfl) (by omega) (k_X7_lastWaiting eq10) ?_
    refine z_callS (pc := 29) (mc := 0) (ms := 0) (d' := 0) (mc' := 0) (ms' := 0) (rest := []) [.int q10] dX7_readOperator_29 md_X7_rank ml_X7_109 sm_X7_rank rfl rfl (Nat.le_of_ble_eq_true rfl) (by omega) (k_X7_rank q10 h5 _ rfl) ?_
    refine z_iconst (pc := 32) (x := 2) dX7_readOperator_32 zc_iconst_2 ?_
    refine z_icmp_ne (pc := 33) 42 dX7_readOperator_33 (by decide) (fun c11 => ?_) (fun c11 => ?_)
    · rw [if_neg c11] at em6
      cases em6
      exact z_sub [2, 1, 0] rfl (Jm6 _ rfl)
    · rw [if_pos c11] at em6
      refine z_aload_n (pc := 36) 2 dX7_readOperator_36 rfl rfl ?_
      refine z_iconst (pc := 37) (x := 1) dX7_readOperator_37 zc_iconst_1 ?_
      obtain ⟨z12, em6⟩ := zifE em6
      obtain ⟨h13, eh13, em6⟩ := zbind em6
      refine z_callV (pc := 38) (mc := 0) (ms := 0) (d' := 0) (mc' := 0) (ms' := 0) (rest := []) [.int 1] dX7_readOperator_38 md_X7_wrong ml_X7_54 im_X7_wrong se_X7_wrong rfl z12 rfl rfl (Nat.le_of_ble_eq_true rfl) (by omega) (k_X7_wrong eh13) ?_
      obtain ⟨o14, H9, e9⟩ := zmapR em6
      subst e9
      have H9 := H9.trans (zsumR H)
      cases H9
      exact z_return rfl dX7_readOperator_41

theorem zc_bipush_41 : (Int8.ofInt (41)).toInt32 = (41 : Int32) := by decide
theorem md_X7_closeBracket : zMd yX7_closeBracket cX7_closeBracket 1 0 none := ⟨zmw (zmt_4 _ (List.mem_of_getElem? (i := 37) rfl)) rfl, zmem 119 (by decide +kernel) rfl, by decide, by decide, by decide +kernel, by decide⟩
theorem ml_X7_106 : Cond.methodLink RX7 106 yX7_closeBracket ∈ zB := zmem 865 (by decide +kernel) rfl
theorem im_X7_closeBracket : Cond.instanceMethod yX7_closeBracket ∈ zB := zmem 867 (by decide +kernel) rfl
theorem se_X7_closeBracket : Cond.selects yX7_closeBracket.cls yX7_closeBracket yX7_closeBracket ∈ zB := zmem 25 (by decide +kernel) rfl
theorem md_X7_readOperator : zMd yX7_readOperator cX7_readOperator 3 0 none := ⟨zmw (zmt_4 _ (List.mem_of_getElem? (i := 48) rfl)) rfl, zmem 119 (by decide +kernel) rfl, by decide, by decide, by decide +kernel, by decide⟩
theorem ml_X7_113 : Cond.methodLink RX7 113 yX7_readOperator ∈ zB := zmem 876 (by decide +kernel) rfl
theorem im_X7_readOperator : Cond.instanceMethod yX7_readOperator ∈ zB := zmem 878 (by decide +kernel) rfl
theorem se_X7_readOperator : Cond.selects yX7_readOperator.cls yX7_readOperator yX7_readOperator ∈ zB := zmem 27 (by decide +kernel) rfl
theorem md_X7_readPart : zMd yX7_readPart cX7_readPart 5 0 (some .boolean) := ⟨zmw (zmt_4 _ (List.mem_of_getElem? (i := 21) rfl)) rfl, zmem 119 (by decide +kernel) rfl, by decide, by decide, by decide +kernel, by decide⟩
theorem ml_X7_102 : Cond.methodLink RX7 102 yX7_readPart ∈ zB := zmem 849 (by decide +kernel) rfl
theorem im_X7_readPart : Cond.instanceMethod yX7_readPart ∈ zB := zmem 851 (by decide +kernel) rfl
theorem se_X7_readPart : Cond.selects yX7_readPart.cls yX7_readPart yX7_readPart ∈ zB := zmem 21 (by decide +kernel) rfl
def f_X7_readExpression_L14 (N : Nat) (v0 : Nat) : Nat → Int32 → Int32 → zH → Option (zH)
  | 0, _, _, _ => none
  | n + 1, v1, v2, h => if 1000 < v2 then (some h) else ((gI h v0 7 8).bind fun x4 => if x4 = 0 then (if v1 = 0 then ((gR h v0 7 3).bind fun r7 => (gI h r7 9 4).bind fun x8 => (if x8 = 41 then ((gI h v0 7 7).bind fun x12 => if x12 ≤ 0 then (some (.inl (v2, h))) else (zif (zob h v0 7) <| (f_X7_closeBracket N v0 h).bind fun h15 => (f_X7_readExpression_L14 N v0 n v1 (v2 + 1) h15).map .inr)) else (some (.inl (v2, h))) : Option ((Int32 × zH) ⊕ (zH))).bind fun m9 => zsum m9 fun s10 => (gR s10.2 v0 7 3).bind fun r17 => (gI s10.2 r17 9 4).bind fun x18 => if (p_X7_rank x18) ≤ 0 then (some s10.2) else (zif (zob s10.2 v0 7) <| (f_X7_readOperator N v0 s10.2).bind fun h21 => f_X7_readExpression_L14 N v0 n 1 (s10.1 + 1) h21)) else (zif (zob h v0 7) <| (f_X7_readPart N v0 h).bind fun q23 => f_X7_readExpression_L14 N v0 n q23.1 (v2 + 1) q23.2)) else (some h))
set_option maxRecDepth 100000 in
set_option maxHeartbeats 4000000 in
theorem s_X7_readExpression_L14 {d mc ms N : Nat} {vv : Option Value} {hh : zH} {v0 : Nat} (hd0 : 6 ≤ d) : ∀ (n : Nat) (v1 : Int32) (v2 : Int32) (h : zH) (m : zH), f_X7_readExpression_L14 N v0 n v1 v2 h = some m → (zW yX7_readExpression cX7_readExpression 3 none d mc ms 91 [(0, .ref v0)] [] m vv hh) → zW yX7_readExpression cX7_readExpression 3 none d mc ms 14 [(0, .ref v0), (1, .int v1), (2, .int v2)] [] h vv hh := by
  intro n
  induction n with
  | zero =>
    intro v1 v2 h m H
    cases H
  | succ n ih =>
    intro v1 v2 h m H KE
    unfold f_X7_readExpression_L14 at H
    refine z_iload_n (pc := 14) 2 dX7_readExpression_14 rfl rfl ?_
    refine z_sipush (pc := 15) (x := 1000) dX7_readExpression_15 zc_sipush_1000 ?_
    refine z_icmp_gt (pc := 18) 91 dX7_readExpression_18 (by decide) (fun c3 => ?_) (fun c3 => ?_)
    · rw [if_pos c3] at H
      cases H
      exact z_sub [0] rfl (KE)
    · rw [if_neg c3] at H
      refine z_aload_n (pc := 21) 0 dX7_readExpression_21 rfl rfl ?_
      obtain ⟨x4, ex4, H⟩ := zbind H
      refine z_getI (pc := 22) dX7_readExpression_22 fd_X7_35 ex4 ?_
      refine z_if_ne (pc := 25) 91 dX7_readExpression_25 (by decide) (fun c5 => ?_) (fun c5 => ?_)
      · rw [if_neg c5] at H
        cases H
        exact z_sub [0] rfl (KE)
      · rw [if_pos c5] at H
        refine z_iload_n (pc := 28) 1 dX7_readExpression_28 rfl rfl ?_
        refine z_if_eq (pc := 29) 40 dX7_readExpression_29 (by decide) (fun c6 => ?_) (fun c6 => ?_)
        · rw [if_pos c6] at H
          refine z_aload_n (pc := 40) 0 dX7_readExpression_40 rfl rfl ?_
          obtain ⟨r7, er7, H⟩ := zbind H
          refine z_getR (pc := 41) dX7_readExpression_41 fd_X7_24 er7 ?_
          obtain ⟨x8, ex8, H⟩ := zbind H
          refine z_getI (pc := 44) dX7_readExpression_44 fd_X7_41 ex8 ?_
          refine z_bipush (pc := 47) (x := 41) dX7_readExpression_47 zc_bipush_41 ?_
          obtain ⟨m9, em9, H⟩ := zbind H
          have Jm9 : ∀ s10, m9 = .inl s10 → zW yX7_readExpression cX7_readExpression 3 none d mc ms 66 [(0, .ref v0), (2, .int s10.1)] [] s10.2 vv hh := by
            intro s10 e9
            subst e9
            have H := zsumL H
            refine z_aload_n (pc := 66) 0 dX7_readExpression_66 rfl rfl ?_
            obtain ⟨r17, er17, H⟩ := zbind H
            refine z_getR (pc := 67) dX7_readExpression_67 fd_X7_24 er17 ?_
            obtain ⟨x18, ex18, H⟩ := zbind H
            refine z_getI (pc := 70) dX7_readExpression_70 fd_X7_41 ex18 ?_
            refine z_callS (pc := 73) (mc := mc) (ms := ms) (d' := 0) (mc' := 0) (ms' := 0) (rest := []) [.int x18] dX7_readExpression_73 md_X7_rank ml_X7_109 sm_X7_rank rfl rfl (Nat.le_of_ble_eq_true rfl) (by omega) (k_X7_rank x18 s10.2 _ rfl) ?_
            refine z_if_le (pc := 76) 91 dX7_readExpression_76 (by decide) (fun c19 => ?_) (fun c19 => ?_)
            · rw [if_pos c19] at H
              cases H
              exact z_sub [0] rfl (KE)
            · rw [if_neg c19] at H
              refine z_aload_n (pc := 79) 0 dX7_readExpression_79 rfl rfl ?_
              obtain ⟨z20, H⟩ := zifE H
              obtain ⟨h21, eh21, H⟩ := zbind H
              refine z_callV (pc := 80) (mc := mc) (ms := ms) (d' := 5) (mc' := 0) (ms' := 0) (rest := []) [] dX7_readExpression_80 md_X7_readOperator ml_X7_113 im_X7_readOperator se_X7_readOperator rfl z20 rfl rfl (Nat.le_of_ble_eq_true rfl) (by omega) (k_X7_readOperator eh21) ?_
              refine z_iconst (pc := 83) (x := 1) dX7_readExpression_83 zc_iconst_1 ?_
              refine z_istore_n (pc := 84) (lv' := [(1, .int 1), (0, .ref v0), (2, .int s10.1)]) dX7_readExpression_84 rfl (by decide) rfl ?_
              refine z_iinc (pc := 85) (x' := s10.1 + 1) (lv' := [(2, .int (s10.1 + 1)), (1, .int 1), (0, .ref v0)]) 2 dX7_readExpression_85 rfl (by rfl) (by decide) rfl ?_
              refine z_goto (pc := 88) 14 dX7_readExpression_88 (by decide) ?_
              exact z_sub [2, 1, 0] rfl (ih 1 (s10.1 + 1) h21 _ H KE)
          refine z_icmp_ne (pc := 49) 66 dX7_readExpression_49 (by decide) (fun c11 => ?_) (fun c11 => ?_)
          · rw [if_neg c11] at em9
            cases em9
            exact z_sub [0, 2] rfl (Jm9 _ rfl)
          · rw [if_pos c11] at em9
            refine z_aload_n (pc := 52) 0 dX7_readExpression_52 rfl rfl ?_
            obtain ⟨x12, ex12, em9⟩ := zbind em9
            refine z_getI (pc := 53) dX7_readExpression_53 fd_X7_99 ex12 ?_
            refine z_if_le (pc := 56) 66 dX7_readExpression_56 (by decide) (fun c13 => ?_) (fun c13 => ?_)
            · rw [if_pos c13] at em9
              cases em9
              exact z_sub [0, 2] rfl (Jm9 _ rfl)
            · rw [if_neg c13] at em9
              refine z_aload_n (pc := 59) 0 dX7_readExpression_59 rfl rfl ?_
              obtain ⟨z14, em9⟩ := zifE em9
              obtain ⟨h15, eh15, em9⟩ := zbind em9
              refine z_callV (pc := 60) (mc := mc) (ms := ms) (d' := 5) (mc' := 0) (ms' := 0) (rest := []) [] dX7_readExpression_60 md_X7_closeBracket ml_X7_106 im_X7_closeBracket se_X7_closeBracket rfl z14 rfl rfl (Nat.le_of_ble_eq_true rfl) (by omega) (k_X7_closeBracket eh15) ?_
              refine z_goto (pc := 63) 85 dX7_readExpression_63 (by decide) ?_
              refine z_iinc (pc := 85) (x' := v2 + 1) (lv' := [(2, .int (v2 + 1)), (0, .ref v0), (1, .int v1)]) 2 dX7_readExpression_85 rfl (by rfl) (by decide) rfl ?_
              refine z_goto (pc := 88) 14 dX7_readExpression_88 (by decide) ?_
              obtain ⟨o16, H9, e9⟩ := zmapR em9
              subst e9
              have H9 := H9.trans (zsumR H)
              exact z_sub [1, 2, 0] rfl (ih v1 (v2 + 1) h15 _ H9 KE)
        · rw [if_neg c6] at H
          refine z_aload_n (pc := 32) 0 dX7_readExpression_32 rfl rfl ?_
          obtain ⟨z22, H⟩ := zifE H
          obtain ⟨q23, eq23, H⟩ := zbind H
          refine z_callV (pc := 33) (mc := mc) (ms := ms) (d' := 5) (mc' := 0) (ms' := 0) (rest := []) [] dX7_readExpression_33 md_X7_readPart ml_X7_102 im_X7_readPart se_X7_readPart rfl z22 rfl rfl (Nat.le_of_ble_eq_true rfl) (by omega) (k_X7_readPart eq23) ?_
          refine z_istore_n (pc := 36) (lv' := [(1, .int q23.1), (0, .ref v0), (2, .int v2)]) dX7_readExpression_36 rfl (by decide) rfl ?_
          refine z_goto (pc := 37) 85 dX7_readExpression_37 (by decide) ?_
          refine z_iinc (pc := 85) (x' := v2 + 1) (lv' := [(2, .int (v2 + 1)), (1, .int q23.1), (0, .ref v0)]) 2 dX7_readExpression_85 rfl (by rfl) (by decide) rfl ?_
          refine z_goto (pc := 88) 14 dX7_readExpression_88 (by decide) ?_
          exact z_sub [2, 1, 0] rfl (ih q23.1 (v2 + 1) q23.2 _ H KE)
def f_X7_readExpression (N : Nat) (v0 : Nat) (h : zH) : Option (zH) := (pF h v0 7 6 (.int 0)).bind fun h1 => (pF h1 v0 7 7 (.int 0)).bind fun h2 => (f_X7_readExpression_L14 N v0 N 1 0 h2).bind fun m24 => (gI m24 v0 7 7).bind fun x25 => (if x25 ≤ 0 then (some m24) else (zif (zob m24 v0 7) <| (f_X7_wrong N v0 1 m24).bind fun h29 => some h29) : Option (zH)).bind fun m26 => zif (zob m26 v0 7) <| (f_X7_writeWaiting N v0 1 m26).bind fun h31 => some h31
set_option maxRecDepth 100000 in
set_option maxHeartbeats 4000000 in
theorem k_X7_readExpression {N : Nat} {v0 : Nat} {h : zH} {r : zH} (H : f_X7_readExpression N v0 h = some r) : zOk 6 0 0 yX7_readExpression cX7_readExpression 3 none [.ref v0] h none r := by
  refine zOk.of (by decide) (Nat.le_of_ble_eq_true rfl) ?_
  unfold f_X7_readExpression at H
  refine z_aload_n (pc := 0) 0 dX7_readExpression_0 rfl rfl ?_
  refine z_iconst (pc := 1) (x := 0) dX7_readExpression_1 zc_iconst_0 ?_
  obtain ⟨h1, eh1, H⟩ := zbind H
  refine z_put (pc := 2) dX7_readExpression_2 fd_X7_96 rfl rfl eh1 ?_
  refine z_aload_n (pc := 5) 0 dX7_readExpression_5 rfl rfl ?_
  refine z_iconst (pc := 6) (x := 0) dX7_readExpression_6 zc_iconst_0 ?_
  obtain ⟨h2, eh2, H⟩ := zbind H
  refine z_put (pc := 7) dX7_readExpression_7 fd_X7_99 rfl rfl eh2 ?_
  refine z_iconst (pc := 10) (x := 1) dX7_readExpression_10 zc_iconst_1 ?_
  refine z_istore_n (pc := 11) (lv' := [(1, .int 1), (0, .ref v0)]) dX7_readExpression_11 rfl (by decide) rfl ?_
  refine z_iconst (pc := 12) (x := 0) dX7_readExpression_12 zc_iconst_0 ?_
  refine z_istore_n (pc := 13) (lv' := [(2, .int 0), (1, .int 1), (0, .ref v0)]) dX7_readExpression_13 rfl (by decide) rfl ?_
  obtain ⟨m24, em24, H⟩ := zbind H
  refine z_sub [2, 1, 0] rfl (s_X7_readExpression_L14 (by omega) N 1 0 h2 _ em24 ?_)
  refine z_aload_n (pc := 91) 0 dX7_readExpression_91 rfl rfl ?_
  obtain ⟨x25, ex25, H⟩ := zbind H
  refine z_getI (pc := 92) dX7_readExpression_92 fd_X7_99 ex25 ?_
  obtain ⟨m26, em26, H⟩ := zbind H
  have Jm26 : zW yX7_readExpression cX7_readExpression 3 none 6 0 0 103 [(0, .ref v0)] [] m26 none r := by
    refine z_aload_n (pc := 103) 0 dX7_readExpression_103 rfl rfl ?_
    refine z_iconst (pc := 104) (x := 1) dX7_readExpression_104 zc_iconst_1 ?_
    obtain ⟨z30, H⟩ := zifE H
    obtain ⟨h31, eh31, H⟩ := zbind H
    refine z_callV (pc := 105) (mc := 0) (ms := 0) (d' := 1) (mc' := 0) (ms' := 0) (rest := []) [.int 1] dX7_readExpression_105 md_X7_writeWaiting ml_X7_116 im_X7_writeWaiting se_X7_writeWaiting rfl z30 rfl rfl (Nat.le_of_ble_eq_true rfl) (by omega) (k_X7_writeWaiting eh31) ?_
    cases H
    exact z_return rfl dX7_readExpression_108
  refine z_if_le (pc := 95) 103 dX7_readExpression_95 (by decide) (fun c27 => ?_) (fun c27 => ?_)
  · rw [if_pos c27] at em26
    cases em26
    exact z_sub [0] rfl Jm26
  · rw [if_neg c27] at em26
    refine z_aload_n (pc := 98) 0 dX7_readExpression_98 rfl rfl ?_
    refine z_iconst (pc := 99) (x := 1) dX7_readExpression_99 zc_iconst_1 ?_
    obtain ⟨z28, em26⟩ := zifE em26
    obtain ⟨h29, eh29, em26⟩ := zbind em26
    refine z_callV (pc := 100) (mc := 0) (ms := 0) (d' := 0) (mc' := 0) (ms' := 0) (rest := []) [.int 1] dX7_readExpression_100 md_X7_wrong ml_X7_54 im_X7_wrong se_X7_wrong rfl z28 rfl rfl (Nat.le_of_ble_eq_true rfl) (by omega) (k_X7_wrong eh29) ?_
    cases em26
    exact z_sub [0] rfl Jm26

