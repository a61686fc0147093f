theorem zc_bipush_61 : (Int8.ofInt (61)).toInt32 = (61 : Int32) := by decide
theorem zc_bipush_59 : (Int8.ofInt (59)).toInt32 = (59 : Int32) := by decide
theorem md_X7_readWhatFor : zMd yX7_readWhatFor cX7_readWhatFor 2 1 none := ⟨zmw (zmt_3 _ (List.mem_of_getElem? (i := 232) rfl)) rfl, zmem 119 (by decide +kernel) rfl, by decide, by decide, by decide +kernel, by decide⟩
theorem ml_X7_63 : Cond.methodLink RX7 63 yX7_readWhatFor ∈ zB := zmem 820 (by decide +kernel) rfl
theorem im_X7_readWhatFor : Cond.instanceMethod yX7_readWhatFor ∈ zB := zmem 822 (by decide +kernel) rfl
theorem se_X7_readWhatFor : Cond.selects yX7_readWhatFor.cls yX7_readWhatFor yX7_readWhatFor ∈ zB := zmem 14 (by decide +kernel) rfl
theorem md_X7_expect : zMd yX7_expect cX7_expect 2 1 none := ⟨zmw (zmt_4 _ (List.mem_of_getElem? (i := 13) rfl)) rfl, zmem 119 (by decide +kernel) rfl, by decide, by decide, by decide +kernel, by decide⟩
theorem ml_X7_66 : Cond.methodLink RX7 66 yX7_expect ∈ zB := zmem 841 (by decide +kernel) rfl
theorem im_X7_expect : Cond.instanceMethod yX7_expect ∈ zB := zmem 843 (by decide +kernel) rfl
theorem se_X7_expect : Cond.selects yX7_expect.cls yX7_expect yX7_expect ∈ zB := zmem 19 (by decide +kernel) rfl
theorem md_X7_readExpression : zMd yX7_readExpression cX7_readExpression 3 0 none := ⟨zmw (zmt_4 _ (List.mem_of_getElem? (i := 17) rfl)) rfl, zmem 119 (by decide +kernel) rfl, by decide, by decide, by decide +kernel, by decide⟩
theorem ml_X7_69 : Cond.methodLink RX7 69 yX7_readExpression ∈ zB := zmem 845 (by decide +kernel) rfl
theorem im_X7_readExpression : Cond.instanceMethod yX7_readExpression ∈ zB := zmem 847 (by decide +kernel) rfl
theorem se_X7_readExpression : Cond.selects yX7_readExpression.cls yX7_readExpression yX7_readExpression ∈ zB := zmem 20 (by decide +kernel) rfl
def f_X7_readLine (N : Nat) (v0 : Nat) (v1 : Int32) (h : zH) : Option (zH) := (gR h v0 7 3).bind fun r1 => (gI h r1 9 4).bind fun x2 => (if x2 = 4 then (some (.inl h)) else (if x2 = 20 then (some (.inl h)) else (if x2 = 5 then (some (.inl h)) else (zif (zob h v0 7) <| (f_X7_wrong N v0 1 h).bind fun h9 => (some h9).map .inr))) : Option ((zH) ⊕ (zH))).bind fun m3 => zsum m3 fun s4 => if v1 < 20 then ((gI s4 v0 7 5).bind fun x12 => zif (zob s4 v0 7) <| (f_X7_write N v0 x2 s4).bind fun h14 => (gR h14 v0 7 3).bind fun r15 => zif (zob h14 r15 9) <| (f_X9_advance N r15 h14).bind fun h17 => zif (zob h17 v0 7) <| (f_X7_readWhatFor N v0 x2 h17).bind fun h19 => zif (zob h19 v0 7) <| (f_X7_write N v0 0 h19).bind fun h21 => (if x2 = 4 then (some 61) else (some 6) : Option (Int32)).bind fun m22 => zif (zob h21 v0 7) <| (f_X7_expect N v0 m22 h21).bind fun h25 => zif (zob h25 v0 7) <| (f_X7_readExpression N v0 h25).bind fun h27 => zif (zob h27 v0 7) <| (f_X7_expect N v0 59 h27).bind fun h29 => (gI h29 v0 7 8).bind fun x30 => (if x30 = 0 then ((gI h29 v0 7 5).bind fun x33 => if x33 < (x12 + 3) then (some h29) else ((gR h29 v0 7 1).bind fun r35 => (gI h29 v0 7 5).bind fun x36 => (sI h29 r35 ((x12 + 3) - 1) ((x36 - x12) - 3)).bind fun h37 => some h37)) else (some h29) : Option (zH)).bind fun m31 => (gI m31 v0 7 8).bind fun x38 => if x38 = 0 then (if x2 = 4 then ((gI m31 v0 7 4).bind fun x41 => (pF m31 v0 7 4 (.int (x41 + 1))).bind fun h42 => some h42) else (some m31)) else (some m31)) else (zif (zob s4 v0 7) <| (f_X7_wrong N v0 5 s4).bind fun h44 => some h44)
set_option maxRecDepth 100000 in
set_option maxHeartbeats 4000000 in
theorem k_X7_readLine {N : Nat} {v0 : Nat} {v1 : Int32} {h : zH} {r : zH} (H : f_X7_readLine N v0 v1 h = some r) : zOk 7 0 0 yX7_readLine cX7_readLine 4 none [.ref v0, .int v1] h none r := by
  refine zOk.of (by decide) (Nat.le_of_ble_eq_true rfl) ?_
  unfold f_X7_readLine at H
  refine z_aload_n (pc := 0) 0 dX7_readLine_0 rfl rfl ?_
  obtain ⟨r1, er1, H⟩ := zbind H
  refine z_getR (pc := 1) dX7_readLine_1 fd_X7_24 er1 ?_
  obtain ⟨x2, ex2, H⟩ := zbind H
  refine z_getI (pc := 4) dX7_readLine_4 fd_X7_41 ex2 ?_
  refine z_istore_n (pc := 7) (lv' := [(2, .int x2), (0, .ref v0), (1, .int v1)]) dX7_readLine_7 rfl (by decide) rfl ?_
  refine z_iload_n (pc := 8) 0 dX7_readLine_8 rfl rfl ?_
  refine z_iconst (pc := 9) (x := 4) dX7_readLine_9 zc_iconst_4 ?_
  obtain ⟨m3, em3, H⟩ := zbind H
  have Jm3 : ∀ s4, m3 = .inl s4 → zW yX7_readLine cX7_readLine 4 none 7 0 0 30 [(0, .ref v0), (1, .int v1), (2, .int x2)] [] s4 none r := by
    intro s4 e9
    subst e9
    have H := zsumL H
    refine z_iload_n (pc := 30) 1 dX7_readLine_30 rfl rfl ?_
    refine z_bipush (pc := 31) (x := 20) dX7_readLine_31 zc_bipush_20 ?_
    refine z_icmp_lt (pc := 33) 42 dX7_readLine_33 (by decide) (fun c11 => ?_) (fun c11 => ?_)
    · rw [if_pos c11] at H
      refine z_aload_n (pc := 42) 0 dX7_readLine_42 rfl rfl ?_
      obtain ⟨x12, ex12, H⟩ := zbind H
      refine z_getI (pc := 43) dX7_readLine_43 fd_X7_32 ex12 ?_
      refine z_istore_n (pc := 46) (lv' := [(3, .int x12), (0, .ref v0), (1, .int v1), (2, .int x2)]) dX7_readLine_46 rfl (by decide) rfl ?_
      refine z_aload_n (pc := 47) 1 dX7_readLine_47 rfl rfl ?_
      refine z_iload_n (pc := 48) 3 dX7_readLine_48 rfl rfl ?_
      obtain ⟨z13, H⟩ := zifE H
      obtain ⟨h14, eh14, H⟩ := zbind H
      refine z_callV (pc := 49) (mc := 0) (ms := 0) (d' := 0) (mc' := 0) (ms' := 0) (rest := []) [.int x2] dX7_readLine_49 md_X7_write ml_X7_57 im_X7_write se_X7_write rfl z13 rfl rfl (Nat.le_of_ble_eq_true rfl) (by omega) (k_X7_write eh14) ?_
      refine z_aload_n (pc := 52) 1 dX7_readLine_52 rfl rfl ?_
      obtain ⟨r15, er15, H⟩ := zbind H
      refine z_getR (pc := 53) dX7_readLine_53 fd_X7_24 er15 ?_
      obtain ⟨z16, H⟩ := zifE H
      obtain ⟨h17, eh17, H⟩ := zbind H
      refine z_callV (pc := 56) (mc := 0) (ms := 0) (d' := 4) (mc' := 0) (ms' := 0) (rest := []) [] dX7_readLine_56 md_X9_advance ml_X7_60 im_X9_advance se_X9_advance rfl z16 rfl rfl (Nat.le_of_ble_eq_true rfl) (by omega) (k_X9_advance eh17) ?_
      refine z_aload_n (pc := 59) 1 dX7_readLine_59 rfl rfl ?_
      refine z_iload_n (pc := 60) 3 dX7_readLine_60 rfl rfl ?_
      obtain ⟨z18, H⟩ := zifE H
      obtain ⟨h19, eh19, H⟩ := zbind H
      refine z_callV (pc := 61) (mc := 0) (ms := 0) (d' := 6) (mc' := 0) (ms' := 0) (rest := []) [.int x2] dX7_readLine_61 md_X7_readWhatFor ml_X7_63 im_X7_readWhatFor se_X7_readWhatFor rfl z18 rfl rfl (Nat.le_of_ble_eq_true rfl) (by omega) (k_X7_readWhatFor eh19) ?_
      refine z_aload_n (pc := 64) 1 dX7_readLine_64 rfl rfl ?_
      refine z_iconst (pc := 65) (x := 0) dX7_readLine_65 zc_iconst_0 ?_
      obtain ⟨z20, H⟩ := zifE H
      obtain ⟨h21, eh21, H⟩ := zbind H
      refine z_callV (pc := 66) (mc := 0) (ms := 0) (d' := 0) (mc' := 0) (ms' := 0) (rest := []) [.int 0] dX7_readLine_66 md_X7_write ml_X7_57 im_X7_write se_X7_write rfl z20 rfl rfl (Nat.le_of_ble_eq_true rfl) (by omega) (k_X7_write eh21) ?_
      refine z_aload_n (pc := 69) 1 dX7_readLine_69 rfl rfl ?_
      refine z_iload_n (pc := 70) 3 dX7_readLine_70 rfl rfl ?_
      refine z_iconst (pc := 71) (x := 4) dX7_readLine_71 zc_iconst_4 ?_
      obtain ⟨m22, em22, H⟩ := zbind H
      have Jm22 : zW yX7_readLine cX7_readLine 4 none 7 0 0 82 [(0, .ref v0), (2, .int x2), (3, .int x12)] [.int m22, .ref v0] h21 none r := by
        obtain ⟨z24, H⟩ := zifE H
        obtain ⟨h25, eh25, H⟩ := zbind H
        refine z_callV (pc := 82) (mc := 0) (ms := 0) (d' := 5) (mc' := 0) (ms' := 0) (rest := []) [.int m22] dX7_readLine_82 md_X7_expect ml_X7_66 im_X7_expect se_X7_expect rfl z24 rfl rfl (Nat.le_of_ble_eq_true rfl) (by omega) (k_X7_expect eh25) ?_
        refine z_aload_n (pc := 85) 0 dX7_readLine_85 rfl rfl ?_
        obtain ⟨z26, H⟩ := zifE H
        obtain ⟨h27, eh27, H⟩ := zbind H
        refine z_callV (pc := 86) (mc := 0) (ms := 0) (d' := 6) (mc' := 0) (ms' := 0) (rest := []) [] dX7_readLine_86 md_X7_readExpression ml_X7_69 im_X7_readExpression se_X7_readExpression rfl z26 rfl rfl (Nat.le_of_ble_eq_true rfl) (by omega) (k_X7_readExpression eh27) ?_
        refine z_aload_n (pc := 89) 0 dX7_readLine_89 rfl rfl ?_
        refine z_bipush (pc := 90) (x := 59) dX7_readLine_90 zc_bipush_59 ?_
        obtain ⟨z28, H⟩ := zifE H
        obtain ⟨h29, eh29, H⟩ := zbind H
        refine z_callV (pc := 92) (mc := 0) (ms := 0) (d' := 5) (mc' := 0) (ms' := 0) (rest := []) [.int 59] dX7_readLine_92 md_X7_expect ml_X7_66 im_X7_expect se_X7_expect rfl z28 rfl rfl (Nat.le_of_ble_eq_true rfl) (by omega) (k_X7_expect eh29) ?_
        refine z_aload_n (pc := 95) 0 dX7_readLine_95 rfl rfl ?_
        obtain ⟨x30, ex30, H⟩ := zbind H
        refine z_getI (pc := 96) dX7_readLine_96 fd_X7_35 ex30 ?_
        obtain ⟨m31, em31, H⟩ := zbind H
        have Jm31 : zW yX7_readLine cX7_readLine 4 none 7 0 0 130 [(0, .ref v0), (2, .int x2)] [] m31 none r := by
          refine z_aload_n (pc := 130) 0 dX7_readLine_130 rfl rfl ?_
          obtain ⟨x38, ex38, H⟩ := zbind H
          refine z_getI (pc := 131) dX7_readLine_131 fd_X7_35 ex38 ?_
          refine z_if_ne (pc := 134) 152 dX7_readLine_134 (by decide) (fun c39 => ?_) (fun c39 => ?_)
          · rw [if_neg c39] at H
            cases H
            exact z_return rfl dX7_readLine_152
          · rw [if_pos c39] at H
            refine z_iload_n (pc := 137) 1 dX7_readLine_137 rfl rfl ?_
            refine z_iconst (pc := 138) (x := 4) dX7_readLine_138 zc_iconst_4 ?_
            refine z_icmp_ne (pc := 139) 152 dX7_readLine_139 (by decide) (fun c40 => ?_) (fun c40 => ?_)
            · rw [if_neg c40] at H
              cases H
              exact z_return rfl dX7_readLine_152
            · rw [if_pos c40] at H
              refine z_aload_n (pc := 142) 0 dX7_readLine_142 rfl rfl ?_
              refine z_dup (pc := 143) dX7_readLine_143 rfl ?_
              obtain ⟨x41, ex41, H⟩ := zbind H
              refine z_getI (pc := 144) dX7_readLine_144 fd_X7_28 ex41 ?_
              refine z_iconst (pc := 147) (x := 1) dX7_readLine_147 zc_iconst_1 ?_
              refine z_iadd (pc := 148) dX7_readLine_148 ?_
              obtain ⟨h42, eh42, H⟩ := zbind H
              refine z_put (pc := 149) dX7_readLine_149 fd_X7_28 rfl rfl eh42 ?_
              cases H
              exact z_return rfl dX7_readLine_152
        refine z_if_ne (pc := 99) 130 dX7_readLine_99 (by decide) (fun c32 => ?_) (fun c32 => ?_)
        · rw [if_neg c32] at em31
          cases em31
          exact z_sub [0, 1] rfl Jm31
        · rw [if_pos c32] at em31
          refine z_iload_n (pc := 102) 2 dX7_readLine_102 rfl rfl ?_
          refine z_iconst (pc := 103) (x := 3) dX7_readLine_103 zc_iconst_3 ?_
          refine z_iadd (pc := 104) dX7_readLine_104 ?_
          refine z_aload_n (pc := 105) 0 dX7_readLine_105 rfl rfl ?_
          obtain ⟨x33, ex33, em31⟩ := zbind em31
          refine z_getI (pc := 106) dX7_readLine_106 fd_X7_32 ex33 ?_
          refine z_icmp_gt (pc := 109) 130 dX7_readLine_109 (by decide) (fun c34 => ?_) (fun c34 => ?_)
          · rw [if_pos c34] at em31
            cases em31
            exact z_sub [0, 1] rfl Jm31
          · rw [if_neg c34] at em31
            refine z_aload_n (pc := 112) 0 dX7_readLine_112 rfl rfl ?_
            obtain ⟨r35, er35, em31⟩ := zbind em31
            refine z_getR (pc := 113) dX7_readLine_113 fd_X7_17 er35 ?_
            refine z_iload_n (pc := 116) 2 dX7_readLine_116 rfl rfl ?_
            refine z_iconst (pc := 117) (x := 3) dX7_readLine_117 zc_iconst_3 ?_
            refine z_iadd (pc := 118) dX7_readLine_118 ?_
            refine z_iconst (pc := 119) (x := 1) dX7_readLine_119 zc_iconst_1 ?_
            refine z_isub (pc := 120) dX7_readLine_120 ?_
            refine z_aload_n (pc := 121) 0 dX7_readLine_121 rfl rfl ?_
            obtain ⟨x36, ex36, em31⟩ := zbind em31
            refine z_getI (pc := 122) dX7_readLine_122 fd_X7_32 ex36 ?_
            refine z_iload_n (pc := 125) 2 dX7_readLine_125 rfl rfl ?_
            refine z_isub (pc := 126) dX7_readLine_126 ?_
            refine z_iconst (pc := 127) (x := 3) dX7_readLine_127 zc_iconst_3 ?_
            refine z_isub (pc := 128) dX7_readLine_128 ?_
            obtain ⟨h37, eh37, em31⟩ := zbind em31
            refine z_iastore (pc := 129) dX7_readLine_129 eh37 ?_
            cases em31
            exact z_sub [0, 1] rfl Jm31
      refine z_icmp_ne (pc := 72) 80 dX7_readLine_72 (by decide) (fun c23 => ?_) (fun c23 => ?_)
      · rw [if_neg c23] at em22
        refine z_bipush (pc := 80) (x := 6) dX7_readLine_80 zc_bipush_6 ?_
        cases em22
        exact z_sub [1, 3, 0] rfl Jm22
      · rw [if_pos c23] at em22
        refine z_bipush (pc := 75) (x := 61) dX7_readLine_75 zc_bipush_61 ?_
        refine z_goto (pc := 77) 82 dX7_readLine_77 (by decide) ?_
        cases em22
        exact z_sub [1, 3, 0] rfl Jm22
    · rw [if_neg c11] at H
      refine z_aload_n (pc := 36) 0 dX7_readLine_36 rfl rfl ?_
      refine z_iconst (pc := 37) (x := 5) dX7_readLine_37 zc_iconst_5 ?_
      obtain ⟨z43, H⟩ := zifE H
      obtain ⟨h44, eh44, H⟩ := zbind H
      refine z_callV (pc := 38) (mc := 0) (ms := 0) (d' := 0) (mc' := 0) (ms' := 0) (rest := []) [.int 5] dX7_readLine_38 md_X7_wrong ml_X7_54 im_X7_wrong se_X7_wrong rfl z43 rfl rfl (Nat.le_of_ble_eq_true rfl) (by omega) (k_X7_wrong eh44) ?_
      cases H
      exact z_return rfl dX7_readLine_41
  refine z_icmp_eq (pc := 10) 30 dX7_readLine_10 (by decide) (fun c5 => ?_) (fun c5 => ?_)
  · rw [if_pos c5] at em3
    cases em3
    exact z_sub [1, 2, 0] rfl (Jm3 _ rfl)
  · rw [if_neg c5] at em3
    refine z_iload_n (pc := 13) 0 dX7_readLine_13 rfl rfl ?_
    refine z_bipush (pc := 14) (x := 20) dX7_readLine_14 zc_bipush_20 ?_
    refine z_icmp_eq (pc := 16) 30 dX7_readLine_16 (by decide) (fun c6 => ?_) (fun c6 => ?_)
    · rw [if_pos c6] at em3
      cases em3
      exact z_sub [1, 2, 0] rfl (Jm3 _ rfl)
    · rw [if_neg c6] at em3
      refine z_iload_n (pc := 19) 0 dX7_readLine_19 rfl rfl ?_
      refine z_iconst (pc := 20) (x := 5) dX7_readLine_20 zc_iconst_5 ?_
      refine z_icmp_eq (pc := 21) 30 dX7_readLine_21 (by decide) (fun c7 => ?_) (fun c7 => ?_)
      · rw [if_pos c7] at em3
        cases em3
        exact z_sub [1, 2, 0] rfl (Jm3 _ rfl)
      · rw [if_neg c7] at em3
        refine z_aload_n (pc := 24) 1 dX7_readLine_24 rfl rfl ?_
        refine z_iconst (pc := 25) (x := 1) dX7_readLine_25 zc_iconst_1 ?_
        obtain ⟨z8, em3⟩ := zifE em3
        obtain ⟨h9, eh9, em3⟩ := zbind em3
        refine z_callV (pc := 26) (mc := 0) (ms := 0) (d' := 0) (mc' := 0) (ms' := 0) (rest := []) [.int 1] dX7_readLine_26 md_X7_wrong ml_X7_54 im_X7_wrong se_X7_wrong rfl z8 rfl rfl (Nat.le_of_ble_eq_true rfl) (by omega) (k_X7_wrong eh9) ?_
        obtain ⟨o10, H9, e9⟩ := zmapR em3
        subst e9
        have H9 := H9.trans (zsumR H)
        cases H9
        exact z_return rfl dX7_readLine_29

theorem md_X9_start : zMd yX9_start cX9_start 1 0 none := ⟨zmw (zmt_3 _ (List.mem_of_getElem? (i := 133) rfl)) rfl, zmem 114 (by decide +kernel) rfl, by decide, by decide, by decide +kernel, by decide⟩
theorem ml_X7_38 : Cond.methodLink RX7 38 yX9_start ∈ zB := zmem 721 (by decide +kernel) rfl
theorem im_X9_start : Cond.instanceMethod yX9_start ∈ zB := zmem 722 (by decide +kernel) rfl
theorem se_X9_start : Cond.selects yX9_start.cls yX9_start yX9_start ∈ zB := zmem 723 (by decide +kernel) rfl
theorem md_X7_readLine : zMd yX7_readLine cX7_readLine 4 1 none := ⟨zmw (zmt_3 _ (List.mem_of_getElem? (i := 219) rfl)) rfl, zmem 119 (by decide +kernel) rfl, by decide, by decide, by decide +kernel, by decide⟩
theorem ml_X7_44 : Cond.methodLink RX7 44 yX7_readLine ∈ zB := zmem 807 (by decide +kernel) rfl
theorem im_X7_readLine : Cond.instanceMethod yX7_readLine ∈ zB := zmem 809 (by decide +kernel) rfl
theorem se_X7_readLine : Cond.selects yX7_readLine.cls yX7_readLine yX7_readLine ∈ zB := zmem 11 (by decide +kernel) rfl
def f_X7_read_L29 (N : Nat) (v0 : Nat) : Nat → Int32 → zH → Option (zH)
  | 0, _, _ => none
  | n + 1, v2, h => if 20 < v2 then (some h) else ((gI h v0 7 8).bind fun x9 => if x9 = 0 then ((gR h v0 7 3).bind fun r11 => (gI h r11 9 4).bind fun x12 => if x12 = 202 then (some h) else (zif (zob h v0 7) <| (f_X7_readLine N v0 v2 h).bind fun h15 => f_X7_read_L29 N v0 n (v2 + 1) h15)) else (some h))
set_option maxRecDepth 100000 in
set_option maxHeartbeats 4000000 in
theorem s_X7_read_L29 {d mc ms N : Nat} {vv : Option Value} {hh : zH} {v0 : Nat} (hd0 : 8 ≤ d) : ∀ (n : Nat) (v2 : Int32) (h : zH) (m : zH), f_X7_read_L29 N v0 n v2 h = some m → (zW yX7_read cX7_read 3 (some .int) d mc ms 66 [(0, .ref v0)] [] m vv hh) → zW yX7_read cX7_read 3 (some .int) d mc ms 29 [(0, .ref v0), (2, .int v2)] [] h vv hh := by
  intro n
  induction n with
  | zero =>
    intro v2 h m H
    cases H
  | succ n ih =>
    intro v2 h m H KE
    unfold f_X7_read_L29 at H
    refine z_iload_n (pc := 29) 1 dX7_read_29 rfl rfl ?_
    refine z_bipush (pc := 30) (x := 20) dX7_read_30 zc_bipush_20 ?_
    refine z_icmp_gt (pc := 32) 66 dX7_read_32 (by decide) (fun c8 => ?_) (fun c8 => ?_)
    · rw [if_pos c8] at H
      cases H
      exact z_sub [0] rfl (KE)
    · rw [if_neg c8] at H
      refine z_aload_n (pc := 35) 0 dX7_read_35 rfl rfl ?_
      obtain ⟨x9, ex9, H⟩ := zbind H
      refine z_getI (pc := 36) dX7_read_36 fd_X7_35 ex9 ?_
      refine z_if_ne (pc := 39) 66 dX7_read_39 (by decide) (fun c10 => ?_) (fun c10 => ?_)
      · rw [if_neg c10] at H
        cases H
        exact z_sub [0] rfl (KE)
      · rw [if_pos c10] at H
        refine z_aload_n (pc := 42) 0 dX7_read_42 rfl rfl ?_
        obtain ⟨r11, er11, H⟩ := zbind H
        refine z_getR (pc := 43) dX7_read_43 fd_X7_24 er11 ?_
        obtain ⟨x12, ex12, H⟩ := zbind H
        refine z_getI (pc := 46) dX7_read_46 fd_X7_41 ex12 ?_
        refine z_sipush (pc := 49) (x := 202) dX7_read_49 zc_sipush_202 ?_
        refine z_icmp_eq (pc := 52) 66 dX7_read_52 (by decide) (fun c13 => ?_) (fun c13 => ?_)
        · rw [if_pos c13] at H
          cases H
          exact z_sub [0] rfl (KE)
        · rw [if_neg c13] at H
          refine z_aload_n (pc := 55) 0 dX7_read_55 rfl rfl ?_
          refine z_iload_n (pc := 56) 1 dX7_read_56 rfl rfl ?_
          obtain ⟨z14, H⟩ := zifE H
          obtain ⟨h15, eh15, H⟩ := zbind H
          refine z_callV (pc := 57) (mc := mc) (ms := ms) (d' := 7) (mc' := 0) (ms' := 0) (rest := []) [.int v2] dX7_read_57 md_X7_readLine ml_X7_44 im_X7_readLine se_X7_readLine rfl z14 rfl rfl (Nat.le_of_ble_eq_true rfl) (by omega) (k_X7_readLine eh15) ?_
          refine z_iinc (pc := 60) (x' := v2 + 1) (lv' := [(2, .int (v2 + 1)), (0, .ref v0)]) 1 dX7_read_60 rfl (by rfl) (by decide) rfl ?_
          refine z_goto (pc := 63) 29 dX7_read_63 (by decide) ?_
          exact z_sub [1, 0] rfl (ih (v2 + 1) h15 _ H KE)
def f_X7_read (N : Nat) (v0 : Nat) (v1 : Nat) (h : zH) : Option (Int32 × zH) := (pF h v0 7 3 (.ref v1)).bind fun h1 => (pF h1 v0 7 4 (.int 0)).bind fun h2 => (pF h2 v0 7 5 (.int 0)).bind fun h3 => (pF h3 v0 7 8 (.int 0)).bind fun h4 => (gR h4 v0 7 3).bind fun r5 => zif (zob h4 r5 9) <| (f_X9_start N r5 h4).bind fun h7 => (f_X7_read_L29 N v0 N 0 h7).bind fun m16 => (gI m16 v0 7 8).bind fun x17 => some (x17, m16)
set_option maxRecDepth 100000 in
set_option maxHeartbeats 4000000 in
theorem k_X7_read {N : Nat} {v0 : Nat} {v1 : Nat} {h : zH} {r : Int32 × zH} (H : f_X7_read N v0 v1 h = some r) : zOk 8 0 0 yX7_read cX7_read 3 (some .int) [.ref v0, .ref v1] h (some (.int r.1)) r.2 := by
  refine zOk.of (by decide) (Nat.le_of_ble_eq_true rfl) ?_
  unfold f_X7_read at H
  refine z_aload_n (pc := 0) 0 dX7_read_0 rfl rfl ?_
  refine z_aload_n (pc := 1) 1 dX7_read_1 rfl rfl ?_
  obtain ⟨h1, eh1, H⟩ := zbind H
  refine z_put (pc := 2) dX7_read_2 fd_X7_24 rfl rfl eh1 ?_
  refine z_aload_n (pc := 5) 0 dX7_read_5 rfl rfl ?_
  refine z_iconst (pc := 6) (x := 0) dX7_read_6 zc_iconst_0 ?_
  obtain ⟨h2, eh2, H⟩ := zbind H
  refine z_put (pc := 7) dX7_read_7 fd_X7_28 rfl rfl eh2 ?_
  refine z_aload_n (pc := 10) 0 dX7_read_10 rfl rfl ?_
  refine z_iconst (pc := 11) (x := 0) dX7_read_11 zc_iconst_0 ?_
  obtain ⟨h3, eh3, H⟩ := zbind H
  refine z_put (pc := 12) dX7_read_12 fd_X7_32 rfl rfl eh3 ?_
  refine z_aload_n (pc := 15) 0 dX7_read_15 rfl rfl ?_
  refine z_iconst (pc := 16) (x := 0) dX7_read_16 zc_iconst_0 ?_
  obtain ⟨h4, eh4, H⟩ := zbind H
  refine z_put (pc := 17) dX7_read_17 fd_X7_35 rfl rfl eh4 ?_
  refine z_aload_n (pc := 20) 0 dX7_read_20 rfl rfl ?_
  obtain ⟨r5, er5, H⟩ := zbind H
  refine z_getR (pc := 21) dX7_read_21 fd_X7_24 er5 ?_
  obtain ⟨z6, H⟩ := zifE H
  obtain ⟨h7, eh7, H⟩ := zbind H
  refine z_callV (pc := 24) (mc := 0) (ms := 0) (d' := 5) (mc' := 0) (ms' := 0) (rest := []) [] dX7_read_24 md_X9_start ml_X7_38 im_X9_start se_X9_start rfl z6 rfl rfl (Nat.le_of_ble_eq_true rfl) (by omega) (k_X9_start eh7) ?_
  refine z_iconst (pc := 27) (x := 0) dX7_read_27 zc_iconst_0 ?_
  refine z_istore_n (pc := 28) (lv' := [(2, .int 0), (0, .ref v0), (1, .ref v1)]) dX7_read_28 rfl (by decide) rfl ?_
  obtain ⟨m16, em16, H⟩ := zbind H
  refine z_sub [1, 0] rfl (s_X7_read_L29 (by omega) N 0 h7 _ em16 ?_)
  refine z_aload_n (pc := 66) 0 dX7_read_66 rfl rfl ?_
  obtain ⟨x17, ex17, H⟩ := zbind H
  refine z_getI (pc := 67) dX7_read_67 fd_X7_35 ex17 ?_
  cases H
  exact z_ireturn rfl dX7_read_70

theorem md_J7_copyOf_59c91 : zMd yJ7_copyOf_59c91 cJ7_copyOf_59c91 3 2 (some (.array .int)) := ⟨zmw (zmt_4 _ (List.mem_of_getElem? (i := 57) rfl)) rfl, zmem 125 (by decide +kernel) rfl, by decide, by decide, by decide +kernel, by decide⟩
theorem ml_X7_48 : Cond.methodLink RX7 48 yJ7_copyOf_59c91 ∈ zB := zmem 886 (by decide +kernel) rfl
theorem sm_J7_copyOf_59c91 : Cond.static yJ7_copyOf_59c91 ∈ zB := zmem 887 (by decide +kernel) rfl
def f_X7_written (N : Nat) (v0 : Nat) (h : zH) : Option (Nat × zH) := (gR h v0 7 1).bind fun r1 => (gI h v0 7 5).bind fun x2 => (f_J7_copyOf_59c91 N r1 x2 h).bind fun q3 => some (q3.1, q3.2)
set_option maxRecDepth 100000 in
set_option maxHeartbeats 4000000 in
theorem k_X7_written {N : Nat} {v0 : Nat} {h : zH} {r : Nat × zH} (H : f_X7_written N v0 h = some r) : zOk 2 1 1000 yX7_written cX7_written 1 (some (.array .int)) [.ref v0] h (some (.ref r.1)) r.2 := by
  refine zOk.of (by decide) (Nat.le_of_ble_eq_true rfl) ?_
  unfold f_X7_written at H
  refine z_aload_n (pc := 0) 0 dX7_written_0 rfl rfl ?_
  obtain ⟨r1, er1, H⟩ := zbind H
  refine z_getR (pc := 1) dX7_written_1 fd_X7_17 er1 ?_
  refine z_aload_n (pc := 4) 0 dX7_written_4 rfl rfl ?_
  obtain ⟨x2, ex2, H⟩ := zbind H
  refine z_getI (pc := 5) dX7_written_5 fd_X7_32 ex2 ?_
  obtain ⟨q3, eq3, H⟩ := zbind H
  refine z_callS (pc := 8) (mc := 0) (ms := 0) (d' := 1) (mc' := 1) (ms' := 1000) (rest := []) [.ref r1, .int x2] dX7_written_8 md_J7_copyOf_59c91 ml_X7_48 sm_J7_copyOf_59c91 rfl rfl (Nat.le_of_ble_eq_true rfl) (by omega) (k_J7_copyOf_59c91 eq3) ?_
  cases H
  exact z_areturn rfl (Or.inr ⟨_, rfl⟩) (Or.inr ⟨_, rfl⟩) dX7_written_11

theorem ml_X8_3 : Cond.methodLink RX8 3 objectInit ∈ zB := zmem 153 (by decide +kernel) rfl
def f_X8_init (N : Nat) (v0 : Nat) (h : zH) : Option (Unit) := some ()
set_option maxRecDepth 100000 in
set_option maxHeartbeats 4000000 in
theorem k_X8_init {N : Nat} {v0 : Nat} {h : zH} {r : Unit} (H : f_X8_init N v0 h = some r) : zOk 1 0 0 yX8_init cX8_init 1 none [.ref v0] h none h := by
  refine zOk.of (by decide) (Nat.le_of_ble_eq_true rfl) ?_
  unfold f_X8_init at H
  refine z_aload_n (pc := 0) 0 dX8_init_0 rfl rfl ?_
  refine z_objInit (pc := 1) dX8_init_1 ml_X8_3 im_object cd_object (by omega) (Nat.le_of_ble_eq_true rfl) ?_
  cases H
  exact z_return rfl dX8_init_4

theorem fd_X8_103 : zFd RX8 103 6 7 (.int) false "WhoseStreet$Meeting" := zFd.of cl_6 (by decide) (zmem 579 (by decide +kernel) rfl) rfl rfl rfl
theorem fd_X8_49 : zFd RX8 49 8 0 (.int) false "WhoseStreet$Ride" := zFd.of cl_8 (by decide) (zmem 154 (by decide +kernel) rfl) rfl rfl rfl
theorem fd_X8_53 : zFd RX8 53 8 1 (.int) false "WhoseStreet$Ride" := zFd.of cl_8 (by decide) (zmem 156 (by decide +kernel) rfl) rfl rfl rfl
theorem fd_X8_106 : zFd RX8 106 6 8 (.int) false "WhoseStreet$Meeting" := zFd.of cl_6 (by decide) (zmem 581 (by decide +kernel) rfl) rfl rfl rfl
def f_X8_sees (N : Nat) (v0 : Nat) (v1 : Nat) (h : zH) : Option (Int32) := (gI h v1 6 7).bind fun x1 => (if x1 = 0 then (some 0) else ((gI h v0 8 0).bind fun x4 => (gI h v1 6 7).bind fun x5 => if x5 ≤ x4 then (some 0) else ((gI h v0 8 1).bind fun x7 => (gI h v1 6 8).bind fun x8 => if x8 ≤ x7 then (some 0) else ((gI h v1 6 7).bind fun x10 => (gI h v0 8 1).bind fun x11 => (gI h v1 6 8).bind fun x12 => (gI h v0 8 0).bind fun x13 => (gI h v0 8 0).bind fun x14 => (gI h v0 8 1).bind fun x15 => if (x14 * x15) < ((x10 * x11) + (x12 * x13)) then (some 0) else (some 1)))) : Option (Int32)).bind fun m2 => (gI h v0 8 0).bind fun x17 => if 0 ≤ x17 then (some 0) else ((gI h v0 8 1).bind fun x19 => if 0 ≤ x19 then (some 0) else (if m2 = 0 then (some 1) else (some 0)))
set_option maxRecDepth 100000 in
set_option maxHeartbeats 4000000 in
theorem k_X8_sees {N : Nat} {v0 : Nat} {v1 : Nat} {h : zH} {r : Int32} (H : f_X8_sees N v0 v1 h = some r) : zOk 0 0 0 yX8_sees cX8_sees 3 (some .boolean) [.ref v0, .ref v1] h (some (.int r)) h := by
  refine zOk.of (by decide) (Nat.le_of_ble_eq_true rfl) ?_
  unfold f_X8_sees at H
  refine z_aload_n (pc := 0) 1 dX8_sees_0 rfl rfl ?_
  obtain ⟨x1, ex1, H⟩ := zbind H
  refine z_getI (pc := 1) dX8_sees_1 fd_X8_103 ex1 ?_
  obtain ⟨m2, em2, H⟩ := zbind H
  have Jm2 : zW yX8_sees cX8_sees 3 (some .boolean) 0 0 0 65 [(0, .ref v0)] [.int m2] h (some (.int r)) h := by
    refine z_istore_n (pc := 65) (lv' := [(2, .int m2), (0, .ref v0)]) dX8_sees_65 rfl (by decide) rfl ?_
    refine z_aload_n (pc := 66) 1 dX8_sees_66 rfl rfl ?_
    obtain ⟨x17, ex17, H⟩ := zbind H
    refine z_getI (pc := 67) dX8_sees_67 fd_X8_49 ex17 ?_
    refine z_if_ge (pc := 70) 88 dX8_sees_70 (by decide) (fun c18 => ?_) (fun c18 => ?_)
    · rw [if_pos c18] at H
      refine z_iconst (pc := 88) (x := 0) dX8_sees_88 zc_iconst_0 ?_
      cases H
      exact z_zreturn rfl dX8_sees_89 (by decide)
    · rw [if_neg c18] at H
      refine z_aload_n (pc := 73) 1 dX8_sees_73 rfl rfl ?_
      obtain ⟨x19, ex19, H⟩ := zbind H
      refine z_getI (pc := 74) dX8_sees_74 fd_X8_53 ex19 ?_
      refine z_if_ge (pc := 77) 88 dX8_sees_77 (by decide) (fun c20 => ?_) (fun c20 => ?_)
      · rw [if_pos c20] at H
        refine z_iconst (pc := 88) (x := 0) dX8_sees_88 zc_iconst_0 ?_
        cases H
        exact z_zreturn rfl dX8_sees_89 (by decide)
      · rw [if_neg c20] at H
        refine z_iload_n (pc := 80) 0 dX8_sees_80 rfl rfl ?_
        refine z_if_ne (pc := 81) 88 dX8_sees_81 (by decide) (fun c21 => ?_) (fun c21 => ?_)
        · rw [if_neg c21] at H
          refine z_iconst (pc := 88) (x := 0) dX8_sees_88 zc_iconst_0 ?_
          cases H
          exact z_zreturn rfl dX8_sees_89 (by decide)
        · rw [if_pos c21] at H
          refine z_iconst (pc := 84) (x := 1) dX8_sees_84 zc_iconst_1 ?_
          refine z_goto (pc := 85) 89 dX8_sees_85 (by decide) ?_
          cases H
          exact z_zreturn rfl dX8_sees_89 (by decide)
  refine z_if_eq (pc := 4) 64 dX8_sees_4 (by decide) (fun c3 => ?_) (fun c3 => ?_)
  · rw [if_pos c3] at em2
    refine z_iconst (pc := 64) (x := 0) dX8_sees_64 zc_iconst_0 ?_
    cases em2
    exact z_sub [0] rfl Jm2
  · rw [if_neg c3] at em2
    refine z_aload_n (pc := 7) 0 dX8_sees_7 rfl rfl ?_
    obtain ⟨x4, ex4, em2⟩ := zbind em2
    refine z_getI (pc := 8) dX8_sees_8 fd_X8_49 ex4 ?_
    refine z_aload_n (pc := 11) 1 dX8_sees_11 rfl rfl ?_
    obtain ⟨x5, ex5, em2⟩ := zbind em2
    refine z_getI (pc := 12) dX8_sees_12 fd_X8_103 ex5 ?_
    refine z_icmp_ge (pc := 15) 64 dX8_sees_15 (by decide) (fun c6 => ?_) (fun c6 => ?_)
    · rw [if_pos c6] at em2
      refine z_iconst (pc := 64) (x := 0) dX8_sees_64 zc_iconst_0 ?_
      cases em2
      exact z_sub [0] rfl Jm2
    · rw [if_neg c6] at em2
      refine z_aload_n (pc := 18) 0 dX8_sees_18 rfl rfl ?_
      obtain ⟨x7, ex7, em2⟩ := zbind em2
      refine z_getI (pc := 19) dX8_sees_19 fd_X8_53 ex7 ?_
      refine z_aload_n (pc := 22) 1 dX8_sees_22 rfl rfl ?_
      obtain ⟨x8, ex8, em2⟩ := zbind em2
      refine z_getI (pc := 23) dX8_sees_23 fd_X8_106 ex8 ?_
      refine z_icmp_ge (pc := 26) 64 dX8_sees_26 (by decide) (fun c9 => ?_) (fun c9 => ?_)
      · rw [if_pos c9] at em2
        refine z_iconst (pc := 64) (x := 0) dX8_sees_64 zc_iconst_0 ?_
        cases em2
        exact z_sub [0] rfl Jm2
      · rw [if_neg c9] at em2
        refine z_aload_n (pc := 29) 1 dX8_sees_29 rfl rfl ?_
        obtain ⟨x10, ex10, em2⟩ := zbind em2
        refine z_getI (pc := 30) dX8_sees_30 fd_X8_103 ex10 ?_
        refine z_aload_n (pc := 33) 0 dX8_sees_33 rfl rfl ?_
        obtain ⟨x11, ex11, em2⟩ := zbind em2
        refine z_getI (pc := 34) dX8_sees_34 fd_X8_53 ex11 ?_
        refine z_imul (pc := 37) dX8_sees_37 ?_
        refine z_aload_n (pc := 38) 1 dX8_sees_38 rfl rfl ?_
        obtain ⟨x12, ex12, em2⟩ := zbind em2
        refine z_getI (pc := 39) dX8_sees_39 fd_X8_106 ex12 ?_
        refine z_aload_n (pc := 42) 0 dX8_sees_42 rfl rfl ?_
        obtain ⟨x13, ex13, em2⟩ := zbind em2
        refine z_getI (pc := 43) dX8_sees_43 fd_X8_49 ex13 ?_
        refine z_imul (pc := 46) dX8_sees_46 ?_
        refine z_iadd (pc := 47) dX8_sees_47 ?_
        refine z_aload_n (pc := 48) 0 dX8_sees_48 rfl rfl ?_
        obtain ⟨x14, ex14, em2⟩ := zbind em2
        refine z_getI (pc := 49) dX8_sees_49 fd_X8_49 ex14 ?_
        refine z_aload_n (pc := 52) 0 dX8_sees_52 rfl rfl ?_
        obtain ⟨x15, ex15, em2⟩ := zbind em2
        refine z_getI (pc := 53) dX8_sees_53 fd_X8_53 ex15 ?_
        refine z_imul (pc := 56) dX8_sees_56 ?_
        refine z_icmp_gt (pc := 57) 64 dX8_sees_57 (by decide) (fun c16 => ?_) (fun c16 => ?_)
        · rw [if_pos c16] at em2
          refine z_iconst (pc := 64) (x := 0) dX8_sees_64 zc_iconst_0 ?_
          cases em2
          exact z_sub [0] rfl Jm2
        · rw [if_neg c16] at em2
          refine z_iconst (pc := 60) (x := 1) dX8_sees_60 zc_iconst_1 ?_
          refine z_goto (pc := 61) 65 dX8_sees_61 (by decide) ?_
          cases em2
          exact z_sub [0] rfl Jm2

theorem fd_X8_25 : zFd RX8 25 8 4 (.int) false "WhoseStreet$Ride" := zFd.of cl_8 (by decide) (zmem 160 (by decide +kernel) rfl) rfl rfl rfl
theorem fd_X8_54 : zFd RX8 54 8 3 (.int) false "WhoseStreet$Ride" := zFd.of cl_8 (by decide) (zmem 159 (by decide +kernel) rfl) rfl rfl rfl
def f_X8_notice (N : Nat) (v0 : Nat) (v1 : Int32) (h : zH) : Option (zH) := if v1 = 0 then (some h) else ((gI h v0 8 4).bind fun x2 => if x2 = (-1) then ((gI h v0 8 3).bind fun x4 => (pF h v0 8 4 (.int x4)).bind fun h5 => some h5) else (some h))
set_option maxRecDepth 100000 in
set_option maxHeartbeats 4000000 in
theorem k_X8_notice {N : Nat} {v0 : Nat} {v1 : Int32} {h : zH} {r : zH} (H : f_X8_notice N v0 v1 h = some r) : zOk 0 0 0 yX8_notice cX8_notice 2 none [.ref v0, .int v1] h none r := by
  refine zOk.of (by decide) (Nat.le_of_ble_eq_true rfl) ?_
  unfold f_X8_notice at H
  refine z_iload_n (pc := 0) 1 dX8_notice_0 rfl rfl ?_
  refine z_if_eq (pc := 1) 20 dX8_notice_1 (by decide) (fun c1 => ?_) (fun c1 => ?_)
  · rw [if_pos c1] at H
    cases H
    exact z_return rfl dX8_notice_20
  · rw [if_neg c1] at H
    refine z_aload_n (pc := 4) 0 dX8_notice_4 rfl rfl ?_
    obtain ⟨x2, ex2, H⟩ := zbind H
    refine z_getI (pc := 5) dX8_notice_5 fd_X8_25 ex2 ?_
    refine z_iconst (pc := 8) (x := (-1)) dX8_notice_8 zc_iconst_m1 ?_
    refine z_icmp_ne (pc := 9) 20 dX8_notice_9 (by decide) (fun c3 => ?_) (fun c3 => ?_)
    · rw [if_neg c3] at H
      cases H
      exact z_return rfl dX8_notice_20
    · rw [if_pos c3] at H
      refine z_aload_n (pc := 12) 0 dX8_notice_12 rfl rfl ?_
      refine z_aload_n (pc := 13) 0 dX8_notice_13 rfl rfl ?_
      obtain ⟨x4, ex4, H⟩ := zbind H
      refine z_getI (pc := 14) dX8_notice_14 fd_X8_54 ex4 ?_
      obtain ⟨h5, eh5, H⟩ := zbind H
      refine z_put (pc := 17) dX8_notice_17 fd_X8_25 rfl rfl eh5 ?_
      cases H
      exact z_return rfl dX8_notice_20

def f_X11_up (N : Nat) (v0 : Int32) (v1 : Int32) (h : zH) : Option (Int32) := if 0 < v1 then (zdiv v1 <| some (((v0 + v1) - 1) / v1)) else (some 0)
set_option maxRecDepth 100000 in
set_option maxHeartbeats 4000000 in
theorem k_X11_up {N : Nat} {v0 : Int32} {v1 : Int32} {h : zH} {r : Int32} (H : f_X11_up N v0 v1 h = some r) : zOk 0 0 0 yX11_up cX11_up 2 (some .int) [.int v0, .int v1] h (some (.int r)) h := by
  refine zOk.of (by decide) (Nat.le_of_ble_eq_true rfl) ?_
  unfold f_X11_up at H
  refine z_iload_n (pc := 0) 1 dX11_up_0 rfl rfl ?_
  refine z_if_gt (pc := 1) 8 dX11_up_1 (by decide) (fun c1 => ?_) (fun c1 => ?_)
  · rw [if_pos c1] at H
    refine z_iload_n (pc := 8) 0 dX11_up_8 rfl rfl ?_
    refine z_iload_n (pc := 9) 1 dX11_up_9 rfl rfl ?_
    refine z_iadd (pc := 10) dX11_up_10 ?_
    refine z_iconst (pc := 11) (x := 1) dX11_up_11 zc_iconst_1 ?_
    refine z_isub (pc := 12) dX11_up_12 ?_
    refine z_iload_n (pc := 13) 1 dX11_up_13 rfl rfl ?_
    obtain ⟨z2, H⟩ := zdivE H
    refine z_idiv (pc := 14) dX11_up_14 z2 ?_
    cases H
    exact z_ireturn rfl dX11_up_15
  · rw [if_neg c1] at H
    refine z_iconst (pc := 4) (x := 0) dX11_up_4 zc_iconst_0 ?_
    refine z_goto (pc := 5) 15 dX11_up_5 (by decide) ?_
    cases H
    exact z_ireturn rfl dX11_up_15

theorem fs_X8_94 : Cond.fieldLink RX8 94 "WhoseStreet$Ride" "BRAKES" "[I" ∈ zB := zmem 658 (by decide +kernel) rfl
theorem fd_X8_33 : zFd RX8 33 8 2 (.int) false "WhoseStreet$Ride" := zFd.of cl_8 (by decide) (zmem 158 (by decide +kernel) rfl) rfl rfl rfl
theorem ml_X8_98 : Cond.methodLink RX8 98 Lib.Math.max.name ∈ zB := zmem 660 (by decide +kernel) rfl
def f_X8_brake (N : Nat) (v0 : Nat) (v1 : Int32) (h : zH) : Option (zH) := if v1 < 0 then (some h) else ((aN h (h.1.2 0)).bind fun x2 => if x2 ≤ v1 then (some h) else ((gI h v0 8 2).bind fun x4 => (aI h (h.1.2 0) v1).bind fun x5 => (pF h v0 8 2 (.int (if 0 < (x4 - x5) then (x4 - x5) else 0))).bind fun h6 => some h6))
set_option maxRecDepth 100000 in
set_option maxHeartbeats 4000000 in
theorem k_X8_brake {N : Nat} {v0 : Nat} {v1 : Int32} {h : zH} {r : zH} (H : f_X8_brake N v0 v1 h = some r) : zOk 1 0 0 yX8_brake cX8_brake 2 none [.ref v0, .int v1] h none r := by
  refine zOk.of (by decide) (Nat.le_of_ble_eq_true rfl) ?_
  unfold f_X8_brake at H
  refine z_iload_n (pc := 0) 1 dX8_brake_0 rfl rfl ?_
  refine z_if_lt (pc := 1) 30 dX8_brake_1 (by decide) (fun c1 => ?_) (fun c1 => ?_)
  · rw [if_pos c1] at H
    cases H
    exact z_return rfl dX8_brake_30
  · rw [if_neg c1] at H
    refine z_iload_n (pc := 4) 1 dX8_brake_4 rfl rfl ?_
    refine z_brakes (pc := 5) dX8_brake_5 fs_X8_94 ?_
    obtain ⟨x2, ex2, H⟩ := zbind H
    refine z_alen (pc := 8) dX8_brake_8 ex2 ?_
    refine z_icmp_ge (pc := 9) 30 dX8_brake_9 (by decide) (fun c3 => ?_) (fun c3 => ?_)
    · rw [if_pos c3] at H
      cases H
      exact z_return rfl dX8_brake_30
    · rw [if_neg c3] at H
      refine z_aload_n (pc := 12) 0 dX8_brake_12 rfl rfl ?_
      refine z_iconst (pc := 13) (x := 0) dX8_brake_13 zc_iconst_0 ?_
      refine z_aload_n (pc := 14) 0 dX8_brake_14 rfl rfl ?_
      obtain ⟨x4, ex4, H⟩ := zbind H
      refine z_getI (pc := 15) dX8_brake_15 fd_X8_33 ex4 ?_
      refine z_brakes (pc := 18) dX8_brake_18 fs_X8_94 ?_
      refine z_iload_n (pc := 21) 1 dX8_brake_21 rfl rfl ?_
      obtain ⟨x5, ex5, H⟩ := zbind H
      refine z_iaload (pc := 22) dX8_brake_22 ex5 ?_
      refine z_isub (pc := 23) dX8_brake_23 ?_
      refine z_mmax (pc := 24) dX8_brake_24 ml_X8_98 mx_1 mx_2 mx_3 (by omega) (Nat.le_of_ble_eq_true rfl) ?_
      obtain ⟨h6, eh6, H⟩ := zbind H
      refine z_put (pc := 27) dX8_brake_27 fd_X8_33 rfl rfl eh6 ?_
      cases H
      exact z_return rfl dX8_brake_30

theorem zc_bipush_m8 : (Int8.ofInt (-8)).toInt32 = (-8 : Int32) := by decide
theorem md_X8_sees : zMd yX8_sees cX8_sees 3 1 (some .boolean) := ⟨zmw (zmt_3 _ (List.mem_of_getElem? (i := 55) rfl)) rfl, zmem 113 (by decide +kernel) rfl, by decide, by decide, by decide +kernel, by decide⟩
theorem ml_X8_61 : Cond.methodLink RX8 61 yX8_sees ∈ zB := zmem 643 (by decide +kernel) rfl
theorem im_X8_sees : Cond.instanceMethod yX8_sees ∈ zB := zmem 645 (by decide +kernel) rfl
theorem se_X8_sees : Cond.selects yX8_sees.cls yX8_sees yX8_sees ∈ zB := zmem 1 (by decide +kernel) rfl
theorem md_X8_notice : zMd yX8_notice cX8_notice 2 1 none := ⟨zmw (zmt_3 _ (List.mem_of_getElem? (i := 59) rfl)) rfl, zmem 113 (by decide +kernel) rfl, by decide, by decide, by decide +kernel, by decide⟩
theorem ml_X8_65 : Cond.methodLink RX8 65 yX8_notice ∈ zB := zmem 647 (by decide +kernel) rfl
theorem im_X8_notice : Cond.instanceMethod yX8_notice ∈ zB := zmem 649 (by decide +kernel) rfl
theorem se_X8_notice : Cond.selects yX8_notice.cls yX8_notice yX8_notice ∈ zB := zmem 2 (by decide +kernel) rfl
theorem fd_X8_69 : zFd RX8 69 6 5 (.boolean) true "WhoseStreet$Meeting" := zFd.of cl_6 (by decide) (zmem 575 (by decide +kernel) rfl) rfl rfl rfl
theorem md_X11_up : zMd yX11_up cX11_up 2 2 (some .int) := ⟨zmw (zmt_3 _ (List.mem_of_getElem? (i := 62) rfl)) rfl, zmem 112 (by decide +kernel) rfl, by decide, by decide, by decide +kernel, by decide⟩
theorem ns_X8_73 : (RX8, 73, yX11_up, "WhoseStreet") ∈ zNs := by decide +kernel
theorem sm_X11_up : Cond.static yX11_up ∈ zB := zmem 652 (by decide +kernel) rfl
theorem fd_X8_77 : zFd RX8 77 6 4 (.int) true "WhoseStreet$Meeting" := zFd.of cl_6 (by decide) (zmem 573 (by decide +kernel) rfl) rfl rfl rfl
theorem fd_X8_80 : zFd RX8 80 6 2 (.int) true "WhoseStreet$Meeting" := zFd.of cl_6 (by decide) (zmem 569 (by decide +kernel) rfl) rfl rfl rfl
theorem fd_X8_83 : zFd RX8 83 6 9 (.int) false "WhoseStreet$Meeting" := zFd.of cl_6 (by decide) (zmem 584 (by decide +kernel) rfl) rfl rfl rfl
theorem md_X8_brake : zMd yX8_brake cX8_brake 2 1 none := ⟨zmw (zmt_3 _ (List.mem_of_getElem? (i := 66) rfl)) rfl, zmem 113 (by decide +kernel) rfl, by decide, by decide, by decide +kernel, by decide⟩
theorem ml_X8_86 : Cond.methodLink RX8 86 yX8_brake ∈ zB := zmem 654 (by decide +kernel) rfl
theorem im_X8_brake : Cond.instanceMethod yX8_brake ∈ zB := zmem 656 (by decide +kernel) rfl
theorem se_X8_brake : Cond.selects yX8_brake.cls yX8_brake yX8_brake ∈ zB := zmem 3 (by decide +kernel) rfl
theorem fd_X8_29 : zFd RX8 29 8 5 (.int) false "WhoseStreet$Ride" := zFd.of cl_8 (by decide) (zmem 161 (by decide +kernel) rfl) rfl rfl rfl
theorem ns_X8_90 : (RX8, 90, yX11_within, "WhoseStreet") ∈ zNs := by decide +kernel
theorem fd_X8_21 : zFd RX8 21 8 6 (.int) false "WhoseStreet$Ride" := zFd.of cl_8 (by decide) (zmem 162 (by decide +kernel) rfl) rfl rfl rfl
def f_X8_goOn (N : Nat) (v0 : Nat) (v1 : Nat) (h : zH) : Option (zH) := zif (zob h v0 8) <| (f_X8_sees N v0 v1 h).bind fun q2 => zif (zob h v0 8) <| (f_X8_notice N v0 q2 h).bind fun h4 => (gI h4 v1 6 5).bind fun x5 => (if x5 = 0 then (some 0) else (if q2 = 0 then (some 0) else ((gI h4 v0 8 2).bind fun x9 => if x9 ≤ 0 then (some 0) else ((gI h4 v0 8 0).bind fun x11 => (gI h4 v0 8 2).bind fun x12 => (f_X11_up N (-x11) x12 h4).bind fun q13 => (gI h4 v0 8 1).bind fun x14 => (gI h4 v1 6 4).bind fun x15 => (f_X11_up N (-x14) x15 h4).bind fun q16 => if q16 < q13 then (some 0) else (some 1)))) : Option (Int32)).bind fun m6 => (gI h4 v0 8 4).bind fun x18 => (if x18 = (-1) then (some h4) else ((gI h4 v0 8 3).bind fun x21 => (gI h4 v0 8 4).bind fun x22 => (gI h4 v1 6 2).bind fun x23 => if x21 < (x22 + x23) then (some h4) else ((gI h4 v1 6 9).bind fun x25 => zif (zob h4 v0 8) <| (f_X8_brake N v0 x25 h4).bind fun h27 => some h27)) : Option (zH)).bind fun m19 => (gI m19 v0 8 2).bind fun x28 => (if x28 = 0 then ((gI m19 v0 8 5).bind fun x31 => if x31 = (-1) then ((gI m19 v0 8 3).bind fun x33 => (pF m19 v0 8 5 (.int x33)).bind fun h34 => some h34) else (some m19)) else (some m19) : Option (zH)).bind fun m29 => (gI m29 v0 8 0).bind fun x35 => (gI m29 v0 8 2).bind fun x36 => (pF m29 v0 8 0 (.int (x35 + x36))).bind fun h37 => (if m6 = 0 then ((gI h37 v0 8 1).bind fun x40 => (gI h37 v1 6 4).bind fun x41 => (pF h37 v0 8 1 (.int (x40 + x41))).bind fun h42 => some h42) else (some h37) : Option (zH)).bind fun m38 => (gI m38 v0 8 3).bind fun x43 => (pF m38 v0 8 3 (.int (x43 + 1))).bind fun h44 => (gI h44 v0 8 2).bind fun x45 => if x45 ≤ 0 then (some h44) else ((gI h44 v0 8 0).bind fun x47 => if (p_X11_within x47 0 40) = 0 then (some h44) else ((gI h44 v0 8 1).bind fun x49 => if (p_X11_within x49 (-8) 8) = 0 then (some h44) else ((gI h44 v0 8 3).bind fun x51 => (pF h44 v0 8 6 (.int x51)).bind fun h52 => some h52)))
set_option maxRecDepth 100000 in
set_option maxHeartbeats 4000000 in
theorem k_X8_goOn {N : Nat} {v0 : Nat} {v1 : Nat} {h : zH} {r : zH} (H : f_X8_goOn N v0 v1 h = some r) : zOk 2 0 0 yX8_goOn cX8_goOn 4 none [.ref v0, .ref v1] h none r := by
  refine zOk.of (by decide) (Nat.le_of_ble_eq_true rfl) ?_
  unfold f_X8_goOn at H
  refine z_aload_n (pc := 0) 0 dX8_goOn_0 rfl rfl ?_
  refine z_aload_n (pc := 1) 1 dX8_goOn_1 rfl rfl ?_
  obtain ⟨z1, H⟩ := zifE H
  obtain ⟨q2, eq2, H⟩ := zbind H
  refine z_callV (pc := 2) (mc := 0) (ms := 0) (d' := 0) (mc' := 0) (ms' := 0) (rest := []) [.ref v1] dX8_goOn_2 md_X8_sees ml_X8_61 im_X8_sees se_X8_sees rfl z1 rfl rfl (Nat.le_of_ble_eq_true rfl) (by omega) (k_X8_sees eq2) ?_
  refine z_istore_n (pc := 5) (lv' := [(2, .int q2), (0, .ref v0), (1, .ref v1)]) dX8_goOn_5 rfl (by decide) rfl ?_
  refine z_aload_n (pc := 6) 1 dX8_goOn_6 rfl rfl ?_
  refine z_iload_n (pc := 7) 0 dX8_goOn_7 rfl rfl ?_
  obtain ⟨z3, H⟩ := zifE H
  obtain ⟨h4, eh4, H⟩ := zbind H
  refine z_callV (pc := 8) (mc := 0) (ms := 0) (d' := 0) (mc' := 0) (ms' := 0) (rest := []) [.int q2] dX8_goOn_8 md_X8_notice ml_X8_65 im_X8_notice se_X8_notice rfl z3 rfl rfl (Nat.le_of_ble_eq_true rfl) (by omega) (k_X8_notice eh4) ?_
  refine z_aload_n (pc := 11) 2 dX8_goOn_11 rfl rfl ?_
  obtain ⟨x5, ex5, H⟩ := zbind H
  refine z_getI (pc := 12) dX8_goOn_12 fd_X8_69 ex5 ?_
  obtain ⟨m6, em6, H⟩ := zbind H
  have Jm6 : zW yX8_goOn cX8_goOn 4 none 2 0 0 61 [(0, .ref v0), (1, .ref v1)] [.int m6] h4 none r := by
    refine z_istore_n (pc := 61) (lv' := [(3, .int m6), (0, .ref v0), (1, .ref v1)]) dX8_goOn_61 rfl (by decide) rfl ?_
    refine z_aload_n (pc := 62) 1 dX8_goOn_62 rfl rfl ?_
    obtain ⟨x18, ex18, H⟩ := zbind H
    refine z_getI (pc := 63) dX8_goOn_63 fd_X8_25 ex18 ?_
    refine z_iconst (pc := 66) (x := (-1)) dX8_goOn_66 zc_iconst_m1 ?_
    obtain ⟨m19, em19, H⟩ := zbind H
    have Jm19 : zW yX8_goOn cX8_goOn 4 none 2 0 0 94 [(0, .ref v0), (1, .ref v1), (3, .int m6)] [] m19 none r := by
      refine z_aload_n (pc := 94) 0 dX8_goOn_94 rfl rfl ?_
      obtain ⟨x28, ex28, H⟩ := zbind H
      refine z_getI (pc := 95) dX8_goOn_95 fd_X8_33 ex28 ?_
      obtain ⟨m29, em29, H⟩ := zbind H
      have Jm29 : zW yX8_goOn cX8_goOn 4 none 2 0 0 117 [(0, .ref v0), (1, .ref v1), (3, .int m6)] [] m29 none r := by
        refine z_aload_n (pc := 117) 0 dX8_goOn_117 rfl rfl ?_
        refine z_dup (pc := 118) dX8_goOn_118 rfl ?_
        obtain ⟨x35, ex35, H⟩ := zbind H
        refine z_getI (pc := 119) dX8_goOn_119 fd_X8_49 ex35 ?_
        refine z_aload_n (pc := 122) 0 dX8_goOn_122 rfl rfl ?_
        obtain ⟨x36, ex36, H⟩ := zbind H
        refine z_getI (pc := 123) dX8_goOn_123 fd_X8_33 ex36 ?_
        refine z_iadd (pc := 126) dX8_goOn_126 ?_
        obtain ⟨h37, eh37, H⟩ := zbind H
        refine z_put (pc := 127) dX8_goOn_127 fd_X8_49 rfl rfl eh37 ?_
        refine z_iload_n (pc := 130) 2 dX8_goOn_130 rfl rfl ?_
        obtain ⟨m38, em38, H⟩ := zbind H
        have Jm38 : zW yX8_goOn cX8_goOn 4 none 2 0 0 147 [(0, .ref v0)] [] m38 none r := by
          refine z_aload_n (pc := 147) 0 dX8_goOn_147 rfl rfl ?_
          refine z_dup (pc := 148) dX8_goOn_148 rfl ?_
          obtain ⟨x43, ex43, H⟩ := zbind H
          refine z_getI (pc := 149) dX8_goOn_149 fd_X8_54 ex43 ?_
          refine z_iconst (pc := 152) (x := 1) dX8_goOn_152 zc_iconst_1 ?_
          refine z_iadd (pc := 153) dX8_goOn_153 ?_
          obtain ⟨h44, eh44, H⟩ := zbind H
          refine z_put (pc := 154) dX8_goOn_154 fd_X8_54 rfl rfl eh44 ?_
          refine z_aload_n (pc := 157) 0 dX8_goOn_157 rfl rfl ?_
          obtain ⟨x45, ex45, H⟩ := zbind H
          refine z_getI (pc := 158) dX8_goOn_158 fd_X8_33 ex45 ?_
          refine z_if_le (pc := 161) 199 dX8_goOn_161 (by decide) (fun c46 => ?_) (fun c46 => ?_)
          · rw [if_pos c46] at H
            cases H
            exact z_return rfl dX8_goOn_199
          · rw [if_neg c46] at H
            refine z_aload_n (pc := 164) 0 dX8_goOn_164 rfl rfl ?_
            obtain ⟨x47, ex47, H⟩ := zbind H
            refine z_getI (pc := 165) dX8_goOn_165 fd_X8_49 ex47 ?_
            refine z_iconst (pc := 168) (x := 0) dX8_goOn_168 zc_iconst_0 ?_
            refine z_bipush (pc := 169) (x := 40) dX8_goOn_169 zc_bipush_40 ?_
            refine z_callSN (pc := 171) (mc := 0) (ms := 0) (d' := 0) (mc' := 0) (ms' := 0) (rest := []) [.int x47, .int 0, .int 40] dX8_goOn_171 md_X11_within ns_X8_90 sm_X11_within rfl rfl (Nat.le_of_ble_eq_true rfl) (by omega) (k_X11_within x47 0 40 h44 _ rfl) ?_
            refine z_if_eq (pc := 174) 199 dX8_goOn_174 (by decide) (fun c48 => ?_) (fun c48 => ?_)
            · rw [if_pos c48] at H
              cases H
              exact z_return rfl dX8_goOn_199
            · rw [if_neg c48] at H
              refine z_aload_n (pc := 177) 0 dX8_goOn_177 rfl rfl ?_
              obtain ⟨x49, ex49, H⟩ := zbind H
              refine z_getI (pc := 178) dX8_goOn_178 fd_X8_53 ex49 ?_
              refine z_bipush (pc := 181) (x := (-8)) dX8_goOn_181 zc_bipush_m8 ?_
              refine z_bipush (pc := 183) (x := 8) dX8_goOn_183 zc_bipush_8 ?_
              refine z_callSN (pc := 185) (mc := 0) (ms := 0) (d' := 0) (mc' := 0) (ms' := 0) (rest := []) [.int x49, .int (-8), .int 8] dX8_goOn_185 md_X11_within ns_X8_90 sm_X11_within rfl rfl (Nat.le_of_ble_eq_true rfl) (by omega) (k_X11_within x49 (-8) 8 h44 _ rfl) ?_
              refine z_if_eq (pc := 188) 199 dX8_goOn_188 (by decide) (fun c50 => ?_) (fun c50 => ?_)
              · rw [if_pos c50] at H
                cases H
                exact z_return rfl dX8_goOn_199
              · rw [if_neg c50] at H
                refine z_aload_n (pc := 191) 0 dX8_goOn_191 rfl rfl ?_
                refine z_aload_n (pc := 192) 0 dX8_goOn_192 rfl rfl ?_
                obtain ⟨x51, ex51, H⟩ := zbind H
                refine z_getI (pc := 193) dX8_goOn_193 fd_X8_54 ex51 ?_
                obtain ⟨h52, eh52, H⟩ := zbind H
                refine z_put (pc := 196) dX8_goOn_196 fd_X8_21 rfl rfl eh52 ?_
                cases H
                exact z_return rfl dX8_goOn_199
        refine z_if_ne (pc := 131) 147 dX8_goOn_131 (by decide) (fun c39 => ?_) (fun c39 => ?_)
        · rw [if_neg c39] at em38
          cases em38
          exact z_sub [0] rfl Jm38
        · rw [if_pos c39] at em38
          refine z_aload_n (pc := 134) 0 dX8_goOn_134 rfl rfl ?_
          refine z_dup (pc := 135) dX8_goOn_135 rfl ?_
          obtain ⟨x40, ex40, em38⟩ := zbind em38
          refine z_getI (pc := 136) dX8_goOn_136 fd_X8_53 ex40 ?_
          refine z_aload_n (pc := 139) 1 dX8_goOn_139 rfl rfl ?_
          obtain ⟨x41, ex41, em38⟩ := zbind em38
          refine z_getI (pc := 140) dX8_goOn_140 fd_X8_77 ex41 ?_
          refine z_iadd (pc := 143) dX8_goOn_143 ?_
          obtain ⟨h42, eh42, em38⟩ := zbind em38
          refine z_put (pc := 144) dX8_goOn_144 fd_X8_53 rfl rfl eh42 ?_
          cases em38
          exact z_sub [0] rfl Jm38
      refine z_if_ne (pc := 98) 117 dX8_goOn_98 (by decide) (fun c30 => ?_) (fun c30 => ?_)
      · rw [if_neg c30] at em29
        cases em29
        exact z_sub [0, 1, 2] rfl Jm29
      · rw [if_pos c30] at em29
        refine z_aload_n (pc := 101) 0 dX8_goOn_101 rfl rfl ?_
        obtain ⟨x31, ex31, em29⟩ := zbind em29
        refine z_getI (pc := 102) dX8_goOn_102 fd_X8_29 ex31 ?_
        refine z_iconst (pc := 105) (x := (-1)) dX8_goOn_105 zc_iconst_m1 ?_
        refine z_icmp_ne (pc := 106) 117 dX8_goOn_106 (by decide) (fun c32 => ?_) (fun c32 => ?_)
        · rw [if_neg c32] at em29
          cases em29
          exact z_sub [0, 1, 2] rfl Jm29
        · rw [if_pos c32] at em29
          refine z_aload_n (pc := 109) 0 dX8_goOn_109 rfl rfl ?_
          refine z_aload_n (pc := 110) 0 dX8_goOn_110 rfl rfl ?_
          obtain ⟨x33, ex33, em29⟩ := zbind em29
          refine z_getI (pc := 111) dX8_goOn_111 fd_X8_54 ex33 ?_
          obtain ⟨h34, eh34, em29⟩ := zbind em29
          refine z_put (pc := 114) dX8_goOn_114 fd_X8_29 rfl rfl eh34 ?_
          cases em29
          exact z_sub [0, 1, 2] rfl Jm29
    refine z_icmp_eq (pc := 67) 94 dX8_goOn_67 (by decide) (fun c20 => ?_) (fun c20 => ?_)
    · rw [if_pos c20] at em19
      cases em19
      exact z_sub [1, 2, 0] rfl Jm19
    · rw [if_neg c20] at em19
      refine z_aload_n (pc := 70) 1 dX8_goOn_70 rfl rfl ?_
      obtain ⟨x21, ex21, em19⟩ := zbind em19
      refine z_getI (pc := 71) dX8_goOn_71 fd_X8_54 ex21 ?_
      refine z_aload_n (pc := 74) 1 dX8_goOn_74 rfl rfl ?_
      obtain ⟨x22, ex22, em19⟩ := zbind em19
      refine z_getI (pc := 75) dX8_goOn_75 fd_X8_25 ex22 ?_
      refine z_aload_n (pc := 78) 2 dX8_goOn_78 rfl rfl ?_
      obtain ⟨x23, ex23, em19⟩ := zbind em19
      refine z_getI (pc := 79) dX8_goOn_79 fd_X8_80 ex23 ?_
      refine z_iadd (pc := 82) dX8_goOn_82 ?_
      refine z_icmp_lt (pc := 83) 94 dX8_goOn_83 (by decide) (fun c24 => ?_) (fun c24 => ?_)
      · rw [if_pos c24] at em19
        cases em19
        exact z_sub [1, 2, 0] rfl Jm19
      · rw [if_neg c24] at em19
        refine z_aload_n (pc := 86) 1 dX8_goOn_86 rfl rfl ?_
        refine z_aload_n (pc := 87) 2 dX8_goOn_87 rfl rfl ?_
        obtain ⟨x25, ex25, em19⟩ := zbind em19
        refine z_getI (pc := 88) dX8_goOn_88 fd_X8_83 ex25 ?_
        obtain ⟨z26, em19⟩ := zifE em19
        obtain ⟨h27, eh27, em19⟩ := zbind em19
        refine z_callV (pc := 91) (mc := 0) (ms := 0) (d' := 1) (mc' := 0) (ms' := 0) (rest := []) [.int x25] dX8_goOn_91 md_X8_brake ml_X8_86 im_X8_brake se_X8_brake rfl z26 rfl rfl (Nat.le_of_ble_eq_true rfl) (by omega) (k_X8_brake eh27) ?_
        cases em19
        exact z_sub [1, 2, 0] rfl Jm19
  refine z_if_eq (pc := 15) 60 dX8_goOn_15 (by decide) (fun c7 => ?_) (fun c7 => ?_)
  · rw [if_pos c7] at em6
    refine z_iconst (pc := 60) (x := 0) dX8_goOn_60 zc_iconst_0 ?_
    cases em6
    exact z_sub [1, 2] rfl Jm6
  · rw [if_neg c7] at em6
    refine z_iload_n (pc := 18) 0 dX8_goOn_18 rfl rfl ?_
    refine z_if_eq (pc := 19) 60 dX8_goOn_19 (by decide) (fun c8 => ?_) (fun c8 => ?_)
    · rw [if_pos c8] at em6
      refine z_iconst (pc := 60) (x := 0) dX8_goOn_60 zc_iconst_0 ?_
      cases em6
      exact z_sub [1, 2] rfl Jm6
    · rw [if_neg c8] at em6
      refine z_aload_n (pc := 22) 1 dX8_goOn_22 rfl rfl ?_
      obtain ⟨x9, ex9, em6⟩ := zbind em6
      refine z_getI (pc := 23) dX8_goOn_23 fd_X8_33 ex9 ?_
      refine z_if_le (pc := 26) 60 dX8_goOn_26 (by decide) (fun c10 => ?_) (fun c10 => ?_)
      · rw [if_pos c10] at em6
        refine z_iconst (pc := 60) (x := 0) dX8_goOn_60 zc_iconst_0 ?_
        cases em6
        exact z_sub [1, 2] rfl Jm6
      · rw [if_neg c10] at em6
        refine z_aload_n (pc := 29) 1 dX8_goOn_29 rfl rfl ?_
        obtain ⟨x11, ex11, em6⟩ := zbind em6
        refine z_getI (pc := 30) dX8_goOn_30 fd_X8_49 ex11 ?_
        refine z_ineg (pc := 33) dX8_goOn_33 ?_
        refine z_aload_n (pc := 34) 1 dX8_goOn_34 rfl rfl ?_
        obtain ⟨x12, ex12, em6⟩ := zbind em6
        refine z_getI (pc := 35) dX8_goOn_35 fd_X8_33 ex12 ?_
        obtain ⟨q13, eq13, em6⟩ := zbind em6
        refine z_callSN (pc := 38) (mc := 0) (ms := 0) (d' := 0) (mc' := 0) (ms' := 0) (rest := []) [.int (-x11), .int x12] dX8_goOn_38 md_X11_up ns_X8_73 sm_X11_up rfl rfl (Nat.le_of_ble_eq_true rfl) (by omega) (k_X11_up eq13) ?_
        refine z_aload_n (pc := 41) 1 dX8_goOn_41 rfl rfl ?_
        obtain ⟨x14, ex14, em6⟩ := zbind em6
        refine z_getI (pc := 42) dX8_goOn_42 fd_X8_53 ex14 ?_
        refine z_ineg (pc := 45) dX8_goOn_45 ?_
        refine z_aload_n (pc := 46) 2 dX8_goOn_46 rfl rfl ?_
        obtain ⟨x15, ex15, em6⟩ := zbind em6
        refine z_getI (pc := 47) dX8_goOn_47 fd_X8_77 ex15 ?_
        obtain ⟨q16, eq16, em6⟩ := zbind em6
        refine z_callSN (pc := 50) (mc := 0) (ms := 0) (d' := 0) (mc' := 0) (ms' := 0) (rest := [.int q13]) [.int (-x14), .int x15] dX8_goOn_50 md_X11_up ns_X8_73 sm_X11_up rfl rfl (Nat.le_of_ble_eq_true rfl) (by omega) (k_X11_up eq16) ?_
        refine z_icmp_gt (pc := 53) 60 dX8_goOn_53 (by decide) (fun c17 => ?_) (fun c17 => ?_)
        · rw [if_pos c17] at em6
          refine z_iconst (pc := 60) (x := 0) dX8_goOn_60 zc_iconst_0 ?_
          cases em6
          exact z_sub [1, 2] rfl Jm6
        · rw [if_neg c17] at em6
          refine z_iconst (pc := 56) (x := 1) dX8_goOn_56 zc_iconst_1 ?_
          refine z_goto (pc := 57) 61 dX8_goOn_57 (by decide) ?_
          cases em6
          exact z_sub [1, 2] rfl Jm6

theorem fd_X8_46 : zFd RX8 46 6 0 (.int) true "WhoseStreet$Meeting" := zFd.of cl_6 (by decide) (zmem 564 (by decide +kernel) rfl) rfl rfl rfl
theorem fd_X8_50 : zFd RX8 50 6 3 (.int) true "WhoseStreet$Meeting" := zFd.of cl_6 (by decide) (zmem 571 (by decide +kernel) rfl) rfl rfl rfl
theorem md_X8_goOn : zMd yX8_goOn cX8_goOn 4 1 none := ⟨zmw (zmt_3 _ (List.mem_of_getElem? (i := 51) rfl)) rfl, zmem 113 (by decide +kernel) rfl, by decide, by decide, by decide +kernel, by decide⟩
theorem ml_X8_57 : Cond.methodLink RX8 57 yX8_goOn ∈ zB := zmem 639 (by decide +kernel) rfl
theorem im_X8_goOn : Cond.instanceMethod yX8_goOn ∈ zB := zmem 641 (by decide +kernel) rfl
theorem se_X8_goOn : Cond.selects yX8_goOn.cls yX8_goOn yX8_goOn ∈ zB := zmem 0 (by decide +kernel) rfl
def f_X8_go_L44 (N : Nat) (v0 : Nat) (v1 : Nat) (v3 : Int32) : Nat → Int32 → zH → Option (zH)
  | 0, _, _ => none
  | n + 1, v4, h => if v3 ≤ v4 then (some h) else ((gI h v0 8 6).bind fun x11 => if x11 = (-1) then (zif (zob h v0 8) <| (f_X8_goOn N v0 v1 h).bind fun h14 => f_X8_go_L44 N v0 v1 v3 n (v4 + 1) h14) else (some h))
set_option maxRecDepth 100000 in
set_option maxHeartbeats 4000000 in
theorem s_X8_go_L44 {d mc ms N : Nat} {vv : Option Value} {hh : zH} {v0 : Nat} {v1 : Nat} {v3 : Int32} (hd0 : 3 ≤ d) : ∀ (n : Nat) (v4 : Int32) (h : zH) (m : zH), f_X8_go_L44 N v0 v1 v3 n v4 h = some m → (zW yX8_go cX8_go 5 none d mc ms 69 [(0, .ref v0), (1, .ref v1)] [] m vv hh) → zW yX8_go cX8_go 5 none d mc ms 44 [(0, .ref v0), (1, .ref v1), (3, .int v3), (4, .int v4)] [] h vv hh := by
  intro n
  induction n with
  | zero =>
    intro v4 h m H
    cases H
  | succ n ih =>
    intro v4 h m H KE
    unfold f_X8_go_L44 at H
    refine z_iload (pc := 44) 3 dX8_go_44 rfl ?_
    refine z_iload_n (pc := 46) 2 dX8_go_46 rfl rfl ?_
    refine z_icmp_ge (pc := 47) 69 dX8_go_47 (by decide) (fun c10 => ?_) (fun c10 => ?_)
    · rw [if_pos c10] at H
      cases H
      exact z_sub [0, 1] rfl (KE)
    · rw [if_neg c10] at H
      refine z_aload_n (pc := 50) 0 dX8_go_50 rfl rfl ?_
      obtain ⟨x11, ex11, H⟩ := zbind H
      refine z_getI (pc := 51) dX8_go_51 fd_X8_21 ex11 ?_
      refine z_iconst (pc := 54) (x := (-1)) dX8_go_54 zc_iconst_m1 ?_
      refine z_icmp_ne (pc := 55) 69 dX8_go_55 (by decide) (fun c12 => ?_) (fun c12 => ?_)
      · rw [if_neg c12] at H
        cases H
        exact z_sub [0, 1] rfl (KE)
      · rw [if_pos c12] at H
        refine z_aload_n (pc := 58) 0 dX8_go_58 rfl rfl ?_
        refine z_aload_n (pc := 59) 1 dX8_go_59 rfl rfl ?_
        obtain ⟨z13, H⟩ := zifE H
        obtain ⟨h14, eh14, H⟩ := zbind H
        refine z_callV (pc := 60) (mc := mc) (ms := ms) (d' := 2) (mc' := 0) (ms' := 0) (rest := []) [.ref v1] dX8_go_60 md_X8_goOn ml_X8_57 im_X8_goOn se_X8_goOn rfl z13 rfl rfl (Nat.le_of_ble_eq_true rfl) (by omega) (k_X8_goOn eh14) ?_
        refine z_iinc (pc := 63) (x' := v4 + 1) (lv' := [(4, .int (v4 + 1)), (0, .ref v0), (1, .ref v1), (3, .int v3)]) 3 dX8_go_63 rfl (by rfl) (by decide) rfl ?_
        refine z_goto (pc := 66) 44 dX8_go_66 (by decide) ?_
        exact z_sub [1, 2, 3, 0] rfl (ih (v4 + 1) h14 _ H KE)
def f_X8_go (N : Nat) (v0 : Nat) (v1 : Nat) (v2 : Int32) (v3 : Int32) (h : zH) : Option (zH) := (gI h v1 6 0).bind fun x1 => (pF h v0 8 0 (.int x1)).bind fun h2 => (gI h2 v1 6 3).bind fun x3 => (pF h2 v0 8 1 (.int x3)).bind fun h4 => (pF h4 v0 8 2 (.int v2)).bind fun h5 => (pF h5 v0 8 3 (.int 0)).bind fun h6 => (pF h6 v0 8 4 (.int (-1))).bind fun h7 => (pF h7 v0 8 5 (.int (-1))).bind fun h8 => (pF h8 v0 8 6 (.int (-1))).bind fun h9 => (f_X8_go_L44 N v0 v1 v3 N 0 h9).bind fun m15 => zif (zob m15 v0 8) <| (f_X8_sees N v0 v1 m15).bind fun q17 => zif (zob m15 v0 8) <| (f_X8_notice N v0 q17 m15).bind fun h19 => some h19
set_option maxRecDepth 100000 in
set_option maxHeartbeats 4000000 in
theorem k_X8_go {N : Nat} {v0 : Nat} {v1 : Nat} {v2 : Int32} {v3 : Int32} {h : zH} {r : zH} (H : f_X8_go N v0 v1 v2 v3 h = some r) : zOk 3 0 0 yX8_go cX8_go 5 none [.ref v0, .ref v1, .int v2, .int v3] h none r := by
  refine zOk.of (by decide) (Nat.le_of_ble_eq_true rfl) ?_
  unfold f_X8_go at H
  refine z_aload_n (pc := 0) 0 dX8_go_0 rfl rfl ?_
  refine z_aload_n (pc := 1) 1 dX8_go_1 rfl rfl ?_
  obtain ⟨x1, ex1, H⟩ := zbind H
  refine z_getI (pc := 2) dX8_go_2 fd_X8_46 ex1 ?_
  obtain ⟨h2, eh2, H⟩ := zbind H
  refine z_put (pc := 5) dX8_go_5 fd_X8_49 rfl rfl eh2 ?_
  refine z_aload_n (pc := 8) 0 dX8_go_8 rfl rfl ?_
  refine z_aload_n (pc := 9) 1 dX8_go_9 rfl rfl ?_
  obtain ⟨x3, ex3, H⟩ := zbind H
  refine z_getI (pc := 10) dX8_go_10 fd_X8_50 ex3 ?_
  obtain ⟨h4, eh4, H⟩ := zbind H
  refine z_put (pc := 13) dX8_go_13 fd_X8_53 rfl rfl eh4 ?_
  refine z_aload_n (pc := 16) 0 dX8_go_16 rfl rfl ?_
  refine z_iload_n (pc := 17) 2 dX8_go_17 rfl rfl ?_
  obtain ⟨h5, eh5, H⟩ := zbind H
  refine z_put (pc := 18) dX8_go_18 fd_X8_33 rfl rfl eh5 ?_
  refine z_aload_n (pc := 21) 0 dX8_go_21 rfl rfl ?_
  refine z_iconst (pc := 22) (x := 0) dX8_go_22 zc_iconst_0 ?_
  obtain ⟨h6, eh6, H⟩ := zbind H
  refine z_put (pc := 23) dX8_go_23 fd_X8_54 rfl rfl eh6 ?_
  refine z_aload_n (pc := 26) 0 dX8_go_26 rfl rfl ?_
  refine z_iconst (pc := 27) (x := (-1)) dX8_go_27 zc_iconst_m1 ?_
  obtain ⟨h7, eh7, H⟩ := zbind H
  refine z_put (pc := 28) dX8_go_28 fd_X8_25 rfl rfl eh7 ?_
  refine z_aload_n (pc := 31) 0 dX8_go_31 rfl rfl ?_
  refine z_iconst (pc := 32) (x := (-1)) dX8_go_32 zc_iconst_m1 ?_
  obtain ⟨h8, eh8, H⟩ := zbind H
  refine z_put (pc := 33) dX8_go_33 fd_X8_29 rfl rfl eh8 ?_
  refine z_aload_n (pc := 36) 0 dX8_go_36 rfl rfl ?_
  refine z_iconst (pc := 37) (x := (-1)) dX8_go_37 zc_iconst_m1 ?_
  obtain ⟨h9, eh9, H⟩ := zbind H
  refine z_put (pc := 38) dX8_go_38 fd_X8_21 rfl rfl eh9 ?_
  refine z_iconst (pc := 41) (x := 0) dX8_go_41 zc_iconst_0 ?_
  refine z_istore (pc := 42) (lv' := [(4, .int 0), (0, .ref v0), (1, .ref v1), (2, .int v2), (3, .int v3)]) dX8_go_42 (by decide) rfl ?_
  obtain ⟨m15, em15, H⟩ := zbind H
  refine z_sub [1, 2, 4, 0] rfl (s_X8_go_L44 (by omega) N 0 h9 _ em15 ?_)
  refine z_aload_n (pc := 69) 0 dX8_go_69 rfl rfl ?_
  refine z_aload_n (pc := 70) 0 dX8_go_70 rfl rfl ?_
  refine z_aload_n (pc := 71) 1 dX8_go_71 rfl rfl ?_
  obtain ⟨z16, H⟩ := zifE H
  obtain ⟨q17, eq17, H⟩ := zbind H
  refine z_callV (pc := 72) (mc := 0) (ms := 0) (d' := 0) (mc' := 0) (ms' := 0) (rest := [.ref v0]) [.ref v1] dX8_go_72 md_X8_sees ml_X8_61 im_X8_sees se_X8_sees rfl z16 rfl rfl (Nat.le_of_ble_eq_true rfl) (by omega) (k_X8_sees eq17) ?_
  obtain ⟨z18, H⟩ := zifE H
  obtain ⟨h19, eh19, H⟩ := zbind H
  refine z_callV (pc := 75) (mc := 0) (ms := 0) (d' := 0) (mc' := 0) (ms' := 0) (rest := []) [.int q17] dX8_go_75 md_X8_notice ml_X8_65 im_X8_notice se_X8_notice rfl z18 rfl rfl (Nat.le_of_ble_eq_true rfl) (by omega) (k_X8_notice eh19) ?_
  cases H
  exact z_return rfl dX8_go_78

theorem fd_X8_9 : zFd RX8 9 6 1 (.int) true "WhoseStreet$Meeting" := zFd.of cl_6 (by decide) (zmem 566 (by decide +kernel) rfl) rfl rfl rfl
theorem md_X8_go : zMd yX8_go cX8_go 5 3 none := ⟨zmw (zmt_3 _ (List.mem_of_getElem? (i := 47) rfl)) rfl, zmem 113 (by decide +kernel) rfl, by decide, by decide, by decide +kernel, by decide⟩
theorem ml_X8_17 : Cond.methodLink RX8 17 yX8_go ∈ zB := zmem 635 (by decide +kernel) rfl
theorem im_X8_go : Cond.instanceMethod yX8_go ∈ zB := zmem 636 (by decide +kernel) rfl
theorem se_X8_go : Cond.selects yX8_go.cls yX8_go yX8_go ∈ zB := zmem 637 (by decide +kernel) rfl
theorem fd_X8_24 : zFd RX8 24 6 11 (.int) false "WhoseStreet$Meeting" := zFd.of cl_6 (by decide) (zmem 588 (by decide +kernel) rfl) rfl rfl rfl
theorem fd_X8_28 : zFd RX8 28 6 12 (.int) false "WhoseStreet$Meeting" := zFd.of cl_6 (by decide) (zmem 590 (by decide +kernel) rfl) rfl rfl rfl
theorem fd_X8_32 : zFd RX8 32 6 13 (.int) false "WhoseStreet$Meeting" := zFd.of cl_6 (by decide) (zmem 593 (by decide +kernel) rfl) rfl rfl rfl
theorem fd_X8_36 : zFd RX8 36 6 14 (.int) false "WhoseStreet$Meeting" := zFd.of cl_6 (by decide) (zmem 595 (by decide +kernel) rfl) rfl rfl rfl
theorem fd_X8_39 : zFd RX8 39 6 15 (.int) false "WhoseStreet$Meeting" := zFd.of cl_6 (by decide) (zmem 597 (by decide +kernel) rfl) rfl rfl rfl
def f_X8_settle (N : Nat) (v0 : Nat) (v1 : Nat) (h : zH) : Option (zH) := (gI h v1 6 1).bind fun x1 => zif (zob h v0 8) <| (f_X8_go N v0 v1 x1 60 h).bind fun h3 => (gI h3 v0 8 6).bind fun x4 => (pF h3 v1 6 11 (.int x4)).bind fun h5 => (gI h5 v0 8 4).bind fun x6 => (pF h5 v1 6 12 (.int x6)).bind fun h7 => (gI h7 v0 8 5).bind fun x8 => (pF h7 v1 6 13 (.int x8)).bind fun h9 => (gI h9 v0 8 6).bind fun x10 => if x10 = (-1) then ((pF h9 v1 6 14 (.int (-1))).bind fun h15 => (pF h15 v1 6 15 (.int (-1))).bind fun h16 => some h16) else ((gI h9 v0 8 2).bind fun x12 => (pF h9 v1 6 14 (.int x12)).bind fun h13 => (pF h13 v1 6 15 (.int (-1))).bind fun h14 => some h14)
set_option maxRecDepth 100000 in
set_option maxHeartbeats 4000000 in
theorem k_X8_settle {N : Nat} {v0 : Nat} {v1 : Nat} {h : zH} {r : zH} (H : f_X8_settle N v0 v1 h = some r) : zOk 4 0 0 yX8_settle cX8_settle 2 none [.ref v0, .ref v1] h none r := by
  refine zOk.of (by decide) (Nat.le_of_ble_eq_true rfl) ?_
  unfold f_X8_settle at H
  refine z_aload_n (pc := 0) 0 dX8_settle_0 rfl rfl ?_
  refine z_aload_n (pc := 1) 1 dX8_settle_1 rfl rfl ?_
  refine z_aload_n (pc := 2) 1 dX8_settle_2 rfl rfl ?_
  obtain ⟨x1, ex1, H⟩ := zbind H
  refine z_getI (pc := 3) dX8_settle_3 fd_X8_9 ex1 ?_
  refine z_bipush (pc := 6) (x := 60) dX8_settle_6 zc_bipush_60 ?_
  obtain ⟨z2, H⟩ := zifE H
  obtain ⟨h3, eh3, H⟩ := zbind H
  refine z_callV (pc := 8) (mc := 0) (ms := 0) (d' := 3) (mc' := 0) (ms' := 0) (rest := []) [.ref v1, .int x1, .int 60] dX8_settle_8 md_X8_go ml_X8_17 im_X8_go se_X8_go rfl z2 rfl rfl (Nat.le_of_ble_eq_true rfl) (by omega) (k_X8_go eh3) ?_
  refine z_aload_n (pc := 11) 1 dX8_settle_11 rfl rfl ?_
  refine z_aload_n (pc := 12) 0 dX8_settle_12 rfl rfl ?_
  obtain ⟨x4, ex4, H⟩ := zbind H
  refine z_getI (pc := 13) dX8_settle_13 fd_X8_21 ex4 ?_
  obtain ⟨h5, eh5, H⟩ := zbind H
  refine z_put (pc := 16) dX8_settle_16 fd_X8_24 rfl rfl eh5 ?_
  refine z_aload_n (pc := 19) 1 dX8_settle_19 rfl rfl ?_
  refine z_aload_n (pc := 20) 0 dX8_settle_20 rfl rfl ?_
  obtain ⟨x6, ex6, H⟩ := zbind H
  refine z_getI (pc := 21) dX8_settle_21 fd_X8_25 ex6 ?_
  obtain ⟨h7, eh7, H⟩ := zbind H
  refine z_put (pc := 24) dX8_settle_24 fd_X8_28 rfl rfl eh7 ?_
  refine z_aload_n (pc := 27) 1 dX8_settle_27 rfl rfl ?_
  refine z_aload_n (pc := 28) 0 dX8_settle_28 rfl rfl ?_
  obtain ⟨x8, ex8, H⟩ := zbind H
  refine z_getI (pc := 29) dX8_settle_29 fd_X8_29 ex8 ?_
  obtain ⟨h9, eh9, H⟩ := zbind H
  refine z_put (pc := 32) dX8_settle_32 fd_X8_32 rfl rfl eh9 ?_
  refine z_aload_n (pc := 35) 1 dX8_settle_35 rfl rfl ?_
  refine z_aload_n (pc := 36) 0 dX8_settle_36 rfl rfl ?_
  obtain ⟨x10, ex10, H⟩ := zbind H
  refine z_getI (pc := 37) dX8_settle_37 fd_X8_21 ex10 ?_
  refine z_iconst (pc := 40) (x := (-1)) dX8_settle_40 zc_iconst_m1 ?_
  refine z_icmp_ne (pc := 41) 48 dX8_settle_41 (by decide) (fun c11 => ?_) (fun c11 => ?_)
  · rw [if_neg c11] at H
    refine z_aload_n (pc := 48) 0 dX8_settle_48 rfl rfl ?_
    obtain ⟨x12, ex12, H⟩ := zbind H
    refine z_getI (pc := 49) dX8_settle_49 fd_X8_33 ex12 ?_
    obtain ⟨h13, eh13, H⟩ := zbind H
    refine z_put (pc := 52) dX8_settle_52 fd_X8_36 rfl rfl eh13 ?_
    refine z_aload_n (pc := 55) 1 dX8_settle_55 rfl rfl ?_
    refine z_iconst (pc := 56) (x := (-1)) dX8_settle_56 zc_iconst_m1 ?_
    obtain ⟨h14, eh14, H⟩ := zbind H
    refine z_put (pc := 57) dX8_settle_57 fd_X8_39 rfl rfl eh14 ?_
    cases H
    exact z_return rfl dX8_settle_60
  · rw [if_pos c11] at H
    refine z_iconst (pc := 44) (x := (-1)) dX8_settle_44 zc_iconst_m1 ?_
    refine z_goto (pc := 45) 52 dX8_settle_45 (by decide) ?_
    obtain ⟨h15, eh15, H⟩ := zbind H
    refine z_put (pc := 52) dX8_settle_52 fd_X8_36 rfl rfl eh15 ?_
    refine z_aload_n (pc := 55) 1 dX8_settle_55 rfl rfl ?_
    refine z_iconst (pc := 56) (x := (-1)) dX8_settle_56 zc_iconst_m1 ?_
    obtain ⟨h16, eh16, H⟩ := zbind H
    refine z_put (pc := 57) dX8_settle_57 fd_X8_39 rfl rfl eh16 ?_
    cases H
    exact z_return rfl dX8_settle_60

def f_X8_findSafeSpeed_L5 (N : Nat) (v0 : Nat) (v1 : Nat) : Nat → Int32 → zH → Option ((zH) ⊕ (Int32 × zH))
  | 0, _, _ => none
  | n + 1, v2, h => if v2 ≤ 0 then (some (.inl h)) else (zif (zob h v0 8) <| (f_X8_go N v0 v1 v2 60 h).bind fun h4 => (gI h4 v0 8 6).bind fun x5 => if x5 = (-1) then (some (.inr (v2, h4))) else (f_X8_findSafeSpeed_L5 N v0 v1 n (v2 + (-1)) h4))
set_option maxRecDepth 100000 in
set_option maxHeartbeats 4000000 in
theorem s_X8_findSafeSpeed_L5 {d mc ms N : Nat} {vv : Option Value} {hh : zH} {v0 : Nat} {v1 : Nat} (hd0 : 4 ≤ d) : ∀ (n : Nat) (v2 : Int32) (h : zH) (m : (zH) ⊕ (Int32 × zH)), f_X8_findSafeSpeed_L5 N v0 v1 n v2 h = some m → (∀ s, m = .inl s → zW yX8_findSafeSpeed cX8_findSafeSpeed 3 (some .int) d mc ms 33 [] [] s vv hh) → (∀ r, m = .inr r → vv = (some (.int r.1)) ∧ hh = r.2) → zW yX8_findSafeSpeed cX8_findSafeSpeed 3 (some .int) d mc ms 5 [(0, .ref v0), (1, .ref v1), (2, .int v2)] [] h vv hh := by
  intro n
  induction n with
  | zero =>
    intro v2 h m H
    cases H
  | succ n ih =>
    intro v2 h m H KE KR
    unfold f_X8_findSafeSpeed_L5 at H
    refine z_iload_n (pc := 5) 2 dX8_findSafeSpeed_5 rfl rfl ?_
    refine z_if_le (pc := 6) 33 dX8_findSafeSpeed_6 (by decide) (fun c2 => ?_) (fun c2 => ?_)
    · rw [if_pos c2] at H
      cases H
      exact z_sub [] rfl (KE _ rfl)
    · rw [if_neg c2] at H
      refine z_aload_n (pc := 9) 0 dX8_findSafeSpeed_9 rfl rfl ?_
      refine z_aload_n (pc := 10) 1 dX8_findSafeSpeed_10 rfl rfl ?_
      refine z_iload_n (pc := 11) 2 dX8_findSafeSpeed_11 rfl rfl ?_
      refine z_bipush (pc := 12) (x := 60) dX8_findSafeSpeed_12 zc_bipush_60 ?_
      obtain ⟨z3, H⟩ := zifE H
      obtain ⟨h4, eh4, H⟩ := zbind H
      refine z_callV (pc := 14) (mc := mc) (ms := ms) (d' := 3) (mc' := 0) (ms' := 0) (rest := []) [.ref v1, .int v2, .int 60] dX8_findSafeSpeed_14 md_X8_go ml_X8_17 im_X8_go se_X8_go rfl z3 rfl rfl (Nat.le_of_ble_eq_true rfl) (by omega) (k_X8_go eh4) ?_
      refine z_aload_n (pc := 17) 0 dX8_findSafeSpeed_17 rfl rfl ?_
      obtain ⟨x5, ex5, H⟩ := zbind H
      refine z_getI (pc := 18) dX8_findSafeSpeed_18 fd_X8_21 ex5 ?_
      refine z_iconst (pc := 21) (x := (-1)) dX8_findSafeSpeed_21 zc_iconst_m1 ?_
      refine z_icmp_ne (pc := 22) 27 dX8_findSafeSpeed_22 (by decide) (fun c6 => ?_) (fun c6 => ?_)
      · rw [if_neg c6] at H
        refine z_iinc (pc := 27) (x' := v2 + (-1)) (lv' := [(2, .int (v2 + (-1))), (0, .ref v0), (1, .ref v1)]) 2 dX8_findSafeSpeed_27 rfl (by rfl) (by decide) rfl ?_
        refine z_goto (pc := 30) 5 dX8_findSafeSpeed_30 (by decide) ?_
        exact z_sub [1, 2, 0] rfl (ih (v2 + (-1)) h4 _ H KE KR)
      · rw [if_pos c6] at H
        refine z_iload_n (pc := 25) 2 dX8_findSafeSpeed_25 rfl rfl ?_
        cases H
        obtain ⟨e8, e9⟩ := KR _ rfl
        subst e8
        subst e9
        exact z_ireturn rfl dX8_findSafeSpeed_26
def f_X8_findSafeSpeed (N : Nat) (v0 : Nat) (v1 : Nat) (h : zH) : Option (Int32 × zH) := (gI h v1 6 1).bind fun x1 => (f_X8_findSafeSpeed_L5 N v0 v1 N x1 h).bind fun m7 => zsum m7 fun s8 => some (0, s8)
set_option maxRecDepth 100000 in
set_option maxHeartbeats 4000000 in
theorem k_X8_findSafeSpeed {N : Nat} {v0 : Nat} {v1 : Nat} {h : zH} {r : Int32 × zH} (H : f_X8_findSafeSpeed N v0 v1 h = some r) : zOk 4 0 0 yX8_findSafeSpeed cX8_findSafeSpeed 3 (some .int) [.ref v0, .ref v1] h (some (.int r.1)) r.2 := by
  refine zOk.of (by decide) (Nat.le_of_ble_eq_true rfl) ?_
  unfold f_X8_findSafeSpeed at H
  refine z_aload_n (pc := 0) 1 dX8_findSafeSpeed_0 rfl rfl ?_
  obtain ⟨x1, ex1, H⟩ := zbind H
  refine z_getI (pc := 1) dX8_findSafeSpeed_1 fd_X8_9 ex1 ?_
  refine z_istore_n (pc := 4) (lv' := [(2, .int x1), (0, .ref v0), (1, .ref v1)]) dX8_findSafeSpeed_4 rfl (by decide) rfl ?_
  obtain ⟨m7, em7, H⟩ := zbind H
  refine z_sub [1, 2, 0] rfl (s_X8_findSafeSpeed_L5 (by omega) N x1 h _ em7 ?_ ?_)
  · intro s8 e9
    subst e9
    have H := zsumL H
    refine z_iconst (pc := 33) (x := 0) dX8_findSafeSpeed_33 zc_iconst_0 ?_
    cases H
    exact z_ireturn rfl dX8_findSafeSpeed_34
  · intro r e9
    subst e9
    have H := zsumR H
    cases H
    exact ⟨rfl, rfl⟩

theorem md_X8_findSafeSpeed : zMd yX8_findSafeSpeed cX8_findSafeSpeed 3 1 (some .int) := ⟨zmw (zmt_3 _ (List.mem_of_getElem? (i := 92) rfl)) rfl, zmem 113 (by decide +kernel) rfl, by decide, by decide, by decide +kernel, by decide⟩
theorem ml_X8_42 : Cond.methodLink RX8 42 yX8_findSafeSpeed ∈ zB := zmem 680 (by decide +kernel) rfl
theorem im_X8_findSafeSpeed : Cond.instanceMethod yX8_findSafeSpeed ∈ zB := zmem 682 (by decide +kernel) rfl
theorem se_X8_findSafeSpeed : Cond.selects yX8_findSafeSpeed.cls yX8_findSafeSpeed yX8_findSafeSpeed ∈ zB := zmem 5 (by decide +kernel) rfl
def f_X8_safeSpeed (N : Nat) (v0 : Nat) (v1 : Nat) (h : zH) : Option (Int32 × zH) := (gI h v1 6 15).bind fun x1 => if x1 = (-1) then (zif (zob h v0 8) <| (f_X8_findSafeSpeed N v0 v1 h).bind fun q5 => (pF q5.2 v1 6 15 (.int q5.1)).bind fun h6 => (gI h6 v1 6 15).bind fun x7 => some (x7, h6)) else ((gI h v1 6 15).bind fun x3 => some (x3, h))
set_option maxRecDepth 100000 in
set_option maxHeartbeats 4000000 in
theorem k_X8_safeSpeed {N : Nat} {v0 : Nat} {v1 : Nat} {h : zH} {r : Int32 × zH} (H : f_X8_safeSpeed N v0 v1 h = some r) : zOk 5 0 0 yX8_safeSpeed cX8_safeSpeed 2 (some .int) [.ref v0, .ref v1] h (some (.int r.1)) r.2 := by
  refine zOk.of (by decide) (Nat.le_of_ble_eq_true rfl) ?_
  unfold f_X8_safeSpeed at H
  refine z_aload_n (pc := 0) 1 dX8_safeSpeed_0 rfl rfl ?_
  obtain ⟨x1, ex1, H⟩ := zbind H
  refine z_getI (pc := 1) dX8_safeSpeed_1 fd_X8_39 ex1 ?_
  refine z_iconst (pc := 4) (x := (-1)) dX8_safeSpeed_4 zc_iconst_m1 ?_
  refine z_icmp_ne (pc := 5) 17 dX8_safeSpeed_5 (by decide) (fun c2 => ?_) (fun c2 => ?_)
  · rw [if_neg c2] at H
    refine z_aload_n (pc := 17) 1 dX8_safeSpeed_17 rfl rfl ?_
    obtain ⟨x3, ex3, H⟩ := zbind H
    refine z_getI (pc := 18) dX8_safeSpeed_18 fd_X8_39 ex3 ?_
    cases H
    exact z_ireturn rfl dX8_safeSpeed_21
  · rw [if_pos c2] at H
    refine z_aload_n (pc := 8) 1 dX8_safeSpeed_8 rfl rfl ?_
    refine z_aload_n (pc := 9) 0 dX8_safeSpeed_9 rfl rfl ?_
    refine z_aload_n (pc := 10) 1 dX8_safeSpeed_10 rfl rfl ?_
    obtain ⟨z4, H⟩ := zifE H
    obtain ⟨q5, eq5, H⟩ := zbind H
    refine z_callV (pc := 11) (mc := 0) (ms := 0) (d' := 4) (mc' := 0) (ms' := 0) (rest := [.ref v1]) [.ref v1] dX8_safeSpeed_11 md_X8_findSafeSpeed ml_X8_42 im_X8_findSafeSpeed se_X8_findSafeSpeed rfl z4 rfl rfl (Nat.le_of_ble_eq_true rfl) (by omega) (k_X8_findSafeSpeed eq5) ?_
    obtain ⟨h6, eh6, H⟩ := zbind H
    refine z_put (pc := 14) dX8_safeSpeed_14 fd_X8_39 rfl rfl eh6 ?_
    refine z_aload_n (pc := 17) 1 dX8_safeSpeed_17 rfl rfl ?_
    obtain ⟨x7, ex7, H⟩ := zbind H
    refine z_getI (pc := 18) dX8_safeSpeed_18 fd_X8_39 ex7 ?_
    cases H
    exact z_ireturn rfl dX8_safeSpeed_21

theorem zc_bipush_21 : (Int8.ofInt (21)).toInt32 = (21 : Int32) := by decide
theorem ml_X9_1 : Cond.methodLink RX9 1 objectInit ∈ zB := zmem 183 (by decide +kernel) rfl
theorem ac_byte : Cond.arrayClass (zaty 2) ∈ zB := zmem 267 (by decide +kernel) rfl
theorem ml_X9_19 : Cond.methodLink RX9 19 yJ0_length_8abf5 ∈ zB := zmem 185 (by decide +kernel) rfl
theorem md_J0_charAt_5068e : zMd yJ0_charAt_5068e cJ0_charAt_5068e 2 1 (some .char) := ⟨zmw (zmt_1 _ (List.mem_of_getElem? (i := 87) rfl)) rfl, zmem 115 (by decide +kernel) rfl, by decide, by decide, by decide +kernel, by decide⟩
theorem ml_X9_25 : Cond.methodLink RX9 25 yJ0_charAt_5068e ∈ zB := zmem 195 (by decide +kernel) rfl
theorem im_J0_charAt_5068e : Cond.instanceMethod yJ0_charAt_5068e ∈ zB := zmem 196 (by decide +kernel) rfl
theorem se_J0_charAt_5068e : Cond.selects "java/lang/String" yJ0_charAt_5068e yJ0_charAt_5068e ∈ zB := zmem 197 (by decide +kernel) rfl
def f_X9_init_L28 (N : Nat) (v0 : Nat) : Nat → Int32 → Int64 → Int32 → zH → Option (zH)
  | 0, _, _, _, _ => none
  | n + 1, v1, v2, v4, h => (gSv h (h.1.2 1)).bind fun r5 => (f_J0_length_8abf5 N (h.1.2 1) h).bind fun q6 => if q6 ≤ v4 then (some h) else ((gR h v0 9 1).bind fun r8 => (aN h r8).bind fun x9 => if x9 ≤ v1 then (some h) else ((gSv h (h.1.2 1)).bind fun r11 => (f_J0_charAt_5068e N (h.1.2 1) v4 h).bind fun q12 => if q12 = 32 then ((gR h v0 9 1).bind fun r15 => (sL h r15 v1 v2).bind fun h16 => f_X9_init_L28 N v0 n (v1 + 1) 0 (v4 + 1) h16) else (zlet (p_X9_withLetter v2 q12 : Int64) fun x14 => f_X9_init_L28 N v0 n v1 x14 (v4 + 1) h)))
set_option maxRecDepth 100000 in
set_option maxHeartbeats 4000000 in
theorem s_X9_init_L28 {d mc ms N : Nat} {vv : Option Value} {hh : zH} {v0 : Nat} (hd0 : 4 ≤ d) : ∀ (n : Nat) (v1 : Int32) (v2 : Int64) (v4 : Int32) (h : zH) (m : zH), f_X9_init_L28 N v0 n v1 v2 v4 h = some m → (zW yX9_init cX9_init 6 none d mc ms 91 [] [] m vv hh) → zW yX9_init cX9_init 6 none d mc ms 28 [(0, .ref v0), (1, .int v1), (2, .long v2), (4, .int v4)] [] h vv hh := by
  intro n
  induction n with
  | zero =>
    intro v1 v2 v4 h m H
    cases H
  | succ n ih =>
    intro v1 v2 v4 h m H KE
    unfold f_X9_init_L28 at H
    refine z_iload (pc := 28) 3 dX9_init_28 rfl ?_
    refine z_ldcS (pc := 30) (k := 1) dX9_init_30 (Or.inl ⟨rfl, rfl, rfl, rfl⟩) ?_
    obtain ⟨r5, er5, H⟩ := zbind H
    obtain ⟨q6, eq6, H⟩ := zbind H
    refine z_callT (pc := 32) (mc := mc) (ms := ms) (d' := 1) (mc' := 0) (ms' := 0) (rest := [.int v4]) [] dX9_init_32 md_J0_length_8abf5 ml_X9_19 im_J0_length_8abf5 se_J0_length_8abf5 er5 rfl rfl (Nat.le_of_ble_eq_true rfl) (by omega) (k_J0_length_8abf5 eq6) ?_
    refine z_icmp_ge (pc := 35) 91 dX9_init_35 (by decide) (fun c7 => ?_) (fun c7 => ?_)
    · rw [if_pos c7] at H
      cases H
      exact z_sub [] rfl (KE)
    · rw [if_neg c7] at H
      refine z_iload_n (pc := 38) 1 dX9_init_38 rfl rfl ?_
      refine z_aload_n (pc := 39) 0 dX9_init_39 rfl rfl ?_
      obtain ⟨r8, er8, H⟩ := zbind H
      refine z_getR (pc := 40) dX9_init_40 fd_X9_13 er8 ?_
      obtain ⟨x9, ex9, H⟩ := zbind H
      refine z_alen (pc := 43) dX9_init_43 ex9 ?_
      refine z_icmp_ge (pc := 44) 91 dX9_init_44 (by decide) (fun c10 => ?_) (fun c10 => ?_)
      · rw [if_pos c10] at H
        cases H
        exact z_sub [] rfl (KE)
      · rw [if_neg c10] at H
        refine z_ldcS (pc := 47) (k := 1) dX9_init_47 (Or.inl ⟨rfl, rfl, rfl, rfl⟩) ?_
        refine z_iload (pc := 49) 3 dX9_init_49 rfl ?_
        obtain ⟨r11, er11, H⟩ := zbind H
        obtain ⟨q12, eq12, H⟩ := zbind H
        refine z_callT (pc := 51) (mc := mc) (ms := ms) (d' := 3) (mc' := 0) (ms' := 0) (rest := []) [.int v4] dX9_init_51 md_J0_charAt_5068e ml_X9_25 im_J0_charAt_5068e se_J0_charAt_5068e er11 rfl rfl (Nat.le_of_ble_eq_true rfl) (by omega) (k_J0_charAt_5068e eq12) ?_
        refine z_istore (pc := 54) (lv' := [(5, .int q12), (0, .ref v0), (1, .int v1), (2, .long v2), (4, .int v4)]) dX9_init_54 (by decide) rfl ?_
        refine z_iload (pc := 56) 0 dX9_init_56 rfl ?_
        refine z_bipush (pc := 58) (x := 32) dX9_init_58 zc_bipush_32 ?_
        refine z_icmp_ne (pc := 60) 78 dX9_init_60 (by decide) (fun c13 => ?_) (fun c13 => ?_)
        · rw [if_neg c13] at H
          refine z_lload_n (pc := 78) 3 dX9_init_78 rfl rfl ?_
          refine z_iload (pc := 79) 0 dX9_init_79 rfl ?_
          refine z_callS (pc := 81) (mc := mc) (ms := ms) (d' := 0) (mc' := 0) (ms' := 0) (rest := []) [.long v2, .int q12] dX9_init_81 md_X9_withLetter ml_X9_29 sm_X9_withLetter rfl rfl (Nat.le_of_ble_eq_true rfl) (by omega) (k_X9_withLetter v2 q12 h _ rfl) ?_
          obtain ⟨x14, ex14, H⟩ := zletE H
          refine z_nmJ ex14 ?_
          refine z_lstore_n (pc := 84) (lv' := [(2, .long x14), (5, .int q12), (0, .ref v0), (1, .int v1), (4, .int v4)]) dX9_init_84 rfl (by decide) rfl ?_
          refine z_iinc (pc := 85) (x' := v4 + 1) (lv' := [(4, .int (v4 + 1)), (2, .long x14), (5, .int q12), (0, .ref v0), (1, .int v1)]) 4 dX9_init_85 rfl (by rfl) (by decide) rfl ?_
          refine z_goto (pc := 88) 28 dX9_init_88 (by decide) ?_
          exact z_sub [3, 4, 1, 0] rfl (ih v1 x14 (v4 + 1) h _ H KE)
        · rw [if_pos c13] at H
          refine z_aload_n (pc := 63) 1 dX9_init_63 rfl rfl ?_
          obtain ⟨r15, er15, H⟩ := zbind H
          refine z_getR (pc := 64) dX9_init_64 fd_X9_13 er15 ?_
          refine z_iload_n (pc := 67) 2 dX9_init_67 rfl rfl ?_
          refine z_lload_n (pc := 68) 3 dX9_init_68 rfl rfl ?_
          obtain ⟨h16, eh16, H⟩ := zbind H
          refine z_lastore (pc := 69) dX9_init_69 eh16 ?_
          refine z_iinc (pc := 70) (x' := v1 + 1) (lv' := [(1, .int (v1 + 1)), (5, .int q12), (0, .ref v0), (2, .long v2), (4, .int v4)]) 2 dX9_init_70 rfl (by rfl) (by decide) rfl ?_
          refine z_lconst (pc := 73) (x := 0) dX9_init_73 (by decide) ?_
          refine z_lstore_n (pc := 74) (lv' := [(2, .long 0), (1, .int (v1 + 1)), (5, .int q12), (0, .ref v0), (4, .int v4)]) dX9_init_74 rfl (by decide) rfl ?_
          refine z_goto (pc := 75) 85 dX9_init_75 (by decide) ?_
          refine z_iinc (pc := 85) (x' := v4 + 1) (lv' := [(4, .int (v4 + 1)), (2, .long 0), (1, .int (v1 + 1)), (5, .int q12), (0, .ref v0)]) 4 dX9_init_85 rfl (by rfl) (by decide) rfl ?_
          refine z_goto (pc := 88) 28 dX9_init_88 (by decide) ?_
          exact z_sub [4, 2, 1, 0] rfl (ih (v1 + 1) 0 (v4 + 1) h16 _ H KE)
def f_X9_init (N : Nat) (v0 : Nat) (h : zH) : Option (zH) := zlet (znew h (zblank 2 1000) : zH) fun h1 => (pF h1 v0 9 0 (.ref h.1.1)).bind fun h2 => zlet (znew h2 (zblank 1 21) : zH) fun h3 => (pF h3 v0 9 1 (.ref h2.1.1)).bind fun h4 => (f_X9_init_L28 N v0 N 0 0 0 h4).bind fun m17 => some m17
set_option maxRecDepth 100000 in
set_option maxHeartbeats 4000000 in
theorem k_X9_init {N : Nat} {v0 : Nat} {h : zH} {r : zH} (H : f_X9_init N v0 h = some r) : zOk 4 2 1021 yX9_init cX9_init 6 none [.ref v0] h none r := by
  refine zOk.of (by decide) (Nat.le_of_ble_eq_true rfl) ?_
  unfold f_X9_init at H
  refine z_aload_n (pc := 0) 0 dX9_init_0 rfl rfl ?_
  refine z_objInit (pc := 1) dX9_init_1 ml_X9_1 im_object cd_object (by omega) (Nat.le_of_ble_eq_true rfl) ?_
  refine z_aload_n (pc := 4) 0 dX9_init_4 rfl rfl ?_
  refine z_sipush (pc := 5) (x := 1000) dX9_init_5 zc_sipush_1000 ?_
  refine z_newarray (pc := 8) (mc := 1) (ms := 21) (N := 1000) 2 (by decide) dX9_init_8 rfl ac_byte (by decide) (by decide) (by decide) ?_
  obtain ⟨h1, eh1, H⟩ := zletE H
  refine z_nmH eh1 ?_
  obtain ⟨h2, eh2, H⟩ := zbind H
  refine z_putF (pc := 10) dX9_init_10 fd_X9_9 rfl rfl rfl eh2 ?_
  refine z_aload_n (pc := 13) 0 dX9_init_13 rfl rfl ?_
  refine z_bipush (pc := 14) (x := 21) dX9_init_14 zc_bipush_21 ?_
  refine z_newarray (pc := 16) (mc := 0) (ms := 0) (N := 21) 1 (by decide) dX9_init_16 rfl ac_long (by decide) (by decide) (by decide) ?_
  obtain ⟨h3, eh3, H⟩ := zletE H
  refine z_nmH eh3 ?_
  obtain ⟨h4, eh4, H⟩ := zbind H
  refine z_putF (pc := 18) dX9_init_18 fd_X9_13 rfl rfl rfl eh4 ?_
  refine z_iconst (pc := 21) (x := 0) dX9_init_21 zc_iconst_0 ?_
  refine z_istore_n (pc := 22) (lv' := [(1, .int 0), (0, .ref v0)]) dX9_init_22 rfl (by decide) rfl ?_
  refine z_lconst (pc := 23) (x := 0) dX9_init_23 (by decide) ?_
  refine z_lstore_n (pc := 24) (lv' := [(2, .long 0), (1, .int 0), (0, .ref v0)]) dX9_init_24 rfl (by decide) rfl ?_
  refine z_iconst (pc := 25) (x := 0) dX9_init_25 zc_iconst_0 ?_
  refine z_istore (pc := 26) (lv' := [(4, .int 0), (2, .long 0), (1, .int 0), (0, .ref v0)]) dX9_init_26 (by decide) rfl ?_
  obtain ⟨m17, em17, H⟩ := zbind H
  refine z_sub [3, 2, 1, 0] rfl (s_X9_init_L28 (by omega) N 0 0 0 h4 _ em17 ?_)
  cases H
  exact z_return rfl dX9_init_91

theorem zc_bipush_56 : (Int8.ofInt (56)).toInt32 = (56 : Int32) := by decide
theorem zc_bipush_126 : (Int8.ofInt (126)).toInt32 = (126 : Int32) := by decide
theorem ns_X9_33 : (RX9, 33, yX11_within, "WhoseStreet") ∈ zNs := by decide +kernel
def f_X9_put_L3 (N : Nat) (v0 : Nat) (v1 : Int64) : Nat → Int32 → zH → Option (zH)
  | 0, _, _ => none
  | n + 1, v3, h => if v3 < 0 then (some h) else (zlet ((((v1.toUInt64 >>> (v3.toInt64.toUInt64 &&& Int64.toUInt64 63)).toInt64).toInt32) &&& 255 : Int32) fun x2 => (if x2 = 10 then (some (.inl v3)) else (if (p_X11_within x2 32 126) = 0 then ((f_X9_put_L3 N v0 v1 n (v3 + (-8)) h).map .inr) else (some (.inl v3))) : Option ((Int32) ⊕ (zH))).bind fun m3 => zsum m3 fun s4 => (gI h v0 9 2).bind fun x8 => if 1000 ≤ x8 then (f_X9_put_L3 N v0 v1 n (s4 + (-8)) h) else ((gR h v0 9 0).bind fun r10 => (gI h v0 9 2).bind fun x11 => (sB h r10 x11 (x2.toInt8.toInt32)).bind fun h12 => (gI h12 v0 9 2).bind fun x13 => (pF h12 v0 9 2 (.int (x13 + 1))).bind fun h14 => f_X9_put_L3 N v0 v1 n (s4 + (-8)) h14))
set_option maxRecDepth 100000 in
set_option maxHeartbeats 4000000 in
theorem s_X9_put_L3 {d mc ms N : Nat} {vv : Option Value} {hh : zH} {v0 : Nat} {v1 : Int64} (hd0 : 1 ≤ d) : ∀ (n : Nat) (v3 : Int32) (h : zH) (m : zH), f_X9_put_L3 N v0 v1 n v3 h = some m → (zW yX9_put cX9_put 5 none d mc ms 74 [] [] m vv hh) → zW yX9_put cX9_put 5 none d mc ms 3 [(0, .ref v0), (1, .long v1), (3, .int v3)] [] h vv hh := by
  intro n
  induction n with
  | zero =>
    intro v3 h m H
    cases H
  | succ n ih =>
    intro v3 h m H KE
    unfold f_X9_put_L3 at H
    refine z_iload_n (pc := 3) 2 dX9_put_3 rfl rfl ?_
    refine z_if_lt (pc := 4) 74 dX9_put_4 (by decide) (fun c1 => ?_) (fun c1 => ?_)
    · rw [if_pos c1] at H
      cases H
      exact z_sub [] rfl (KE)
    · rw [if_neg c1] at H
      refine z_lload_n (pc := 7) 1 dX9_put_7 rfl rfl ?_
      refine z_iload_n (pc := 8) 2 dX9_put_8 rfl rfl ?_
      refine z_lushr (pc := 9) dX9_put_9 ?_
      refine z_l2i (pc := 10) dX9_put_10 ?_
      refine z_sipush (pc := 11) (x := 255) dX9_put_11 zc_sipush_255 ?_
      refine z_iand (pc := 14) dX9_put_14 ?_
      obtain ⟨x2, ex2, H⟩ := zletE H
      refine z_nmI ex2 ?_
      refine z_istore (pc := 15) (lv' := [(4, .int x2), (0, .ref v0), (1, .long v1), (3, .int v3)]) dX9_put_15 (by decide) rfl ?_
      refine z_iload (pc := 17) 0 dX9_put_17 rfl ?_
      refine z_bipush (pc := 19) (x := 10) dX9_put_19 zc_bipush_10 ?_
      obtain ⟨m3, em3, H⟩ := zbind H
      have Jm3 : ∀ s4, m3 = .inl s4 → zW yX9_put cX9_put 5 none d mc ms 36 [(0, .ref v0), (1, .long v1), (3, .int s4), (4, .int x2)] [] h vv hh := by
        intro s4 e9
        subst e9
        have H := zsumL H
        refine z_aload_n (pc := 36) 0 dX9_put_36 rfl rfl ?_
        obtain ⟨x8, ex8, H⟩ := zbind H
        refine z_getI (pc := 37) dX9_put_37 fd_X9_39 ex8 ?_
        refine z_sipush (pc := 40) (x := 1000) dX9_put_40 zc_sipush_1000 ?_
        refine z_icmp_ge (pc := 43) 68 dX9_put_43 (by decide) (fun c9 => ?_) (fun c9 => ?_)
        · rw [if_pos c9] at H
          refine z_iinc (pc := 68) (x' := s4 + (-8)) (lv' := [(3, .int (s4 + (-8))), (0, .ref v0), (1, .long v1), (4, .int x2)]) 2 dX9_put_68 rfl (by rfl) (by decide) rfl ?_
          refine z_goto (pc := 71) 3 dX9_put_71 (by decide) ?_
          exact z_sub [1, 2, 0] rfl (ih (s4 + (-8)) h _ H KE)
        · rw [if_neg c9] at H
          refine z_aload_n (pc := 46) 0 dX9_put_46 rfl rfl ?_
          obtain ⟨r10, er10, H⟩ := zbind H
          refine z_getR (pc := 47) dX9_put_47 fd_X9_9 er10 ?_
          refine z_aload_n (pc := 50) 0 dX9_put_50 rfl rfl ?_
          obtain ⟨x11, ex11, H⟩ := zbind H
          refine z_getI (pc := 51) dX9_put_51 fd_X9_39 ex11 ?_
          refine z_iload (pc := 54) 3 dX9_put_54 rfl ?_
          refine z_i2b (pc := 56) dX9_put_56 ?_
          obtain ⟨h12, eh12, H⟩ := zbind H
          refine z_bastore (pc := 57) dX9_put_57 eh12 ?_
          refine z_aload_n (pc := 58) 0 dX9_put_58 rfl rfl ?_
          refine z_dup (pc := 59) dX9_put_59 rfl ?_
          obtain ⟨x13, ex13, H⟩ := zbind H
          refine z_getI (pc := 60) dX9_put_60 fd_X9_39 ex13 ?_
          refine z_iconst (pc := 63) (x := 1) dX9_put_63 zc_iconst_1 ?_
          refine z_iadd (pc := 64) dX9_put_64 ?_
          obtain ⟨h14, eh14, H⟩ := zbind H
          refine z_put (pc := 65) dX9_put_65 fd_X9_39 rfl rfl eh14 ?_
          refine z_iinc (pc := 68) (x' := s4 + (-8)) (lv' := [(3, .int (s4 + (-8))), (0, .ref v0), (1, .long v1), (4, .int x2)]) 2 dX9_put_68 rfl (by rfl) (by decide) rfl ?_
          refine z_goto (pc := 71) 3 dX9_put_71 (by decide) ?_
          exact z_sub [1, 2, 0] rfl (ih (s4 + (-8)) h14 _ H KE)
      refine z_icmp_eq (pc := 21) 36 dX9_put_21 (by decide) (fun c5 => ?_) (fun c5 => ?_)
      · rw [if_pos c5] at em3
        cases em3
        exact z_sub [1, 2, 3, 0] rfl (Jm3 _ rfl)
      · rw [if_neg c5] at em3
        refine z_iload (pc := 24) 0 dX9_put_24 rfl ?_
        refine z_bipush (pc := 26) (x := 32) dX9_put_26 zc_bipush_32 ?_
        refine z_bipush (pc := 28) (x := 126) dX9_put_28 zc_bipush_126 ?_
        refine z_callSN (pc := 30) (mc := mc) (ms := ms) (d' := 0) (mc' := 0) (ms' := 0) (rest := []) [.int x2, .int 32, .int 126] dX9_put_30 md_X11_within ns_X9_33 sm_X11_within rfl rfl (Nat.le_of_ble_eq_true rfl) (by omega) (k_X11_within x2 32 126 h _ rfl) ?_
        refine z_if_eq (pc := 33) 68 dX9_put_33 (by decide) (fun c6 => ?_) (fun c6 => ?_)
        · rw [if_pos c6] at em3
          refine z_iinc (pc := 68) (x' := v3 + (-8)) (lv' := [(3, .int (v3 + (-8))), (4, .int x2), (0, .ref v0), (1, .long v1)]) 3 dX9_put_68 rfl (by rfl) (by decide) rfl ?_
          refine z_goto (pc := 71) 3 dX9_put_71 (by decide) ?_
          obtain ⟨o7, H9, e9⟩ := zmapR em3
          subst e9
          have H9 := H9.trans (zsumR H)
          exact z_sub [2, 3, 0] rfl (ih (v3 + (-8)) h _ H9 KE)
        · rw [if_neg c6] at em3
          cases em3
          exact z_sub [1, 2, 3, 0] rfl (Jm3 _ rfl)
def f_X9_put (N : Nat) (v0 : Nat) (v1 : Int64) (h : zH) : Option (zH) := (f_X9_put_L3 N v0 v1 N 56 h).bind fun m15 => some m15
set_option maxRecDepth 100000 in
set_option maxHeartbeats 4000000 in
theorem k_X9_put {N : Nat} {v0 : Nat} {v1 : Int64} {h : zH} {r : zH} (H : f_X9_put N v0 v1 h = some r) : zOk 1 0 0 yX9_put cX9_put 5 none [.ref v0, .long v1] h none r := by
  refine zOk.of (by decide) (Nat.le_of_ble_eq_true rfl) ?_
  unfold f_X9_put at H
  refine z_bipush (pc := 0) (x := 56) dX9_put_0 zc_bipush_56 ?_
  refine z_istore_n (pc := 2) (lv' := [(3, .int 56), (0, .ref v0), (1, .long v1)]) dX9_put_2 rfl (by decide) rfl ?_
  obtain ⟨m15, em15, H⟩ := zbind H
  refine z_sub [1, 2, 0] rfl (s_X9_put_L3 (by omega) N 56 h _ em15 ?_)
  cases H
  exact z_return rfl dX9_put_74

theorem zc_bipush_24 : (Int8.ofInt (24)).toInt32 = (24 : Int32) := by decide
theorem ml_X10_3 : Cond.methodLink RX10 3 objectInit ∈ zB := zmem 466 (by decide +kernel) rfl
theorem fd_X10_11 : zFd RX10 11 10 0 (.array .int) true "WhoseStreet$Town" := zFd.of cl_10 (by decide) (zmem 467 (by decide +kernel) rfl) rfl rfl rfl
theorem fd_X10_15 : zFd RX10 15 10 1 (.array .int) true "WhoseStreet$Town" := zFd.of cl_10 (by decide) (zmem 468 (by decide +kernel) rfl) rfl rfl rfl
theorem fd_X10_18 : zFd RX10 18 10 2 (.array .int) true "WhoseStreet$Town" := zFd.of cl_10 (by decide) (zmem 469 (by decide +kernel) rfl) rfl rfl rfl
theorem fd_X10_21 : zFd RX10 21 10 3 (.array .int) true "WhoseStreet$Town" := zFd.of cl_10 (by decide) (zmem 470 (by decide +kernel) rfl) rfl rfl rfl
theorem fd_X10_24 : zFd RX10 24 10 4 (.array .int) true "WhoseStreet$Town" := zFd.of cl_10 (by decide) (zmem 471 (by decide +kernel) rfl) rfl rfl rfl
theorem fd_X10_27 : zFd RX10 27 10 5 (.array .int) true "WhoseStreet$Town" := zFd.of cl_10 (by decide) (zmem 472 (by decide +kernel) rfl) rfl rfl rfl
theorem fd_X10_30 : zFd RX10 30 10 6 (.array .int) true "WhoseStreet$Town" := zFd.of cl_10 (by decide) (zmem 473 (by decide +kernel) rfl) rfl rfl rfl
theorem fd_X10_33 : zFd RX10 33 10 7 (.array .int) true "WhoseStreet$Town" := zFd.of cl_10 (by decide) (zmem 474 (by decide +kernel) rfl) rfl rfl rfl
theorem fd_X10_36 : zFd RX10 36 10 8 (.boolean) false "WhoseStreet$Town" := zFd.of cl_10 (by decide) (zmem 475 (by decide +kernel) rfl) rfl rfl rfl
def f_X10_init (N : Nat) (v0 : Nat) (h : zH) : Option (zH) := zlet (znew h (zblank 0 16) : zH) fun h1 => (pF h1 v0 10 0 (.ref h.1.1)).bind fun h2 => zlet (znew h2 (zblank 0 24) : zH) fun h3 => (pF h3 v0 10 1 (.ref h2.1.1)).bind fun h4 => zlet (znew h4 (zblank 0 8) : zH) fun h5 => (pF h5 v0 10 2 (.ref h4.1.1)).bind fun h6 => zlet (znew h6 (zblank 0 8) : zH) fun h7 => (pF h7 v0 10 3 (.ref h6.1.1)).bind fun h8 => zlet (znew h8 (zblank 0 256) : zH) fun h9 => (pF h9 v0 10 4 (.ref h8.1.1)).bind fun h10 => zlet (znew h10 (zblank 0 8) : zH) fun h11 => (pF h11 v0 10 5 (.ref h10.1.1)).bind fun h12 => zlet (znew h12 (zblank 0 9) : zH) fun h13 => (pF h13 v0 10 6 (.ref h12.1.1)).bind fun h14 => zlet (znew h14 (zblank 0 9) : zH) fun h15 => (pF h15 v0 10 7 (.ref h14.1.1)).bind fun h16 => (pZ h16 v0 10 8 1).bind fun h17 => some h17
set_option maxRecDepth 100000 in
set_option maxHeartbeats 4000000 in
theorem k_X10_init {N : Nat} {v0 : Nat} {h : zH} {r : zH} (H : f_X10_init N v0 h = some r) : zOk 1 8 338 yX10_init cX10_init 1 none [.ref v0] h none r := by
  refine zOk.of (by decide) (Nat.le_of_ble_eq_true rfl) ?_
  unfold f_X10_init at H
  refine z_aload_n (pc := 0) 0 dX10_init_0 rfl rfl ?_
  refine z_objInit (pc := 1) dX10_init_1 ml_X10_3 im_object cd_object (by omega) (Nat.le_of_ble_eq_true rfl) ?_
  refine z_aload_n (pc := 4) 0 dX10_init_4 rfl rfl ?_
  refine z_bipush (pc := 5) (x := 16) dX10_init_5 zc_bipush_16 ?_
  refine z_newarray (pc := 7) (mc := 7) (ms := 322) (N := 16) 0 (by decide) dX10_init_7 rfl ac_int (by decide) (by decide) (by decide) ?_
  obtain ⟨h1, eh1, H⟩ := zletE H
  refine z_nmH eh1 ?_
  obtain ⟨h2, eh2, H⟩ := zbind H
  refine z_putF (pc := 9) dX10_init_9 fd_X10_11 rfl rfl rfl eh2 ?_
  refine z_aload_n (pc := 12) 0 dX10_init_12 rfl rfl ?_
  refine z_bipush (pc := 13) (x := 24) dX10_init_13 zc_bipush_24 ?_
  refine z_newarray (pc := 15) (mc := 6) (ms := 298) (N := 24) 0 (by decide) dX10_init_15 rfl ac_int (by decide) (by decide) (by decide) ?_
  obtain ⟨h3, eh3, H⟩ := zletE H
  refine z_nmH eh3 ?_
  obtain ⟨h4, eh4, H⟩ := zbind H
  refine z_putF (pc := 17) dX10_init_17 fd_X10_15 rfl rfl rfl eh4 ?_
  refine z_aload_n (pc := 20) 0 dX10_init_20 rfl rfl ?_
  refine z_bipush (pc := 21) (x := 8) dX10_init_21 zc_bipush_8 ?_
  refine z_newarray (pc := 23) (mc := 5) (ms := 290) (N := 8) 0 (by decide) dX10_init_23 rfl ac_int (by decide) (by decide) (by decide) ?_
  obtain ⟨h5, eh5, H⟩ := zletE H
  refine z_nmH eh5 ?_
  obtain ⟨h6, eh6, H⟩ := zbind H
  refine z_putF (pc := 25) dX10_init_25 fd_X10_18 rfl rfl rfl eh6 ?_
  refine z_aload_n (pc := 28) 0 dX10_init_28 rfl rfl ?_
  refine z_bipush (pc := 29) (x := 8) dX10_init_29 zc_bipush_8 ?_
  refine z_newarray (pc := 31) (mc := 4) (ms := 282) (N := 8) 0 (by decide) dX10_init_31 rfl ac_int (by decide) (by decide) (by decide) ?_
  obtain ⟨h7, eh7, H⟩ := zletE H
  refine z_nmH eh7 ?_
  obtain ⟨h8, eh8, H⟩ := zbind H
  refine z_putF (pc := 33) dX10_init_33 fd_X10_21 rfl rfl rfl eh8 ?_
  refine z_aload_n (pc := 36) 0 dX10_init_36 rfl rfl ?_
  refine z_sipush (pc := 37) (x := 256) dX10_init_37 zc_sipush_256 ?_
  refine z_newarray (pc := 40) (mc := 3) (ms := 26) (N := 256) 0 (by decide) dX10_init_40 rfl ac_int (by decide) (by decide) (by decide) ?_
  obtain ⟨h9, eh9, H⟩ := zletE H
  refine z_nmH eh9 ?_
  obtain ⟨h10, eh10, H⟩ := zbind H
  refine z_putF (pc := 42) dX10_init_42 fd_X10_24 rfl rfl rfl eh10 ?_
  refine z_aload_n (pc := 45) 0 dX10_init_45 rfl rfl ?_
  refine z_bipush (pc := 46) (x := 8) dX10_init_46 zc_bipush_8 ?_
  refine z_newarray (pc := 48) (mc := 2) (ms := 18) (N := 8) 0 (by decide) dX10_init_48 rfl ac_int (by decide) (by decide) (by decide) ?_
  obtain ⟨h11, eh11, H⟩ := zletE H
  refine z_nmH eh11 ?_
  obtain ⟨h12, eh12, H⟩ := zbind H
  refine z_putF (pc := 50) dX10_init_50 fd_X10_27 rfl rfl rfl eh12 ?_
  refine z_aload_n (pc := 53) 0 dX10_init_53 rfl rfl ?_
  refine z_bipush (pc := 54) (x := 9) dX10_init_54 zc_bipush_9 ?_
  refine z_newarray (pc := 56) (mc := 1) (ms := 9) (N := 9) 0 (by decide) dX10_init_56 rfl ac_int (by decide) (by decide) (by decide) ?_
  obtain ⟨h13, eh13, H⟩ := zletE H
  refine z_nmH eh13 ?_
  obtain ⟨h14, eh14, H⟩ := zbind H
  refine z_putF (pc := 58) dX10_init_58 fd_X10_30 rfl rfl rfl eh14 ?_
  refine z_aload_n (pc := 61) 0 dX10_init_61 rfl rfl ?_
  refine z_bipush (pc := 62) (x := 9) dX10_init_62 zc_bipush_9 ?_
  refine z_newarray (pc := 64) (mc := 0) (ms := 0) (N := 9) 0 (by decide) dX10_init_64 rfl ac_int (by decide) (by decide) (by decide) ?_
  obtain ⟨h15, eh15, H⟩ := zletE H
  refine z_nmH eh15 ?_
  obtain ⟨h16, eh16, H⟩ := zbind H
  refine z_putF (pc := 66) dX10_init_66 fd_X10_33 rfl rfl rfl eh16 ?_
  refine z_aload_n (pc := 69) 0 dX10_init_69 rfl rfl ?_
  refine z_iconst (pc := 70) (x := 1) dX10_init_70 zc_iconst_1 ?_
  obtain ⟨h17, eh17, H⟩ := zbind H
  refine z_put (pc := 71) dX10_init_71 fd_X10_36 (pZ_n eh17) (pZ_f eh17) (pZ_p eh17) ?_
  cases H
  exact z_return rfl dX10_init_74

theorem ns_X10_40 : (RX10, 40, yX11_within, "WhoseStreet") ∈ zNs := by decide +kernel
theorem fd_X10_44 : zFd RX10 44 10 9 (.int) false "WhoseStreet$Town" := zFd.of cl_10 (by decide) (zmem 476 (by decide +kernel) rfl) rfl rfl rfl
def f_X10_lay (N : Nat) (v0 : Nat) (v1 : Int32) (v2 : Int32) (v3 : Int32) (h : zH) : Option (zH) := if (p_X11_within v1 0 7) = 0 then (some h) else ((gR h v0 10 0).bind fun r2 => (sI h r2 (v1 * 2) v2).bind fun h3 => (gR h3 v0 10 0).bind fun r4 => (sI h3 r4 ((v1 * 2) + 1) v3).bind fun h5 => (gI h5 v0 10 9).bind fun x6 => (pF h5 v0 10 9 (.int (x6 ||| (1 <<< (v1 &&& 31))))).bind fun h7 => (pZ h7 v0 10 8 1).bind fun h8 => some h8)
set_option maxRecDepth 100000 in
set_option maxHeartbeats 4000000 in
theorem k_X10_lay {N : Nat} {v0 : Nat} {v1 : Int32} {v2 : Int32} {v3 : Int32} {h : zH} {r : zH} (H : f_X10_lay N v0 v1 v2 v3 h = some r) : zOk 1 0 0 yX10_lay cX10_lay 4 none [.ref v0, .int v1, .int v2, .int v3] h none r := by
  refine zOk.of (by decide) (Nat.le_of_ble_eq_true rfl) ?_
  unfold f_X10_lay at H
  refine z_iload_n (pc := 0) 1 dX10_lay_0 rfl rfl ?_
  refine z_iconst (pc := 1) (x := 0) dX10_lay_1 zc_iconst_0 ?_
  refine z_bipush (pc := 2) (x := 7) dX10_lay_2 zc_bipush_7 ?_
  refine z_callSN (pc := 4) (mc := 0) (ms := 0) (d' := 0) (mc' := 0) (ms' := 0) (rest := []) [.int v1, .int 0, .int 7] dX10_lay_4 md_X11_within ns_X10_40 sm_X11_within rfl rfl (Nat.le_of_ble_eq_true rfl) (by omega) (k_X11_within v1 0 7 h _ rfl) ?_
  refine z_if_eq (pc := 7) 47 dX10_lay_7 (by decide) (fun c1 => ?_) (fun c1 => ?_)
  · rw [if_pos c1] at H
    cases H
    exact z_return rfl dX10_lay_47
  · rw [if_neg c1] at H
    refine z_aload_n (pc := 10) 0 dX10_lay_10 rfl rfl ?_
    obtain ⟨r2, er2, H⟩ := zbind H
    refine z_getR (pc := 11) dX10_lay_11 fd_X10_11 er2 ?_
    refine z_iload_n (pc := 14) 1 dX10_lay_14 rfl rfl ?_
    refine z_iconst (pc := 15) (x := 2) dX10_lay_15 zc_iconst_2 ?_
    refine z_imul (pc := 16) dX10_lay_16 ?_
    refine z_iload_n (pc := 17) 2 dX10_lay_17 rfl rfl ?_
    obtain ⟨h3, eh3, H⟩ := zbind H
    refine z_iastore (pc := 18) dX10_lay_18 eh3 ?_
    refine z_aload_n (pc := 19) 0 dX10_lay_19 rfl rfl ?_
    obtain ⟨r4, er4, H⟩ := zbind H
    refine z_getR (pc := 20) dX10_lay_20 fd_X10_11 er4 ?_
    refine z_iload_n (pc := 23) 1 dX10_lay_23 rfl rfl ?_
    refine z_iconst (pc := 24) (x := 2) dX10_lay_24 zc_iconst_2 ?_
    refine z_imul (pc := 25) dX10_lay_25 ?_
    refine z_iconst (pc := 26) (x := 1) dX10_lay_26 zc_iconst_1 ?_
    refine z_iadd (pc := 27) dX10_lay_27 ?_
    refine z_iload_n (pc := 28) 3 dX10_lay_28 rfl rfl ?_
    obtain ⟨h5, eh5, H⟩ := zbind H
    refine z_iastore (pc := 29) dX10_lay_29 eh5 ?_
    refine z_aload_n (pc := 30) 0 dX10_lay_30 rfl rfl ?_
    refine z_dup (pc := 31) dX10_lay_31 rfl ?_
    obtain ⟨x6, ex6, H⟩ := zbind H
    refine z_getI (pc := 32) dX10_lay_32 fd_X10_44 ex6 ?_
    refine z_iconst (pc := 35) (x := 1) dX10_lay_35 zc_iconst_1 ?_
    refine z_iload_n (pc := 36) 1 dX10_lay_36 rfl rfl ?_
    refine z_ishl (pc := 37) dX10_lay_37 ?_
    refine z_ior (pc := 38) dX10_lay_38 ?_
    obtain ⟨h7, eh7, H⟩ := zbind H
    refine z_put (pc := 39) dX10_lay_39 fd_X10_44 rfl rfl eh7 ?_
    refine z_aload_n (pc := 42) 0 dX10_lay_42 rfl rfl ?_
    refine z_iconst (pc := 43) (x := 1) dX10_lay_43 zc_iconst_1 ?_
    obtain ⟨h8, eh8, H⟩ := zbind H
    refine z_put (pc := 44) dX10_lay_44 fd_X10_36 (pZ_n eh8) (pZ_f eh8) (pZ_p eh8) ?_
    cases H
    exact z_return rfl dX10_lay_47

