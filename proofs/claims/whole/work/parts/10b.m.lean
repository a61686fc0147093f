theorem zc_bipush_9 : (Int8.ofInt (9)).toInt32 = (9 : Int32) := by decide
theorem md_X1_pop : zMd yX1_pop cX1_pop 1 0 (some .int) := ⟨zmem 952 (by decide +kernel) rfl, zmem 120 (by decide +kernel) rfl, by decide, by decide, by decide +kernel, by decide⟩
theorem ml_X1_87 : Cond.methodLink RX1 87 yX1_pop ∈ zB := zmem 949 (by decide +kernel) rfl
theorem im_X1_pop : Cond.instanceMethod yX1_pop ∈ zB := zmem 951 (by decide +kernel) rfl
theorem se_X1_pop : Cond.selects yX1_pop.cls yX1_pop yX1_pop ∈ zB := zmem 33 (by decide +kernel) rfl
theorem md_X1_push : zMd yX1_push cX1_push 2 1 none := ⟨zmem 956 (by decide +kernel) rfl, zmem 120 (by decide +kernel) rfl, by decide, by decide, by decide +kernel, by decide⟩
theorem ml_X1_80 : Cond.methodLink RX1 80 yX1_push ∈ zB := zmem 953 (by decide +kernel) rfl
theorem im_X1_push : Cond.instanceMethod yX1_push ∈ zB := zmem 955 (by decide +kernel) rfl
theorem se_X1_push : Cond.selects yX1_push.cls yX1_push yX1_push ∈ zB := zmem 34 (by decide +kernel) rfl
def f_X1_operate (N : Nat) (v0 : Nat) (v1 : Int32) (h : zH) : Option (zH) := zif (zob h v0 1) <| (f_X1_pop N v0 h).bind fun q2 => if v1 = 9 then ((if q2.1 = 0 then (some 1) else (some 0) : Option (Int32)).bind fun m36 => zif (zob q2.2 v0 1) <| (f_X1_push N v0 m36 q2.2).bind fun h39 => some h39) else (zif (zob q2.2 v0 1) <| (f_X1_pop N v0 q2.2).bind fun q5 => if v1 = 7 then ((if q5.1 = 0 then (some 0) else (if q2.1 = 0 then (some 0) else (some 1)) : Option (Int32)).bind fun m7 => zif (zob q5.2 v0 1) <| (f_X1_push N v0 m7 q5.2).bind fun h11 => some h11) else (if v1 = 8 then ((if q5.1 = 0 then (if q2.1 = 0 then (some 0) else (some 1)) else (some 1) : Option (Int32)).bind fun m13 => zif (zob q5.2 v0 1) <| (f_X1_push N v0 m13 q5.2).bind fun h17 => some h17) else (if v1 = 43 then (zif (zob q5.2 v0 1) <| (f_X1_push N v0 (q5.1 + q2.1) q5.2).bind fun h20 => some h20) else (if v1 = 45 then (zif (zob q5.2 v0 1) <| (f_X1_push N v0 (q5.1 - q2.1) q5.2).bind fun h23 => some h23) else (if v1 = 60 then ((if q2.1 ≤ q5.1 then (some 0) else (some 1) : Option (Int32)).bind fun m25 => zif (zob q5.2 v0 1) <| (f_X1_push N v0 m25 q5.2).bind fun h28 => some h28) else (if v1 = 61 then ((if q5.1 = q2.1 then (some 1) else (some 0) : Option (Int32)).bind fun m30 => zif (zob q5.2 v0 1) <| (f_X1_push N v0 m30 q5.2).bind fun h33 => some h33) else (zif (zob q5.2 v0 1) <| (f_X1_push N v0 (q5.1 * q2.1) q5.2).bind fun h35 => some h35)))))))
set_option maxRecDepth 100000 in
set_option maxHeartbeats 4000000 in
theorem k_X1_operate {N : Nat} {v0 : Nat} {v1 : Int32} {h : zH} {r : zH} (H : f_X1_operate N v0 v1 h = some r) : zOk 1 0 0 yX1_operate cX1_operate 4 none [.ref v0, .int v1] h none r := by
  refine zOk.of (by decide) (Nat.le_of_ble_eq_true rfl) ?_
  unfold f_X1_operate at H
  refine z_aload_n (pc := 0) 0 dX1_operate_0 rfl rfl ?_
  obtain ⟨z1, H⟩ := zifE H
  obtain ⟨q2, eq2, H⟩ := zbind H
  refine z_callV (pc := 1) (mc := 0) (ms := 0) (d' := 0) (mc' := 0) (ms' := 0) (rest := []) [] dX1_operate_1 md_X1_pop ml_X1_87 im_X1_pop se_X1_pop rfl z1 rfl rfl (Nat.le_of_ble_eq_true rfl) (by omega) (k_X1_pop eq2) ?_
  refine z_istore_n (pc := 4) (lv' := [(2, .int q2.1), (0, .ref v0), (1, .int v1)]) dX1_operate_4 rfl (by decide) rfl ?_
  refine z_iload_n (pc := 5) 2 dX1_operate_5 rfl rfl ?_
  refine z_bipush (pc := 6) (x := 9) dX1_operate_6 zc_bipush_9 ?_
  refine z_icmp_ne (pc := 8) 25 dX1_operate_8 (by decide) (fun c3 => ?_) (fun c3 => ?_)
  · rw [if_neg c3] at H
    refine z_aload_n (pc := 25) 1 dX1_operate_25 rfl rfl ?_
    obtain ⟨z4, H⟩ := zifE H
    obtain ⟨q5, eq5, H⟩ := zbind H
    refine z_callV (pc := 26) (mc := 0) (ms := 0) (d' := 0) (mc' := 0) (ms' := 0) (rest := []) [] dX1_operate_26 md_X1_pop ml_X1_87 im_X1_pop se_X1_pop rfl z4 rfl rfl (Nat.le_of_ble_eq_true rfl) (by omega) (k_X1_pop eq5) ?_
    refine z_istore_n (pc := 29) (lv' := [(3, .int q5.1), (2, .int q2.1), (0, .ref v0), (1, .int v1)]) dX1_operate_29 rfl (by decide) rfl ?_
    refine z_iload_n (pc := 30) 3 dX1_operate_30 rfl rfl ?_
    by_cases c6 : v1 = 7
    · rw [if_pos c6] at H
      refine z_lsw (pc := 31) (off := 57) 88 dX1_operate_31 (by decide) (by rw [c6]; decide) (by decide) ?_
      refine z_aload_n (pc := 88) 2 dX1_operate_88 rfl rfl ?_
      refine z_iload_n (pc := 89) 0 dX1_operate_89 rfl rfl ?_
      obtain ⟨m7, em7, H⟩ := zbind H
      have Jm7 : zW yX1_operate cX1_operate 4 none 1 0 0 102 [] [.int m7, .ref v0] q5.2 none r := by
        obtain ⟨z10, H⟩ := zifE H
        obtain ⟨h11, eh11, H⟩ := zbind H
        refine z_callV (pc := 102) (mc := 0) (ms := 0) (d' := 0) (mc' := 0) (ms' := 0) (rest := []) [.int m7] dX1_operate_102 md_X1_push ml_X1_80 im_X1_push se_X1_push rfl z10 rfl rfl (Nat.le_of_ble_eq_true rfl) (by omega) (k_X1_push eh11) ?_
        refine z_goto (pc := 105) 189 dX1_operate_105 (by decide) ?_
        cases H
        exact z_return rfl dX1_operate_189
      refine z_if_eq (pc := 90) 101 dX1_operate_90 (by decide) (fun c8 => ?_) (fun c8 => ?_)
      · rw [if_pos c8] at em7
        refine z_iconst (pc := 101) (x := 0) dX1_operate_101 zc_iconst_0 ?_
        cases em7
        exact z_sub [] rfl Jm7
      · rw [if_neg c8] at em7
        refine z_iload_n (pc := 93) 1 dX1_operate_93 rfl rfl ?_
        refine z_if_eq (pc := 94) 101 dX1_operate_94 (by decide) (fun c9 => ?_) (fun c9 => ?_)
        · rw [if_pos c9] at em7
          refine z_iconst (pc := 101) (x := 0) dX1_operate_101 zc_iconst_0 ?_
          cases em7
          exact z_sub [] rfl Jm7
        · rw [if_neg c9] at em7
          refine z_iconst (pc := 97) (x := 1) dX1_operate_97 zc_iconst_1 ?_
          refine z_goto (pc := 98) 102 dX1_operate_98 (by decide) ?_
          cases em7
          exact z_sub [] rfl Jm7
    rw [if_neg c6] at H
    by_cases c12 : v1 = 8
    · rw [if_pos c12] at H
      refine z_lsw (pc := 31) (off := 77) 108 dX1_operate_31 (by decide) (by rw [c12]; decide) (by decide) ?_
      refine z_aload_n (pc := 108) 2 dX1_operate_108 rfl rfl ?_
      refine z_iload_n (pc := 109) 0 dX1_operate_109 rfl rfl ?_
      obtain ⟨m13, em13, H⟩ := zbind H
      have Jm13 : zW yX1_operate cX1_operate 4 none 1 0 0 122 [] [.int m13, .ref v0] q5.2 none r := by
        obtain ⟨z16, H⟩ := zifE H
        obtain ⟨h17, eh17, H⟩ := zbind H
        refine z_callV (pc := 122) (mc := 0) (ms := 0) (d' := 0) (mc' := 0) (ms' := 0) (rest := []) [.int m13] dX1_operate_122 md_X1_push ml_X1_80 im_X1_push se_X1_push rfl z16 rfl rfl (Nat.le_of_ble_eq_true rfl) (by omega) (k_X1_push eh17) ?_
        refine z_goto (pc := 125) 189 dX1_operate_125 (by decide) ?_
        cases H
        exact z_return rfl dX1_operate_189
      refine z_if_ne (pc := 110) 117 dX1_operate_110 (by decide) (fun c14 => ?_) (fun c14 => ?_)
      · rw [if_neg c14] at em13
        refine z_iconst (pc := 117) (x := 1) dX1_operate_117 zc_iconst_1 ?_
        refine z_goto (pc := 118) 122 dX1_operate_118 (by decide) ?_
        cases em13
        exact z_sub [] rfl Jm13
      · rw [if_pos c14] at em13
        refine z_iload_n (pc := 113) 1 dX1_operate_113 rfl rfl ?_
        refine z_if_eq (pc := 114) 121 dX1_operate_114 (by decide) (fun c15 => ?_) (fun c15 => ?_)
        · rw [if_pos c15] at em13
          refine z_iconst (pc := 121) (x := 0) dX1_operate_121 zc_iconst_0 ?_
          cases em13
          exact z_sub [] rfl Jm13
        · rw [if_neg c15] at em13
          refine z_iconst (pc := 117) (x := 1) dX1_operate_117 zc_iconst_1 ?_
          refine z_goto (pc := 118) 122 dX1_operate_118 (by decide) ?_
          cases em13
          exact z_sub [] rfl Jm13
    rw [if_neg c12] at H
    by_cases c18 : v1 = 43
    · rw [if_pos c18] at H
      refine z_lsw (pc := 31) (off := 131) 162 dX1_operate_31 (by decide) (by rw [c18]; decide) (by decide) ?_
      refine z_aload_n (pc := 162) 2 dX1_operate_162 rfl rfl ?_
      refine z_iload_n (pc := 163) 0 dX1_operate_163 rfl rfl ?_
      refine z_iload_n (pc := 164) 1 dX1_operate_164 rfl rfl ?_
      refine z_iadd (pc := 165) dX1_operate_165 ?_
      obtain ⟨z19, H⟩ := zifE H
      obtain ⟨h20, eh20, H⟩ := zbind H
      refine z_callV (pc := 166) (mc := 0) (ms := 0) (d' := 0) (mc' := 0) (ms' := 0) (rest := []) [.int (q5.1 + q2.1)] dX1_operate_166 md_X1_push ml_X1_80 im_X1_push se_X1_push rfl z19 rfl rfl (Nat.le_of_ble_eq_true rfl) (by omega) (k_X1_push eh20) ?_
      refine z_goto (pc := 169) 189 dX1_operate_169 (by decide) ?_
      cases H
      exact z_return rfl dX1_operate_189
    rw [if_neg c18] at H
    by_cases c21 : v1 = 45
    · rw [if_pos c21] at H
      refine z_lsw (pc := 31) (off := 141) 172 dX1_operate_31 (by decide) (by rw [c21]; decide) (by decide) ?_
      refine z_aload_n (pc := 172) 2 dX1_operate_172 rfl rfl ?_
      refine z_iload_n (pc := 173) 0 dX1_operate_173 rfl rfl ?_
      refine z_iload_n (pc := 174) 1 dX1_operate_174 rfl rfl ?_
      refine z_isub (pc := 175) dX1_operate_175 ?_
      obtain ⟨z22, H⟩ := zifE H
      obtain ⟨h23, eh23, H⟩ := zbind H
      refine z_callV (pc := 176) (mc := 0) (ms := 0) (d' := 0) (mc' := 0) (ms' := 0) (rest := []) [.int (q5.1 - q2.1)] dX1_operate_176 md_X1_push ml_X1_80 im_X1_push se_X1_push rfl z22 rfl rfl (Nat.le_of_ble_eq_true rfl) (by omega) (k_X1_push eh23) ?_
      refine z_goto (pc := 179) 189 dX1_operate_179 (by decide) ?_
      cases H
      exact z_return rfl dX1_operate_189
    rw [if_neg c21] at H
    by_cases c24 : v1 = 60
    · rw [if_pos c24] at H
      refine z_lsw (pc := 31) (off := 97) 128 dX1_operate_31 (by decide) (by rw [c24]; decide) (by decide) ?_
      refine z_aload_n (pc := 128) 2 dX1_operate_128 rfl rfl ?_
      refine z_iload_n (pc := 129) 0 dX1_operate_129 rfl rfl ?_
      refine z_iload_n (pc := 130) 1 dX1_operate_130 rfl rfl ?_
      obtain ⟨m25, em25, H⟩ := zbind H
      have Jm25 : zW yX1_operate cX1_operate 4 none 1 0 0 139 [] [.int m25, .ref v0] q5.2 none r := by
        obtain ⟨z27, H⟩ := zifE H
        obtain ⟨h28, eh28, H⟩ := zbind H
        refine z_callV (pc := 139) (mc := 0) (ms := 0) (d' := 0) (mc' := 0) (ms' := 0) (rest := []) [.int m25] dX1_operate_139 md_X1_push ml_X1_80 im_X1_push se_X1_push rfl z27 rfl rfl (Nat.le_of_ble_eq_true rfl) (by omega) (k_X1_push eh28) ?_
        refine z_goto (pc := 142) 189 dX1_operate_142 (by decide) ?_
        cases H
        exact z_return rfl dX1_operate_189
      refine z_icmp_ge (pc := 131) 138 dX1_operate_131 (by decide) (fun c26 => ?_) (fun c26 => ?_)
      · rw [if_pos c26] at em25
        refine z_iconst (pc := 138) (x := 0) dX1_operate_138 zc_iconst_0 ?_
        cases em25
        exact z_sub [] rfl Jm25
      · rw [if_neg c26] at em25
        refine z_iconst (pc := 134) (x := 1) dX1_operate_134 zc_iconst_1 ?_
        refine z_goto (pc := 135) 139 dX1_operate_135 (by decide) ?_
        cases em25
        exact z_sub [] rfl Jm25
    rw [if_neg c24] at H
    by_cases c29 : v1 = 61
    · rw [if_pos c29] at H
      refine z_lsw (pc := 31) (off := 114) 145 dX1_operate_31 (by decide) (by rw [c29]; decide) (by decide) ?_
      refine z_aload_n (pc := 145) 2 dX1_operate_145 rfl rfl ?_
      refine z_iload_n (pc := 146) 0 dX1_operate_146 rfl rfl ?_
      refine z_iload_n (pc := 147) 1 dX1_operate_147 rfl rfl ?_
      obtain ⟨m30, em30, H⟩ := zbind H
      have Jm30 : zW yX1_operate cX1_operate 4 none 1 0 0 156 [] [.int m30, .ref v0] q5.2 none r := by
        obtain ⟨z32, H⟩ := zifE H
        obtain ⟨h33, eh33, H⟩ := zbind H
        refine z_callV (pc := 156) (mc := 0) (ms := 0) (d' := 0) (mc' := 0) (ms' := 0) (rest := []) [.int m30] dX1_operate_156 md_X1_push ml_X1_80 im_X1_push se_X1_push rfl z32 rfl rfl (Nat.le_of_ble_eq_true rfl) (by omega) (k_X1_push eh33) ?_
        refine z_goto (pc := 159) 189 dX1_operate_159 (by decide) ?_
        cases H
        exact z_return rfl dX1_operate_189
      refine z_icmp_ne (pc := 148) 155 dX1_operate_148 (by decide) (fun c31 => ?_) (fun c31 => ?_)
      · rw [if_neg c31] at em30
        refine z_iconst (pc := 155) (x := 0) dX1_operate_155 zc_iconst_0 ?_
        cases em30
        exact z_sub [] rfl Jm30
      · rw [if_pos c31] at em30
        refine z_iconst (pc := 151) (x := 1) dX1_operate_151 zc_iconst_1 ?_
        refine z_goto (pc := 152) 156 dX1_operate_152 (by decide) ?_
        cases em30
        exact z_sub [] rfl Jm30
    rw [if_neg c29] at H
    refine z_lsw (pc := 31) (off := 151) 182 dX1_operate_31 (by decide) (by show Op.lookupswitch.offset [(7, 57), (8, 77), (43, 131), (45, 141), (60, 97), (61, 114)] 151 v1.toInt = 151; rw [lv_osw c6 (by decide), lv_osw c12 (by decide), lv_osw c18 (by decide), lv_osw c21 (by decide), lv_osw c24 (by decide), lv_osw c29 (by decide)]; rfl) (by decide) ?_
    refine z_aload_n (pc := 182) 2 dX1_operate_182 rfl rfl ?_
    refine z_iload_n (pc := 183) 0 dX1_operate_183 rfl rfl ?_
    refine z_iload_n (pc := 184) 1 dX1_operate_184 rfl rfl ?_
    refine z_imul (pc := 185) dX1_operate_185 ?_
    obtain ⟨z34, H⟩ := zifE H
    obtain ⟨h35, eh35, H⟩ := zbind H
    refine z_callV (pc := 186) (mc := 0) (ms := 0) (d' := 0) (mc' := 0) (ms' := 0) (rest := []) [.int (q5.1 * q2.1)] dX1_operate_186 md_X1_push ml_X1_80 im_X1_push se_X1_push rfl z34 rfl rfl (Nat.le_of_ble_eq_true rfl) (by omega) (k_X1_push eh35) ?_
    cases H
    exact z_return rfl dX1_operate_189
  · rw [if_pos c3] at H
    refine z_aload_n (pc := 11) 1 dX1_operate_11 rfl rfl ?_
    refine z_iload_n (pc := 12) 0 dX1_operate_12 rfl rfl ?_
    obtain ⟨m36, em36, H⟩ := zbind H
    have Jm36 : zW yX1_operate cX1_operate 4 none 1 0 0 21 [] [.int m36, .ref v0] q2.2 none r := by
      obtain ⟨z38, H⟩ := zifE H
      obtain ⟨h39, eh39, H⟩ := zbind H
      refine z_callV (pc := 21) (mc := 0) (ms := 0) (d' := 0) (mc' := 0) (ms' := 0) (rest := []) [.int m36] dX1_operate_21 md_X1_push ml_X1_80 im_X1_push se_X1_push rfl z38 rfl rfl (Nat.le_of_ble_eq_true rfl) (by omega) (k_X1_push eh39) ?_
      cases H
      exact z_return rfl dX1_operate_24
    refine z_if_ne (pc := 13) 20 dX1_operate_13 (by decide) (fun c37 => ?_) (fun c37 => ?_)
    · rw [if_neg c37] at em36
      refine z_iconst (pc := 20) (x := 0) dX1_operate_20 zc_iconst_0 ?_
      cases em36
      exact z_sub [] rfl Jm36
    · rw [if_pos c37] at em36
      refine z_iconst (pc := 16) (x := 1) dX1_operate_16 zc_iconst_1 ?_
      refine z_goto (pc := 17) 21 dX1_operate_17 (by decide) ?_
      cases em36
      exact z_sub [] rfl Jm36

theorem fd_X6_27 : zFd RX6 27 6 4 (.int) true "WhoseStreet$Meeting" := zFd.of cl_6 (by decide) (zmem 572 (by decide +kernel) rfl) rfl rfl rfl
def f_X6_fact (N : Nat) (v0 : Nat) (v1 : Int32) (h : zH) : Option (Int32) := if v1 = 10 then ((gI h v0 6 1).bind fun x2 => some x2) else (if v1 = 11 then ((gI h v0 6 4).bind fun x4 => some x4) else (if v1 = 12 then (zif (zob h v0 6) <| (f_X6_seen N v0 h).bind fun q7 => some q7) else (if v1 = 13 then ((gI h v0 6 11).bind fun x9 => if x9 = (-1) then (some 0) else (some 1)) else (if v1 = 14 then ((gI h v0 6 5).bind fun x12 => if x12 = 0 then (some 0) else (some 1)) else (if v1 = 15 then ((gI h v0 6 6).bind fun x15 => some x15) else (if v1 = 16 then ((gI h v0 6 9).bind fun x17 => some x17) else (if v1 = 17 then ((gI h v0 6 10).bind fun x19 => some x19) else (if v1 = 18 then ((gI h v0 6 7).bind fun x21 => if x21 = 0 then (some 0) else (some 1)) else (some 0)))))))))
set_option maxRecDepth 100000 in
set_option maxHeartbeats 4000000 in
theorem k_X6_fact {N : Nat} {v0 : Nat} {v1 : Int32} {h : zH} {r : Int32} (H : f_X6_fact N v0 v1 h = some r) : zOk 2 0 0 yX6_fact cX6_fact 2 (some .int) [.ref v0, .int v1] h (some (.int r)) h := by
  refine zOk.of (by decide) (Nat.le_of_ble_eq_true rfl) ?_
  unfold f_X6_fact at H
  refine z_iload_n (pc := 0) 1 dX6_fact_0 rfl rfl ?_
  by_cases c1 : v1 = 10
  · rw [if_pos c1] at H
    refine z_tswIn (pc := 1) (off := 51) 52 dX6_fact_1 (by rw [c1]; decide) (by rw [c1]; decide) (by rw [c1]; decide) (by decide) ?_
    refine z_aload_n (pc := 52) 0 dX6_fact_52 rfl rfl ?_
    obtain ⟨x2, ex2, H⟩ := zbind H
    refine z_getI (pc := 53) dX6_fact_53 fd_X6_18 ex2 ?_
    cases H
    exact z_ireturn rfl dX6_fact_56
  rw [if_neg c1] at H
  by_cases c3 : v1 = 11
  · rw [if_pos c3] at H
    refine z_tswIn (pc := 1) (off := 56) 57 dX6_fact_1 (by rw [c3]; decide) (by rw [c3]; decide) (by rw [c3]; decide) (by decide) ?_
    refine z_aload_n (pc := 57) 0 dX6_fact_57 rfl rfl ?_
    obtain ⟨x4, ex4, H⟩ := zbind H
    refine z_getI (pc := 58) dX6_fact_58 fd_X6_27 ex4 ?_
    cases H
    exact z_ireturn rfl dX6_fact_61
  rw [if_neg c3] at H
  by_cases c5 : v1 = 12
  · rw [if_pos c5] at H
    refine z_tswIn (pc := 1) (off := 61) 62 dX6_fact_1 (by rw [c5]; decide) (by rw [c5]; decide) (by rw [c5]; decide) (by decide) ?_
    refine z_aload_n (pc := 62) 0 dX6_fact_62 rfl rfl ?_
    obtain ⟨z6, H⟩ := zifE H
    obtain ⟨q7, eq7, H⟩ := zbind H
    refine z_callV (pc := 63) (mc := 0) (ms := 0) (d' := 1) (mc' := 0) (ms' := 0) (rest := []) [] dX6_fact_63 md_X6_seen ml_X6_53 im_X6_seen se_X6_seen rfl z6 rfl rfl (Nat.le_of_ble_eq_true rfl) (by omega) (k_X6_seen eq7) ?_
    cases H
    exact z_ireturn rfl dX6_fact_66
  rw [if_neg c5] at H
  by_cases c8 : v1 = 13
  · rw [if_pos c8] at H
    refine z_tswIn (pc := 1) (off := 66) 67 dX6_fact_1 (by rw [c8]; decide) (by rw [c8]; decide) (by rw [c8]; decide) (by decide) ?_
    refine z_aload_n (pc := 67) 0 dX6_fact_67 rfl rfl ?_
    obtain ⟨x9, ex9, H⟩ := zbind H
    refine z_getI (pc := 68) dX6_fact_68 fd_X6_37 ex9 ?_
    refine z_iconst (pc := 71) (x := (-1)) dX6_fact_71 zc_iconst_m1 ?_
    refine z_icmp_ne (pc := 72) 79 dX6_fact_72 (by decide) (fun c10 => ?_) (fun c10 => ?_)
    · rw [if_neg c10] at H
      refine z_iconst (pc := 79) (x := 1) dX6_fact_79 zc_iconst_1 ?_
      cases H
      exact z_ireturn rfl dX6_fact_80
    · rw [if_pos c10] at H
      refine z_iconst (pc := 75) (x := 0) dX6_fact_75 zc_iconst_0 ?_
      refine z_goto (pc := 76) 80 dX6_fact_76 (by decide) ?_
      cases H
      exact z_ireturn rfl dX6_fact_80
  rw [if_neg c8] at H
  by_cases c11 : v1 = 14
  · rw [if_pos c11] at H
    refine z_tswIn (pc := 1) (off := 80) 81 dX6_fact_1 (by rw [c11]; decide) (by rw [c11]; decide) (by rw [c11]; decide) (by decide) ?_
    refine z_aload_n (pc := 81) 0 dX6_fact_81 rfl rfl ?_
    obtain ⟨x12, ex12, H⟩ := zbind H
    refine z_getI (pc := 82) dX6_fact_82 fd_X6_30 ex12 ?_
    refine z_if_eq (pc := 85) 92 dX6_fact_85 (by decide) (fun c13 => ?_) (fun c13 => ?_)
    · rw [if_pos c13] at H
      refine z_iconst (pc := 92) (x := 0) dX6_fact_92 zc_iconst_0 ?_
      cases H
      exact z_ireturn rfl dX6_fact_93
    · rw [if_neg c13] at H
      refine z_iconst (pc := 88) (x := 1) dX6_fact_88 zc_iconst_1 ?_
      refine z_goto (pc := 89) 93 dX6_fact_89 (by decide) ?_
      cases H
      exact z_ireturn rfl dX6_fact_93
  rw [if_neg c11] at H
  by_cases c14 : v1 = 15
  · rw [if_pos c14] at H
    refine z_tswIn (pc := 1) (off := 93) 94 dX6_fact_1 (by rw [c14]; decide) (by rw [c14]; decide) (by rw [c14]; decide) (by decide) ?_
    refine z_aload_n (pc := 94) 0 dX6_fact_94 rfl rfl ?_
    obtain ⟨x15, ex15, H⟩ := zbind H
    refine z_getI (pc := 95) dX6_fact_95 fd_X6_34 ex15 ?_
    cases H
    exact z_ireturn rfl dX6_fact_98
  rw [if_neg c14] at H
  by_cases c16 : v1 = 16
  · rw [if_pos c16] at H
    refine z_tswIn (pc := 1) (off := 98) 99 dX6_fact_1 (by rw [c16]; decide) (by rw [c16]; decide) (by rw [c16]; decide) (by decide) ?_
    refine z_aload_n (pc := 99) 0 dX6_fact_99 rfl rfl ?_
    obtain ⟨x17, ex17, H⟩ := zbind H
    refine z_getI (pc := 100) dX6_fact_100 fd_X6_59 ex17 ?_
    cases H
    exact z_ireturn rfl dX6_fact_103
  rw [if_neg c16] at H
  by_cases c18 : v1 = 17
  · rw [if_pos c18] at H
    refine z_tswIn (pc := 1) (off := 103) 104 dX6_fact_1 (by rw [c18]; decide) (by rw [c18]; decide) (by rw [c18]; decide) (by decide) ?_
    refine z_aload_n (pc := 104) 0 dX6_fact_104 rfl rfl ?_
    obtain ⟨x19, ex19, H⟩ := zbind H
    refine z_getI (pc := 105) dX6_fact_105 fd_X6_9 ex19 ?_
    cases H
    exact z_ireturn rfl dX6_fact_108
  rw [if_neg c18] at H
  by_cases c20 : v1 = 18
  · rw [if_pos c20] at H
    refine z_tswIn (pc := 1) (off := 108) 109 dX6_fact_1 (by rw [c20]; decide) (by rw [c20]; decide) (by rw [c20]; decide) (by decide) ?_
    refine z_aload_n (pc := 109) 0 dX6_fact_109 rfl rfl ?_
    obtain ⟨x21, ex21, H⟩ := zbind H
    refine z_getI (pc := 110) dX6_fact_110 fd_X6_56 ex21 ?_
    refine z_if_ne (pc := 113) 120 dX6_fact_113 (by decide) (fun c22 => ?_) (fun c22 => ?_)
    · rw [if_neg c22] at H
      refine z_iconst (pc := 120) (x := 1) dX6_fact_120 zc_iconst_1 ?_
      cases H
      exact z_ireturn rfl dX6_fact_121
    · rw [if_pos c22] at H
      refine z_iconst (pc := 116) (x := 0) dX6_fact_116 zc_iconst_0 ?_
      refine z_goto (pc := 117) 121 dX6_fact_117 (by decide) ?_
      cases H
      exact z_ireturn rfl dX6_fact_121
  rw [if_neg c20] at H
  refine z_tswOut (pc := 1) 122 dX6_fact_1 (by have := lv_neT (a := 10) c1 (by decide); have := lv_neT (a := 11) c3 (by decide); have := lv_neT (a := 12) c5 (by decide); have := lv_neT (a := 13) c8 (by decide); have := lv_neT (a := 14) c11 (by decide); have := lv_neT (a := 15) c14 (by decide); have := lv_neT (a := 16) c16 (by decide); have := lv_neT (a := 17) c18 (by decide); have := lv_neT (a := 18) c20 (by decide); omega) (by decide) ?_
  refine z_iconst (pc := 122) (x := 0) dX6_fact_122 zc_iconst_0 ?_
  cases H
  exact z_ireturn rfl dX6_fact_123

theorem zc_bipush_19 : (Int8.ofInt (19)).toInt32 = (19 : Int32) := by decide
theorem zc_bipush_20 : (Int8.ofInt (20)).toInt32 = (20 : Int32) := by decide
theorem md_X6_fact : zMd yX6_fact cX6_fact 2 1 (some .int) := ⟨zmem 964 (by decide +kernel) rfl, zmem 128 (by decide +kernel) rfl, by decide, by decide, by decide +kernel, by decide⟩
theorem ml_X1_91 : Cond.methodLink RX1 91 yX6_fact ∈ zB := zmem 961 (by decide +kernel) rfl
theorem im_X6_fact : Cond.instanceMethod yX6_fact ∈ zB := zmem 962 (by decide +kernel) rfl
theorem se_X6_fact : Cond.selects yX6_fact.cls yX6_fact yX6_fact ∈ zB := zmem 963 (by decide +kernel) rfl
theorem fd_X1_52 : zFd RX1 52 1 10 (.int) false "WhoseStreet$Book" := zFd.of cl_1 (by decide) (zmem 327 (by decide +kernel) rfl) rfl rfl rfl
theorem fd_X1_49 : zFd RX1 49 1 9 (.int) false "WhoseStreet$Book" := zFd.of cl_1 (by decide) (zmem 326 (by decide +kernel) rfl) rfl rfl rfl
def f_X1_fact (N : Nat) (v0 : Nat) (v1 : Int32) (v2 : Nat) (h : zH) : Option (Int32) := if v1 = 19 then ((gI h v0 1 9).bind fun x6 => some x6) else (if v1 = 20 then ((gI h v0 1 10).bind fun x5 => some x5) else (zif (zob h v2 6) <| (f_X6_fact N v2 v1 h).bind fun q4 => some q4))
set_option maxRecDepth 100000 in
set_option maxHeartbeats 4000000 in
theorem k_X1_fact {N : Nat} {v0 : Nat} {v1 : Int32} {v2 : Nat} {h : zH} {r : Int32} (H : f_X1_fact N v0 v1 v2 h = some r) : zOk 3 0 0 yX1_fact cX1_fact 3 (some .int) [.ref v0, .int v1, .ref v2] h (some (.int r)) h := by
  refine zOk.of (by decide) (Nat.le_of_ble_eq_true rfl) ?_
  unfold f_X1_fact at H
  refine z_iload_n (pc := 0) 1 dX1_fact_0 rfl rfl ?_
  refine z_bipush (pc := 1) (x := 19) dX1_fact_1 zc_bipush_19 ?_
  refine z_icmp_ne (pc := 3) 11 dX1_fact_3 (by decide) (fun c1 => ?_) (fun c1 => ?_)
  · rw [if_neg c1] at H
    refine z_iload_n (pc := 11) 1 dX1_fact_11 rfl rfl ?_
    refine z_bipush (pc := 12) (x := 20) dX1_fact_12 zc_bipush_20 ?_
    refine z_icmp_ne (pc := 14) 24 dX1_fact_14 (by decide) (fun c2 => ?_) (fun c2 => ?_)
    · rw [if_neg c2] at H
      refine z_aload_n (pc := 24) 2 dX1_fact_24 rfl rfl ?_
      refine z_iload_n (pc := 25) 1 dX1_fact_25 rfl rfl ?_
      obtain ⟨z3, H⟩ := zifE H
      obtain ⟨q4, eq4, H⟩ := zbind H
      refine z_callV (pc := 26) (mc := 0) (ms := 0) (d' := 2) (mc' := 0) (ms' := 0) (rest := []) [.int v1] dX1_fact_26 md_X6_fact ml_X1_91 im_X6_fact se_X6_fact rfl z3 rfl rfl (Nat.le_of_ble_eq_true rfl) (by omega) (k_X6_fact eq4) ?_
      cases H
      exact z_ireturn rfl dX1_fact_29
    · rw [if_pos c2] at H
      refine z_aload_n (pc := 17) 0 dX1_fact_17 rfl rfl ?_
      obtain ⟨x5, ex5, H⟩ := zbind H
      refine z_getI (pc := 18) dX1_fact_18 fd_X1_52 ex5 ?_
      refine z_goto (pc := 21) 29 dX1_fact_21 (by decide) ?_
      cases H
      exact z_ireturn rfl dX1_fact_29
  · rw [if_pos c1] at H
    refine z_aload_n (pc := 6) 0 dX1_fact_6 rfl rfl ?_
    obtain ⟨x6, ex6, H⟩ := zbind H
    refine z_getI (pc := 7) dX1_fact_7 fd_X1_49 ex6 ?_
    cases H
    exact z_ireturn rfl dX1_fact_10

theorem zc_sipush_30000 : (Int16.ofInt (30000)).toInt32 = (30000 : Int32) := by decide
theorem zc_sipush_20000 : (Int16.ofInt (20000)).toInt32 = (20000 : Int32) := by decide
theorem zc_sipush_10000 : (Int16.ofInt (10000)).toInt32 = (10000 : Int32) := by decide
theorem md_X1_fact : zMd yX1_fact cX1_fact 3 2 (some .int) := ⟨zmem 960 (by decide +kernel) rfl, zmem 120 (by decide +kernel) rfl, by decide, by decide, by decide +kernel, by decide⟩
theorem ml_X1_83 : Cond.methodLink RX1 83 yX1_fact ∈ zB := zmem 957 (by decide +kernel) rfl
theorem im_X1_fact : Cond.instanceMethod yX1_fact ∈ zB := zmem 959 (by decide +kernel) rfl
theorem se_X1_fact : Cond.selects yX1_fact.cls yX1_fact yX1_fact ∈ zB := zmem 35 (by decide +kernel) rfl
theorem md_X1_operate : zMd yX1_operate cX1_operate 4 1 none := ⟨zmem 948 (by decide +kernel) rfl, zmem 120 (by decide +kernel) rfl, by decide, by decide, by decide +kernel, by decide⟩
theorem ml_X1_76 : Cond.methodLink RX1 76 yX1_operate ∈ zB := zmem 945 (by decide +kernel) rfl
theorem im_X1_operate : Cond.instanceMethod yX1_operate ∈ zB := zmem 947 (by decide +kernel) rfl
theorem se_X1_operate : Cond.selects yX1_operate.cls yX1_operate yX1_operate ∈ zB := zmem 32 (by decide +kernel) rfl
def f_X1_work_L8 (N : Nat) (v0 : Nat) (v1 : Nat) (v3 : Int32) (v4 : Nat) : Nat → Int32 → zH → Option (zH)
  | 0, _, _ => none
  | n + 1, v5, h => if v3 ≤ v5 then (some h) else ((aN h v1).bind fun x3 => if x3 ≤ v5 then (some h) else ((aI h v1 v5).bind fun x5 => if x5 < 30000 then (if x5 < 20000 then (if x5 < 10000 then (zif (zob h v0 1) <| (f_X1_push N v0 x5 h).bind fun h10 => f_X1_work_L8 N v0 v1 v3 v4 n (v5 + 1) h10) else (zif (zob h v0 1) <| (f_X1_fact N v0 (x5 - 10000) v4 h).bind fun q12 => zif (zob h v0 1) <| (f_X1_push N v0 q12 h).bind fun h14 => f_X1_work_L8 N v0 v1 v3 v4 n (v5 + 1) h14)) else (zlet (x5 - 20000 : Int32) fun x15 => (gR h v0 1 1).bind fun r16 => (aN h r16).bind fun x17 => (if x17 ≤ x15 then (some 0) else ((gR h v0 1 1).bind fun r20 => (aI h r20 x15).bind fun x21 => some x21) : Option (Int32)).bind fun m18 => zif (zob h v0 1) <| (f_X1_push N v0 m18 h).bind fun h23 => f_X1_work_L8 N v0 v1 v3 v4 n (v5 + 1) h23)) else (zif (zob h v0 1) <| (f_X1_operate N v0 (x5 - 30000) h).bind fun h25 => f_X1_work_L8 N v0 v1 v3 v4 n (v5 + 1) h25)))
set_option maxRecDepth 100000 in
set_option maxHeartbeats 4000000 in
theorem s_X1_work_L8 {d mc ms N : Nat} {vv : Option Value} {hh : zH} {v0 : Nat} {v1 : Nat} {v3 : Int32} {v4 : Nat} (hd0 : 4 ≤ d) : ∀ (n : Nat) (v5 : Int32) (h : zH) (m : zH), f_X1_work_L8 N v0 v1 v3 v4 n v5 h = some m → (zW yX1_work cX1_work 8 (some .int) d mc ms 131 [(0, .ref v0)] [] m vv hh) → zW yX1_work cX1_work 8 (some .int) d mc ms 8 [(0, .ref v0), (1, .ref v1), (3, .int v3), (4, .ref v4), (5, .int v5)] [] h vv hh := by
  intro n
  induction n with
  | zero =>
    intro v5 h m H
    cases H
  | succ n ih =>
    intro v5 h m H KE
    unfold f_X1_work_L8 at H
    refine z_iload (pc := 8) 4 dX1_work_8 rfl ?_
    refine z_iload_n (pc := 10) 2 dX1_work_10 rfl rfl ?_
    refine z_icmp_ge (pc := 11) 131 dX1_work_11 (by decide) (fun c2 => ?_) (fun c2 => ?_)
    · rw [if_pos c2] at H
      cases H
      exact z_sub [0] rfl (KE)
    · rw [if_neg c2] at H
      refine z_iload (pc := 14) 4 dX1_work_14 rfl ?_
      refine z_aload_n (pc := 16) 1 dX1_work_16 rfl rfl ?_
      obtain ⟨x3, ex3, H⟩ := zbind H
      refine z_alen (pc := 17) dX1_work_17 ex3 ?_
      refine z_icmp_ge (pc := 18) 131 dX1_work_18 (by decide) (fun c4 => ?_) (fun c4 => ?_)
      · rw [if_pos c4] at H
        cases H
        exact z_sub [0] rfl (KE)
      · rw [if_neg c4] at H
        refine z_aload_n (pc := 21) 1 dX1_work_21 rfl rfl ?_
        refine z_iload (pc := 22) 4 dX1_work_22 rfl ?_
        obtain ⟨x5, ex5, H⟩ := zbind H
        refine z_iaload (pc := 24) dX1_work_24 ex5 ?_
        refine z_istore (pc := 25) (lv' := [(6, .int x5), (0, .ref v0), (1, .ref v1), (3, .int v3), (4, .ref v4), (5, .int v5)]) dX1_work_25 (by decide) rfl ?_
        refine z_iload (pc := 27) 0 dX1_work_27 rfl ?_
        refine z_sipush (pc := 29) (x := 30000) dX1_work_29 zc_sipush_30000 ?_
        refine z_icmp_lt (pc := 32) 48 dX1_work_32 (by decide) (fun c6 => ?_) (fun c6 => ?_)
        · rw [if_pos c6] at H
          refine z_iload (pc := 48) 0 dX1_work_48 rfl ?_
          refine z_sipush (pc := 50) (x := 20000) dX1_work_50 zc_sipush_20000 ?_
          refine z_icmp_lt (pc := 53) 92 dX1_work_53 (by decide) (fun c7 => ?_) (fun c7 => ?_)
          · rw [if_pos c7] at H
            refine z_iload (pc := 92) 0 dX1_work_92 rfl ?_
            refine z_sipush (pc := 94) (x := 10000) dX1_work_94 zc_sipush_10000 ?_
            refine z_icmp_lt (pc := 97) 119 dX1_work_97 (by decide) (fun c8 => ?_) (fun c8 => ?_)
            · rw [if_pos c8] at H
              refine z_aload_n (pc := 119) 1 dX1_work_119 rfl rfl ?_
              refine z_iload (pc := 120) 0 dX1_work_120 rfl ?_
              obtain ⟨z9, H⟩ := zifE H
              obtain ⟨h10, eh10, H⟩ := zbind H
              refine z_callV (pc := 122) (mc := mc) (ms := ms) (d' := 0) (mc' := 0) (ms' := 0) (rest := []) [.int x5] dX1_work_122 md_X1_push ml_X1_80 im_X1_push se_X1_push rfl z9 rfl rfl (Nat.le_of_ble_eq_true rfl) (by omega) (k_X1_push eh10) ?_
              refine z_iinc (pc := 125) (x' := v5 + 1) (lv' := [(5, .int (v5 + 1)), (6, .int x5), (0, .ref v0), (1, .ref v1), (3, .int v3), (4, .ref v4)]) 5 dX1_work_125 rfl (by rfl) (by decide) rfl ?_
              refine z_goto (pc := 128) 8 dX1_work_128 (by decide) ?_
              exact z_sub [2, 3, 4, 5, 0] rfl (ih (v5 + 1) h10 _ H KE)
            · rw [if_neg c8] at H
              refine z_aload_n (pc := 100) 1 dX1_work_100 rfl rfl ?_
              refine z_aload_n (pc := 101) 1 dX1_work_101 rfl rfl ?_
              refine z_iload (pc := 102) 0 dX1_work_102 rfl ?_
              refine z_sipush (pc := 104) (x := 10000) dX1_work_104 zc_sipush_10000 ?_
              refine z_isub (pc := 107) dX1_work_107 ?_
              refine z_aload (pc := 108) 4 dX1_work_108 rfl ?_
              obtain ⟨z11, H⟩ := zifE H
              obtain ⟨q12, eq12, H⟩ := zbind H
              refine z_callV (pc := 110) (mc := mc) (ms := ms) (d' := 3) (mc' := 0) (ms' := 0) (rest := [.ref v0]) [.int (x5 - 10000), .ref v4] dX1_work_110 md_X1_fact ml_X1_83 im_X1_fact se_X1_fact rfl z11 rfl rfl (Nat.le_of_ble_eq_true rfl) (by omega) (k_X1_fact eq12) ?_
              obtain ⟨z13, H⟩ := zifE H
              obtain ⟨h14, eh14, H⟩ := zbind H
              refine z_callV (pc := 113) (mc := mc) (ms := ms) (d' := 0) (mc' := 0) (ms' := 0) (rest := []) [.int q12] dX1_work_113 md_X1_push ml_X1_80 im_X1_push se_X1_push rfl z13 rfl rfl (Nat.le_of_ble_eq_true rfl) (by omega) (k_X1_push eh14) ?_
              refine z_goto (pc := 116) 125 dX1_work_116 (by decide) ?_
              refine z_iinc (pc := 125) (x' := v5 + 1) (lv' := [(5, .int (v5 + 1)), (6, .int x5), (0, .ref v0), (1, .ref v1), (3, .int v3), (4, .ref v4)]) 5 dX1_work_125 rfl (by rfl) (by decide) rfl ?_
              refine z_goto (pc := 128) 8 dX1_work_128 (by decide) ?_
              exact z_sub [2, 3, 4, 5, 0] rfl (ih (v5 + 1) h14 _ H KE)
          · rw [if_neg c7] at H
            refine z_iload (pc := 56) 0 dX1_work_56 rfl ?_
            refine z_sipush (pc := 58) (x := 20000) dX1_work_58 zc_sipush_20000 ?_
            refine z_isub (pc := 61) dX1_work_61 ?_
            obtain ⟨x15, ex15, H⟩ := zletE H
            refine z_nmI ex15 ?_
            refine z_istore (pc := 62) (lv' := [(7, .int x15), (6, .int x5), (0, .ref v0), (1, .ref v1), (3, .int v3), (4, .ref v4), (5, .int v5)]) dX1_work_62 (by decide) rfl ?_
            refine z_aload_n (pc := 64) 2 dX1_work_64 rfl rfl ?_
            refine z_iload (pc := 65) 0 dX1_work_65 rfl ?_
            refine z_aload_n (pc := 67) 2 dX1_work_67 rfl rfl ?_
            obtain ⟨r16, er16, H⟩ := zbind H
            refine z_getR (pc := 68) dX1_work_68 fd_X1_19 er16 ?_
            obtain ⟨x17, ex17, H⟩ := zbind H
            refine z_alen (pc := 71) dX1_work_71 ex17 ?_
            obtain ⟨m18, em18, H⟩ := zbind H
            have Jm18 : zW yX1_work cX1_work 8 (some .int) d mc ms 86 [(0, .ref v0), (1, .ref v1), (3, .int v3), (4, .ref v4), (5, .int v5)] [.int m18, .ref v0] h vv hh := by
              obtain ⟨z22, H⟩ := zifE H
              obtain ⟨h23, eh23, H⟩ := zbind H
              refine z_callV (pc := 86) (mc := mc) (ms := ms) (d' := 0) (mc' := 0) (ms' := 0) (rest := []) [.int m18] dX1_work_86 md_X1_push ml_X1_80 im_X1_push se_X1_push rfl z22 rfl rfl (Nat.le_of_ble_eq_true rfl) (by omega) (k_X1_push eh23) ?_
              refine z_goto (pc := 89) 125 dX1_work_89 (by decide) ?_
              refine z_iinc (pc := 125) (x' := v5 + 1) (lv' := [(5, .int (v5 + 1)), (0, .ref v0), (1, .ref v1), (3, .int v3), (4, .ref v4)]) 4 dX1_work_125 rfl (by rfl) (by decide) rfl ?_
              refine z_goto (pc := 128) 8 dX1_work_128 (by decide) ?_
              exact z_sub [1, 2, 3, 4, 0] rfl (ih (v5 + 1) h23 _ H KE)
            refine z_icmp_ge (pc := 72) 85 dX1_work_72 (by decide) (fun c19 => ?_) (fun c19 => ?_)
            · rw [if_pos c19] at em18
              refine z_iconst (pc := 85) (x := 0) dX1_work_85 zc_iconst_0 ?_
              cases em18
              exact z_sub [2, 3, 4, 5, 6] rfl Jm18
            · rw [if_neg c19] at em18
              refine z_aload_n (pc := 75) 2 dX1_work_75 rfl rfl ?_
              obtain ⟨r20, er20, em18⟩ := zbind em18
              refine z_getR (pc := 76) dX1_work_76 fd_X1_19 er20 ?_
              refine z_iload (pc := 79) 0 dX1_work_79 rfl ?_
              obtain ⟨x21, ex21, em18⟩ := zbind em18
              refine z_iaload (pc := 81) dX1_work_81 ex21 ?_
              refine z_goto (pc := 82) 86 dX1_work_82 (by decide) ?_
              cases em18
              exact z_sub [2, 3, 4, 5, 6] rfl Jm18
        · rw [if_neg c6] at H
          refine z_aload_n (pc := 35) 1 dX1_work_35 rfl rfl ?_
          refine z_iload (pc := 36) 0 dX1_work_36 rfl ?_
          refine z_sipush (pc := 38) (x := 30000) dX1_work_38 zc_sipush_30000 ?_
          refine z_isub (pc := 41) dX1_work_41 ?_
          obtain ⟨z24, H⟩ := zifE H
          obtain ⟨h25, eh25, H⟩ := zbind H
          refine z_callV (pc := 42) (mc := mc) (ms := ms) (d' := 1) (mc' := 0) (ms' := 0) (rest := []) [.int (x5 - 30000)] dX1_work_42 md_X1_operate ml_X1_76 im_X1_operate se_X1_operate rfl z24 rfl rfl (Nat.le_of_ble_eq_true rfl) (by omega) (k_X1_operate eh25) ?_
          refine z_goto (pc := 45) 125 dX1_work_45 (by decide) ?_
          refine z_iinc (pc := 125) (x' := v5 + 1) (lv' := [(5, .int (v5 + 1)), (6, .int x5), (0, .ref v0), (1, .ref v1), (3, .int v3), (4, .ref v4)]) 5 dX1_work_125 rfl (by rfl) (by decide) rfl ?_
          refine z_goto (pc := 128) 8 dX1_work_128 (by decide) ?_
          exact z_sub [2, 3, 4, 5, 0] rfl (ih (v5 + 1) h25 _ H KE)
def f_X1_work (N : Nat) (v0 : Nat) (v1 : Nat) (v2 : Int32) (v3 : Int32) (v4 : Nat) (h : zH) : Option (Int32 × zH) := (pF h v0 1 8 (.int 0)).bind fun h1 => (f_X1_work_L8 N v0 v1 v3 v4 N v2 h1).bind fun m26 => zif (zob m26 v0 1) <| (f_X1_pop N v0 m26).bind fun q28 => some (q28.1, q28.2)
set_option maxRecDepth 100000 in
set_option maxHeartbeats 4000000 in
theorem k_X1_work {N : Nat} {v0 : Nat} {v1 : Nat} {v2 : Int32} {v3 : Int32} {v4 : Nat} {h : zH} {r : Int32 × zH} (H : f_X1_work N v0 v1 v2 v3 v4 h = some r) : zOk 4 0 0 yX1_work cX1_work 8 (some .int) [.ref v0, .ref v1, .int v2, .int v3, .ref v4] h (some (.int r.1)) r.2 := by
  refine zOk.of (by decide) (Nat.le_of_ble_eq_true rfl) ?_
  unfold f_X1_work at H
  refine z_aload_n (pc := 0) 0 dX1_work_0 rfl rfl ?_
  refine z_iconst (pc := 1) (x := 0) dX1_work_1 zc_iconst_0 ?_
  obtain ⟨h1, eh1, H⟩ := zbind H
  refine z_put (pc := 2) dX1_work_2 fd_X1_73 rfl rfl eh1 ?_
  refine z_iload_n (pc := 5) 2 dX1_work_5 rfl rfl ?_
  refine z_istore (pc := 6) (lv' := [(5, .int v2), (0, .ref v0), (1, .ref v1), (2, .int v2), (3, .int v3), (4, .ref v4)]) dX1_work_6 (by decide) rfl ?_
  obtain ⟨m26, em26, H⟩ := zbind H
  refine z_sub [1, 2, 4, 5, 0] rfl (s_X1_work_L8 (by omega) N v2 h1 _ em26 ?_)
  refine z_aload_n (pc := 131) 0 dX1_work_131 rfl rfl ?_
  obtain ⟨z27, H⟩ := zifE H
  obtain ⟨q28, eq28, H⟩ := zbind H
  refine z_callV (pc := 132) (mc := 0) (ms := 0) (d' := 0) (mc' := 0) (ms' := 0) (rest := []) [] dX1_work_132 md_X1_pop ml_X1_87 im_X1_pop se_X1_pop rfl z27 rfl rfl (Nat.le_of_ble_eq_true rfl) (by omega) (k_X1_pop eq28) ?_
  cases H
  exact z_ireturn rfl dX1_work_135

theorem md_X1_work : zMd yX1_work cX1_work 8 4 (some .int) := ⟨zmem 944 (by decide +kernel) rfl, zmem 120 (by decide +kernel) rfl, by decide, by decide, by decide +kernel, by decide⟩
theorem ml_X1_69 : Cond.methodLink RX1 69 yX1_work ∈ zB := zmem 941 (by decide +kernel) rfl
theorem im_X1_work : Cond.instanceMethod yX1_work ∈ zB := zmem 943 (by decide +kernel) rfl
theorem se_X1_work : Cond.selects yX1_work.cls yX1_work yX1_work ∈ zB := zmem 31 (by decide +kernel) rfl
theorem fd_X1_36 : zFd RX1 36 1 6 (.int) false "WhoseStreet$Book" := zFd.of cl_1 (by decide) (zmem 321 (by decide +kernel) rfl) rfl rfl rfl
def f_X1_workNamesAndLimit_L5 (N : Nat) (v0 : Nat) (v1 : Nat) (v2 : Nat) : Nat → Int32 → Int32 → zH → Option (zH)
  | 0, _, _, _ => none
  | n + 1, v3, v4, h => if 20 ≤ v4 then (some h) else ((aN h v1).bind fun x2 => if x2 < (v3 + 3) then (some h) else ((aI h v1 (v3 + 1)).bind fun x4 => (aI h v1 (v3 + 2)).bind fun x5 => zlet ((v3 + 3) + x5 : Int32) fun x6 => (aI h v1 v3).bind fun x7 => (if x7 = 4 then (if x4 < 0 then (some (.inl (v3, v4, h))) else ((gR h v0 1 1).bind fun r12 => (aN h r12).bind fun x13 => if x13 ≤ x4 then (some (.inl (v3, v4, h))) else ((gR h v0 1 1).bind fun r15 => zif (zob h v0 1) <| (f_X1_work N v0 v1 (v3 + 3) x6 v2 h).bind fun q17 => (sI q17.2 r15 x4 q17.1).bind fun h18 => (f_X1_workNamesAndLimit_L5 N v0 v1 v2 n x6 (v4 + 1) h18).map .inr))) else (some (.inl (v3, v4, h))) : Option ((Int32 × Int32 × zH) ⊕ (zH))).bind fun m8 => zsum m8 fun s9 => (aI s9.2.2 v1 s9.1).bind fun x20 => if x20 = 20 then ((gI s9.2.2 v0 1 6).bind fun x22 => if x22 = 0 then (zif (zob s9.2.2 v0 1) <| (f_X1_work N v0 v1 (s9.1 + 3) x6 v2 s9.2.2).bind fun q25 => if q25.1 = 0 then (f_X1_workNamesAndLimit_L5 N v0 v1 v2 n x6 (s9.2.1 + 1) q25.2) else ((pF q25.2 v0 1 6 (.int x4)).bind fun h27 => f_X1_workNamesAndLimit_L5 N v0 v1 v2 n x6 (s9.2.1 + 1) h27)) else (f_X1_workNamesAndLimit_L5 N v0 v1 v2 n x6 (s9.2.1 + 1) s9.2.2)) else (f_X1_workNamesAndLimit_L5 N v0 v1 v2 n x6 (s9.2.1 + 1) s9.2.2)))
set_option maxRecDepth 100000 in
set_option maxHeartbeats 4000000 in
theorem s_X1_workNamesAndLimit_L5 {d mc ms N : Nat} {vv : Option Value} {hh : zH} {v0 : Nat} {v1 : Nat} {v2 : Nat} (hd0 : 5 ≤ d) : ∀ (n : Nat) (v3 : Int32) (v4 : Int32) (h : zH) (m : zH), f_X1_workNamesAndLimit_L5 N v0 v1 v2 n v3 v4 h = some m → (zW yX1_workNamesAndLimit cX1_workNamesAndLimit 7 none d mc ms 125 [] [] m vv hh) → zW yX1_workNamesAndLimit cX1_workNamesAndLimit 7 none d mc ms 5 [(0, .ref v0), (1, .ref v1), (2, .ref v2), (3, .int v3), (4, .int v4)] [] h vv hh := by
  intro n
  induction n with
  | zero =>
    intro v3 v4 h m H
    cases H
  | succ n ih =>
    intro v3 v4 h m H KE
    unfold f_X1_workNamesAndLimit_L5 at H
    refine z_iload (pc := 5) 4 dX1_workNamesAndLimit_5 rfl ?_
    refine z_bipush (pc := 7) (x := 20) dX1_workNamesAndLimit_7 zc_bipush_20 ?_
    refine z_icmp_ge (pc := 9) 125 dX1_workNamesAndLimit_9 (by decide) (fun c1 => ?_) (fun c1 => ?_)
    · rw [if_pos c1] at H
      cases H
      exact z_sub [] rfl (KE)
    · rw [if_neg c1] at H
      refine z_iload_n (pc := 12) 3 dX1_workNamesAndLimit_12 rfl rfl ?_
      refine z_iconst (pc := 13) (x := 3) dX1_workNamesAndLimit_13 zc_iconst_3 ?_
      refine z_iadd (pc := 14) dX1_workNamesAndLimit_14 ?_
      refine z_aload_n (pc := 15) 1 dX1_workNamesAndLimit_15 rfl rfl ?_
      obtain ⟨x2, ex2, H⟩ := zbind H
      refine z_alen (pc := 16) dX1_workNamesAndLimit_16 ex2 ?_
      refine z_icmp_gt (pc := 17) 125 dX1_workNamesAndLimit_17 (by decide) (fun c3 => ?_) (fun c3 => ?_)
      · rw [if_pos c3] at H
        cases H
        exact z_sub [] rfl (KE)
      · rw [if_neg c3] at H
        refine z_aload_n (pc := 20) 1 dX1_workNamesAndLimit_20 rfl rfl ?_
        refine z_iload_n (pc := 21) 3 dX1_workNamesAndLimit_21 rfl rfl ?_
        refine z_iconst (pc := 22) (x := 1) dX1_workNamesAndLimit_22 zc_iconst_1 ?_
        refine z_iadd (pc := 23) dX1_workNamesAndLimit_23 ?_
        obtain ⟨x4, ex4, H⟩ := zbind H
        refine z_iaload (pc := 24) dX1_workNamesAndLimit_24 ex4 ?_
        refine z_istore (pc := 25) (lv' := [(5, .int x4), (0, .ref v0), (1, .ref v1), (2, .ref v2), (3, .int v3), (4, .int v4)]) dX1_workNamesAndLimit_25 (by decide) rfl ?_
        refine z_iload_n (pc := 27) 4 dX1_workNamesAndLimit_27 rfl rfl ?_
        refine z_iconst (pc := 28) (x := 3) dX1_workNamesAndLimit_28 zc_iconst_3 ?_
        refine z_iadd (pc := 29) dX1_workNamesAndLimit_29 ?_
        refine z_aload_n (pc := 30) 2 dX1_workNamesAndLimit_30 rfl rfl ?_
        refine z_iload_n (pc := 31) 4 dX1_workNamesAndLimit_31 rfl rfl ?_
        refine z_iconst (pc := 32) (x := 2) dX1_workNamesAndLimit_32 zc_iconst_2 ?_
        refine z_iadd (pc := 33) dX1_workNamesAndLimit_33 ?_
        obtain ⟨x5, ex5, H⟩ := zbind H
        refine z_iaload (pc := 34) dX1_workNamesAndLimit_34 ex5 ?_
        refine z_iadd (pc := 35) dX1_workNamesAndLimit_35 ?_
        obtain ⟨x6, ex6, H⟩ := zletE H
        refine z_nmI ex6 ?_
        refine z_istore (pc := 36) (lv' := [(6, .int x6), (5, .int x4), (0, .ref v0), (1, .ref v1), (2, .ref v2), (3, .int v3), (4, .int v4)]) dX1_workNamesAndLimit_36 (by decide) rfl ?_
        refine z_aload_n (pc := 38) 3 dX1_workNamesAndLimit_38 rfl rfl ?_
        refine z_iload_n (pc := 39) 5 dX1_workNamesAndLimit_39 rfl rfl ?_
        obtain ⟨x7, ex7, H⟩ := zbind H
        refine z_iaload (pc := 40) dX1_workNamesAndLimit_40 ex7 ?_
        refine z_iconst (pc := 41) (x := 4) dX1_workNamesAndLimit_41 zc_iconst_4 ?_
        obtain ⟨m8, em8, H⟩ := zbind H
        have Jm8 : ∀ s9, m8 = .inl s9 → zW yX1_workNamesAndLimit cX1_workNamesAndLimit 7 none d mc ms 81 [(0, .ref v0), (1, .ref v1), (2, .ref v2), (3, .int s9.1), (4, .int s9.2.1), (5, .int x4), (6, .int x6)] [] s9.2.2 vv hh := by
          intro s9 e9
          subst e9
          have H := zsumL H
          refine z_aload_n (pc := 81) 1 dX1_workNamesAndLimit_81 rfl rfl ?_
          refine z_iload_n (pc := 82) 3 dX1_workNamesAndLimit_82 rfl rfl ?_
          obtain ⟨x20, ex20, H⟩ := zbind H
          refine z_iaload (pc := 83) dX1_workNamesAndLimit_83 ex20 ?_
          refine z_bipush (pc := 84) (x := 20) dX1_workNamesAndLimit_84 zc_bipush_20 ?_
          refine z_icmp_ne (pc := 86) 116 dX1_workNamesAndLimit_86 (by decide) (fun c21 => ?_) (fun c21 => ?_)
          · rw [if_neg c21] at H
            refine z_iload (pc := 116) 6 dX1_workNamesAndLimit_116 rfl ?_
            refine z_istore_n (pc := 118) (lv' := [(3, .int x6), (0, .ref v0), (1, .ref v1), (2, .ref v2), (4, .int s9.2.1), (5, .int x4), (6, .int x6)]) dX1_workNamesAndLimit_118 rfl (by decide) rfl ?_
            refine z_iinc (pc := 119) (x' := s9.2.1 + 1) (lv' := [(4, .int (s9.2.1 + 1)), (3, .int x6), (0, .ref v0), (1, .ref v1), (2, .ref v2), (5, .int x4), (6, .int x6)]) 4 dX1_workNamesAndLimit_119 rfl (by rfl) (by decide) rfl ?_
            refine z_goto (pc := 122) 5 dX1_workNamesAndLimit_122 (by decide) ?_
            exact z_sub [2, 3, 4, 1, 0] rfl (ih x6 (s9.2.1 + 1) s9.2.2 _ H KE)
          · rw [if_pos c21] at H
            refine z_aload_n (pc := 89) 0 dX1_workNamesAndLimit_89 rfl rfl ?_
            obtain ⟨x22, ex22, H⟩ := zbind H
            refine z_getI (pc := 90) dX1_workNamesAndLimit_90 fd_X1_36 ex22 ?_
            refine z_if_ne (pc := 93) 116 dX1_workNamesAndLimit_93 (by decide) (fun c23 => ?_) (fun c23 => ?_)
            · rw [if_neg c23] at H
              refine z_iload (pc := 116) 6 dX1_workNamesAndLimit_116 rfl ?_
              refine z_istore_n (pc := 118) (lv' := [(3, .int x6), (0, .ref v0), (1, .ref v1), (2, .ref v2), (4, .int s9.2.1), (5, .int x4), (6, .int x6)]) dX1_workNamesAndLimit_118 rfl (by decide) rfl ?_
              refine z_iinc (pc := 119) (x' := s9.2.1 + 1) (lv' := [(4, .int (s9.2.1 + 1)), (3, .int x6), (0, .ref v0), (1, .ref v1), (2, .ref v2), (5, .int x4), (6, .int x6)]) 4 dX1_workNamesAndLimit_119 rfl (by rfl) (by decide) rfl ?_
              refine z_goto (pc := 122) 5 dX1_workNamesAndLimit_122 (by decide) ?_
              exact z_sub [2, 3, 4, 1, 0] rfl (ih x6 (s9.2.1 + 1) s9.2.2 _ H KE)
            · rw [if_pos c23] at H
              refine z_aload_n (pc := 96) 0 dX1_workNamesAndLimit_96 rfl rfl ?_
              refine z_aload_n (pc := 97) 1 dX1_workNamesAndLimit_97 rfl rfl ?_
              refine z_iload_n (pc := 98) 3 dX1_workNamesAndLimit_98 rfl rfl ?_
              refine z_iconst (pc := 99) (x := 3) dX1_workNamesAndLimit_99 zc_iconst_3 ?_
              refine z_iadd (pc := 100) dX1_workNamesAndLimit_100 ?_
              refine z_iload (pc := 101) 6 dX1_workNamesAndLimit_101 rfl ?_
              refine z_aload_n (pc := 103) 2 dX1_workNamesAndLimit_103 rfl rfl ?_
              obtain ⟨z24, H⟩ := zifE H
              obtain ⟨q25, eq25, H⟩ := zbind H
              refine z_callV (pc := 104) (mc := mc) (ms := ms) (d' := 4) (mc' := 0) (ms' := 0) (rest := []) [.ref v1, .int (s9.1 + 3), .int x6, .ref v2] dX1_workNamesAndLimit_104 md_X1_work ml_X1_69 im_X1_work se_X1_work rfl z24 rfl rfl (Nat.le_of_ble_eq_true rfl) (by omega) (k_X1_work eq25) ?_
              refine z_if_eq (pc := 107) 116 dX1_workNamesAndLimit_107 (by decide) (fun c26 => ?_) (fun c26 => ?_)
              · rw [if_pos c26] at H
                refine z_iload (pc := 116) 6 dX1_workNamesAndLimit_116 rfl ?_
                refine z_istore_n (pc := 118) (lv' := [(3, .int x6), (0, .ref v0), (1, .ref v1), (2, .ref v2), (4, .int s9.2.1), (5, .int x4), (6, .int x6)]) dX1_workNamesAndLimit_118 rfl (by decide) rfl ?_
                refine z_iinc (pc := 119) (x' := s9.2.1 + 1) (lv' := [(4, .int (s9.2.1 + 1)), (3, .int x6), (0, .ref v0), (1, .ref v1), (2, .ref v2), (5, .int x4), (6, .int x6)]) 4 dX1_workNamesAndLimit_119 rfl (by rfl) (by decide) rfl ?_
                refine z_goto (pc := 122) 5 dX1_workNamesAndLimit_122 (by decide) ?_
                exact z_sub [2, 3, 4, 1, 0] rfl (ih x6 (s9.2.1 + 1) q25.2 _ H KE)
              · rw [if_neg c26] at H
                refine z_aload_n (pc := 110) 0 dX1_workNamesAndLimit_110 rfl rfl ?_
                refine z_iload (pc := 111) 5 dX1_workNamesAndLimit_111 rfl ?_
                obtain ⟨h27, eh27, H⟩ := zbind H
                refine z_put (pc := 113) dX1_workNamesAndLimit_113 fd_X1_36 rfl rfl eh27 ?_
                refine z_iload (pc := 116) 6 dX1_workNamesAndLimit_116 rfl ?_
                refine z_istore_n (pc := 118) (lv' := [(3, .int x6), (0, .ref v0), (1, .ref v1), (2, .ref v2), (4, .int s9.2.1), (5, .int x4), (6, .int x6)]) dX1_workNamesAndLimit_118 rfl (by decide) rfl ?_
                refine z_iinc (pc := 119) (x' := s9.2.1 + 1) (lv' := [(4, .int (s9.2.1 + 1)), (3, .int x6), (0, .ref v0), (1, .ref v1), (2, .ref v2), (5, .int x4), (6, .int x6)]) 4 dX1_workNamesAndLimit_119 rfl (by rfl) (by decide) rfl ?_
                refine z_goto (pc := 122) 5 dX1_workNamesAndLimit_122 (by decide) ?_
                exact z_sub [2, 3, 4, 1, 0] rfl (ih x6 (s9.2.1 + 1) h27 _ H KE)
        refine z_icmp_ne (pc := 42) 81 dX1_workNamesAndLimit_42 (by decide) (fun c10 => ?_) (fun c10 => ?_)
        · rw [if_neg c10] at em8
          cases em8
          exact z_sub [2, 3, 4, 5, 6, 1, 0] rfl (Jm8 _ rfl)
        · rw [if_pos c10] at em8
          refine z_iload (pc := 45) 1 dX1_workNamesAndLimit_45 rfl ?_
          refine z_if_lt (pc := 47) 81 dX1_workNamesAndLimit_47 (by decide) (fun c11 => ?_) (fun c11 => ?_)
          · rw [if_pos c11] at em8
            cases em8
            exact z_sub [2, 3, 4, 5, 6, 1, 0] rfl (Jm8 _ rfl)
          · rw [if_neg c11] at em8
            refine z_iload (pc := 50) 1 dX1_workNamesAndLimit_50 rfl ?_
            refine z_aload_n (pc := 52) 2 dX1_workNamesAndLimit_52 rfl rfl ?_
            obtain ⟨r12, er12, em8⟩ := zbind em8
            refine z_getR (pc := 53) dX1_workNamesAndLimit_53 fd_X1_19 er12 ?_
            obtain ⟨x13, ex13, em8⟩ := zbind em8
            refine z_alen (pc := 56) dX1_workNamesAndLimit_56 ex13 ?_
            refine z_icmp_ge (pc := 57) 81 dX1_workNamesAndLimit_57 (by decide) (fun c14 => ?_) (fun c14 => ?_)
            · rw [if_pos c14] at em8
              cases em8
              exact z_sub [2, 3, 4, 5, 6, 1, 0] rfl (Jm8 _ rfl)
            · rw [if_neg c14] at em8
              refine z_aload_n (pc := 60) 2 dX1_workNamesAndLimit_60 rfl rfl ?_
              obtain ⟨r15, er15, em8⟩ := zbind em8
              refine z_getR (pc := 61) dX1_workNamesAndLimit_61 fd_X1_19 er15 ?_
              refine z_iload (pc := 64) 1 dX1_workNamesAndLimit_64 rfl ?_
              refine z_aload_n (pc := 66) 2 dX1_workNamesAndLimit_66 rfl rfl ?_
              refine z_aload_n (pc := 67) 3 dX1_workNamesAndLimit_67 rfl rfl ?_
              refine z_iload_n (pc := 68) 5 dX1_workNamesAndLimit_68 rfl rfl ?_
              refine z_iconst (pc := 69) (x := 3) dX1_workNamesAndLimit_69 zc_iconst_3 ?_
              refine z_iadd (pc := 70) dX1_workNamesAndLimit_70 ?_
              refine z_iload (pc := 71) 0 dX1_workNamesAndLimit_71 rfl ?_
              refine z_aload_n (pc := 73) 4 dX1_workNamesAndLimit_73 rfl rfl ?_
              obtain ⟨z16, em8⟩ := zifE em8
              obtain ⟨q17, eq17, em8⟩ := zbind em8
              refine z_callV (pc := 74) (mc := mc) (ms := ms) (d' := 4) (mc' := 0) (ms' := 0) (rest := [.int x4, .ref r15]) [.ref v1, .int (v3 + 3), .int x6, .ref v2] dX1_workNamesAndLimit_74 md_X1_work ml_X1_69 im_X1_work se_X1_work rfl z16 rfl rfl (Nat.le_of_ble_eq_true rfl) (by omega) (k_X1_work eq17) ?_
              obtain ⟨h18, eh18, em8⟩ := zbind em8
              refine z_iastore (pc := 77) dX1_workNamesAndLimit_77 eh18 ?_
              refine z_goto (pc := 78) 116 dX1_workNamesAndLimit_78 (by decide) ?_
              refine z_iload (pc := 116) 0 dX1_workNamesAndLimit_116 rfl ?_
              refine z_istore_n (pc := 118) (lv' := [(3, .int x6), (6, .int x6), (5, .int x4), (0, .ref v0), (1, .ref v1), (2, .ref v2), (4, .int v4)]) dX1_workNamesAndLimit_118 rfl (by decide) rfl ?_
              refine z_iinc (pc := 119) (x' := v4 + 1) (lv' := [(4, .int (v4 + 1)), (3, .int x6), (6, .int x6), (5, .int x4), (0, .ref v0), (1, .ref v1), (2, .ref v2)]) 6 dX1_workNamesAndLimit_119 rfl (by rfl) (by decide) rfl ?_
              refine z_goto (pc := 122) 5 dX1_workNamesAndLimit_122 (by decide) ?_
              obtain ⟨o19, H9, e9⟩ := zmapR em8
              subst e9
              have H9 := H9.trans (zsumR H)
              exact z_sub [4, 5, 6, 1, 0] rfl (ih x6 (v4 + 1) h18 _ H9 KE)
def f_X1_workNamesAndLimit (N : Nat) (v0 : Nat) (v1 : Nat) (v2 : Nat) (h : zH) : Option (zH) := (f_X1_workNamesAndLimit_L5 N v0 v1 v2 N 0 0 h).bind fun m28 => some m28
set_option maxRecDepth 100000 in
set_option maxHeartbeats 4000000 in
theorem k_X1_workNamesAndLimit {N : Nat} {v0 : Nat} {v1 : Nat} {v2 : Nat} {h : zH} {r : zH} (H : f_X1_workNamesAndLimit N v0 v1 v2 h = some r) : zOk 5 0 0 yX1_workNamesAndLimit cX1_workNamesAndLimit 7 none [.ref v0, .ref v1, .ref v2] h none r := by
  refine zOk.of (by decide) (Nat.le_of_ble_eq_true rfl) ?_
  unfold f_X1_workNamesAndLimit at H
  refine z_iconst (pc := 0) (x := 0) dX1_workNamesAndLimit_0 zc_iconst_0 ?_
  refine z_istore_n (pc := 1) (lv' := [(3, .int 0), (0, .ref v0), (1, .ref v1), (2, .ref v2)]) dX1_workNamesAndLimit_1 rfl (by decide) rfl ?_
  refine z_iconst (pc := 2) (x := 0) dX1_workNamesAndLimit_2 zc_iconst_0 ?_
  refine z_istore (pc := 3) (lv' := [(4, .int 0), (3, .int 0), (0, .ref v0), (1, .ref v1), (2, .ref v2)]) dX1_workNamesAndLimit_3 (by decide) rfl ?_
  obtain ⟨m28, em28, H⟩ := zbind H
  refine z_sub [2, 3, 4, 1, 0] rfl (s_X1_workNamesAndLimit_L5 (by omega) N 0 0 h _ em28 ?_)
  cases H
  exact z_return rfl dX1_workNamesAndLimit_125

theorem fd_X1_30 : zFd RX1 30 1 4 (.int) false "WhoseStreet$Book" := zFd.of cl_1 (by decide) (zmem 317 (by decide +kernel) rfl) rfl rfl rfl
theorem fd_X1_33 : zFd RX1 33 1 5 (.int) false "WhoseStreet$Book" := zFd.of cl_1 (by decide) (zmem 319 (by decide +kernel) rfl) rfl rfl rfl
def f_X1_findFault_L5 (N : Nat) (v0 : Nat) (v1 : Nat) (v2 : Nat) : Nat → Int32 → Int32 → zH → Option ((zH) ⊕ (zH))
  | 0, _, _, _ => none
  | n + 1, v3, v4, h => if 20 ≤ v4 then (some (.inl h)) else ((aN h v1).bind fun x2 => if x2 < (v3 + 3) then (some (.inl h)) else ((aI h v1 (v3 + 2)).bind fun x4 => zlet ((v3 + 3) + x4 : Int32) fun x5 => (aI h v1 v3).bind fun x6 => if x6 = 5 then (zif (zob h v0 1) <| (f_X1_work N v0 v1 (v3 + 3) x5 v2 h).bind fun q9 => if q9.1 = 0 then (f_X1_findFault_L5 N v0 v1 v2 n x5 (v4 + 1) q9.2) else ((aI q9.2 v1 (v3 + 1)).bind fun x11 => (pF q9.2 v0 1 4 (.int x11)).bind fun h12 => (pF h12 v0 1 5 (.int v4)).bind fun h13 => some (.inr h13))) else (f_X1_findFault_L5 N v0 v1 v2 n x5 (v4 + 1) h)))
set_option maxRecDepth 100000 in
set_option maxHeartbeats 4000000 in
theorem s_X1_findFault_L5 {d mc ms N : Nat} {vv : Option Value} {hh : zH} {v0 : Nat} {v1 : Nat} {v2 : Nat} (hd0 : 5 ≤ d) : ∀ (n : Nat) (v3 : Int32) (v4 : Int32) (h : zH) (m : (zH) ⊕ (zH)), f_X1_findFault_L5 N v0 v1 v2 n v3 v4 h = some m → (∀ s, m = .inl s → zW yX1_findFault cX1_findFault 6 none d mc ms 77 [] [] s vv hh) → (∀ r, m = .inr r → vv = none ∧ hh = r) → zW yX1_findFault cX1_findFault 6 none d mc ms 5 [(0, .ref v0), (1, .ref v1), (2, .ref v2), (3, .int v3), (4, .int v4)] [] h vv hh := by
  intro n
  induction n with
  | zero =>
    intro v3 v4 h m H
    cases H
  | succ n ih =>
    intro v3 v4 h m H KE KR
    unfold f_X1_findFault_L5 at H
    refine z_iload (pc := 5) 4 dX1_findFault_5 rfl ?_
    refine z_bipush (pc := 7) (x := 20) dX1_findFault_7 zc_bipush_20 ?_
    refine z_icmp_ge (pc := 9) 77 dX1_findFault_9 (by decide) (fun c1 => ?_) (fun c1 => ?_)
    · rw [if_pos c1] at H
      cases H
      exact z_sub [] rfl (KE _ rfl)
    · rw [if_neg c1] at H
      refine z_iload_n (pc := 12) 3 dX1_findFault_12 rfl rfl ?_
      refine z_iconst (pc := 13) (x := 3) dX1_findFault_13 zc_iconst_3 ?_
      refine z_iadd (pc := 14) dX1_findFault_14 ?_
      refine z_aload_n (pc := 15) 1 dX1_findFault_15 rfl rfl ?_
      obtain ⟨x2, ex2, H⟩ := zbind H
      refine z_alen (pc := 16) dX1_findFault_16 ex2 ?_
      refine z_icmp_gt (pc := 17) 77 dX1_findFault_17 (by decide) (fun c3 => ?_) (fun c3 => ?_)
      · rw [if_pos c3] at H
        cases H
        exact z_sub [] rfl (KE _ rfl)
      · rw [if_neg c3] at H
        refine z_iload_n (pc := 20) 3 dX1_findFault_20 rfl rfl ?_
        refine z_iconst (pc := 21) (x := 3) dX1_findFault_21 zc_iconst_3 ?_
        refine z_iadd (pc := 22) dX1_findFault_22 ?_
        refine z_aload_n (pc := 23) 1 dX1_findFault_23 rfl rfl ?_
        refine z_iload_n (pc := 24) 3 dX1_findFault_24 rfl rfl ?_
        refine z_iconst (pc := 25) (x := 2) dX1_findFault_25 zc_iconst_2 ?_
        refine z_iadd (pc := 26) dX1_findFault_26 ?_
        obtain ⟨x4, ex4, H⟩ := zbind H
        refine z_iaload (pc := 27) dX1_findFault_27 ex4 ?_
        refine z_iadd (pc := 28) dX1_findFault_28 ?_
        obtain ⟨x5, ex5, H⟩ := zletE H
        refine z_nmI ex5 ?_
        refine z_istore (pc := 29) (lv' := [(5, .int x5), (0, .ref v0), (1, .ref v1), (2, .ref v2), (3, .int v3), (4, .int v4)]) dX1_findFault_29 (by decide) rfl ?_
        refine z_aload_n (pc := 31) 2 dX1_findFault_31 rfl rfl ?_
        refine z_iload_n (pc := 32) 4 dX1_findFault_32 rfl rfl ?_
        obtain ⟨x6, ex6, H⟩ := zbind H
        refine z_iaload (pc := 33) dX1_findFault_33 ex6 ?_
        refine z_iconst (pc := 34) (x := 5) dX1_findFault_34 zc_iconst_5 ?_
        refine z_icmp_ne (pc := 35) 68 dX1_findFault_35 (by decide) (fun c7 => ?_) (fun c7 => ?_)
        · rw [if_neg c7] at H
          refine z_iload (pc := 68) 0 dX1_findFault_68 rfl ?_
          refine z_istore_n (pc := 70) (lv' := [(3, .int x5), (5, .int x5), (0, .ref v0), (1, .ref v1), (2, .ref v2), (4, .int v4)]) dX1_findFault_70 rfl (by decide) rfl ?_
          refine z_iinc (pc := 71) (x' := v4 + 1) (lv' := [(4, .int (v4 + 1)), (3, .int x5), (5, .int x5), (0, .ref v0), (1, .ref v1), (2, .ref v2)]) 5 dX1_findFault_71 rfl (by rfl) (by decide) rfl ?_
          refine z_goto (pc := 74) 5 dX1_findFault_74 (by decide) ?_
          exact z_sub [3, 4, 5, 1, 0] rfl (ih x5 (v4 + 1) h _ H KE KR)
        · rw [if_pos c7] at H
          refine z_aload_n (pc := 38) 1 dX1_findFault_38 rfl rfl ?_
          refine z_aload_n (pc := 39) 2 dX1_findFault_39 rfl rfl ?_
          refine z_iload_n (pc := 40) 4 dX1_findFault_40 rfl rfl ?_
          refine z_iconst (pc := 41) (x := 3) dX1_findFault_41 zc_iconst_3 ?_
          refine z_iadd (pc := 42) dX1_findFault_42 ?_
          refine z_iload (pc := 43) 0 dX1_findFault_43 rfl ?_
          refine z_aload_n (pc := 45) 3 dX1_findFault_45 rfl rfl ?_
          obtain ⟨z8, H⟩ := zifE H
          obtain ⟨q9, eq9, H⟩ := zbind H
          refine z_callV (pc := 46) (mc := mc) (ms := ms) (d' := 4) (mc' := 0) (ms' := 0) (rest := []) [.ref v1, .int (v3 + 3), .int x5, .ref v2] dX1_findFault_46 md_X1_work ml_X1_69 im_X1_work se_X1_work rfl z8 rfl rfl (Nat.le_of_ble_eq_true rfl) (by omega) (k_X1_work eq9) ?_
          refine z_if_eq (pc := 49) 68 dX1_findFault_49 (by decide) (fun c10 => ?_) (fun c10 => ?_)
          · rw [if_pos c10] at H
            refine z_iload (pc := 68) 0 dX1_findFault_68 rfl ?_
            refine z_istore_n (pc := 70) (lv' := [(3, .int x5), (5, .int x5), (0, .ref v0), (1, .ref v1), (2, .ref v2), (4, .int v4)]) dX1_findFault_70 rfl (by decide) rfl ?_
            refine z_iinc (pc := 71) (x' := v4 + 1) (lv' := [(4, .int (v4 + 1)), (3, .int x5), (5, .int x5), (0, .ref v0), (1, .ref v1), (2, .ref v2)]) 5 dX1_findFault_71 rfl (by rfl) (by decide) rfl ?_
            refine z_goto (pc := 74) 5 dX1_findFault_74 (by decide) ?_
            exact z_sub [3, 4, 5, 1, 0] rfl (ih x5 (v4 + 1) q9.2 _ H KE KR)
          · rw [if_neg c10] at H
            refine z_aload_n (pc := 52) 1 dX1_findFault_52 rfl rfl ?_
            refine z_aload_n (pc := 53) 2 dX1_findFault_53 rfl rfl ?_
            refine z_iload_n (pc := 54) 4 dX1_findFault_54 rfl rfl ?_
            refine z_iconst (pc := 55) (x := 1) dX1_findFault_55 zc_iconst_1 ?_
            refine z_iadd (pc := 56) dX1_findFault_56 ?_
            obtain ⟨x11, ex11, H⟩ := zbind H
            refine z_iaload (pc := 57) dX1_findFault_57 ex11 ?_
            obtain ⟨h12, eh12, H⟩ := zbind H
            refine z_put (pc := 58) dX1_findFault_58 fd_X1_30 rfl rfl eh12 ?_
            refine z_aload_n (pc := 61) 1 dX1_findFault_61 rfl rfl ?_
            refine z_iload (pc := 62) 5 dX1_findFault_62 rfl ?_
            obtain ⟨h13, eh13, H⟩ := zbind H
            refine z_put (pc := 64) dX1_findFault_64 fd_X1_33 rfl rfl eh13 ?_
            cases H
            obtain ⟨e8, e9⟩ := KR _ rfl
            subst e8
            subst e9
            exact z_return rfl dX1_findFault_67
def f_X1_findFault (N : Nat) (v0 : Nat) (v1 : Nat) (v2 : Nat) (h : zH) : Option (zH) := (f_X1_findFault_L5 N v0 v1 v2 N 0 0 h).bind fun m14 => zsum m14 fun s15 => some s15
set_option maxRecDepth 100000 in
set_option maxHeartbeats 4000000 in
theorem k_X1_findFault {N : Nat} {v0 : Nat} {v1 : Nat} {v2 : Nat} {h : zH} {r : zH} (H : f_X1_findFault N v0 v1 v2 h = some r) : zOk 5 0 0 yX1_findFault cX1_findFault 6 none [.ref v0, .ref v1, .ref v2] h none r := by
  refine zOk.of (by decide) (Nat.le_of_ble_eq_true rfl) ?_
  unfold f_X1_findFault at H
  refine z_iconst (pc := 0) (x := 0) dX1_findFault_0 zc_iconst_0 ?_
  refine z_istore_n (pc := 1) (lv' := [(3, .int 0), (0, .ref v0), (1, .ref v1), (2, .ref v2)]) dX1_findFault_1 rfl (by decide) rfl ?_
  refine z_iconst (pc := 2) (x := 0) dX1_findFault_2 zc_iconst_0 ?_
  refine z_istore (pc := 3) (lv' := [(4, .int 0), (3, .int 0), (0, .ref v0), (1, .ref v1), (2, .ref v2)]) dX1_findFault_3 (by decide) rfl ?_
  obtain ⟨m14, em14, H⟩ := zbind H
  refine z_sub [2, 3, 4, 1, 0] rfl (s_X1_findFault_L5 (by omega) N 0 0 h _ em14 ?_ ?_)
  · intro s15 e9
    subst e9
    have H := zsumL H
    cases H
    exact z_return rfl dX1_findFault_77
  · intro r e9
    subst e9
    have H := zsumR H
    cases H
    exact ⟨rfl, rfl⟩

theorem md_X1_lawOf : zMd yX1_lawOf cX1_lawOf 7 2 (some .int) := ⟨zmem 936 (by decide +kernel) rfl, zmem 120 (by decide +kernel) rfl, by decide, by decide, by decide +kernel, by decide⟩
theorem ml_X1_39 : Cond.methodLink RX1 39 yX1_lawOf ∈ zB := zmem 933 (by decide +kernel) rfl
theorem im_X1_lawOf : Cond.instanceMethod yX1_lawOf ∈ zB := zmem 935 (by decide +kernel) rfl
theorem se_X1_lawOf : Cond.selects yX1_lawOf.cls yX1_lawOf yX1_lawOf ∈ zB := zmem 29 (by decide +kernel) rfl
theorem fd_X1_43 : zFd RX1 43 1 7 (.int) false "WhoseStreet$Book" := zFd.of cl_1 (by decide) (zmem 323 (by decide +kernel) rfl) rfl rfl rfl
theorem fd_X1_46 : zFd RX1 46 4 2 (.array .int) true "WhoseStreet$Law" := zFd.of cl_4 (by decide) (zmem 909 (by decide +kernel) rfl) rfl rfl rfl
theorem md_X1_workNamesAndLimit : zMd yX1_workNamesAndLimit cX1_workNamesAndLimit 7 2 none := ⟨zmem 940 (by decide +kernel) rfl, zmem 120 (by decide +kernel) rfl, by decide, by decide, by decide +kernel, by decide⟩
theorem ml_X1_55 : Cond.methodLink RX1 55 yX1_workNamesAndLimit ∈ zB := zmem 937 (by decide +kernel) rfl
theorem im_X1_workNamesAndLimit : Cond.instanceMethod yX1_workNamesAndLimit ∈ zB := zmem 939 (by decide +kernel) rfl
theorem se_X1_workNamesAndLimit : Cond.selects yX1_workNamesAndLimit.cls yX1_workNamesAndLimit yX1_workNamesAndLimit ∈ zB := zmem 30 (by decide +kernel) rfl
theorem md_X1_findFault : zMd yX1_findFault cX1_findFault 6 2 none := ⟨zmem 968 (by decide +kernel) rfl, zmem 120 (by decide +kernel) rfl, by decide, by decide, by decide +kernel, by decide⟩
theorem ml_X1_59 : Cond.methodLink RX1 59 yX1_findFault ∈ zB := zmem 965 (by decide +kernel) rfl
theorem im_X1_findFault : Cond.instanceMethod yX1_findFault ∈ zB := zmem 967 (by decide +kernel) rfl
theorem se_X1_findFault : Cond.selects yX1_findFault.cls yX1_findFault yX1_findFault ∈ zB := zmem 36 (by decide +kernel) rfl
def f_X1_judge (N : Nat) (v0 : Nat) (v1 : Nat) (v2 : Int32) (v3 : Int32) (h : zH) : Option (zH) := (pF h v0 1 4 (.int 0)).bind fun h1 => (pF h1 v0 1 5 (.int (-1))).bind fun h2 => (pF h2 v0 1 6 (.int 0)).bind fun h3 => zif (zob h3 v0 1) <| (f_X1_lawOf N v0 v2 v3 h3).bind fun q5 => (pF h3 v0 1 7 (.int q5)).bind fun h6 => (gI h6 v0 1 7).bind fun x7 => if x7 < 0 then (some h6) else ((gI h6 v0 1 7).bind fun x9 => if 16 ≤ x9 then (some h6) else ((gR h6 v0 1 0).bind fun r11 => (gI h6 v0 1 7).bind fun x12 => (aQ h6 r11 x12).bind fun x13 => zopt x13 (some h6) (fun a14 => (gR h6 v0 1 0).bind fun r16 => (gI h6 v0 1 7).bind fun x17 => (aQ h6 r16 x17).bind fun x18 => x18.bind fun a19 => (gR h6 a19 4 2).bind fun r20 => (pF h6 v0 1 9 (.int v2)).bind fun h21 => (pF h21 v0 1 10 (.int 0)).bind fun h22 => zif (zob h22 v0 1) <| (f_X1_workNamesAndLimit N v0 r20 v1 h22).bind fun h24 => (gI h24 v0 1 6).bind fun x25 => (pF h24 v0 1 10 (.int x25)).bind fun h26 => zif (zob h26 v0 1) <| (f_X1_findFault N v0 r20 v1 h26).bind fun h28 => some h28)))
set_option maxRecDepth 100000 in
set_option maxHeartbeats 4000000 in
theorem k_X1_judge {N : Nat} {v0 : Nat} {v1 : Nat} {v2 : Int32} {v3 : Int32} {h : zH} {r : zH} (H : f_X1_judge N v0 v1 v2 v3 h = some r) : zOk 6 0 0 yX1_judge cX1_judge 5 none [.ref v0, .ref v1, .int v2, .int v3] h none r := by
  refine zOk.of (by decide) (Nat.le_of_ble_eq_true rfl) ?_
  unfold f_X1_judge at H
  refine z_aload_n (pc := 0) 0 dX1_judge_0 rfl rfl ?_
  refine z_iconst (pc := 1) (x := 0) dX1_judge_1 zc_iconst_0 ?_
  obtain ⟨h1, eh1, H⟩ := zbind H
  refine z_put (pc := 2) dX1_judge_2 fd_X1_30 rfl rfl eh1 ?_
  refine z_aload_n (pc := 5) 0 dX1_judge_5 rfl rfl ?_
  refine z_iconst (pc := 6) (x := (-1)) dX1_judge_6 zc_iconst_m1 ?_
  obtain ⟨h2, eh2, H⟩ := zbind H
  refine z_put (pc := 7) dX1_judge_7 fd_X1_33 rfl rfl eh2 ?_
  refine z_aload_n (pc := 10) 0 dX1_judge_10 rfl rfl ?_
  refine z_iconst (pc := 11) (x := 0) dX1_judge_11 zc_iconst_0 ?_
  obtain ⟨h3, eh3, H⟩ := zbind H
  refine z_put (pc := 12) dX1_judge_12 fd_X1_36 rfl rfl eh3 ?_
  refine z_aload_n (pc := 15) 0 dX1_judge_15 rfl rfl ?_
  refine z_aload_n (pc := 16) 0 dX1_judge_16 rfl rfl ?_
  refine z_iload_n (pc := 17) 2 dX1_judge_17 rfl rfl ?_
  refine z_iload_n (pc := 18) 3 dX1_judge_18 rfl rfl ?_
  obtain ⟨z4, H⟩ := zifE H
  obtain ⟨q5, eq5, H⟩ := zbind H
  refine z_callV (pc := 19) (mc := 0) (ms := 0) (d' := 0) (mc' := 0) (ms' := 0) (rest := [.ref v0]) [.int v2, .int v3] dX1_judge_19 md_X1_lawOf ml_X1_39 im_X1_lawOf se_X1_lawOf rfl z4 rfl rfl (Nat.le_of_ble_eq_true rfl) (by omega) (k_X1_lawOf eq5) ?_
  obtain ⟨h6, eh6, H⟩ := zbind H
  refine z_put (pc := 22) dX1_judge_22 fd_X1_43 rfl rfl eh6 ?_
  refine z_aload_n (pc := 25) 0 dX1_judge_25 rfl rfl ?_
  obtain ⟨x7, ex7, H⟩ := zbind H
  refine z_getI (pc := 26) dX1_judge_26 fd_X1_43 ex7 ?_
  refine z_if_lt (pc := 29) 53 dX1_judge_29 (by decide) (fun c8 => ?_) (fun c8 => ?_)
  · rw [if_pos c8] at H
    cases H
    exact z_return rfl dX1_judge_53
  · rw [if_neg c8] at H
    refine z_aload_n (pc := 32) 0 dX1_judge_32 rfl rfl ?_
    obtain ⟨x9, ex9, H⟩ := zbind H
    refine z_getI (pc := 33) dX1_judge_33 fd_X1_43 ex9 ?_
    refine z_bipush (pc := 36) (x := 16) dX1_judge_36 zc_bipush_16 ?_
    refine z_icmp_ge (pc := 38) 53 dX1_judge_38 (by decide) (fun c10 => ?_) (fun c10 => ?_)
    · rw [if_pos c10] at H
      cases H
      exact z_return rfl dX1_judge_53
    · rw [if_neg c10] at H
      refine z_aload_n (pc := 41) 0 dX1_judge_41 rfl rfl ?_
      obtain ⟨r11, er11, H⟩ := zbind H
      refine z_getR (pc := 42) dX1_judge_42 fd_X1_13 er11 ?_
      refine z_aload_n (pc := 45) 0 dX1_judge_45 rfl rfl ?_
      obtain ⟨x12, ex12, H⟩ := zbind H
      refine z_getI (pc := 46) dX1_judge_46 fd_X1_43 ex12 ?_
      obtain ⟨x13, ex13, H⟩ := zbind H
      refine z_aaload (pc := 49) dX1_judge_49 ex13 ?_
      refine z_ifnonnull (pc := 50) 54 dX1_judge_50 (by decide) (fun a14 c15 => ?_) (fun c15 => ?_)
      · subst c15
        have H := zoptS H
        refine z_aload_n (pc := 54) 0 dX1_judge_54 rfl rfl ?_
        obtain ⟨r16, er16, H⟩ := zbind H
        refine z_getR (pc := 55) dX1_judge_55 fd_X1_13 er16 ?_
        refine z_aload_n (pc := 58) 0 dX1_judge_58 rfl rfl ?_
        obtain ⟨x17, ex17, H⟩ := zbind H
        refine z_getI (pc := 59) dX1_judge_59 fd_X1_43 ex17 ?_
        obtain ⟨x18, ex18, H⟩ := zbind H
        refine z_aaload (pc := 62) dX1_judge_62 ex18 ?_
        obtain ⟨a19, ea19, H⟩ := zbind H
        refine z_nmQ ea19 ?_
        obtain ⟨r20, er20, H⟩ := zbind H
        refine z_getR (pc := 63) dX1_judge_63 fd_X1_46 er20 ?_
        refine z_astore (pc := 66) (lv' := [(4, .ref r20), (0, .ref v0), (1, .ref v1), (2, .int v2), (3, .int v3)]) dX1_judge_66 (by decide) rfl ?_
        refine z_aload_n (pc := 68) 1 dX1_judge_68 rfl rfl ?_
        refine z_iload_n (pc := 69) 3 dX1_judge_69 rfl rfl ?_
        obtain ⟨h21, eh21, H⟩ := zbind H
        refine z_put (pc := 70) dX1_judge_70 fd_X1_49 rfl rfl eh21 ?_
        refine z_aload_n (pc := 73) 1 dX1_judge_73 rfl rfl ?_
        refine z_iconst (pc := 74) (x := 0) dX1_judge_74 zc_iconst_0 ?_
        obtain ⟨h22, eh22, H⟩ := zbind H
        refine z_put (pc := 75) dX1_judge_75 fd_X1_52 rfl rfl eh22 ?_
        refine z_aload_n (pc := 78) 1 dX1_judge_78 rfl rfl ?_
        refine z_aload (pc := 79) 0 dX1_judge_79 rfl ?_
        refine z_aload_n (pc := 81) 2 dX1_judge_81 rfl rfl ?_
        obtain ⟨z23, H⟩ := zifE H
        obtain ⟨h24, eh24, H⟩ := zbind H
        refine z_callV (pc := 82) (mc := 0) (ms := 0) (d' := 5) (mc' := 0) (ms' := 0) (rest := []) [.ref r20, .ref v1] dX1_judge_82 md_X1_workNamesAndLimit ml_X1_55 im_X1_workNamesAndLimit se_X1_workNamesAndLimit rfl z23 rfl rfl (Nat.le_of_ble_eq_true rfl) (by omega) (k_X1_workNamesAndLimit eh24) ?_
        refine z_aload_n (pc := 85) 1 dX1_judge_85 rfl rfl ?_
        refine z_aload_n (pc := 86) 1 dX1_judge_86 rfl rfl ?_
        obtain ⟨x25, ex25, H⟩ := zbind H
        refine z_getI (pc := 87) dX1_judge_87 fd_X1_36 ex25 ?_
        obtain ⟨h26, eh26, H⟩ := zbind H
        refine z_put (pc := 90) dX1_judge_90 fd_X1_52 rfl rfl eh26 ?_
        refine z_aload_n (pc := 93) 1 dX1_judge_93 rfl rfl ?_
        refine z_aload (pc := 94) 0 dX1_judge_94 rfl ?_
        refine z_aload_n (pc := 96) 2 dX1_judge_96 rfl rfl ?_
        obtain ⟨z27, H⟩ := zifE H
        obtain ⟨h28, eh28, H⟩ := zbind H
        refine z_callV (pc := 97) (mc := 0) (ms := 0) (d' := 5) (mc' := 0) (ms' := 0) (rest := []) [.ref r20, .ref v1] dX1_judge_97 md_X1_findFault ml_X1_59 im_X1_findFault se_X1_findFault rfl z27 rfl rfl (Nat.le_of_ble_eq_true rfl) (by omega) (k_X1_findFault eh28) ?_
        cases H
        exact z_return rfl dX1_judge_100
      · subst c15
        have H := zoptN H
        cases H
        exact z_return rfl dX1_judge_53

theorem ml_X2_3 : Cond.methodLink RX2 3 objectInit ∈ zB := zmem 388 (by decide +kernel) rfl
theorem fd_X2_11 : zFd RX2 11 2 0 (.array .int) true "WhoseStreet$Corner" := zFd.of cl_2 (by decide) (zmem 389 (by decide +kernel) rfl) rfl rfl rfl
theorem fd_X2_15 : zFd RX2 15 2 1 (.array .int) true "WhoseStreet$Corner" := zFd.of cl_2 (by decide) (zmem 390 (by decide +kernel) rfl) rfl rfl rfl
theorem fd_X2_18 : zFd RX2 18 2 2 (.array .int) true "WhoseStreet$Corner" := zFd.of cl_2 (by decide) (zmem 391 (by decide +kernel) rfl) rfl rfl rfl
theorem fd_X2_21 : zFd RX2 21 2 3 (.array .int) true "WhoseStreet$Corner" := zFd.of cl_2 (by decide) (zmem 392 (by decide +kernel) rfl) rfl rfl rfl
def f_X2_init (N : Nat) (v0 : Nat) (h : zH) : Option (zH) := zlet (znew h (zblank 0 4) : zH) fun h1 => (pF h1 v0 2 0 (.ref h.1.1)).bind fun h2 => zlet (znew h2 (zblank 0 4) : zH) fun h3 => (pF h3 v0 2 1 (.ref h2.1.1)).bind fun h4 => zlet (znew h4 (zblank 0 4) : zH) fun h5 => (pF h5 v0 2 2 (.ref h4.1.1)).bind fun h6 => zlet (znew h6 (zblank 0 4) : zH) fun h7 => (pF h7 v0 2 3 (.ref h6.1.1)).bind fun h8 => some h8
set_option maxRecDepth 100000 in
set_option maxHeartbeats 4000000 in
theorem k_X2_init {N : Nat} {v0 : Nat} {h : zH} {r : zH} (H : f_X2_init N v0 h = some r) : zOk 1 4 16 yX2_init cX2_init 1 none [.ref v0] h none r := by
  refine zOk.of (by decide) (Nat.le_of_ble_eq_true rfl) ?_
  unfold f_X2_init at H
  refine z_aload_n (pc := 0) 0 dX2_init_0 rfl rfl ?_
  refine z_objInit (pc := 1) dX2_init_1 ml_X2_3 im_object cd_object (by omega) (Nat.le_of_ble_eq_true rfl) ?_
  refine z_aload_n (pc := 4) 0 dX2_init_4 rfl rfl ?_
  refine z_iconst (pc := 5) (x := 4) dX2_init_5 zc_iconst_4 ?_
  refine z_newarray (pc := 6) (mc := 3) (ms := 12) (N := 4) 0 (by decide) dX2_init_6 rfl ac_int (by decide) (by decide) (by decide) ?_
  obtain ⟨h1, eh1, H⟩ := zletE H
  refine z_nmH eh1 ?_
  obtain ⟨h2, eh2, H⟩ := zbind H
  refine z_putF (pc := 8) dX2_init_8 fd_X2_11 rfl rfl rfl eh2 ?_
  refine z_aload_n (pc := 11) 0 dX2_init_11 rfl rfl ?_
  refine z_iconst (pc := 12) (x := 4) dX2_init_12 zc_iconst_4 ?_
  refine z_newarray (pc := 13) (mc := 2) (ms := 8) (N := 4) 0 (by decide) dX2_init_13 rfl ac_int (by decide) (by decide) (by decide) ?_
  obtain ⟨h3, eh3, H⟩ := zletE H
  refine z_nmH eh3 ?_
  obtain ⟨h4, eh4, H⟩ := zbind H
  refine z_putF (pc := 15) dX2_init_15 fd_X2_15 rfl rfl rfl eh4 ?_
  refine z_aload_n (pc := 18) 0 dX2_init_18 rfl rfl ?_
  refine z_iconst (pc := 19) (x := 4) dX2_init_19 zc_iconst_4 ?_
  refine z_newarray (pc := 20) (mc := 1) (ms := 4) (N := 4) 0 (by decide) dX2_init_20 rfl ac_int (by decide) (by decide) (by decide) ?_
  obtain ⟨h5, eh5, H⟩ := zletE H
  refine z_nmH eh5 ?_
  obtain ⟨h6, eh6, H⟩ := zbind H
  refine z_putF (pc := 22) dX2_init_22 fd_X2_18 rfl rfl rfl eh6 ?_
  refine z_aload_n (pc := 25) 0 dX2_init_25 rfl rfl ?_
  refine z_iconst (pc := 26) (x := 4) dX2_init_26 zc_iconst_4 ?_
  refine z_newarray (pc := 27) (mc := 0) (ms := 0) (N := 4) 0 (by decide) dX2_init_27 rfl ac_int (by decide) (by decide) (by decide) ?_
  obtain ⟨h7, eh7, H⟩ := zletE H
  refine z_nmH eh7 ?_
  obtain ⟨h8, eh8, H⟩ := zbind H
  refine z_putF (pc := 29) dX2_init_29 fd_X2_21 rfl rfl rfl eh8 ?_
  cases H
  exact z_return rfl dX2_init_32

def p_X2_isStream (v0 : Int32) : Int32 := if v0 < 0 then (0) else (if 4 ≤ v0 then (0) else (1))
set_option maxRecDepth 100000 in
set_option maxHeartbeats 4000000 in
theorem k_X2_isStream (v0 : Int32) (h : zH) (r : Int32) (H : p_X2_isStream v0 = r) : zOk 0 0 0 yX2_isStream cX2_isStream 1 (some .boolean) [.int v0] h (some (.int r)) h := by
  refine zOk.of (by decide) (Nat.le_of_ble_eq_true rfl) ?_
  unfold p_X2_isStream at H
  refine z_iload_n (pc := 0) 0 dX2_isStream_0 rfl rfl ?_
  refine z_if_lt (pc := 1) 13 dX2_isStream_1 (by decide) (fun c1 => ?_) (fun c1 => ?_)
  · rw [if_pos c1] at H
    refine z_iconst (pc := 13) (x := 0) dX2_isStream_13 zc_iconst_0 ?_
    subst H
    exact z_zreturn rfl dX2_isStream_14 (by decide)
  · rw [if_neg c1] at H
    refine z_iload_n (pc := 4) 0 dX2_isStream_4 rfl rfl ?_
    refine z_iconst (pc := 5) (x := 4) dX2_isStream_5 zc_iconst_4 ?_
    refine z_icmp_ge (pc := 6) 13 dX2_isStream_6 (by decide) (fun c2 => ?_) (fun c2 => ?_)
    · rw [if_pos c2] at H
      refine z_iconst (pc := 13) (x := 0) dX2_isStream_13 zc_iconst_0 ?_
      subst H
      exact z_zreturn rfl dX2_isStream_14 (by decide)
    · rw [if_neg c2] at H
      refine z_iconst (pc := 9) (x := 1) dX2_isStream_9 zc_iconst_1 ?_
      refine z_goto (pc := 10) 14 dX2_isStream_10 (by decide) ?_
      subst H
      exact z_zreturn rfl dX2_isStream_14 (by decide)

theorem md_X2_isStream : zMd yX2_isStream cX2_isStream 1 1 (some .boolean) := ⟨zmem 1043 (by decide +kernel) rfl, zmem 122 (by decide +kernel) rfl, by decide, by decide, by decide +kernel, by decide⟩
theorem ml_X2_24 : Cond.methodLink RX2 24 yX2_isStream ∈ zB := zmem 1041 (by decide +kernel) rfl
theorem sm_X2_isStream : Cond.static yX2_isStream ∈ zB := zmem 1042 (by decide +kernel) rfl
def f_X2_tell (N : Nat) (v0 : Nat) (v1 : Int32) (v2 : Int32) (v3 : Int32) (h : zH) : Option (zH) := if (p_X2_isStream v1) = 0 then (some h) else ((gR h v0 2 0).bind fun r2 => (sI h r2 v1 v2).bind fun h3 => (gR h3 v0 2 1).bind fun r4 => (sI h3 r4 v1 v3).bind fun h5 => some h5)
set_option maxRecDepth 100000 in
set_option maxHeartbeats 4000000 in
theorem k_X2_tell {N : Nat} {v0 : Nat} {v1 : Int32} {v2 : Int32} {v3 : Int32} {h : zH} {r : zH} (H : f_X2_tell N v0 v1 v2 v3 h = some r) : zOk 1 0 0 yX2_tell cX2_tell 4 none [.ref v0, .int v1, .int v2, .int v3] h none r := by
  refine zOk.of (by decide) (Nat.le_of_ble_eq_true rfl) ?_
  unfold f_X2_tell at H
  refine z_iload_n (pc := 0) 1 dX2_tell_0 rfl rfl ?_
  refine z_callS (pc := 1) (mc := 0) (ms := 0) (d' := 0) (mc' := 0) (ms' := 0) (rest := []) [.int v1] dX2_tell_1 md_X2_isStream ml_X2_24 sm_X2_isStream rfl rfl (Nat.le_of_ble_eq_true rfl) (by omega) (k_X2_isStream v1 h _ rfl) ?_
  refine z_if_eq (pc := 4) 21 dX2_tell_4 (by decide) (fun c1 => ?_) (fun c1 => ?_)
  · rw [if_pos c1] at H
    cases H
    exact z_return rfl dX2_tell_21
  · rw [if_neg c1] at H
    refine z_aload_n (pc := 7) 0 dX2_tell_7 rfl rfl ?_
    obtain ⟨r2, er2, H⟩ := zbind H
    refine z_getR (pc := 8) dX2_tell_8 fd_X2_11 er2 ?_
    refine z_iload_n (pc := 11) 1 dX2_tell_11 rfl rfl ?_
    refine z_iload_n (pc := 12) 2 dX2_tell_12 rfl rfl ?_
    obtain ⟨h3, eh3, H⟩ := zbind H
    refine z_iastore (pc := 13) dX2_tell_13 eh3 ?_
    refine z_aload_n (pc := 14) 0 dX2_tell_14 rfl rfl ?_
    obtain ⟨r4, er4, H⟩ := zbind H
    refine z_getR (pc := 15) dX2_tell_15 fd_X2_15 er4 ?_
    refine z_iload_n (pc := 18) 1 dX2_tell_18 rfl rfl ?_
    refine z_iload_n (pc := 19) 3 dX2_tell_19 rfl rfl ?_
    obtain ⟨h5, eh5, H⟩ := zbind H
    refine z_iastore (pc := 20) dX2_tell_20 eh5 ?_
    cases H
    exact z_return rfl dX2_tell_21

def f_X2_pair (N : Nat) (v0 : Nat) (v1 : Int32) (v2 : Int32) (v3 : Int32) (h : zH) : Option (zH) := if (p_X2_isStream v1) = 0 then (some h) else ((gR h v0 2 2).bind fun r2 => if v3 = 0 then ((gR h v0 2 2).bind fun r4 => (aI h r4 v1).bind fun x5 => (sI h r2 v1 (x5 &&& ((1 <<< (v2 &&& 31)) ^^^ (-1)))).bind fun h6 => some h6) else ((gR h v0 2 2).bind fun r7 => (aI h r7 v1).bind fun x8 => (sI h r2 v1 (x8 ||| (1 <<< (v2 &&& 31)))).bind fun h9 => some h9))
set_option maxRecDepth 100000 in
set_option maxHeartbeats 4000000 in
theorem k_X2_pair {N : Nat} {v0 : Nat} {v1 : Int32} {v2 : Int32} {v3 : Int32} {h : zH} {r : zH} (H : f_X2_pair N v0 v1 v2 v3 h = some r) : zOk 1 0 0 yX2_pair cX2_pair 4 none [.ref v0, .int v1, .int v2, .int v3] h none r := by
  refine zOk.of (by decide) (Nat.le_of_ble_eq_true rfl) ?_
  unfold f_X2_pair at H
  refine z_iload_n (pc := 0) 1 dX2_pair_0 rfl rfl ?_
  refine z_callS (pc := 1) (mc := 0) (ms := 0) (d' := 0) (mc' := 0) (ms' := 0) (rest := []) [.int v1] dX2_pair_1 md_X2_isStream ml_X2_24 sm_X2_isStream rfl rfl (Nat.le_of_ble_eq_true rfl) (by omega) (k_X2_isStream v1 h _ rfl) ?_
  refine z_if_eq (pc := 4) 42 dX2_pair_4 (by decide) (fun c1 => ?_) (fun c1 => ?_)
  · rw [if_pos c1] at H
    cases H
    exact z_return rfl dX2_pair_42
  · rw [if_neg c1] at H
    refine z_aload_n (pc := 7) 0 dX2_pair_7 rfl rfl ?_
    obtain ⟨r2, er2, H⟩ := zbind H
    refine z_getR (pc := 8) dX2_pair_8 fd_X2_18 er2 ?_
    refine z_iload_n (pc := 11) 1 dX2_pair_11 rfl rfl ?_
    refine z_iload_n (pc := 12) 3 dX2_pair_12 rfl rfl ?_
    refine z_if_eq (pc := 13) 29 dX2_pair_13 (by decide) (fun c3 => ?_) (fun c3 => ?_)
    · rw [if_pos c3] at H
      refine z_aload_n (pc := 29) 0 dX2_pair_29 rfl rfl ?_
      obtain ⟨r4, er4, H⟩ := zbind H
      refine z_getR (pc := 30) dX2_pair_30 fd_X2_18 er4 ?_
      refine z_iload_n (pc := 33) 1 dX2_pair_33 rfl rfl ?_
      obtain ⟨x5, ex5, H⟩ := zbind H
      refine z_iaload (pc := 34) dX2_pair_34 ex5 ?_
      refine z_iconst (pc := 35) (x := 1) dX2_pair_35 zc_iconst_1 ?_
      refine z_iload_n (pc := 36) 2 dX2_pair_36 rfl rfl ?_
      refine z_ishl (pc := 37) dX2_pair_37 ?_
      refine z_iconst (pc := 38) (x := (-1)) dX2_pair_38 zc_iconst_m1 ?_
      refine z_ixor (pc := 39) dX2_pair_39 ?_
      refine z_iand (pc := 40) dX2_pair_40 ?_
      obtain ⟨h6, eh6, H⟩ := zbind H
      refine z_iastore (pc := 41) dX2_pair_41 eh6 ?_
      cases H
      exact z_return rfl dX2_pair_42
    · rw [if_neg c3] at H
      refine z_aload_n (pc := 16) 0 dX2_pair_16 rfl rfl ?_
      obtain ⟨r7, er7, H⟩ := zbind H
      refine z_getR (pc := 17) dX2_pair_17 fd_X2_18 er7 ?_
      refine z_iload_n (pc := 20) 1 dX2_pair_20 rfl rfl ?_
      obtain ⟨x8, ex8, H⟩ := zbind H
      refine z_iaload (pc := 21) dX2_pair_21 ex8 ?_
      refine z_iconst (pc := 22) (x := 1) dX2_pair_22 zc_iconst_1 ?_
      refine z_iload_n (pc := 23) 2 dX2_pair_23 rfl rfl ?_
      refine z_ishl (pc := 24) dX2_pair_24 ?_
      refine z_ior (pc := 25) dX2_pair_25 ?_
      refine z_goto (pc := 26) 41 dX2_pair_26 (by decide) ?_
      obtain ⟨h9, eh9, H⟩ := zbind H
      refine z_iastore (pc := 41) dX2_pair_41 eh9 ?_
      cases H
      exact z_return rfl dX2_pair_42

def f_X2_isTold (N : Nat) (v0 : Nat) (v1 : Int32) (h : zH) : Option (Int32) := if (p_X2_isStream v1) = 0 then (some 0) else ((gR h v0 2 0).bind fun r2 => (aI h r2 v1).bind fun x3 => if x3 ≤ 0 then (some 0) else (some 1))
set_option maxRecDepth 100000 in
set_option maxHeartbeats 4000000 in
theorem k_X2_isTold {N : Nat} {v0 : Nat} {v1 : Int32} {h : zH} {r : Int32} (H : f_X2_isTold N v0 v1 h = some r) : zOk 1 0 0 yX2_isTold cX2_isTold 2 (some .boolean) [.ref v0, .int v1] h (some (.int r)) h := by
  refine zOk.of (by decide) (Nat.le_of_ble_eq_true rfl) ?_
  unfold f_X2_isTold at H
  refine z_iload_n (pc := 0) 1 dX2_isTold_0 rfl rfl ?_
  refine z_callS (pc := 1) (mc := 0) (ms := 0) (d' := 0) (mc' := 0) (ms' := 0) (rest := []) [.int v1] dX2_isTold_1 md_X2_isStream ml_X2_24 sm_X2_isStream rfl rfl (Nat.le_of_ble_eq_true rfl) (by omega) (k_X2_isStream v1 h _ rfl) ?_
  refine z_if_eq (pc := 4) 20 dX2_isTold_4 (by decide) (fun c1 => ?_) (fun c1 => ?_)
  · rw [if_pos c1] at H
    refine z_iconst (pc := 20) (x := 0) dX2_isTold_20 zc_iconst_0 ?_
    cases H
    exact z_zreturn rfl dX2_isTold_21 (by decide)
  · rw [if_neg c1] at H
    refine z_aload_n (pc := 7) 0 dX2_isTold_7 rfl rfl ?_
    obtain ⟨r2, er2, H⟩ := zbind H
    refine z_getR (pc := 8) dX2_isTold_8 fd_X2_11 er2 ?_
    refine z_iload_n (pc := 11) 1 dX2_isTold_11 rfl rfl ?_
    obtain ⟨x3, ex3, H⟩ := zbind H
    refine z_iaload (pc := 12) dX2_isTold_12 ex3 ?_
    refine z_if_le (pc := 13) 20 dX2_isTold_13 (by decide) (fun c4 => ?_) (fun c4 => ?_)
    · rw [if_pos c4] at H
      refine z_iconst (pc := 20) (x := 0) dX2_isTold_20 zc_iconst_0 ?_
      cases H
      exact z_zreturn rfl dX2_isTold_21 (by decide)
    · rw [if_neg c4] at H
      refine z_iconst (pc := 16) (x := 1) dX2_isTold_16 zc_iconst_1 ?_
      refine z_goto (pc := 17) 21 dX2_isTold_17 (by decide) ?_
      cases H
      exact z_zreturn rfl dX2_isTold_21 (by decide)

theorem md_X2_isTold : zMd yX2_isTold cX2_isTold 2 1 (some .boolean) := ⟨zmem 1067 (by decide +kernel) rfl, zmem 122 (by decide +kernel) rfl, by decide, by decide, by decide +kernel, by decide⟩
theorem ml_X2_28 : Cond.methodLink RX2 28 yX2_isTold ∈ zB := zmem 1064 (by decide +kernel) rfl
theorem im_X2_isTold : Cond.instanceMethod yX2_isTold ∈ zB := zmem 1065 (by decide +kernel) rfl
theorem se_X2_isTold : Cond.selects yX2_isTold.cls yX2_isTold yX2_isTold ∈ zB := zmem 1066 (by decide +kernel) rfl
def f_X2_streams_L4 (N : Nat) (v0 : Nat) (h : zH) : Nat → Int32 → Int32 → Option (Int32)
  | 0, _, _ => none
  | n + 1, v1, v2 => if 4 ≤ v2 then (some v1) else (zif (zob h v0 2) <| (f_X2_isTold N v0 v2 h).bind fun q3 => if q3 = 0 then (f_X2_streams_L4 N v0 h n v1 (v2 + 1)) else (f_X2_streams_L4 N v0 h n (v1 + 1) (v2 + 1)))
set_option maxRecDepth 100000 in
set_option maxHeartbeats 4000000 in
theorem s_X2_streams_L4 {d mc ms N : Nat} {vv : Option Value} {hh : zH} {v0 : Nat} {h : zH} (hd0 : 2 ≤ d) : ∀ (n : Nat) (v1 : Int32) (v2 : Int32) (m : Int32), f_X2_streams_L4 N v0 h n v1 v2 = some m → (zW yX2_streams cX2_streams 3 (some .int) d mc ms 26 [(1, .int m)] [] h vv hh) → zW yX2_streams cX2_streams 3 (some .int) d mc ms 4 [(0, .ref v0), (1, .int v1), (2, .int v2)] [] h vv hh := by
  intro n
  induction n with
  | zero =>
    intro v1 v2 m H
    cases H
  | succ n ih =>
    intro v1 v2 m H KE
    unfold f_X2_streams_L4 at H
    refine z_iload_n (pc := 4) 2 dX2_streams_4 rfl rfl ?_
    refine z_iconst (pc := 5) (x := 4) dX2_streams_5 zc_iconst_4 ?_
    refine z_icmp_ge (pc := 6) 26 dX2_streams_6 (by decide) (fun c1 => ?_) (fun c1 => ?_)
    · rw [if_pos c1] at H
      cases H
      exact z_sub [1] rfl (KE)
    · rw [if_neg c1] at H
      refine z_aload_n (pc := 9) 0 dX2_streams_9 rfl rfl ?_
      refine z_iload_n (pc := 10) 2 dX2_streams_10 rfl rfl ?_
      obtain ⟨z2, H⟩ := zifE H
      obtain ⟨q3, eq3, H⟩ := zbind H
      refine z_callV (pc := 11) (mc := mc) (ms := ms) (d' := 1) (mc' := 0) (ms' := 0) (rest := []) [.int v2] dX2_streams_11 md_X2_isTold ml_X2_28 im_X2_isTold se_X2_isTold rfl z2 rfl rfl (Nat.le_of_ble_eq_true rfl) (by omega) (k_X2_isTold eq3) ?_
      refine z_if_eq (pc := 14) 20 dX2_streams_14 (by decide) (fun c4 => ?_) (fun c4 => ?_)
      · rw [if_pos c4] at H
        refine z_iinc (pc := 20) (x' := v2 + 1) (lv' := [(2, .int (v2 + 1)), (0, .ref v0), (1, .int v1)]) 2 dX2_streams_20 rfl (by rfl) (by decide) rfl ?_
        refine z_goto (pc := 23) 4 dX2_streams_23 (by decide) ?_
        exact z_sub [1, 2, 0] rfl (ih v1 (v2 + 1) _ H KE)
      · rw [if_neg c4] at H
        refine z_iinc (pc := 17) (x' := v1 + 1) (lv' := [(1, .int (v1 + 1)), (0, .ref v0), (2, .int v2)]) 1 dX2_streams_17 rfl (by rfl) (by decide) rfl ?_
        refine z_iinc (pc := 20) (x' := v2 + 1) (lv' := [(2, .int (v2 + 1)), (1, .int (v1 + 1)), (0, .ref v0)]) 2 dX2_streams_20 rfl (by rfl) (by decide) rfl ?_
        refine z_goto (pc := 23) 4 dX2_streams_23 (by decide) ?_
        exact z_sub [2, 1, 0] rfl (ih (v1 + 1) (v2 + 1) _ H KE)
def f_X2_streams (N : Nat) (v0 : Nat) (h : zH) : Option (Int32) := (f_X2_streams_L4 N v0 h N 0 0).bind fun m5 => some m5
set_option maxRecDepth 100000 in
set_option maxHeartbeats 4000000 in
theorem k_X2_streams {N : Nat} {v0 : Nat} {h : zH} {r : Int32} (H : f_X2_streams N v0 h = some r) : zOk 2 0 0 yX2_streams cX2_streams 3 (some .int) [.ref v0] h (some (.int r)) h := by
  refine zOk.of (by decide) (Nat.le_of_ble_eq_true rfl) ?_
  unfold f_X2_streams at H
  refine z_iconst (pc := 0) (x := 0) dX2_streams_0 zc_iconst_0 ?_
  refine z_istore_n (pc := 1) (lv' := [(1, .int 0), (0, .ref v0)]) dX2_streams_1 rfl (by decide) rfl ?_
  refine z_iconst (pc := 2) (x := 0) dX2_streams_2 zc_iconst_0 ?_
  refine z_istore_n (pc := 3) (lv' := [(2, .int 0), (1, .int 0), (0, .ref v0)]) dX2_streams_3 rfl (by decide) rfl ?_
  obtain ⟨m5, em5, H⟩ := zbind H
  refine z_sub [2, 1, 0] rfl (s_X2_streams_L4 (by omega) N 0 0 _ em5 ?_)
  refine z_iload_n (pc := 26) 0 dX2_streams_26 rfl rfl ?_
  cases H
  exact z_ireturn rfl dX2_streams_27

def p_X2_phaseOf (v0 : Int32) (v1 : Int32) : Int32 := (v0 >>> ((2 * v1) &&& 31)) &&& 3
set_option maxRecDepth 100000 in
set_option maxHeartbeats 4000000 in
theorem k_X2_phaseOf (v0 : Int32) (v1 : Int32) (h : zH) (r : Int32) (H : p_X2_phaseOf v0 v1 = r) : zOk 0 0 0 yX2_phaseOf cX2_phaseOf 2 (some .int) [.int v0, .int v1] h (some (.int r)) h := by
  refine zOk.of (by decide) (Nat.le_of_ble_eq_true rfl) ?_
  unfold p_X2_phaseOf at H
  refine z_iload_n (pc := 0) 0 dX2_phaseOf_0 rfl rfl ?_
  refine z_iconst (pc := 1) (x := 2) dX2_phaseOf_1 zc_iconst_2 ?_
  refine z_iload_n (pc := 2) 1 dX2_phaseOf_2 rfl rfl ?_
  refine z_imul (pc := 3) dX2_phaseOf_3 ?_
  refine z_ishr (pc := 4) dX2_phaseOf_4 ?_
  refine z_iconst (pc := 5) (x := 3) dX2_phaseOf_5 zc_iconst_3 ?_
  refine z_iand (pc := 6) dX2_phaseOf_6 ?_
  subst H
  exact z_ireturn rfl dX2_phaseOf_7

theorem md_X2_phaseOf : zMd yX2_phaseOf cX2_phaseOf 2 2 (some .int) := ⟨zmem 1074 (by decide +kernel) rfl, zmem 122 (by decide +kernel) rfl, by decide, by decide, by decide +kernel, by decide⟩
theorem ml_X2_46 : Cond.methodLink RX2 46 yX2_phaseOf ∈ zB := zmem 1072 (by decide +kernel) rfl
theorem sm_X2_phaseOf : Cond.static yX2_phaseOf ∈ zB := zmem 1073 (by decide +kernel) rfl
def f_X2_mayJoin_L2 (N : Nat) (v0 : Nat) (v1 : Int32) (v2 : Int32) (h : zH) : Nat → Int32 → Option ((Unit) ⊕ (Int32))
  | 0, _ => none
  | n + 1, v3 => if v1 ≤ v3 then (some (.inl ())) else (if (p_X2_isStream v1) = 0 then (some (.inl ())) else (zif (zob h v0 2) <| (f_X2_isTold N v0 v3 h).bind fun q4 => (if q4 = 0 then (some 0) else (if (p_X2_phaseOf v2 v3) = (p_X2_phaseOf v2 v1) then (some 1) else (some 0)) : Option (Int32)).bind fun m5 => if m5 = 0 then (f_X2_mayJoin_L2 N v0 v1 v2 h n (v3 + 1)) else ((gR h v0 2 2).bind fun r9 => (aI h r9 v1).bind fun x10 => if ((x10 >>> (v3 &&& 31)) &&& 1) = 0 then (some (.inr 0)) else (f_X2_mayJoin_L2 N v0 v1 v2 h n (v3 + 1)))))
set_option maxRecDepth 100000 in
set_option maxHeartbeats 4000000 in
theorem s_X2_mayJoin_L2 {d mc ms N : Nat} {vv : Option Value} {hh : zH} {v0 : Nat} {v1 : Int32} {v2 : Int32} {h : zH} (hd0 : 2 ≤ d) : ∀ (n : Nat) (v3 : Int32) (m : (Unit) ⊕ (Int32)), f_X2_mayJoin_L2 N v0 v1 v2 h n v3 = some m → (∀ s, m = .inl s → zW yX2_mayJoin cX2_mayJoin 5 (some .boolean) d mc ms 68 [] [] h vv hh) → (∀ r, m = .inr r → vv = (some (.int r)) ∧ hh = h) → zW yX2_mayJoin cX2_mayJoin 5 (some .boolean) d mc ms 2 [(0, .ref v0), (1, .int v1), (2, .int v2), (3, .int v3)] [] h vv hh := by
  intro n
  induction n with
  | zero =>
    intro v3 m H
    cases H
  | succ n ih =>
    intro v3 m H KE KR
    unfold f_X2_mayJoin_L2 at H
    refine z_iload_n (pc := 2) 3 dX2_mayJoin_2 rfl rfl ?_
    refine z_iload_n (pc := 3) 1 dX2_mayJoin_3 rfl rfl ?_
    refine z_icmp_ge (pc := 4) 68 dX2_mayJoin_4 (by decide) (fun c1 => ?_) (fun c1 => ?_)
    · rw [if_pos c1] at H
      cases H
      exact z_sub [] rfl (KE _ rfl)
    · rw [if_neg c1] at H
      refine z_iload_n (pc := 7) 1 dX2_mayJoin_7 rfl rfl ?_
      refine z_callS (pc := 8) (mc := mc) (ms := ms) (d' := 0) (mc' := 0) (ms' := 0) (rest := []) [.int v1] dX2_mayJoin_8 md_X2_isStream ml_X2_24 sm_X2_isStream rfl rfl (Nat.le_of_ble_eq_true rfl) (by omega) (k_X2_isStream v1 h _ rfl) ?_
      refine z_if_eq (pc := 11) 68 dX2_mayJoin_11 (by decide) (fun c2 => ?_) (fun c2 => ?_)
      · rw [if_pos c2] at H
        cases H
        exact z_sub [] rfl (KE _ rfl)
      · rw [if_neg c2] at H
        refine z_aload_n (pc := 14) 0 dX2_mayJoin_14 rfl rfl ?_
        refine z_iload_n (pc := 15) 3 dX2_mayJoin_15 rfl rfl ?_
        obtain ⟨z3, H⟩ := zifE H
        obtain ⟨q4, eq4, H⟩ := zbind H
        refine z_callV (pc := 16) (mc := mc) (ms := ms) (d' := 1) (mc' := 0) (ms' := 0) (rest := []) [.int v3] dX2_mayJoin_16 md_X2_isTold ml_X2_28 im_X2_isTold se_X2_isTold rfl z3 rfl rfl (Nat.le_of_ble_eq_true rfl) (by omega) (k_X2_isTold eq4) ?_
        obtain ⟨m5, em5, H⟩ := zbind H
        have Jm5 : zW yX2_mayJoin cX2_mayJoin 5 (some .boolean) d mc ms 40 [(0, .ref v0), (1, .int v1), (2, .int v2), (3, .int v3)] [.int m5] h vv hh := by
          refine z_istore (pc := 40) (lv' := [(4, .int m5), (0, .ref v0), (1, .int v1), (2, .int v2), (3, .int v3)]) dX2_mayJoin_40 (by decide) rfl ?_
          refine z_iload (pc := 42) 0 dX2_mayJoin_42 rfl ?_
          refine z_if_eq (pc := 44) 62 dX2_mayJoin_44 (by decide) (fun c8 => ?_) (fun c8 => ?_)
          · rw [if_pos c8] at H
            refine z_iinc (pc := 62) (x' := v3 + 1) (lv' := [(3, .int (v3 + 1)), (4, .int m5), (0, .ref v0), (1, .int v1), (2, .int v2)]) 4 dX2_mayJoin_62 rfl (by rfl) (by decide) rfl ?_
            refine z_goto (pc := 65) 2 dX2_mayJoin_65 (by decide) ?_
            exact z_sub [2, 3, 4, 0] rfl (ih (v3 + 1) _ H KE KR)
          · rw [if_neg c8] at H
            refine z_aload_n (pc := 47) 1 dX2_mayJoin_47 rfl rfl ?_
            obtain ⟨r9, er9, H⟩ := zbind H
            refine z_getR (pc := 48) dX2_mayJoin_48 fd_X2_18 er9 ?_
            refine z_iload_n (pc := 51) 2 dX2_mayJoin_51 rfl rfl ?_
            obtain ⟨x10, ex10, H⟩ := zbind H
            refine z_iaload (pc := 52) dX2_mayJoin_52 ex10 ?_
            refine z_iload_n (pc := 53) 4 dX2_mayJoin_53 rfl rfl ?_
            refine z_ishr (pc := 54) dX2_mayJoin_54 ?_
            refine z_iconst (pc := 55) (x := 1) dX2_mayJoin_55 zc_iconst_1 ?_
            refine z_iand (pc := 56) dX2_mayJoin_56 ?_
            refine z_if_ne (pc := 57) 62 dX2_mayJoin_57 (by decide) (fun c11 => ?_) (fun c11 => ?_)
            · rw [if_neg c11] at H
              refine z_iinc (pc := 62) (x' := v3 + 1) (lv' := [(3, .int (v3 + 1)), (4, .int m5), (0, .ref v0), (1, .int v1), (2, .int v2)]) 4 dX2_mayJoin_62 rfl (by rfl) (by decide) rfl ?_
              refine z_goto (pc := 65) 2 dX2_mayJoin_65 (by decide) ?_
              exact z_sub [2, 3, 4, 0] rfl (ih (v3 + 1) _ H KE KR)
            · rw [if_pos c11] at H
              refine z_iconst (pc := 60) (x := 0) dX2_mayJoin_60 zc_iconst_0 ?_
              cases H
              obtain ⟨e8, e9⟩ := KR _ rfl
              subst e8
              subst e9
              exact z_zreturn rfl dX2_mayJoin_61 (by decide)
        refine z_if_eq (pc := 19) 39 dX2_mayJoin_19 (by decide) (fun c6 => ?_) (fun c6 => ?_)
        · rw [if_pos c6] at em5
          refine z_iconst (pc := 39) (x := 0) dX2_mayJoin_39 zc_iconst_0 ?_
          cases em5
          exact z_sub [0, 1, 2, 3] rfl Jm5
        · rw [if_neg c6] at em5
          refine z_iload_n (pc := 22) 2 dX2_mayJoin_22 rfl rfl ?_
          refine z_iload_n (pc := 23) 3 dX2_mayJoin_23 rfl rfl ?_
          refine z_callS (pc := 24) (mc := mc) (ms := ms) (d' := 0) (mc' := 0) (ms' := 0) (rest := []) [.int v2, .int v3] dX2_mayJoin_24 md_X2_phaseOf ml_X2_46 sm_X2_phaseOf rfl rfl (Nat.le_of_ble_eq_true rfl) (by omega) (k_X2_phaseOf v2 v3 h _ rfl) ?_
          refine z_iload_n (pc := 27) 2 dX2_mayJoin_27 rfl rfl ?_
          refine z_iload_n (pc := 28) 1 dX2_mayJoin_28 rfl rfl ?_
          refine z_callS (pc := 29) (mc := mc) (ms := ms) (d' := 0) (mc' := 0) (ms' := 0) (rest := [.int (p_X2_phaseOf v2 v3)]) [.int v2, .int v1] dX2_mayJoin_29 md_X2_phaseOf ml_X2_46 sm_X2_phaseOf rfl rfl (Nat.le_of_ble_eq_true rfl) (by omega) (k_X2_phaseOf v2 v1 h _ rfl) ?_
          refine z_icmp_ne (pc := 32) 39 dX2_mayJoin_32 (by decide) (fun c7 => ?_) (fun c7 => ?_)
          · rw [if_neg c7] at em5
            refine z_iconst (pc := 39) (x := 0) dX2_mayJoin_39 zc_iconst_0 ?_
            cases em5
            exact z_sub [0, 1, 2, 3] rfl Jm5
          · rw [if_pos c7] at em5
            refine z_iconst (pc := 35) (x := 1) dX2_mayJoin_35 zc_iconst_1 ?_
            refine z_goto (pc := 36) 40 dX2_mayJoin_36 (by decide) ?_
            cases em5
            exact z_sub [0, 1, 2, 3] rfl Jm5
def f_X2_mayJoin (N : Nat) (v0 : Nat) (v1 : Int32) (v2 : Int32) (h : zH) : Option (Int32) := (f_X2_mayJoin_L2 N v0 v1 v2 h N 0).bind fun m12 => zsum m12 fun s13 => some 1
set_option maxRecDepth 100000 in
set_option maxHeartbeats 4000000 in
theorem k_X2_mayJoin {N : Nat} {v0 : Nat} {v1 : Int32} {v2 : Int32} {h : zH} {r : Int32} (H : f_X2_mayJoin N v0 v1 v2 h = some r) : zOk 2 0 0 yX2_mayJoin cX2_mayJoin 5 (some .boolean) [.ref v0, .int v1, .int v2] h (some (.int r)) h := by
  refine zOk.of (by decide) (Nat.le_of_ble_eq_true rfl) ?_
  unfold f_X2_mayJoin at H
  refine z_iconst (pc := 0) (x := 0) dX2_mayJoin_0 zc_iconst_0 ?_
  refine z_istore_n (pc := 1) (lv' := [(3, .int 0), (0, .ref v0), (1, .int v1), (2, .int v2)]) dX2_mayJoin_1 rfl (by decide) rfl ?_
  obtain ⟨m12, em12, H⟩ := zbind H
  refine z_sub [1, 2, 3, 0] rfl (s_X2_mayJoin_L2 (by omega) N 0 _ em12 ?_ ?_)
  · intro s13 e9
    subst e9
    have H := zsumL H
    refine z_iconst (pc := 68) (x := 1) dX2_mayJoin_68 zc_iconst_1 ?_
    cases H
    exact z_zreturn rfl dX2_mayJoin_69 (by decide)
  · intro r e9
    subst e9
    have H := zsumR H
    cases H
    exact ⟨rfl, rfl⟩

