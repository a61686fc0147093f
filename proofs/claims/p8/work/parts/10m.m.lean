def f_X12_view (N : Nat) (v0 : Nat) (v1 : Int32) (h : zH) : Option (Int32 × zH) := (pF h v0 12 0 (.int 0)).bind fun h1 => (gI h1 v0 12 25).bind fun x2 => if (p_X12_within v1 0 x2) = 0 then (some (0, h1)) else ((gI h1 v0 12 25).bind fun x4 => if v1 = x4 then ((pF h1 v0 12 26 (.int (-1))).bind fun h7 => some (1, h7)) else ((pF h1 v0 12 26 (.int v1)).bind fun h6 => some (1, h6)))
set_option maxRecDepth 100000 in
set_option maxHeartbeats 4000000 in
theorem k_X12_view {N : Nat} {v0 : Nat} {v1 : Int32} {h : zH} {r : Int32 × zH} (H : f_X12_view N v0 v1 h = some r) : zOk 1 0 0 yX12_view cX12_view 2 (some .boolean) [.ref v0, .int v1] h (some (.int r.1)) r.2 := by
  refine zOk.of (by decide) (Nat.le_of_ble_eq_true rfl) ?_
  unfold f_X12_view at H
  refine z_aload_n (pc := 0) 0 dX12_view_0 rfl rfl ?_
  refine z_iconst (pc := 1) (x := 0) dX12_view_1 zc_iconst_0 ?_
  obtain ⟨h1, eh1, H⟩ := zbind H
  refine z_put (pc := 2) dX12_view_2 fd_X12_1 rfl rfl eh1 ?_
  refine z_iload_n (pc := 5) 1 dX12_view_5 rfl rfl ?_
  refine z_iconst (pc := 6) (x := 0) dX12_view_6 zc_iconst_0 ?_
  refine z_aload_n (pc := 7) 0 dX12_view_7 rfl rfl ?_
  obtain ⟨x2, ex2, H⟩ := zbind H
  refine z_getI (pc := 8) dX12_view_8 fd_X12_296 ex2 ?_
  refine z_callS (pc := 11) (mc := 0) (ms := 0) (d' := 0) (mc' := 0) (ms' := 0) (rest := []) [.int v1, .int 0, .int x2] dX12_view_11 md_X12_within ml_X12_352 sm_X12_within rfl rfl (Nat.le_of_ble_eq_true rfl) (by omega) (k_X12_within v1 0 x2 h1 _ rfl) ?_
  refine z_if_ne (pc := 14) 19 dX12_view_14 (by decide) (fun c3 => ?_) (fun c3 => ?_)
  · rw [if_neg c3] at H
    refine z_aload_n (pc := 19) 0 dX12_view_19 rfl rfl ?_
    refine z_iload_n (pc := 20) 1 dX12_view_20 rfl rfl ?_
    refine z_aload_n (pc := 21) 0 dX12_view_21 rfl rfl ?_
    obtain ⟨x4, ex4, H⟩ := zbind H
    refine z_getI (pc := 22) dX12_view_22 fd_X12_296 ex4 ?_
    refine z_icmp_ne (pc := 25) 32 dX12_view_25 (by decide) (fun c5 => ?_) (fun c5 => ?_)
    · rw [if_neg c5] at H
      refine z_iload_n (pc := 32) 1 dX12_view_32 rfl rfl ?_
      obtain ⟨h6, eh6, H⟩ := zbind H
      refine z_put (pc := 33) dX12_view_33 fd_X12_233 rfl rfl eh6 ?_
      refine z_iconst (pc := 36) (x := 1) dX12_view_36 zc_iconst_1 ?_
      cases H
      exact z_zreturn rfl dX12_view_37 (by decide)
    · rw [if_pos c5] at H
      refine z_iconst (pc := 28) (x := (-1)) dX12_view_28 zc_iconst_m1 ?_
      refine z_goto (pc := 29) 33 dX12_view_29 (by decide) ?_
      obtain ⟨h7, eh7, H⟩ := zbind H
      refine z_put (pc := 33) dX12_view_33 fd_X12_233 rfl rfl eh7 ?_
      refine z_iconst (pc := 36) (x := 1) dX12_view_36 zc_iconst_1 ?_
      cases H
      exact z_zreturn rfl dX12_view_37 (by decide)
  · rw [if_pos c3] at H
    refine z_iconst (pc := 17) (x := 0) dX12_view_17 zc_iconst_0 ?_
    cases H
    exact z_zreturn rfl dX12_view_18 (by decide)

def f_X12_viewYear (N : Nat) (v0 : Nat) (h : zH) : Option (Int32) := (gI h v0 12 26).bind fun x1 => if 0 ≤ x1 then ((gI h v0 12 26).bind fun x3 => some x3) else ((gI h v0 12 25).bind fun x4 => some x4)
set_option maxRecDepth 100000 in
set_option maxHeartbeats 4000000 in
theorem k_X12_viewYear {N : Nat} {v0 : Nat} {h : zH} {r : Int32} (H : f_X12_viewYear N v0 h = some r) : zOk 0 0 0 yX12_viewYear cX12_viewYear 1 (some .int) [.ref v0] h (some (.int r)) h := by
  refine zOk.of (by decide) (Nat.le_of_ble_eq_true rfl) ?_
  unfold f_X12_viewYear at H
  refine z_aload_n (pc := 0) 0 dX12_viewYear_0 rfl rfl ?_
  obtain ⟨x1, ex1, H⟩ := zbind H
  refine z_getI (pc := 1) dX12_viewYear_1 fd_X12_233 ex1 ?_
  refine z_if_ge (pc := 4) 14 dX12_viewYear_4 (by decide) (fun c2 => ?_) (fun c2 => ?_)
  · rw [if_pos c2] at H
    refine z_aload_n (pc := 14) 0 dX12_viewYear_14 rfl rfl ?_
    obtain ⟨x3, ex3, H⟩ := zbind H
    refine z_getI (pc := 15) dX12_viewYear_15 fd_X12_233 ex3 ?_
    cases H
    exact z_ireturn rfl dX12_viewYear_18
  · rw [if_neg c2] at H
    refine z_aload_n (pc := 7) 0 dX12_viewYear_7 rfl rfl ?_
    obtain ⟨x4, ex4, H⟩ := zbind H
    refine z_getI (pc := 8) dX12_viewYear_8 fd_X12_296 ex4 ?_
    refine z_goto (pc := 11) 18 dX12_viewYear_11 (by decide) ?_
    cases H
    exact z_ireturn rfl dX12_viewYear_18

theorem fd_X12_359 : zFd RX12 359 12 27 (.int) false "WhoseStreetModel" := zFd.of cl_12 (by decide) (zmem 1397 (by decide +kernel) rfl) rfl rfl rfl
def f_X12_isMeeting (N : Nat) (v0 : Nat) (v1 : Int32) (h : zH) : Option (Int32) := if v1 < 0 then (some 0) else ((gI h v0 12 27).bind fun x2 => if x2 ≤ v1 then (some 0) else (some 1))
set_option maxRecDepth 100000 in
set_option maxHeartbeats 4000000 in
theorem k_X12_isMeeting {N : Nat} {v0 : Nat} {v1 : Int32} {h : zH} {r : Int32} (H : f_X12_isMeeting N v0 v1 h = some r) : zOk 0 0 0 yX12_isMeeting cX12_isMeeting 2 (some .boolean) [.ref v0, .int v1] h (some (.int r)) h := by
  refine zOk.of (by decide) (Nat.le_of_ble_eq_true rfl) ?_
  unfold f_X12_isMeeting at H
  refine z_iload_n (pc := 0) 1 dX12_isMeeting_0 rfl rfl ?_
  refine z_if_lt (pc := 1) 16 dX12_isMeeting_1 (by decide) (fun c1 => ?_) (fun c1 => ?_)
  · rw [if_pos c1] at H
    refine z_iconst (pc := 16) (x := 0) dX12_isMeeting_16 zc_iconst_0 ?_
    cases H
    exact z_zreturn rfl dX12_isMeeting_17 (by decide)
  · rw [if_neg c1] at H
    refine z_iload_n (pc := 4) 1 dX12_isMeeting_4 rfl rfl ?_
    refine z_aload_n (pc := 5) 0 dX12_isMeeting_5 rfl rfl ?_
    obtain ⟨x2, ex2, H⟩ := zbind H
    refine z_getI (pc := 6) dX12_isMeeting_6 fd_X12_359 ex2 ?_
    refine z_icmp_ge (pc := 9) 16 dX12_isMeeting_9 (by decide) (fun c3 => ?_) (fun c3 => ?_)
    · rw [if_pos c3] at H
      refine z_iconst (pc := 16) (x := 0) dX12_isMeeting_16 zc_iconst_0 ?_
      cases H
      exact z_zreturn rfl dX12_isMeeting_17 (by decide)
    · rw [if_neg c3] at H
      refine z_iconst (pc := 12) (x := 1) dX12_isMeeting_12 zc_iconst_1 ?_
      refine z_goto (pc := 13) 17 dX12_isMeeting_13 (by decide) ?_
      cases H
      exact z_zreturn rfl dX12_isMeeting_17 (by decide)

def f_X12_meeting (N : Nat) (v0 : Nat) (v1 : Int32) (v2 : Int32) (v3 : Int32) (v4 : Int32) (v5 : Int32) (v6 : Int32) (v7 : Int32) (h : zH) : Option (Int32 × zH) := (pF h v0 12 0 (.int 0)).bind fun h1 => (if (p_X12_within v2 (-9999) (-1)) = 0 then (some 0) else (if (p_X12_within v3 1 300) = 0 then (some 0) else (if (p_X12_within v4 0 5) = 0 then (some 0) else (some 1))) : Option (Int32)).bind fun m2 => (if (p_X12_within v5 (-999) (-1)) = 0 then (some 0) else (if (p_X12_within v6 1 60) = 0 then (some 0) else (if (p_X12_within v7 0 5) = 0 then (some 0) else (some 1))) : Option (Int32)).bind fun m6 => (gI h1 v0 12 25).bind fun x10 => if (p_X12_within v1 0 x10) = 0 then (some ((-1), h1)) else (if m2 = 0 then (some ((-1), h1)) else (if m6 = 0 then (some ((-1), h1)) else ((gI h1 v0 12 27).bind fun x14 => if x14 = 40 then (some ((-1), h1)) else ((gR h1 v0 12 28).bind fun r16 => (gI h1 v0 12 27).bind fun x17 => (sI h1 r16 x17 v1).bind fun h18 => (gR h18 v0 12 29).bind fun r19 => (gI h18 v0 12 27).bind fun x20 => (sI h18 r19 x20 v2).bind fun h21 => (gR h21 v0 12 30).bind fun r22 => (gI h21 v0 12 27).bind fun x23 => (sI h21 r22 x23 v3).bind fun h24 => (gR h24 v0 12 31).bind fun r25 => (gI h24 v0 12 27).bind fun x26 => (sI h24 r25 x26 v4).bind fun h27 => (gR h27 v0 12 32).bind fun r28 => (gI h27 v0 12 27).bind fun x29 => (sI h27 r28 x29 v5).bind fun h30 => (gR h30 v0 12 33).bind fun r31 => (gI h30 v0 12 27).bind fun x32 => (sI h30 r31 x32 v6).bind fun h33 => (gR h33 v0 12 34).bind fun r34 => (gI h33 v0 12 27).bind fun x35 => (sI h33 r34 x35 v7).bind fun h36 => (gR h36 v0 12 35).bind fun r37 => (gI h36 v0 12 27).bind fun x38 => (sI h36 r37 x38 0).bind fun h39 => (gR h39 v0 12 36).bind fun r40 => (gI h39 v0 12 27).bind fun x41 => (sI h39 r40 x41 0).bind fun h42 => (gR h42 v0 12 37).bind fun r43 => (gI h42 v0 12 27).bind fun x44 => (sI h42 r43 x44 0).bind fun h45 => (gR h45 v0 12 38).bind fun r46 => (gI h45 v0 12 27).bind fun x47 => (sI h45 r46 x47 50).bind fun h48 => (gI h48 v0 12 27).bind fun x49 => (pF h48 v0 12 27 (.int (x49 + 1))).bind fun h50 => (gI h50 v0 12 27).bind fun x51 => some (x51 - 1, h50)))))
set_option maxRecDepth 100000 in
set_option maxHeartbeats 4000000 in
theorem k_X12_meeting {N : Nat} {v0 : Nat} {v1 : Int32} {v2 : Int32} {v3 : Int32} {v4 : Int32} {v5 : Int32} {v6 : Int32} {v7 : Int32} {h : zH} {r : Int32 × zH} (H : f_X12_meeting N v0 v1 v2 v3 v4 v5 v6 v7 h = some r) : zOk 1 0 0 yX12_meeting cX12_meeting 10 (some .int) [.ref v0, .int v1, .int v2, .int v3, .int v4, .int v5, .int v6, .int v7] h (some (.int r.1)) r.2 := by
  refine zOk.of (by decide) (Nat.le_of_ble_eq_true rfl) ?_
  unfold f_X12_meeting at H
  refine z_aload_n (pc := 0) 0 dX12_meeting_0 rfl rfl ?_
  refine z_iconst (pc := 1) (x := 0) dX12_meeting_1 zc_iconst_0 ?_
  obtain ⟨h1, eh1, H⟩ := zbind H
  refine z_put (pc := 2) dX12_meeting_2 fd_X12_1 rfl rfl eh1 ?_
  refine z_iload_n (pc := 5) 2 dX12_meeting_5 rfl rfl ?_
  refine z_sipush (pc := 6) (x := (-9999)) dX12_meeting_6 zc_sipush_m9999 ?_
  refine z_iconst (pc := 9) (x := (-1)) dX12_meeting_9 zc_iconst_m1 ?_
  refine z_callS (pc := 10) (mc := 0) (ms := 0) (d' := 0) (mc' := 0) (ms' := 0) (rest := []) [.int v2, .int (-9999), .int (-1)] dX12_meeting_10 md_X12_within ml_X12_352 sm_X12_within rfl rfl (Nat.le_of_ble_eq_true rfl) (by omega) (k_X12_within v2 (-9999) (-1) h1 _ rfl) ?_
  obtain ⟨m2, em2, H⟩ := zbind H
  have Jm2 : zW yX12_meeting cX12_meeting 10 (some .int) 1 0 0 42 [(0, .ref v0), (1, .int v1), (2, .int v2), (3, .int v3), (4, .int v4), (5, .int v5), (6, .int v6), (7, .int v7)] [.int m2] h1 (some (.int r.1)) r.2 := by
    refine z_istore (pc := 42) (lv' := [(8, .int m2), (0, .ref v0), (1, .int v1), (2, .int v2), (3, .int v3), (4, .int v4), (5, .int v5), (6, .int v6), (7, .int v7)]) dX12_meeting_42 (by decide) rfl ?_
    refine z_iload (pc := 44) 6 dX12_meeting_44 rfl ?_
    refine z_sipush (pc := 46) (x := (-999)) dX12_meeting_46 zc_sipush_m999 ?_
    refine z_iconst (pc := 49) (x := (-1)) dX12_meeting_49 zc_iconst_m1 ?_
    refine z_callS (pc := 50) (mc := 0) (ms := 0) (d' := 0) (mc' := 0) (ms' := 0) (rest := []) [.int v5, .int (-999), .int (-1)] dX12_meeting_50 md_X12_within ml_X12_352 sm_X12_within rfl rfl (Nat.le_of_ble_eq_true rfl) (by omega) (k_X12_within v5 (-999) (-1) h1 _ rfl) ?_
    obtain ⟨m6, em6, H⟩ := zbind H
    have Jm6 : zW yX12_meeting cX12_meeting 10 (some .int) 1 0 0 82 [(0, .ref v0), (1, .int v1), (2, .int v2), (3, .int v3), (4, .int v4), (5, .int v5), (6, .int v6), (7, .int v7), (8, .int m2)] [.int m6] h1 (some (.int r.1)) r.2 := by
      refine z_istore (pc := 82) (lv' := [(9, .int m6), (0, .ref v0), (1, .int v1), (2, .int v2), (3, .int v3), (4, .int v4), (5, .int v5), (6, .int v6), (7, .int v7), (8, .int m2)]) dX12_meeting_82 (by decide) rfl ?_
      refine z_iload_n (pc := 84) 2 dX12_meeting_84 rfl rfl ?_
      refine z_iconst (pc := 85) (x := 0) dX12_meeting_85 zc_iconst_0 ?_
      refine z_aload_n (pc := 86) 1 dX12_meeting_86 rfl rfl ?_
      obtain ⟨x10, ex10, H⟩ := zbind H
      refine z_getI (pc := 87) dX12_meeting_87 fd_X12_296 ex10 ?_
      refine z_callS (pc := 90) (mc := 0) (ms := 0) (d' := 0) (mc' := 0) (ms' := 0) (rest := []) [.int v1, .int 0, .int x10] dX12_meeting_90 md_X12_within ml_X12_352 sm_X12_within rfl rfl (Nat.le_of_ble_eq_true rfl) (by omega) (k_X12_within v1 0 x10 h1 _ rfl) ?_
      refine z_if_eq (pc := 93) 115 dX12_meeting_93 (by decide) (fun c11 => ?_) (fun c11 => ?_)
      · rw [if_pos c11] at H
        refine z_iconst (pc := 115) (x := (-1)) dX12_meeting_115 zc_iconst_m1 ?_
        cases H
        exact z_ireturn rfl dX12_meeting_116
      · rw [if_neg c11] at H
        refine z_iload (pc := 96) 9 dX12_meeting_96 rfl ?_
        refine z_if_eq (pc := 98) 115 dX12_meeting_98 (by decide) (fun c12 => ?_) (fun c12 => ?_)
        · rw [if_pos c12] at H
          refine z_iconst (pc := 115) (x := (-1)) dX12_meeting_115 zc_iconst_m1 ?_
          cases H
          exact z_ireturn rfl dX12_meeting_116
        · rw [if_neg c12] at H
          refine z_iload (pc := 101) 0 dX12_meeting_101 rfl ?_
          refine z_if_eq (pc := 103) 115 dX12_meeting_103 (by decide) (fun c13 => ?_) (fun c13 => ?_)
          · rw [if_pos c13] at H
            refine z_iconst (pc := 115) (x := (-1)) dX12_meeting_115 zc_iconst_m1 ?_
            cases H
            exact z_ireturn rfl dX12_meeting_116
          · rw [if_neg c13] at H
            refine z_aload_n (pc := 106) 1 dX12_meeting_106 rfl rfl ?_
            obtain ⟨x14, ex14, H⟩ := zbind H
            refine z_getI (pc := 107) dX12_meeting_107 fd_X12_359 ex14 ?_
            refine z_bipush (pc := 110) (x := 40) dX12_meeting_110 zc_bipush_40 ?_
            refine z_icmp_ne (pc := 112) 117 dX12_meeting_112 (by decide) (fun c15 => ?_) (fun c15 => ?_)
            · rw [if_neg c15] at H
              refine z_aload_n (pc := 117) 1 dX12_meeting_117 rfl rfl ?_
              obtain ⟨r16, er16, H⟩ := zbind H
              refine z_getR (pc := 118) dX12_meeting_118 fd_X12_115 er16 ?_
              refine z_aload_n (pc := 121) 1 dX12_meeting_121 rfl rfl ?_
              obtain ⟨x17, ex17, H⟩ := zbind H
              refine z_getI (pc := 122) dX12_meeting_122 fd_X12_359 ex17 ?_
              refine z_iload_n (pc := 125) 2 dX12_meeting_125 rfl rfl ?_
              obtain ⟨h18, eh18, H⟩ := zbind H
              refine z_iastore (pc := 126) dX12_meeting_126 eh18 ?_
              refine z_aload_n (pc := 127) 1 dX12_meeting_127 rfl rfl ?_
              obtain ⟨r19, er19, H⟩ := zbind H
              refine z_getR (pc := 128) dX12_meeting_128 fd_X12_118 er19 ?_
              refine z_aload_n (pc := 131) 1 dX12_meeting_131 rfl rfl ?_
              obtain ⟨x20, ex20, H⟩ := zbind H
              refine z_getI (pc := 132) dX12_meeting_132 fd_X12_359 ex20 ?_
              refine z_iload_n (pc := 135) 3 dX12_meeting_135 rfl rfl ?_
              obtain ⟨h21, eh21, H⟩ := zbind H
              refine z_iastore (pc := 136) dX12_meeting_136 eh21 ?_
              refine z_aload_n (pc := 137) 1 dX12_meeting_137 rfl rfl ?_
              obtain ⟨r22, er22, H⟩ := zbind H
              refine z_getR (pc := 138) dX12_meeting_138 fd_X12_121 er22 ?_
              refine z_aload_n (pc := 141) 1 dX12_meeting_141 rfl rfl ?_
              obtain ⟨x23, ex23, H⟩ := zbind H
              refine z_getI (pc := 142) dX12_meeting_142 fd_X12_359 ex23 ?_
              refine z_iload_n (pc := 145) 4 dX12_meeting_145 rfl rfl ?_
              obtain ⟨h24, eh24, H⟩ := zbind H
              refine z_iastore (pc := 146) dX12_meeting_146 eh24 ?_
              refine z_aload_n (pc := 147) 1 dX12_meeting_147 rfl rfl ?_
              obtain ⟨r25, er25, H⟩ := zbind H
              refine z_getR (pc := 148) dX12_meeting_148 fd_X12_124 er25 ?_
              refine z_aload_n (pc := 151) 1 dX12_meeting_151 rfl rfl ?_
              obtain ⟨x26, ex26, H⟩ := zbind H
              refine z_getI (pc := 152) dX12_meeting_152 fd_X12_359 ex26 ?_
              refine z_iload (pc := 155) 5 dX12_meeting_155 rfl ?_
              obtain ⟨h27, eh27, H⟩ := zbind H
              refine z_iastore (pc := 157) dX12_meeting_157 eh27 ?_
              refine z_aload_n (pc := 158) 1 dX12_meeting_158 rfl rfl ?_
              obtain ⟨r28, er28, H⟩ := zbind H
              refine z_getR (pc := 159) dX12_meeting_159 fd_X12_127 er28 ?_
              refine z_aload_n (pc := 162) 1 dX12_meeting_162 rfl rfl ?_
              obtain ⟨x29, ex29, H⟩ := zbind H
              refine z_getI (pc := 163) dX12_meeting_163 fd_X12_359 ex29 ?_
              refine z_iload (pc := 166) 6 dX12_meeting_166 rfl ?_
              obtain ⟨h30, eh30, H⟩ := zbind H
              refine z_iastore (pc := 168) dX12_meeting_168 eh30 ?_
              refine z_aload_n (pc := 169) 1 dX12_meeting_169 rfl rfl ?_
              obtain ⟨r31, er31, H⟩ := zbind H
              refine z_getR (pc := 170) dX12_meeting_170 fd_X12_130 er31 ?_
              refine z_aload_n (pc := 173) 1 dX12_meeting_173 rfl rfl ?_
              obtain ⟨x32, ex32, H⟩ := zbind H
              refine z_getI (pc := 174) dX12_meeting_174 fd_X12_359 ex32 ?_
              refine z_iload (pc := 177) 7 dX12_meeting_177 rfl ?_
              obtain ⟨h33, eh33, H⟩ := zbind H
              refine z_iastore (pc := 179) dX12_meeting_179 eh33 ?_
              refine z_aload_n (pc := 180) 1 dX12_meeting_180 rfl rfl ?_
              obtain ⟨r34, er34, H⟩ := zbind H
              refine z_getR (pc := 181) dX12_meeting_181 fd_X12_133 er34 ?_
              refine z_aload_n (pc := 184) 1 dX12_meeting_184 rfl rfl ?_
              obtain ⟨x35, ex35, H⟩ := zbind H
              refine z_getI (pc := 185) dX12_meeting_185 fd_X12_359 ex35 ?_
              refine z_iload (pc := 188) 8 dX12_meeting_188 rfl ?_
              obtain ⟨h36, eh36, H⟩ := zbind H
              refine z_iastore (pc := 190) dX12_meeting_190 eh36 ?_
              refine z_aload_n (pc := 191) 1 dX12_meeting_191 rfl rfl ?_
              obtain ⟨r37, er37, H⟩ := zbind H
              refine z_getR (pc := 192) dX12_meeting_192 fd_X12_136 er37 ?_
              refine z_aload_n (pc := 195) 1 dX12_meeting_195 rfl rfl ?_
              obtain ⟨x38, ex38, H⟩ := zbind H
              refine z_getI (pc := 196) dX12_meeting_196 fd_X12_359 ex38 ?_
              refine z_iconst (pc := 199) (x := 0) dX12_meeting_199 zc_iconst_0 ?_
              obtain ⟨h39, eh39, H⟩ := zbind H
              refine z_iastore (pc := 200) dX12_meeting_200 eh39 ?_
              refine z_aload_n (pc := 201) 1 dX12_meeting_201 rfl rfl ?_
              obtain ⟨r40, er40, H⟩ := zbind H
              refine z_getR (pc := 202) dX12_meeting_202 fd_X12_139 er40 ?_
              refine z_aload_n (pc := 205) 1 dX12_meeting_205 rfl rfl ?_
              obtain ⟨x41, ex41, H⟩ := zbind H
              refine z_getI (pc := 206) dX12_meeting_206 fd_X12_359 ex41 ?_
              refine z_iconst (pc := 209) (x := 0) dX12_meeting_209 zc_iconst_0 ?_
              obtain ⟨h42, eh42, H⟩ := zbind H
              refine z_iastore (pc := 210) dX12_meeting_210 eh42 ?_
              refine z_aload_n (pc := 211) 1 dX12_meeting_211 rfl rfl ?_
              obtain ⟨r43, er43, H⟩ := zbind H
              refine z_getR (pc := 212) dX12_meeting_212 fd_X12_142 er43 ?_
              refine z_aload_n (pc := 215) 1 dX12_meeting_215 rfl rfl ?_
              obtain ⟨x44, ex44, H⟩ := zbind H
              refine z_getI (pc := 216) dX12_meeting_216 fd_X12_359 ex44 ?_
              refine z_iconst (pc := 219) (x := 0) dX12_meeting_219 zc_iconst_0 ?_
              obtain ⟨h45, eh45, H⟩ := zbind H
              refine z_iastore (pc := 220) dX12_meeting_220 eh45 ?_
              refine z_aload_n (pc := 221) 1 dX12_meeting_221 rfl rfl ?_
              obtain ⟨r46, er46, H⟩ := zbind H
              refine z_getR (pc := 222) dX12_meeting_222 fd_X12_145 er46 ?_
              refine z_aload_n (pc := 225) 1 dX12_meeting_225 rfl rfl ?_
              obtain ⟨x47, ex47, H⟩ := zbind H
              refine z_getI (pc := 226) dX12_meeting_226 fd_X12_359 ex47 ?_
              refine z_bipush (pc := 229) (x := 50) dX12_meeting_229 zc_bipush_50 ?_
              obtain ⟨h48, eh48, H⟩ := zbind H
              refine z_iastore (pc := 231) dX12_meeting_231 eh48 ?_
              refine z_aload_n (pc := 232) 1 dX12_meeting_232 rfl rfl ?_
              refine z_dup (pc := 233) dX12_meeting_233 rfl ?_
              obtain ⟨x49, ex49, H⟩ := zbind H
              refine z_getI (pc := 234) dX12_meeting_234 fd_X12_359 ex49 ?_
              refine z_iconst (pc := 237) (x := 1) dX12_meeting_237 zc_iconst_1 ?_
              refine z_iadd (pc := 238) dX12_meeting_238 ?_
              obtain ⟨h50, eh50, H⟩ := zbind H
              refine z_put (pc := 239) dX12_meeting_239 fd_X12_359 rfl rfl eh50 ?_
              refine z_aload_n (pc := 242) 1 dX12_meeting_242 rfl rfl ?_
              obtain ⟨x51, ex51, H⟩ := zbind H
              refine z_getI (pc := 243) dX12_meeting_243 fd_X12_359 ex51 ?_
              refine z_iconst (pc := 246) (x := 1) dX12_meeting_246 zc_iconst_1 ?_
              refine z_isub (pc := 247) dX12_meeting_247 ?_
              cases H
              exact z_ireturn rfl dX12_meeting_248
            · rw [if_pos c15] at H
              refine z_iconst (pc := 115) (x := (-1)) dX12_meeting_115 zc_iconst_m1 ?_
              cases H
              exact z_ireturn rfl dX12_meeting_116
    refine z_if_eq (pc := 53) 81 dX12_meeting_53 (by decide) (fun c7 => ?_) (fun c7 => ?_)
    · rw [if_pos c7] at em6
      refine z_iconst (pc := 81) (x := 0) dX12_meeting_81 zc_iconst_0 ?_
      cases em6
      exact z_sub [1, 2, 3, 4, 5, 6, 7, 8, 0] rfl Jm6
    · rw [if_neg c7] at em6
      refine z_iload (pc := 56) 7 dX12_meeting_56 rfl ?_
      refine z_iconst (pc := 58) (x := 1) dX12_meeting_58 zc_iconst_1 ?_
      refine z_bipush (pc := 59) (x := 60) dX12_meeting_59 zc_bipush_60 ?_
      refine z_callS (pc := 61) (mc := 0) (ms := 0) (d' := 0) (mc' := 0) (ms' := 0) (rest := []) [.int v6, .int 1, .int 60] dX12_meeting_61 md_X12_within ml_X12_352 sm_X12_within rfl rfl (Nat.le_of_ble_eq_true rfl) (by omega) (k_X12_within v6 1 60 h1 _ rfl) ?_
      refine z_if_eq (pc := 64) 81 dX12_meeting_64 (by decide) (fun c8 => ?_) (fun c8 => ?_)
      · rw [if_pos c8] at em6
        refine z_iconst (pc := 81) (x := 0) dX12_meeting_81 zc_iconst_0 ?_
        cases em6
        exact z_sub [1, 2, 3, 4, 5, 6, 7, 8, 0] rfl Jm6
      · rw [if_neg c8] at em6
        refine z_iload (pc := 67) 8 dX12_meeting_67 rfl ?_
        refine z_iconst (pc := 69) (x := 0) dX12_meeting_69 zc_iconst_0 ?_
        refine z_iconst (pc := 70) (x := 5) dX12_meeting_70 zc_iconst_5 ?_
        refine z_callS (pc := 71) (mc := 0) (ms := 0) (d' := 0) (mc' := 0) (ms' := 0) (rest := []) [.int v7, .int 0, .int 5] dX12_meeting_71 md_X12_within ml_X12_352 sm_X12_within rfl rfl (Nat.le_of_ble_eq_true rfl) (by omega) (k_X12_within v7 0 5 h1 _ rfl) ?_
        refine z_if_eq (pc := 74) 81 dX12_meeting_74 (by decide) (fun c9 => ?_) (fun c9 => ?_)
        · rw [if_pos c9] at em6
          refine z_iconst (pc := 81) (x := 0) dX12_meeting_81 zc_iconst_0 ?_
          cases em6
          exact z_sub [1, 2, 3, 4, 5, 6, 7, 8, 0] rfl Jm6
        · rw [if_neg c9] at em6
          refine z_iconst (pc := 77) (x := 1) dX12_meeting_77 zc_iconst_1 ?_
          refine z_goto (pc := 78) 82 dX12_meeting_78 (by decide) ?_
          cases em6
          exact z_sub [1, 2, 3, 4, 5, 6, 7, 8, 0] rfl Jm6
  refine z_if_eq (pc := 13) 41 dX12_meeting_13 (by decide) (fun c3 => ?_) (fun c3 => ?_)
  · rw [if_pos c3] at em2
    refine z_iconst (pc := 41) (x := 0) dX12_meeting_41 zc_iconst_0 ?_
    cases em2
    exact z_sub [0, 1, 2, 3, 4, 5, 6, 7] rfl Jm2
  · rw [if_neg c3] at em2
    refine z_iload_n (pc := 16) 3 dX12_meeting_16 rfl rfl ?_
    refine z_iconst (pc := 17) (x := 1) dX12_meeting_17 zc_iconst_1 ?_
    refine z_sipush (pc := 18) (x := 300) dX12_meeting_18 zc_sipush_300 ?_
    refine z_callS (pc := 21) (mc := 0) (ms := 0) (d' := 0) (mc' := 0) (ms' := 0) (rest := []) [.int v3, .int 1, .int 300] dX12_meeting_21 md_X12_within ml_X12_352 sm_X12_within rfl rfl (Nat.le_of_ble_eq_true rfl) (by omega) (k_X12_within v3 1 300 h1 _ rfl) ?_
    refine z_if_eq (pc := 24) 41 dX12_meeting_24 (by decide) (fun c4 => ?_) (fun c4 => ?_)
    · rw [if_pos c4] at em2
      refine z_iconst (pc := 41) (x := 0) dX12_meeting_41 zc_iconst_0 ?_
      cases em2
      exact z_sub [0, 1, 2, 3, 4, 5, 6, 7] rfl Jm2
    · rw [if_neg c4] at em2
      refine z_iload (pc := 27) 4 dX12_meeting_27 rfl ?_
      refine z_iconst (pc := 29) (x := 0) dX12_meeting_29 zc_iconst_0 ?_
      refine z_iconst (pc := 30) (x := 5) dX12_meeting_30 zc_iconst_5 ?_
      refine z_callS (pc := 31) (mc := 0) (ms := 0) (d' := 0) (mc' := 0) (ms' := 0) (rest := []) [.int v4, .int 0, .int 5] dX12_meeting_31 md_X12_within ml_X12_352 sm_X12_within rfl rfl (Nat.le_of_ble_eq_true rfl) (by omega) (k_X12_within v4 0 5 h1 _ rfl) ?_
      refine z_if_eq (pc := 34) 41 dX12_meeting_34 (by decide) (fun c5 => ?_) (fun c5 => ?_)
      · rw [if_pos c5] at em2
        refine z_iconst (pc := 41) (x := 0) dX12_meeting_41 zc_iconst_0 ?_
        cases em2
        exact z_sub [0, 1, 2, 3, 4, 5, 6, 7] rfl Jm2
      · rw [if_neg c5] at em2
        refine z_iconst (pc := 37) (x := 1) dX12_meeting_37 zc_iconst_1 ?_
        refine z_goto (pc := 38) 42 dX12_meeting_38 (by decide) ?_
        cases em2
        exact z_sub [0, 1, 2, 3, 4, 5, 6, 7] rfl Jm2

theorem md_X12_isMeeting : zMd yX12_isMeeting cX12_isMeeting 2 1 (some .boolean) := ⟨zmw (zmt_7 _ (List.mem_of_getElem? (i := 192) rfl)) rfl, zmem 127 (by decide +kernel) rfl, by decide, by decide, by decide +kernel, by decide⟩
theorem ml_X12_362 : Cond.methodLink RX12 362 yX12_isMeeting ∈ zB := zmem 1740 (by decide +kernel) rfl
theorem im_X12_isMeeting : Cond.instanceMethod yX12_isMeeting ∈ zB := zmem 1742 (by decide +kernel) rfl
theorem se_X12_isMeeting : Cond.selects yX12_isMeeting.cls yX12_isMeeting yX12_isMeeting ∈ zB := zmem 83 (by decide +kernel) rfl
def f_X12_stand (N : Nat) (v0 : Nat) (v1 : Int32) (v2 : Int32) (v3 : Int32) (v4 : Int32) (v5 : Int32) (h : zH) : Option (Int32 × zH) := (pF h v0 12 0 (.int 0)).bind fun h1 => (if v2 = 0 then (some 1) else (if (p_X12_within v2 (-9999) (-1)) = 0 then (some 0) else (if (p_X12_within v3 (-999) (-1)) = 0 then (some 0) else (some 1))) : Option (Int32)).bind fun m2 => zif (zob h1 v0 12) <| (f_X12_isMeeting N v0 v1 h1).bind fun q7 => if q7 = 0 then (some (0, h1)) else (if m2 = 0 then (some (0, h1)) else (if (p_X12_within v4 0 2) = 0 then (some (0, h1)) else (if (p_X12_within v5 0 99) = 0 then (some (0, h1)) else ((gR h1 v0 12 35).bind fun r12 => (sI h1 r12 v1 v2).bind fun h13 => (gR h13 v0 12 36).bind fun r14 => (if v2 = 0 then (some 0) else (some v3) : Option (Int32)).bind fun m15 => (sI h13 r14 v1 m15).bind fun h17 => (gR h17 v0 12 37).bind fun r18 => (sI h17 r18 v1 v4).bind fun h19 => (gR h19 v0 12 38).bind fun r20 => (sI h19 r20 v1 v5).bind fun h21 => some (1, h21)))))
set_option maxRecDepth 100000 in
set_option maxHeartbeats 4000000 in
theorem k_X12_stand {N : Nat} {v0 : Nat} {v1 : Int32} {v2 : Int32} {v3 : Int32} {v4 : Int32} {v5 : Int32} {h : zH} {r : Int32 × zH} (H : f_X12_stand N v0 v1 v2 v3 v4 v5 h = some r) : zOk 1 0 0 yX12_stand cX12_stand 7 (some .boolean) [.ref v0, .int v1, .int v2, .int v3, .int v4, .int v5] h (some (.int r.1)) r.2 := by
  refine zOk.of (by decide) (Nat.le_of_ble_eq_true rfl) ?_
  unfold f_X12_stand at H
  refine z_aload_n (pc := 0) 0 dX12_stand_0 rfl rfl ?_
  refine z_iconst (pc := 1) (x := 0) dX12_stand_1 zc_iconst_0 ?_
  obtain ⟨h1, eh1, H⟩ := zbind H
  refine z_put (pc := 2) dX12_stand_2 fd_X12_1 rfl rfl eh1 ?_
  refine z_iload_n (pc := 5) 2 dX12_stand_5 rfl rfl ?_
  obtain ⟨m2, em2, H⟩ := zbind H
  have Jm2 : zW yX12_stand cX12_stand 7 (some .boolean) 1 0 0 36 [(0, .ref v0), (1, .int v1), (2, .int v2), (3, .int v3), (4, .int v4), (5, .int v5)] [.int m2] h1 (some (.int r.1)) r.2 := by
    refine z_istore (pc := 36) (lv' := [(6, .int m2), (0, .ref v0), (1, .int v1), (2, .int v2), (3, .int v3), (4, .int v4), (5, .int v5)]) dX12_stand_36 (by decide) rfl ?_
    refine z_aload_n (pc := 38) 1 dX12_stand_38 rfl rfl ?_
    refine z_iload_n (pc := 39) 2 dX12_stand_39 rfl rfl ?_
    obtain ⟨z6, H⟩ := zifE H
    obtain ⟨q7, eq7, H⟩ := zbind H
    refine z_callV (pc := 40) (mc := 0) (ms := 0) (d' := 0) (mc' := 0) (ms' := 0) (rest := []) [.int v1] dX12_stand_40 md_X12_isMeeting ml_X12_362 im_X12_isMeeting se_X12_isMeeting rfl z6 rfl rfl (Nat.le_of_ble_eq_true rfl) (by omega) (k_X12_isMeeting eq7) ?_
    refine z_if_eq (pc := 43) 72 dX12_stand_43 (by decide) (fun c8 => ?_) (fun c8 => ?_)
    · rw [if_pos c8] at H
      refine z_iconst (pc := 72) (x := 0) dX12_stand_72 zc_iconst_0 ?_
      cases H
      exact z_zreturn rfl dX12_stand_73 (by decide)
    · rw [if_neg c8] at H
      refine z_iload (pc := 46) 0 dX12_stand_46 rfl ?_
      refine z_if_eq (pc := 48) 72 dX12_stand_48 (by decide) (fun c9 => ?_) (fun c9 => ?_)
      · rw [if_pos c9] at H
        refine z_iconst (pc := 72) (x := 0) dX12_stand_72 zc_iconst_0 ?_
        cases H
        exact z_zreturn rfl dX12_stand_73 (by decide)
      · rw [if_neg c9] at H
        refine z_iload (pc := 51) 5 dX12_stand_51 rfl ?_
        refine z_iconst (pc := 53) (x := 0) dX12_stand_53 zc_iconst_0 ?_
        refine z_iconst (pc := 54) (x := 2) dX12_stand_54 zc_iconst_2 ?_
        refine z_callS (pc := 55) (mc := 0) (ms := 0) (d' := 0) (mc' := 0) (ms' := 0) (rest := []) [.int v4, .int 0, .int 2] dX12_stand_55 md_X12_within ml_X12_352 sm_X12_within rfl rfl (Nat.le_of_ble_eq_true rfl) (by omega) (k_X12_within v4 0 2 h1 _ rfl) ?_
        refine z_if_eq (pc := 58) 72 dX12_stand_58 (by decide) (fun c10 => ?_) (fun c10 => ?_)
        · rw [if_pos c10] at H
          refine z_iconst (pc := 72) (x := 0) dX12_stand_72 zc_iconst_0 ?_
          cases H
          exact z_zreturn rfl dX12_stand_73 (by decide)
        · rw [if_neg c10] at H
          refine z_iload (pc := 61) 6 dX12_stand_61 rfl ?_
          refine z_iconst (pc := 63) (x := 0) dX12_stand_63 zc_iconst_0 ?_
          refine z_bipush (pc := 64) (x := 99) dX12_stand_64 zc_bipush_99 ?_
          refine z_callS (pc := 66) (mc := 0) (ms := 0) (d' := 0) (mc' := 0) (ms' := 0) (rest := []) [.int v5, .int 0, .int 99] dX12_stand_66 md_X12_within ml_X12_352 sm_X12_within rfl rfl (Nat.le_of_ble_eq_true rfl) (by omega) (k_X12_within v5 0 99 h1 _ rfl) ?_
          refine z_if_ne (pc := 69) 74 dX12_stand_69 (by decide) (fun c11 => ?_) (fun c11 => ?_)
          · rw [if_neg c11] at H
            refine z_aload_n (pc := 74) 1 dX12_stand_74 rfl rfl ?_
            obtain ⟨r12, er12, H⟩ := zbind H
            refine z_getR (pc := 75) dX12_stand_75 fd_X12_136 er12 ?_
            refine z_iload_n (pc := 78) 2 dX12_stand_78 rfl rfl ?_
            refine z_iload_n (pc := 79) 3 dX12_stand_79 rfl rfl ?_
            obtain ⟨h13, eh13, H⟩ := zbind H
            refine z_iastore (pc := 80) dX12_stand_80 eh13 ?_
            refine z_aload_n (pc := 81) 1 dX12_stand_81 rfl rfl ?_
            obtain ⟨r14, er14, H⟩ := zbind H
            refine z_getR (pc := 82) dX12_stand_82 fd_X12_139 er14 ?_
            refine z_iload_n (pc := 85) 2 dX12_stand_85 rfl rfl ?_
            refine z_iload_n (pc := 86) 3 dX12_stand_86 rfl rfl ?_
            obtain ⟨m15, em15, H⟩ := zbind H
            have Jm15 : zW yX12_stand cX12_stand 7 (some .boolean) 1 0 0 95 [(0, .ref v0), (1, .int v1), (4, .int v4), (5, .int v5)] [.int m15, .int v1, .ref r14] h13 (some (.int r.1)) r.2 := by
              obtain ⟨h17, eh17, H⟩ := zbind H
              refine z_iastore (pc := 95) dX12_stand_95 eh17 ?_
              refine z_aload_n (pc := 96) 0 dX12_stand_96 rfl rfl ?_
              obtain ⟨r18, er18, H⟩ := zbind H
              refine z_getR (pc := 97) dX12_stand_97 fd_X12_142 er18 ?_
              refine z_iload_n (pc := 100) 1 dX12_stand_100 rfl rfl ?_
              refine z_iload (pc := 101) 2 dX12_stand_101 rfl ?_
              obtain ⟨h19, eh19, H⟩ := zbind H
              refine z_iastore (pc := 103) dX12_stand_103 eh19 ?_
              refine z_aload_n (pc := 104) 0 dX12_stand_104 rfl rfl ?_
              obtain ⟨r20, er20, H⟩ := zbind H
              refine z_getR (pc := 105) dX12_stand_105 fd_X12_145 er20 ?_
              refine z_iload_n (pc := 108) 1 dX12_stand_108 rfl rfl ?_
              refine z_iload (pc := 109) 3 dX12_stand_109 rfl ?_
              obtain ⟨h21, eh21, H⟩ := zbind H
              refine z_iastore (pc := 111) dX12_stand_111 eh21 ?_
              refine z_iconst (pc := 112) (x := 1) dX12_stand_112 zc_iconst_1 ?_
              cases H
              exact z_zreturn rfl dX12_stand_113 (by decide)
            refine z_if_ne (pc := 87) 94 dX12_stand_87 (by decide) (fun c16 => ?_) (fun c16 => ?_)
            · rw [if_neg c16] at em15
              refine z_iload_n (pc := 94) 4 dX12_stand_94 rfl rfl ?_
              cases em15
              exact z_sub [1, 2, 5, 6] rfl Jm15
            · rw [if_pos c16] at em15
              refine z_iconst (pc := 90) (x := 0) dX12_stand_90 zc_iconst_0 ?_
              refine z_goto (pc := 91) 95 dX12_stand_91 (by decide) ?_
              cases em15
              exact z_sub [1, 2, 5, 6] rfl Jm15
          · rw [if_pos c11] at H
            refine z_iconst (pc := 72) (x := 0) dX12_stand_72 zc_iconst_0 ?_
            cases H
            exact z_zreturn rfl dX12_stand_73 (by decide)
  refine z_if_eq (pc := 6) 31 dX12_stand_6 (by decide) (fun c3 => ?_) (fun c3 => ?_)
  · rw [if_pos c3] at em2
    refine z_iconst (pc := 31) (x := 1) dX12_stand_31 zc_iconst_1 ?_
    refine z_goto (pc := 32) 36 dX12_stand_32 (by decide) ?_
    cases em2
    exact z_sub [0, 1, 2, 3, 4, 5] rfl Jm2
  · rw [if_neg c3] at em2
    refine z_iload_n (pc := 9) 2 dX12_stand_9 rfl rfl ?_
    refine z_sipush (pc := 10) (x := (-9999)) dX12_stand_10 zc_sipush_m9999 ?_
    refine z_iconst (pc := 13) (x := (-1)) dX12_stand_13 zc_iconst_m1 ?_
    refine z_callS (pc := 14) (mc := 0) (ms := 0) (d' := 0) (mc' := 0) (ms' := 0) (rest := []) [.int v2, .int (-9999), .int (-1)] dX12_stand_14 md_X12_within ml_X12_352 sm_X12_within rfl rfl (Nat.le_of_ble_eq_true rfl) (by omega) (k_X12_within v2 (-9999) (-1) h1 _ rfl) ?_
    refine z_if_eq (pc := 17) 35 dX12_stand_17 (by decide) (fun c4 => ?_) (fun c4 => ?_)
    · rw [if_pos c4] at em2
      refine z_iconst (pc := 35) (x := 0) dX12_stand_35 zc_iconst_0 ?_
      cases em2
      exact z_sub [0, 1, 2, 3, 4, 5] rfl Jm2
    · rw [if_neg c4] at em2
      refine z_iload_n (pc := 20) 3 dX12_stand_20 rfl rfl ?_
      refine z_sipush (pc := 21) (x := (-999)) dX12_stand_21 zc_sipush_m999 ?_
      refine z_iconst (pc := 24) (x := (-1)) dX12_stand_24 zc_iconst_m1 ?_
      refine z_callS (pc := 25) (mc := 0) (ms := 0) (d' := 0) (mc' := 0) (ms' := 0) (rest := []) [.int v3, .int (-999), .int (-1)] dX12_stand_25 md_X12_within ml_X12_352 sm_X12_within rfl rfl (Nat.le_of_ble_eq_true rfl) (by omega) (k_X12_within v3 (-999) (-1) h1 _ rfl) ?_
      refine z_if_eq (pc := 28) 35 dX12_stand_28 (by decide) (fun c5 => ?_) (fun c5 => ?_)
      · rw [if_pos c5] at em2
        refine z_iconst (pc := 35) (x := 0) dX12_stand_35 zc_iconst_0 ?_
        cases em2
        exact z_sub [0, 1, 2, 3, 4, 5] rfl Jm2
      · rw [if_neg c5] at em2
        refine z_iconst (pc := 31) (x := 1) dX12_stand_31 zc_iconst_1 ?_
        refine z_goto (pc := 32) 36 dX12_stand_32 (by decide) ?_
        cases em2
        exact z_sub [0, 1, 2, 3, 4, 5] rfl Jm2

def f_X12_isHidden (N : Nat) (v0 : Nat) (v1 : Int32) (v2 : Int32) (v3 : Int32) (h : zH) : Option (Int32) := (gR h v0 12 35).bind fun r1 => (aI h r1 v1).bind fun x2 => (gR h v0 12 36).bind fun r3 => (aI h r3 v1).bind fun x4 => if 0 ≤ x2 then (some 0) else (if x2 ≤ v2 then (some 0) else (if x4 ≤ v3 then (some 0) else (if (v2 * v3) < ((x2 * v3) + (x4 * v2)) then (some 0) else (some 1))))
set_option maxRecDepth 100000 in
set_option maxHeartbeats 4000000 in
theorem k_X12_isHidden {N : Nat} {v0 : Nat} {v1 : Int32} {v2 : Int32} {v3 : Int32} {h : zH} {r : Int32} (H : f_X12_isHidden N v0 v1 v2 v3 h = some r) : zOk 0 0 0 yX12_isHidden cX12_isHidden 6 (some .boolean) [.ref v0, .int v1, .int v2, .int v3] h (some (.int r)) h := by
  refine zOk.of (by decide) (Nat.le_of_ble_eq_true rfl) ?_
  unfold f_X12_isHidden at H
  refine z_aload_n (pc := 0) 0 dX12_isHidden_0 rfl rfl ?_
  obtain ⟨r1, er1, H⟩ := zbind H
  refine z_getR (pc := 1) dX12_isHidden_1 fd_X12_136 er1 ?_
  refine z_iload_n (pc := 4) 1 dX12_isHidden_4 rfl rfl ?_
  obtain ⟨x2, ex2, H⟩ := zbind H
  refine z_iaload (pc := 5) dX12_isHidden_5 ex2 ?_
  refine z_istore (pc := 6) (lv' := [(4, .int x2), (0, .ref v0), (1, .int v1), (2, .int v2), (3, .int v3)]) dX12_isHidden_6 (by decide) rfl ?_
  refine z_aload_n (pc := 8) 1 dX12_isHidden_8 rfl rfl ?_
  obtain ⟨r3, er3, H⟩ := zbind H
  refine z_getR (pc := 9) dX12_isHidden_9 fd_X12_139 er3 ?_
  refine z_iload_n (pc := 12) 2 dX12_isHidden_12 rfl rfl ?_
  obtain ⟨x4, ex4, H⟩ := zbind H
  refine z_iaload (pc := 13) dX12_isHidden_13 ex4 ?_
  refine z_istore (pc := 14) (lv' := [(5, .int x4), (4, .int x2), (0, .ref v0), (1, .int v1), (2, .int v2), (3, .int v3)]) dX12_isHidden_14 (by decide) rfl ?_
  refine z_iload (pc := 16) 1 dX12_isHidden_16 rfl ?_
  refine z_if_ge (pc := 18) 52 dX12_isHidden_18 (by decide) (fun c5 => ?_) (fun c5 => ?_)
  · rw [if_pos c5] at H
    refine z_iconst (pc := 52) (x := 0) dX12_isHidden_52 zc_iconst_0 ?_
    cases H
    exact z_zreturn rfl dX12_isHidden_53 (by decide)
  · rw [if_neg c5] at H
    refine z_iload_n (pc := 21) 4 dX12_isHidden_21 rfl rfl ?_
    refine z_iload (pc := 22) 1 dX12_isHidden_22 rfl ?_
    refine z_icmp_ge (pc := 24) 52 dX12_isHidden_24 (by decide) (fun c6 => ?_) (fun c6 => ?_)
    · rw [if_pos c6] at H
      refine z_iconst (pc := 52) (x := 0) dX12_isHidden_52 zc_iconst_0 ?_
      cases H
      exact z_zreturn rfl dX12_isHidden_53 (by decide)
    · rw [if_neg c6] at H
      refine z_iload_n (pc := 27) 5 dX12_isHidden_27 rfl rfl ?_
      refine z_iload (pc := 28) 0 dX12_isHidden_28 rfl ?_
      refine z_icmp_ge (pc := 30) 52 dX12_isHidden_30 (by decide) (fun c7 => ?_) (fun c7 => ?_)
      · rw [if_pos c7] at H
        refine z_iconst (pc := 52) (x := 0) dX12_isHidden_52 zc_iconst_0 ?_
        cases H
        exact z_zreturn rfl dX12_isHidden_53 (by decide)
      · rw [if_neg c7] at H
        refine z_iload (pc := 33) 1 dX12_isHidden_33 rfl ?_
        refine z_iload_n (pc := 35) 5 dX12_isHidden_35 rfl rfl ?_
        refine z_imul (pc := 36) dX12_isHidden_36 ?_
        refine z_iload (pc := 37) 0 dX12_isHidden_37 rfl ?_
        refine z_iload_n (pc := 39) 4 dX12_isHidden_39 rfl rfl ?_
        refine z_imul (pc := 40) dX12_isHidden_40 ?_
        refine z_iadd (pc := 41) dX12_isHidden_41 ?_
        refine z_iload_n (pc := 42) 4 dX12_isHidden_42 rfl rfl ?_
        refine z_iload_n (pc := 43) 5 dX12_isHidden_43 rfl rfl ?_
        refine z_imul (pc := 44) dX12_isHidden_44 ?_
        refine z_icmp_gt (pc := 45) 52 dX12_isHidden_45 (by decide) (fun c8 => ?_) (fun c8 => ?_)
        · rw [if_pos c8] at H
          refine z_iconst (pc := 52) (x := 0) dX12_isHidden_52 zc_iconst_0 ?_
          cases H
          exact z_zreturn rfl dX12_isHidden_53 (by decide)
        · rw [if_neg c8] at H
          refine z_iconst (pc := 48) (x := 1) dX12_isHidden_48 zc_iconst_1 ?_
          refine z_goto (pc := 49) 53 dX12_isHidden_49 (by decide) ?_
          cases H
          exact z_zreturn rfl dX12_isHidden_53 (by decide)

def f_X12_upwards (N : Nat) (v0 : Int32) (v1 : Int32) (h : zH) : Option (Int32) := zdiv v1 <| some (((v0 + v1) - 1) / v1)
set_option maxRecDepth 100000 in
set_option maxHeartbeats 4000000 in
theorem k_X12_upwards {N : Nat} {v0 : Int32} {v1 : Int32} {h : zH} {r : Int32} (H : f_X12_upwards N v0 v1 h = some r) : zOk 0 0 0 yX12_upwards cX12_upwards 2 (some .int) [.int v0, .int v1] h (some (.int r)) h := by
  refine zOk.of (by decide) (Nat.le_of_ble_eq_true rfl) ?_
  unfold f_X12_upwards at H
  refine z_iload_n (pc := 0) 0 dX12_upwards_0 rfl rfl ?_
  refine z_iload_n (pc := 1) 1 dX12_upwards_1 rfl rfl ?_
  refine z_iadd (pc := 2) dX12_upwards_2 ?_
  refine z_iconst (pc := 3) (x := 1) dX12_upwards_3 zc_iconst_1 ?_
  refine z_isub (pc := 4) dX12_upwards_4 ?_
  refine z_iload_n (pc := 5) 1 dX12_upwards_5 rfl rfl ?_
  obtain ⟨z1, H⟩ := zdivE H
  refine z_idiv (pc := 6) dX12_upwards_6 z1 ?_
  cases H
  exact z_ireturn rfl dX12_upwards_7

theorem zc_bipush_35 : (Int8.ofInt (35)).toInt32 = (35 : Int32) := by decide
theorem fd_X12_365 : zFd RX12 365 12 44 (.int) false "WhoseStreetModel" := zFd.of cl_12 (by decide) (zmem 1414 (by decide +kernel) rfl) rfl rfl rfl
theorem fd_X12_368 : zFd RX12 368 12 45 (.int) false "WhoseStreetModel" := zFd.of cl_12 (by decide) (zmem 1415 (by decide +kernel) rfl) rfl rfl rfl
theorem fd_X12_371 : zFd RX12 371 12 43 (.boolean) false "WhoseStreetModel" := zFd.of cl_12 (by decide) (zmem 1413 (by decide +kernel) rfl) rfl rfl rfl
theorem md_X12_isHidden : zMd yX12_isHidden cX12_isHidden 6 3 (some .boolean) := ⟨zmw (zmt_7 _ (List.mem_of_getElem? (i := 208) rfl)) rfl, zmem 127 (by decide +kernel) rfl, by decide, by decide, by decide +kernel, by decide⟩
theorem ml_X12_375 : Cond.methodLink RX12 375 yX12_isHidden ∈ zB := zmem 1756 (by decide +kernel) rfl
theorem im_X12_isHidden : Cond.instanceMethod yX12_isHidden ∈ zB := zmem 1758 (by decide +kernel) rfl
theorem se_X12_isHidden : Cond.selects yX12_isHidden.cls yX12_isHidden yX12_isHidden ∈ zB := zmem 86 (by decide +kernel) rfl
theorem md_X12_upwards : zMd yX12_upwards cX12_upwards 2 2 (some .int) := ⟨zmw (zmt_7 _ (List.mem_of_getElem? (i := 211) rfl)) rfl, zmem 127 (by decide +kernel) rfl, by decide, by decide, by decide +kernel, by decide⟩
theorem ml_X12_378 : Cond.methodLink RX12 378 yX12_upwards ∈ zB := zmem 1760 (by decide +kernel) rfl
theorem sm_X12_upwards : Cond.static yX12_upwards ∈ zB := zmem 1761 (by decide +kernel) rfl
theorem fd_X12_381 : zFd RX12 381 12 42 (.int) false "WhoseStreetModel" := zFd.of cl_12 (by decide) (zmem 1412 (by decide +kernel) rfl) rfl rfl rfl
def f_X12_goesThrough_L84 (N : Nat) (v0 : Nat) (v1 : Int32) (v6 : Int32) : Nat → Int32 → Int32 → Int32 → Int32 → zH → Option (Int32 × zH)
  | 0, _, _, _, _, _ => none
  | n + 1, v3, v4, v5, v7, h => if 60 ≤ v7 then (some (v7, h)) else ((gI h v0 12 43).bind fun x20 => if x20 = 0 then ((if 0 ≤ v3 then (some 0) else (if 0 ≤ v4 then (some 0) else (zif (zob h v0 12) <| (f_X12_isHidden N v0 v1 v3 v4 h).bind fun q26 => if q26 = 0 then (some 1) else (some 0))) : Option (Int32)).bind fun m22 => (if m22 = 0 then ((gI h v0 12 44).bind fun x30 => some x30) else ((gI h v0 12 44).bind fun x31 => if 0 ≤ x31 then ((gI h v0 12 44).bind fun x33 => some x33) else (some v7)) : Option (Int32)).bind fun m28 => (pF h v0 12 44 (.int m28)).bind fun h34 => (if m22 = 0 then (some 0) else ((gR h34 v0 12 34).bind fun r37 => (aI h34 r37 v1).bind fun x38 => if (x38 &&& 1) = 1 then (if v5 ≤ 0 then (some 0) else ((f_X12_upwards N (-v3) v5 h34).bind fun q41 => (gR h34 v0 12 33).bind fun r42 => (aI h34 r42 v1).bind fun x43 => (f_X12_upwards N (-v4) x43 h34).bind fun q44 => if q44 < q41 then (some 0) else (some 1))) else (some 0)) : Option (Int32)).bind fun m35 => (gI h34 v0 12 44).bind fun x46 => (if x46 < 0 then (some v5) else ((gI h34 v0 12 44).bind fun x49 => (gR h34 v0 12 31).bind fun r50 => (aI h34 r50 v1).bind fun x51 => if v7 < (x49 + x51) then (some v5) else (if v5 ≤ v6 then (some 0) else (zlet (v5 - v6 : Int32) fun x54 => some x54))) : Option (Int32)).bind fun m47 => (if m47 = 0 then ((gI h34 v0 12 45).bind fun x58 => if 0 ≤ x58 then ((gI h34 v0 12 45).bind fun x60 => some x60) else (some v7)) else ((gI h34 v0 12 45).bind fun x57 => some x57) : Option (Int32)).bind fun m55 => (pF h34 v0 12 45 (.int m55)).bind fun h61 => (gR h61 v0 12 41).bind fun r62 => (sI h61 r62 v7 m47).bind fun h63 => zlet (v3 + m47 : Int32) fun x64 => (if m35 = 0 then ((gR h63 v0 12 33).bind fun r67 => (aI h63 r67 v1).bind fun x68 => some x68) else (some 0) : Option (Int32)).bind fun m65 => zlet (v4 + m65 : Int32) fun x69 => (gR h63 v0 12 39).bind fun r70 => (sI h63 r70 (v7 + 1) x64).bind fun h71 => (gR h71 v0 12 40).bind fun r72 => (sI h71 r72 (v7 + 1) x69).bind fun h73 => if (p_X12_within x64 0 40) = 0 then ((pZ h73 v0 12 43 0).bind fun h75 => f_X12_goesThrough_L84 N v0 v1 v6 n x64 x69 m47 (v7 + 1) h75) else (if (p_X12_within x69 (-8) 8) = 0 then ((pZ h73 v0 12 43 0).bind fun h77 => f_X12_goesThrough_L84 N v0 v1 v6 n x64 x69 m47 (v7 + 1) h77) else (if m47 ≤ 0 then ((pZ h73 v0 12 43 0).bind fun h79 => f_X12_goesThrough_L84 N v0 v1 v6 n x64 x69 m47 (v7 + 1) h79) else ((pZ h73 v0 12 43 1).bind fun h80 => f_X12_goesThrough_L84 N v0 v1 v6 n x64 x69 m47 (v7 + 1) h80)))) else (some (v7, h)))
set_option maxRecDepth 100000 in
set_option maxHeartbeats 4000000 in
theorem s_X12_goesThrough_L84 {d mc ms N : Nat} {vv : Option Value} {hh : zH} {v0 : Nat} {v1 : Int32} {v6 : Int32} (hd0 : 1 ≤ d) : ∀ (n : Nat) (v3 : Int32) (v4 : Int32) (v5 : Int32) (v7 : Int32) (h : zH) (m : Int32 × zH), f_X12_goesThrough_L84 N v0 v1 v6 n v3 v4 v5 v7 h = some m → (zW yX12_goesThrough cX12_goesThrough 10 none d mc ms 360 [(0, .ref v0), (7, .int m.1)] [] m.2 vv hh) → zW yX12_goesThrough cX12_goesThrough 10 none d mc ms 84 [(0, .ref v0), (1, .int v1), (3, .int v3), (4, .int v4), (5, .int v5), (6, .int v6), (7, .int v7)] [] h vv hh := by
  intro n
  induction n with
  | zero =>
    intro v3 v4 v5 v7 h m H
    cases H
  | succ n ih =>
    intro v3 v4 v5 v7 h m H KE
    unfold f_X12_goesThrough_L84 at H
    refine z_iload (pc := 84) 6 dX12_goesThrough_84 rfl ?_
    refine z_bipush (pc := 86) (x := 60) dX12_goesThrough_86 zc_bipush_60 ?_
    refine z_icmp_ge (pc := 88) 360 dX12_goesThrough_88 (by decide) (fun c19 => ?_) (fun c19 => ?_)
    · rw [if_pos c19] at H
      cases H
      exact z_sub [0, 6] rfl (KE)
    · rw [if_neg c19] at H
      refine z_aload_n (pc := 91) 0 dX12_goesThrough_91 rfl rfl ?_
      obtain ⟨x20, ex20, H⟩ := zbind H
      refine z_getI (pc := 92) dX12_goesThrough_92 fd_X12_371 ex20 ?_
      refine z_if_ne (pc := 95) 360 dX12_goesThrough_95 (by decide) (fun c21 => ?_) (fun c21 => ?_)
      · rw [if_neg c21] at H
        cases H
        exact z_sub [0, 6] rfl (KE)
      · rw [if_pos c21] at H
        refine z_iload_n (pc := 98) 2 dX12_goesThrough_98 rfl rfl ?_
        obtain ⟨m22, em22, H⟩ := zbind H
        have Jm22 : zW yX12_goesThrough cX12_goesThrough 10 none d mc ms 123 [(0, .ref v0), (1, .int v1), (3, .int v3), (4, .int v4), (5, .int v5), (6, .int v6), (7, .int v7)] [.int m22] h vv hh := by
          refine z_istore (pc := 123) (lv' := [(8, .int m22), (0, .ref v0), (1, .int v1), (3, .int v3), (4, .int v4), (5, .int v5), (6, .int v6), (7, .int v7)]) dX12_goesThrough_123 (by decide) rfl ?_
          refine z_aload_n (pc := 125) 1 dX12_goesThrough_125 rfl rfl ?_
          refine z_iload (pc := 126) 0 dX12_goesThrough_126 rfl ?_
          obtain ⟨m28, em28, H⟩ := zbind H
          have Jm28 : zW yX12_goesThrough cX12_goesThrough 10 none d mc ms 147 [(0, .ref v0), (1, .int v1), (3, .int v3), (4, .int v4), (5, .int v5), (6, .int v6), (7, .int v7), (8, .int m22)] [.int m28, .ref v0] h vv hh := by
            obtain ⟨h34, eh34, H⟩ := zbind H
            refine z_put (pc := 147) dX12_goesThrough_147 fd_X12_365 rfl rfl eh34 ?_
            refine z_iload (pc := 150) 7 dX12_goesThrough_150 rfl ?_
            obtain ⟨m35, em35, H⟩ := zbind H
            have Jm35 : zW yX12_goesThrough cX12_goesThrough 10 none d mc ms 199 [(0, .ref v0), (1, .int v1), (3, .int v3), (4, .int v4), (5, .int v5), (6, .int v6), (7, .int v7)] [.int m35] h34 vv hh := by
              refine z_istore (pc := 199) (lv' := [(9, .int m35), (0, .ref v0), (1, .int v1), (3, .int v3), (4, .int v4), (5, .int v5), (6, .int v6), (7, .int v7)]) dX12_goesThrough_199 (by decide) rfl ?_
              refine z_aload_n (pc := 201) 1 dX12_goesThrough_201 rfl rfl ?_
              obtain ⟨x46, ex46, H⟩ := zbind H
              refine z_getI (pc := 202) dX12_goesThrough_202 fd_X12_365 ex46 ?_
              obtain ⟨m47, em47, H⟩ := zbind H
              have Jm47 : zW yX12_goesThrough cX12_goesThrough 10 none d mc ms 242 [(0, .ref v0), (1, .int v1), (3, .int v3), (4, .int v4), (5, .int m47), (6, .int v6), (7, .int v7), (9, .int m35)] [] h34 vv hh := by
                refine z_aload_n (pc := 242) 0 dX12_goesThrough_242 rfl rfl ?_
                refine z_iload (pc := 243) 4 dX12_goesThrough_243 rfl ?_
                obtain ⟨m55, em55, H⟩ := zbind H
                have Jm55 : zW yX12_goesThrough cX12_goesThrough 10 none d mc ms 264 [(0, .ref v0), (1, .int v1), (3, .int v3), (4, .int v4), (5, .int m47), (6, .int v6), (7, .int v7), (9, .int m35)] [.int m55, .ref v0] h34 vv hh := by
                  obtain ⟨h61, eh61, H⟩ := zbind H
                  refine z_put (pc := 264) dX12_goesThrough_264 fd_X12_368 rfl rfl eh61 ?_
                  refine z_aload_n (pc := 267) 0 dX12_goesThrough_267 rfl rfl ?_
                  obtain ⟨r62, er62, H⟩ := zbind H
                  refine z_getR (pc := 268) dX12_goesThrough_268 fd_X12_154 er62 ?_
                  refine z_iload (pc := 271) 6 dX12_goesThrough_271 rfl ?_
                  refine z_iload (pc := 273) 4 dX12_goesThrough_273 rfl ?_
                  obtain ⟨h63, eh63, H⟩ := zbind H
                  refine z_iastore (pc := 275) dX12_goesThrough_275 eh63 ?_
                  refine z_iload_n (pc := 276) 2 dX12_goesThrough_276 rfl rfl ?_
                  refine z_iload (pc := 277) 4 dX12_goesThrough_277 rfl ?_
                  refine z_iadd (pc := 279) dX12_goesThrough_279 ?_
                  obtain ⟨x64, ex64, H⟩ := zletE H
                  refine z_nmI ex64 ?_
                  refine z_istore_n (pc := 280) (lv' := [(3, .int x64), (0, .ref v0), (1, .int v1), (4, .int v4), (5, .int m47), (6, .int v6), (7, .int v7), (9, .int m35)]) dX12_goesThrough_280 rfl (by decide) rfl ?_
                  refine z_iload (pc := 281) 3 dX12_goesThrough_281 rfl ?_
                  refine z_iload (pc := 283) 7 dX12_goesThrough_283 rfl ?_
                  obtain ⟨m65, em65, H⟩ := zbind H
                  have Jm65 : zW yX12_goesThrough cX12_goesThrough 10 none d mc ms 298 [(0, .ref v0), (1, .int v1), (3, .int x64), (5, .int m47), (6, .int v6), (7, .int v7)] [.int m65, .int v4] h63 vv hh := by
                    refine z_iadd (pc := 298) dX12_goesThrough_298 ?_
                    obtain ⟨x69, ex69, H⟩ := zletE H
                    refine z_nmI ex69 ?_
                    refine z_istore (pc := 299) (lv' := [(4, .int x69), (0, .ref v0), (1, .int v1), (3, .int x64), (5, .int m47), (6, .int v6), (7, .int v7)]) dX12_goesThrough_299 (by decide) rfl ?_
                    refine z_iinc (pc := 301) (x' := v7 + 1) (lv' := [(7, .int (v7 + 1)), (4, .int x69), (0, .ref v0), (1, .int v1), (3, .int x64), (5, .int m47), (6, .int v6)]) 6 dX12_goesThrough_301 rfl (by rfl) (by decide) rfl ?_
                    refine z_aload_n (pc := 304) 2 dX12_goesThrough_304 rfl rfl ?_
                    obtain ⟨r70, er70, H⟩ := zbind H
                    refine z_getR (pc := 305) dX12_goesThrough_305 fd_X12_148 er70 ?_
                    refine z_iload (pc := 308) 0 dX12_goesThrough_308 rfl ?_
                    refine z_iload_n (pc := 310) 4 dX12_goesThrough_310 rfl rfl ?_
                    obtain ⟨h71, eh71, H⟩ := zbind H
                    refine z_iastore (pc := 311) dX12_goesThrough_311 eh71 ?_
                    refine z_aload_n (pc := 312) 2 dX12_goesThrough_312 rfl rfl ?_
                    obtain ⟨r72, er72, H⟩ := zbind H
                    refine z_getR (pc := 313) dX12_goesThrough_313 fd_X12_151 er72 ?_
                    refine z_iload (pc := 316) 0 dX12_goesThrough_316 rfl ?_
                    refine z_iload (pc := 318) 1 dX12_goesThrough_318 rfl ?_
                    obtain ⟨h73, eh73, H⟩ := zbind H
                    refine z_iastore (pc := 320) dX12_goesThrough_320 eh73 ?_
                    refine z_aload_n (pc := 321) 2 dX12_goesThrough_321 rfl rfl ?_
                    refine z_iload_n (pc := 322) 4 dX12_goesThrough_322 rfl rfl ?_
                    refine z_iconst (pc := 323) (x := 0) dX12_goesThrough_323 zc_iconst_0 ?_
                    refine z_bipush (pc := 324) (x := 40) dX12_goesThrough_324 zc_bipush_40 ?_
                    refine z_callS (pc := 326) (mc := mc) (ms := ms) (d' := 0) (mc' := 0) (ms' := 0) (rest := [.ref v0]) [.int x64, .int 0, .int 40] dX12_goesThrough_326 md_X12_within ml_X12_352 sm_X12_within rfl rfl (Nat.le_of_ble_eq_true rfl) (by omega) (k_X12_within x64 0 40 h73 _ rfl) ?_
                    refine z_if_eq (pc := 329) 353 dX12_goesThrough_329 (by decide) (fun c74 => ?_) (fun c74 => ?_)
                    · rw [if_pos c74] at H
                      refine z_iconst (pc := 353) (x := 0) dX12_goesThrough_353 zc_iconst_0 ?_
                      obtain ⟨h75, eh75, H⟩ := zbind H
                      refine z_put (pc := 354) dX12_goesThrough_354 fd_X12_371 (pZ_n eh75) (pZ_f eh75) (pZ_p eh75) ?_
                      refine z_goto (pc := 357) 84 dX12_goesThrough_357 (by decide) ?_
                      exact z_sub [2, 3, 4, 1, 5, 6, 0] rfl (ih x64 x69 m47 (v7 + 1) h75 _ H KE)
                    · rw [if_neg c74] at H
                      refine z_iload (pc := 332) 1 dX12_goesThrough_332 rfl ?_
                      refine z_bipush (pc := 334) (x := (-8)) dX12_goesThrough_334 zc_bipush_m8 ?_
                      refine z_bipush (pc := 336) (x := 8) dX12_goesThrough_336 zc_bipush_8 ?_
                      refine z_callS (pc := 338) (mc := mc) (ms := ms) (d' := 0) (mc' := 0) (ms' := 0) (rest := [.ref v0]) [.int x69, .int (-8), .int 8] dX12_goesThrough_338 md_X12_within ml_X12_352 sm_X12_within rfl rfl (Nat.le_of_ble_eq_true rfl) (by omega) (k_X12_within x69 (-8) 8 h73 _ rfl) ?_
                      refine z_if_eq (pc := 341) 353 dX12_goesThrough_341 (by decide) (fun c76 => ?_) (fun c76 => ?_)
                      · rw [if_pos c76] at H
                        refine z_iconst (pc := 353) (x := 0) dX12_goesThrough_353 zc_iconst_0 ?_
                        obtain ⟨h77, eh77, H⟩ := zbind H
                        refine z_put (pc := 354) dX12_goesThrough_354 fd_X12_371 (pZ_n eh77) (pZ_f eh77) (pZ_p eh77) ?_
                        refine z_goto (pc := 357) 84 dX12_goesThrough_357 (by decide) ?_
                        exact z_sub [2, 3, 4, 1, 5, 6, 0] rfl (ih x64 x69 m47 (v7 + 1) h77 _ H KE)
                      · rw [if_neg c76] at H
                        refine z_iload (pc := 344) 5 dX12_goesThrough_344 rfl ?_
                        refine z_if_le (pc := 346) 353 dX12_goesThrough_346 (by decide) (fun c78 => ?_) (fun c78 => ?_)
                        · rw [if_pos c78] at H
                          refine z_iconst (pc := 353) (x := 0) dX12_goesThrough_353 zc_iconst_0 ?_
                          obtain ⟨h79, eh79, H⟩ := zbind H
                          refine z_put (pc := 354) dX12_goesThrough_354 fd_X12_371 (pZ_n eh79) (pZ_f eh79) (pZ_p eh79) ?_
                          refine z_goto (pc := 357) 84 dX12_goesThrough_357 (by decide) ?_
                          exact z_sub [2, 3, 4, 1, 5, 6, 0] rfl (ih x64 x69 m47 (v7 + 1) h79 _ H KE)
                        · rw [if_neg c78] at H
                          refine z_iconst (pc := 349) (x := 1) dX12_goesThrough_349 zc_iconst_1 ?_
                          refine z_goto (pc := 350) 354 dX12_goesThrough_350 (by decide) ?_
                          obtain ⟨h80, eh80, H⟩ := zbind H
                          refine z_put (pc := 354) dX12_goesThrough_354 fd_X12_371 (pZ_n eh80) (pZ_f eh80) (pZ_p eh80) ?_
                          refine z_goto (pc := 357) 84 dX12_goesThrough_357 (by decide) ?_
                          exact z_sub [2, 3, 4, 1, 5, 6, 0] rfl (ih x64 x69 m47 (v7 + 1) h80 _ H KE)
                  refine z_if_eq (pc := 285) 292 dX12_goesThrough_285 (by decide) (fun c66 => ?_) (fun c66 => ?_)
                  · rw [if_pos c66] at em65
                    refine z_aload_n (pc := 292) 1 dX12_goesThrough_292 rfl rfl ?_
                    obtain ⟨r67, er67, em65⟩ := zbind em65
                    refine z_getR (pc := 293) dX12_goesThrough_293 fd_X12_130 er67 ?_
                    refine z_iload_n (pc := 296) 2 dX12_goesThrough_296 rfl rfl ?_
                    obtain ⟨x68, ex68, em65⟩ := zbind em65
                    refine z_iaload (pc := 297) dX12_goesThrough_297 ex68 ?_
                    cases em65
                    exact z_sub [1, 2, 0, 4, 5, 6] rfl Jm65
                  · rw [if_neg c66] at em65
                    refine z_iconst (pc := 288) (x := 0) dX12_goesThrough_288 zc_iconst_0 ?_
                    refine z_goto (pc := 289) 298 dX12_goesThrough_289 (by decide) ?_
                    cases em65
                    exact z_sub [1, 2, 0, 4, 5, 6] rfl Jm65
                refine z_if_ne (pc := 245) 260 dX12_goesThrough_245 (by decide) (fun c56 => ?_) (fun c56 => ?_)
                · rw [if_neg c56] at em55
                  refine z_aload_n (pc := 260) 0 dX12_goesThrough_260 rfl rfl ?_
                  obtain ⟨x57, ex57, em55⟩ := zbind em55
                  refine z_getI (pc := 261) dX12_goesThrough_261 fd_X12_368 ex57 ?_
                  cases em55
                  exact z_sub [0, 1, 2, 3, 4, 5, 6, 7] rfl Jm55
                · rw [if_pos c56] at em55
                  refine z_aload_n (pc := 248) 0 dX12_goesThrough_248 rfl rfl ?_
                  obtain ⟨x58, ex58, em55⟩ := zbind em55
                  refine z_getI (pc := 249) dX12_goesThrough_249 fd_X12_368 ex58 ?_
                  refine z_if_ge (pc := 252) 260 dX12_goesThrough_252 (by decide) (fun c59 => ?_) (fun c59 => ?_)
                  · rw [if_pos c59] at em55
                    refine z_aload_n (pc := 260) 0 dX12_goesThrough_260 rfl rfl ?_
                    obtain ⟨x60, ex60, em55⟩ := zbind em55
                    refine z_getI (pc := 261) dX12_goesThrough_261 fd_X12_368 ex60 ?_
                    cases em55
                    exact z_sub [0, 1, 2, 3, 4, 5, 6, 7] rfl Jm55
                  · rw [if_neg c59] at em55
                    refine z_iload (pc := 255) 6 dX12_goesThrough_255 rfl ?_
                    refine z_goto (pc := 257) 264 dX12_goesThrough_257 (by decide) ?_
                    cases em55
                    exact z_sub [0, 1, 2, 3, 4, 5, 6, 7] rfl Jm55
              refine z_if_lt (pc := 205) 242 dX12_goesThrough_205 (by decide) (fun c48 => ?_) (fun c48 => ?_)
              · rw [if_pos c48] at em47
                cases em47
                exact z_sub [1, 2, 3, 4, 5, 6, 7, 0] rfl Jm47
              · rw [if_neg c48] at em47
                refine z_iload (pc := 208) 7 dX12_goesThrough_208 rfl ?_
                refine z_aload_n (pc := 210) 1 dX12_goesThrough_210 rfl rfl ?_
                obtain ⟨x49, ex49, em47⟩ := zbind em47
                refine z_getI (pc := 211) dX12_goesThrough_211 fd_X12_365 ex49 ?_
                refine z_aload_n (pc := 214) 1 dX12_goesThrough_214 rfl rfl ?_
                obtain ⟨r50, er50, em47⟩ := zbind em47
                refine z_getR (pc := 215) dX12_goesThrough_215 fd_X12_124 er50 ?_
                refine z_iload_n (pc := 218) 2 dX12_goesThrough_218 rfl rfl ?_
                obtain ⟨x51, ex51, em47⟩ := zbind em47
                refine z_iaload (pc := 219) dX12_goesThrough_219 ex51 ?_
                refine z_iadd (pc := 220) dX12_goesThrough_220 ?_
                refine z_icmp_lt (pc := 221) 242 dX12_goesThrough_221 (by decide) (fun c52 => ?_) (fun c52 => ?_)
                · rw [if_pos c52] at em47
                  cases em47
                  exact z_sub [1, 2, 3, 4, 5, 6, 7, 0] rfl Jm47
                · rw [if_neg c52] at em47
                  refine z_iload (pc := 224) 5 dX12_goesThrough_224 rfl ?_
                  refine z_iload (pc := 226) 6 dX12_goesThrough_226 rfl ?_
                  refine z_icmp_le (pc := 228) 239 dX12_goesThrough_228 (by decide) (fun c53 => ?_) (fun c53 => ?_)
                  · rw [if_pos c53] at em47
                    refine z_iconst (pc := 239) (x := 0) dX12_goesThrough_239 zc_iconst_0 ?_
                    refine z_istore (pc := 240) (lv' := [(5, .int 0), (9, .int m35), (0, .ref v0), (1, .int v1), (3, .int v3), (4, .int v4), (6, .int v6), (7, .int v7)]) dX12_goesThrough_240 (by decide) rfl ?_
                    cases em47
                    exact z_sub [2, 3, 4, 5, 0, 6, 7, 1] rfl Jm47
                  · rw [if_neg c53] at em47
                    refine z_iload (pc := 231) 5 dX12_goesThrough_231 rfl ?_
                    refine z_iload (pc := 233) 6 dX12_goesThrough_233 rfl ?_
                    refine z_isub (pc := 235) dX12_goesThrough_235 ?_
                    refine z_goto (pc := 236) 240 dX12_goesThrough_236 (by decide) ?_
                    obtain ⟨x54, ex54, em47⟩ := zletE em47
                    refine z_nmI ex54 ?_
                    refine z_istore (pc := 240) (lv' := [(5, .int x54), (9, .int m35), (0, .ref v0), (1, .int v1), (3, .int v3), (4, .int v4), (6, .int v6), (7, .int v7)]) dX12_goesThrough_240 (by decide) rfl ?_
                    cases em47
                    exact z_sub [2, 3, 4, 5, 0, 6, 7, 1] rfl Jm47
            refine z_if_eq (pc := 152) 198 dX12_goesThrough_152 (by decide) (fun c36 => ?_) (fun c36 => ?_)
            · rw [if_pos c36] at em35
              refine z_iconst (pc := 198) (x := 0) dX12_goesThrough_198 zc_iconst_0 ?_
              cases em35
              exact z_sub [0, 1, 2, 3, 4, 5, 6] rfl Jm35
            · rw [if_neg c36] at em35
              refine z_aload_n (pc := 155) 0 dX12_goesThrough_155 rfl rfl ?_
              obtain ⟨r37, er37, em35⟩ := zbind em35
              refine z_getR (pc := 156) dX12_goesThrough_156 fd_X12_133 er37 ?_
              refine z_iload_n (pc := 159) 1 dX12_goesThrough_159 rfl rfl ?_
              obtain ⟨x38, ex38, em35⟩ := zbind em35
              refine z_iaload (pc := 160) dX12_goesThrough_160 ex38 ?_
              refine z_iconst (pc := 161) (x := 1) dX12_goesThrough_161 zc_iconst_1 ?_
              refine z_iand (pc := 162) dX12_goesThrough_162 ?_
              refine z_iconst (pc := 163) (x := 1) dX12_goesThrough_163 zc_iconst_1 ?_
              refine z_icmp_ne (pc := 164) 198 dX12_goesThrough_164 (by decide) (fun c39 => ?_) (fun c39 => ?_)
              · rw [if_neg c39] at em35
                refine z_iconst (pc := 198) (x := 0) dX12_goesThrough_198 zc_iconst_0 ?_
                cases em35
                exact z_sub [0, 1, 2, 3, 4, 5, 6] rfl Jm35
              · rw [if_pos c39] at em35
                refine z_iload (pc := 167) 4 dX12_goesThrough_167 rfl ?_
                refine z_if_le (pc := 169) 198 dX12_goesThrough_169 (by decide) (fun c40 => ?_) (fun c40 => ?_)
                · rw [if_pos c40] at em35
                  refine z_iconst (pc := 198) (x := 0) dX12_goesThrough_198 zc_iconst_0 ?_
                  cases em35
                  exact z_sub [0, 1, 2, 3, 4, 5, 6] rfl Jm35
                · rw [if_neg c40] at em35
                  refine z_iload_n (pc := 172) 2 dX12_goesThrough_172 rfl rfl ?_
                  refine z_ineg (pc := 173) dX12_goesThrough_173 ?_
                  refine z_iload (pc := 174) 4 dX12_goesThrough_174 rfl ?_
                  obtain ⟨q41, eq41, em35⟩ := zbind em35
                  refine z_callS (pc := 176) (mc := mc) (ms := ms) (d' := 0) (mc' := 0) (ms' := 0) (rest := []) [.int (-v3), .int v5] dX12_goesThrough_176 md_X12_upwards ml_X12_378 sm_X12_upwards rfl rfl (Nat.le_of_ble_eq_true rfl) (by omega) (k_X12_upwards eq41) ?_
                  refine z_iload (pc := 179) 3 dX12_goesThrough_179 rfl ?_
                  refine z_ineg (pc := 181) dX12_goesThrough_181 ?_
                  refine z_aload_n (pc := 182) 0 dX12_goesThrough_182 rfl rfl ?_
                  obtain ⟨r42, er42, em35⟩ := zbind em35
                  refine z_getR (pc := 183) dX12_goesThrough_183 fd_X12_130 er42 ?_
                  refine z_iload_n (pc := 186) 1 dX12_goesThrough_186 rfl rfl ?_
                  obtain ⟨x43, ex43, em35⟩ := zbind em35
                  refine z_iaload (pc := 187) dX12_goesThrough_187 ex43 ?_
                  obtain ⟨q44, eq44, em35⟩ := zbind em35
                  refine z_callS (pc := 188) (mc := mc) (ms := ms) (d' := 0) (mc' := 0) (ms' := 0) (rest := [.int q41]) [.int (-v4), .int x43] dX12_goesThrough_188 md_X12_upwards ml_X12_378 sm_X12_upwards rfl rfl (Nat.le_of_ble_eq_true rfl) (by omega) (k_X12_upwards eq44) ?_
                  refine z_icmp_gt (pc := 191) 198 dX12_goesThrough_191 (by decide) (fun c45 => ?_) (fun c45 => ?_)
                  · rw [if_pos c45] at em35
                    refine z_iconst (pc := 198) (x := 0) dX12_goesThrough_198 zc_iconst_0 ?_
                    cases em35
                    exact z_sub [0, 1, 2, 3, 4, 5, 6] rfl Jm35
                  · rw [if_neg c45] at em35
                    refine z_iconst (pc := 194) (x := 1) dX12_goesThrough_194 zc_iconst_1 ?_
                    refine z_goto (pc := 195) 199 dX12_goesThrough_195 (by decide) ?_
                    cases em35
                    exact z_sub [0, 1, 2, 3, 4, 5, 6] rfl Jm35
          refine z_if_eq (pc := 128) 143 dX12_goesThrough_128 (by decide) (fun c29 => ?_) (fun c29 => ?_)
          · rw [if_pos c29] at em28
            refine z_aload_n (pc := 143) 1 dX12_goesThrough_143 rfl rfl ?_
            obtain ⟨x30, ex30, em28⟩ := zbind em28
            refine z_getI (pc := 144) dX12_goesThrough_144 fd_X12_365 ex30 ?_
            cases em28
            exact z_sub [1, 2, 3, 4, 5, 6, 7, 0] rfl Jm28
          · rw [if_neg c29] at em28
            refine z_aload_n (pc := 131) 1 dX12_goesThrough_131 rfl rfl ?_
            obtain ⟨x31, ex31, em28⟩ := zbind em28
            refine z_getI (pc := 132) dX12_goesThrough_132 fd_X12_365 ex31 ?_
            refine z_if_ge (pc := 135) 143 dX12_goesThrough_135 (by decide) (fun c32 => ?_) (fun c32 => ?_)
            · rw [if_pos c32] at em28
              refine z_aload_n (pc := 143) 1 dX12_goesThrough_143 rfl rfl ?_
              obtain ⟨x33, ex33, em28⟩ := zbind em28
              refine z_getI (pc := 144) dX12_goesThrough_144 fd_X12_365 ex33 ?_
              cases em28
              exact z_sub [1, 2, 3, 4, 5, 6, 7, 0] rfl Jm28
            · rw [if_neg c32] at em28
              refine z_iload (pc := 138) 7 dX12_goesThrough_138 rfl ?_
              refine z_goto (pc := 140) 147 dX12_goesThrough_140 (by decide) ?_
              cases em28
              exact z_sub [1, 2, 3, 4, 5, 6, 7, 0] rfl Jm28
        refine z_if_ge (pc := 99) 122 dX12_goesThrough_99 (by decide) (fun c23 => ?_) (fun c23 => ?_)
        · rw [if_pos c23] at em22
          refine z_iconst (pc := 122) (x := 0) dX12_goesThrough_122 zc_iconst_0 ?_
          cases em22
          exact z_sub [0, 1, 2, 3, 4, 5, 6] rfl Jm22
        · rw [if_neg c23] at em22
          refine z_iload (pc := 102) 3 dX12_goesThrough_102 rfl ?_
          refine z_if_ge (pc := 104) 122 dX12_goesThrough_104 (by decide) (fun c24 => ?_) (fun c24 => ?_)
          · rw [if_pos c24] at em22
            refine z_iconst (pc := 122) (x := 0) dX12_goesThrough_122 zc_iconst_0 ?_
            cases em22
            exact z_sub [0, 1, 2, 3, 4, 5, 6] rfl Jm22
          · rw [if_neg c24] at em22
            refine z_aload_n (pc := 107) 0 dX12_goesThrough_107 rfl rfl ?_
            refine z_iload_n (pc := 108) 1 dX12_goesThrough_108 rfl rfl ?_
            refine z_iload_n (pc := 109) 2 dX12_goesThrough_109 rfl rfl ?_
            refine z_iload (pc := 110) 3 dX12_goesThrough_110 rfl ?_
            obtain ⟨z25, em22⟩ := zifE em22
            obtain ⟨q26, eq26, em22⟩ := zbind em22
            refine z_callV (pc := 112) (mc := mc) (ms := ms) (d' := 0) (mc' := 0) (ms' := 0) (rest := []) [.int v1, .int v3, .int v4] dX12_goesThrough_112 md_X12_isHidden ml_X12_375 im_X12_isHidden se_X12_isHidden rfl z25 rfl rfl (Nat.le_of_ble_eq_true rfl) (by omega) (k_X12_isHidden eq26) ?_
            refine z_if_ne (pc := 115) 122 dX12_goesThrough_115 (by decide) (fun c27 => ?_) (fun c27 => ?_)
            · rw [if_neg c27] at em22
              refine z_iconst (pc := 122) (x := 0) dX12_goesThrough_122 zc_iconst_0 ?_
              cases em22
              exact z_sub [0, 1, 2, 3, 4, 5, 6] rfl Jm22
            · rw [if_pos c27] at em22
              refine z_iconst (pc := 118) (x := 1) dX12_goesThrough_118 zc_iconst_1 ?_
              refine z_goto (pc := 119) 123 dX12_goesThrough_119 (by decide) ?_
              cases em22
              exact z_sub [0, 1, 2, 3, 4, 5, 6] rfl Jm22
def f_X12_goesThrough (N : Nat) (v0 : Nat) (v1 : Int32) (v2 : Int32) (h : zH) : Option (zH) := (gR h v0 12 29).bind fun r1 => (aI h r1 v1).bind fun x2 => (gR h v0 12 32).bind fun r3 => (aI h r3 v1).bind fun x4 => (gR h v0 12 37).bind fun r5 => (aI h r5 v1).bind fun x6 => (if x6 = 0 then (some 60) else ((gR h v0 12 37).bind fun r9 => (aI h r9 v1).bind fun x10 => if x10 = 1 then (some 35) else (some 10)) : Option (Int32)).bind fun m7 => (pF h v0 12 44 (.int (-1))).bind fun h12 => (pF h12 v0 12 45 (.int (-1))).bind fun h13 => (pZ h13 v0 12 43 0).bind fun h14 => (gR h14 v0 12 39).bind fun r15 => (sI h14 r15 0 x2).bind fun h16 => (gR h16 v0 12 40).bind fun r17 => (sI h16 r17 0 x4).bind fun h18 => (f_X12_goesThrough_L84 N v0 v1 m7 N x2 x4 v2 0 h18).bind fun m81 => (pF m81.2 v0 12 42 (.int m81.1)).bind fun h82 => some h82
set_option maxRecDepth 100000 in
set_option maxHeartbeats 4000000 in
theorem k_X12_goesThrough {N : Nat} {v0 : Nat} {v1 : Int32} {v2 : Int32} {h : zH} {r : zH} (H : f_X12_goesThrough N v0 v1 v2 h = some r) : zOk 1 0 0 yX12_goesThrough cX12_goesThrough 10 none [.ref v0, .int v1, .int v2] h none r := by
  refine zOk.of (by decide) (Nat.le_of_ble_eq_true rfl) ?_
  unfold f_X12_goesThrough at H
  refine z_aload_n (pc := 0) 0 dX12_goesThrough_0 rfl rfl ?_
  obtain ⟨r1, er1, H⟩ := zbind H
  refine z_getR (pc := 1) dX12_goesThrough_1 fd_X12_118 er1 ?_
  refine z_iload_n (pc := 4) 1 dX12_goesThrough_4 rfl rfl ?_
  obtain ⟨x2, ex2, H⟩ := zbind H
  refine z_iaload (pc := 5) dX12_goesThrough_5 ex2 ?_
  refine z_istore_n (pc := 6) (lv' := [(3, .int x2), (0, .ref v0), (1, .int v1), (2, .int v2)]) dX12_goesThrough_6 rfl (by decide) rfl ?_
  refine z_aload_n (pc := 7) 1 dX12_goesThrough_7 rfl rfl ?_
  obtain ⟨r3, er3, H⟩ := zbind H
  refine z_getR (pc := 8) dX12_goesThrough_8 fd_X12_127 er3 ?_
  refine z_iload_n (pc := 11) 2 dX12_goesThrough_11 rfl rfl ?_
  obtain ⟨x4, ex4, H⟩ := zbind H
  refine z_iaload (pc := 12) dX12_goesThrough_12 ex4 ?_
  refine z_istore (pc := 13) (lv' := [(4, .int x4), (3, .int x2), (0, .ref v0), (1, .int v1), (2, .int v2)]) dX12_goesThrough_13 (by decide) rfl ?_
  refine z_iload_n (pc := 15) 4 dX12_goesThrough_15 rfl rfl ?_
  refine z_istore (pc := 16) (lv' := [(5, .int v2), (4, .int x4), (3, .int x2), (0, .ref v0), (1, .int v1), (2, .int v2)]) dX12_goesThrough_16 (by decide) rfl ?_
  refine z_aload_n (pc := 18) 3 dX12_goesThrough_18 rfl rfl ?_
  obtain ⟨r5, er5, H⟩ := zbind H
  refine z_getR (pc := 19) dX12_goesThrough_19 fd_X12_142 er5 ?_
  refine z_iload_n (pc := 22) 4 dX12_goesThrough_22 rfl rfl ?_
  obtain ⟨x6, ex6, H⟩ := zbind H
  refine z_iaload (pc := 23) dX12_goesThrough_23 ex6 ?_
  obtain ⟨m7, em7, H⟩ := zbind H
  have Jm7 : zW yX12_goesThrough cX12_goesThrough 10 none 1 0 0 49 [(0, .ref v0), (1, .int v1), (3, .int x2), (4, .int x4), (5, .int v2)] [.int m7] h none r := by
    refine z_istore (pc := 49) (lv' := [(6, .int m7), (0, .ref v0), (1, .int v1), (3, .int x2), (4, .int x4), (5, .int v2)]) dX12_goesThrough_49 (by decide) rfl ?_
    refine z_iconst (pc := 51) (x := 0) dX12_goesThrough_51 zc_iconst_0 ?_
    refine z_istore (pc := 52) (lv' := [(7, .int 0), (6, .int m7), (0, .ref v0), (1, .int v1), (3, .int x2), (4, .int x4), (5, .int v2)]) dX12_goesThrough_52 (by decide) rfl ?_
    refine z_aload_n (pc := 54) 2 dX12_goesThrough_54 rfl rfl ?_
    refine z_iconst (pc := 55) (x := (-1)) dX12_goesThrough_55 zc_iconst_m1 ?_
    obtain ⟨h12, eh12, H⟩ := zbind H
    refine z_put (pc := 56) dX12_goesThrough_56 fd_X12_365 rfl rfl eh12 ?_
    refine z_aload_n (pc := 59) 2 dX12_goesThrough_59 rfl rfl ?_
    refine z_iconst (pc := 60) (x := (-1)) dX12_goesThrough_60 zc_iconst_m1 ?_
    obtain ⟨h13, eh13, H⟩ := zbind H
    refine z_put (pc := 61) dX12_goesThrough_61 fd_X12_368 rfl rfl eh13 ?_
    refine z_aload_n (pc := 64) 2 dX12_goesThrough_64 rfl rfl ?_
    refine z_iconst (pc := 65) (x := 0) dX12_goesThrough_65 zc_iconst_0 ?_
    obtain ⟨h14, eh14, H⟩ := zbind H
    refine z_put (pc := 66) dX12_goesThrough_66 fd_X12_371 (pZ_n eh14) (pZ_f eh14) (pZ_p eh14) ?_
    refine z_aload_n (pc := 69) 2 dX12_goesThrough_69 rfl rfl ?_
    obtain ⟨r15, er15, H⟩ := zbind H
    refine z_getR (pc := 70) dX12_goesThrough_70 fd_X12_148 er15 ?_
    refine z_iconst (pc := 73) (x := 0) dX12_goesThrough_73 zc_iconst_0 ?_
    refine z_iload_n (pc := 74) 4 dX12_goesThrough_74 rfl rfl ?_
    obtain ⟨h16, eh16, H⟩ := zbind H
    refine z_iastore (pc := 75) dX12_goesThrough_75 eh16 ?_
    refine z_aload_n (pc := 76) 2 dX12_goesThrough_76 rfl rfl ?_
    obtain ⟨r17, er17, H⟩ := zbind H
    refine z_getR (pc := 77) dX12_goesThrough_77 fd_X12_151 er17 ?_
    refine z_iconst (pc := 80) (x := 0) dX12_goesThrough_80 zc_iconst_0 ?_
    refine z_iload (pc := 81) 5 dX12_goesThrough_81 rfl ?_
    obtain ⟨h18, eh18, H⟩ := zbind H
    refine z_iastore (pc := 83) dX12_goesThrough_83 eh18 ?_
    obtain ⟨m81, em81, H⟩ := zbind H
    refine z_sub [2, 3, 4, 5, 6, 1, 0] rfl (s_X12_goesThrough_L84 (by omega) N x2 x4 v2 0 h18 _ em81 ?_)
    refine z_aload_n (pc := 360) 0 dX12_goesThrough_360 rfl rfl ?_
    refine z_iload (pc := 361) 1 dX12_goesThrough_361 rfl ?_
    obtain ⟨h82, eh82, H⟩ := zbind H
    refine z_put (pc := 363) dX12_goesThrough_363 fd_X12_381 rfl rfl eh82 ?_
    cases H
    exact z_return rfl dX12_goesThrough_366
  refine z_if_ne (pc := 24) 32 dX12_goesThrough_24 (by decide) (fun c8 => ?_) (fun c8 => ?_)
  · rw [if_neg c8] at em7
    refine z_aload_n (pc := 32) 3 dX12_goesThrough_32 rfl rfl ?_
    obtain ⟨r9, er9, em7⟩ := zbind em7
    refine z_getR (pc := 33) dX12_goesThrough_33 fd_X12_142 er9 ?_
    refine z_iload_n (pc := 36) 4 dX12_goesThrough_36 rfl rfl ?_
    obtain ⟨x10, ex10, em7⟩ := zbind em7
    refine z_iaload (pc := 37) dX12_goesThrough_37 ex10 ?_
    refine z_iconst (pc := 38) (x := 1) dX12_goesThrough_38 zc_iconst_1 ?_
    refine z_icmp_ne (pc := 39) 47 dX12_goesThrough_39 (by decide) (fun c11 => ?_) (fun c11 => ?_)
    · rw [if_neg c11] at em7
      refine z_bipush (pc := 47) (x := 10) dX12_goesThrough_47 zc_bipush_10 ?_
      cases em7
      exact z_sub [3, 4, 2, 1, 0] rfl Jm7
    · rw [if_pos c11] at em7
      refine z_bipush (pc := 42) (x := 35) dX12_goesThrough_42 zc_bipush_35 ?_
      refine z_goto (pc := 44) 49 dX12_goesThrough_44 (by decide) ?_
      cases em7
      exact z_sub [3, 4, 2, 1, 0] rfl Jm7
  · rw [if_pos c8] at em7
    refine z_bipush (pc := 27) (x := 60) dX12_goesThrough_27 zc_bipush_60 ?_
    refine z_goto (pc := 29) 49 dX12_goesThrough_29 (by decide) ?_
    cases em7
    exact z_sub [3, 4, 2, 1, 0] rfl Jm7

theorem md_X12_goesThrough : zMd yX12_goesThrough cX12_goesThrough 10 2 none := ⟨zmw (zmt_7 _ (List.mem_of_getElem? (i := 204) rfl)) rfl, zmem 127 (by decide +kernel) rfl, by decide, by decide, by decide +kernel, by decide⟩
theorem ml_X12_384 : Cond.methodLink RX12 384 yX12_goesThrough ∈ zB := zmem 1752 (by decide +kernel) rfl
theorem im_X12_goesThrough : Cond.instanceMethod yX12_goesThrough ∈ zB := zmem 1754 (by decide +kernel) rfl
theorem se_X12_goesThrough : Cond.selects yX12_goesThrough.cls yX12_goesThrough yX12_goesThrough ∈ zB := zmem 85 (by decide +kernel) rfl
def f_X12_safeSpeed_L7 (N : Nat) (v0 : Nat) (v1 : Int32) : Nat → Int32 → zH → Option ((zH) ⊕ (Int32 × zH))
  | 0, _, _ => none
  | n + 1, v2, h => if v2 ≤ 0 then (some (.inl h)) else (zif (zob h v0 12) <| (f_X12_goesThrough N v0 v1 v2 h).bind fun h5 => (gI h5 v0 12 43).bind fun x6 => if x6 = 0 then (some (.inr (v2, h5))) else (f_X12_safeSpeed_L7 N v0 v1 n (v2 + (-1)) h5))
set_option maxRecDepth 100000 in
set_option maxHeartbeats 4000000 in
theorem s_X12_safeSpeed_L7 {d mc ms N : Nat} {vv : Option Value} {hh : zH} {v0 : Nat} {v1 : Int32} (hd0 : 2 ≤ d) : ∀ (n : Nat) (v2 : Int32) (h : zH) (m : (zH) ⊕ (Int32 × zH)), f_X12_safeSpeed_L7 N v0 v1 n v2 h = some m → (∀ s, m = .inl s → zW yX12_safeSpeed cX12_safeSpeed 3 (some .int) d mc ms 32 [] [] s vv hh) → (∀ r, m = .inr r → vv = (some (.int r.1)) ∧ hh = r.2) → zW yX12_safeSpeed cX12_safeSpeed 3 (some .int) d mc ms 7 [(0, .ref v0), (1, .int v1), (2, .int v2)] [] h vv hh := by
  intro n
  induction n with
  | zero =>
    intro v2 h m H
    cases H
  | succ n ih =>
    intro v2 h m H KE KR
    unfold f_X12_safeSpeed_L7 at H
    refine z_iload_n (pc := 7) 2 dX12_safeSpeed_7 rfl rfl ?_
    refine z_if_le (pc := 8) 32 dX12_safeSpeed_8 (by decide) (fun c3 => ?_) (fun c3 => ?_)
    · rw [if_pos c3] at H
      cases H
      exact z_sub [] rfl (KE _ rfl)
    · rw [if_neg c3] at H
      refine z_aload_n (pc := 11) 0 dX12_safeSpeed_11 rfl rfl ?_
      refine z_iload_n (pc := 12) 1 dX12_safeSpeed_12 rfl rfl ?_
      refine z_iload_n (pc := 13) 2 dX12_safeSpeed_13 rfl rfl ?_
      obtain ⟨z4, H⟩ := zifE H
      obtain ⟨h5, eh5, H⟩ := zbind H
      refine z_callV (pc := 14) (mc := mc) (ms := ms) (d' := 1) (mc' := 0) (ms' := 0) (rest := []) [.int v1, .int v2] dX12_safeSpeed_14 md_X12_goesThrough ml_X12_384 im_X12_goesThrough se_X12_goesThrough rfl z4 rfl rfl (Nat.le_of_ble_eq_true rfl) (by omega) (k_X12_goesThrough eh5) ?_
      refine z_aload_n (pc := 17) 0 dX12_safeSpeed_17 rfl rfl ?_
      obtain ⟨x6, ex6, H⟩ := zbind H
      refine z_getI (pc := 18) dX12_safeSpeed_18 fd_X12_371 ex6 ?_
      refine z_if_ne (pc := 21) 26 dX12_safeSpeed_21 (by decide) (fun c7 => ?_) (fun c7 => ?_)
      · rw [if_neg c7] at H
        refine z_iinc (pc := 26) (x' := v2 + (-1)) (lv' := [(2, .int (v2 + (-1))), (0, .ref v0), (1, .int v1)]) 2 dX12_safeSpeed_26 rfl (by rfl) (by decide) rfl ?_
        refine z_goto (pc := 29) 7 dX12_safeSpeed_29 (by decide) ?_
        exact z_sub [1, 2, 0] rfl (ih (v2 + (-1)) h5 _ H KE KR)
      · rw [if_pos c7] at H
        refine z_iload_n (pc := 24) 2 dX12_safeSpeed_24 rfl rfl ?_
        cases H
        obtain ⟨e8, e9⟩ := KR _ rfl
        subst e8
        subst e9
        exact z_ireturn rfl dX12_safeSpeed_25
def f_X12_safeSpeed (N : Nat) (v0 : Nat) (v1 : Int32) (h : zH) : Option (Int32 × zH) := (gR h v0 12 30).bind fun r1 => (aI h r1 v1).bind fun x2 => (f_X12_safeSpeed_L7 N v0 v1 N x2 h).bind fun m8 => zsum m8 fun s9 => some (0, s9)
set_option maxRecDepth 100000 in
set_option maxHeartbeats 4000000 in
theorem k_X12_safeSpeed {N : Nat} {v0 : Nat} {v1 : Int32} {h : zH} {r : Int32 × zH} (H : f_X12_safeSpeed N v0 v1 h = some r) : zOk 2 0 0 yX12_safeSpeed cX12_safeSpeed 3 (some .int) [.ref v0, .int v1] h (some (.int r.1)) r.2 := by
  refine zOk.of (by decide) (Nat.le_of_ble_eq_true rfl) ?_
  unfold f_X12_safeSpeed at H
  refine z_aload_n (pc := 0) 0 dX12_safeSpeed_0 rfl rfl ?_
  obtain ⟨r1, er1, H⟩ := zbind H
  refine z_getR (pc := 1) dX12_safeSpeed_1 fd_X12_121 er1 ?_
  refine z_iload_n (pc := 4) 1 dX12_safeSpeed_4 rfl rfl ?_
  obtain ⟨x2, ex2, H⟩ := zbind H
  refine z_iaload (pc := 5) dX12_safeSpeed_5 ex2 ?_
  refine z_istore_n (pc := 6) (lv' := [(2, .int x2), (0, .ref v0), (1, .int v1)]) dX12_safeSpeed_6 rfl (by decide) rfl ?_
  obtain ⟨m8, em8, H⟩ := zbind H
  refine z_sub [1, 2, 0] rfl (s_X12_safeSpeed_L7 (by omega) N x2 h _ em8 ?_ ?_)
  · intro s9 e9
    subst e9
    have H := zsumL H
    refine z_iconst (pc := 32) (x := 0) dX12_safeSpeed_32 zc_iconst_0 ?_
    cases H
    exact z_ireturn rfl dX12_safeSpeed_33
  · intro r e9
    subst e9
    have H := zsumR H
    cases H
    exact ⟨rfl, rfl⟩

def f_X12_seenOf (N : Nat) (v0 : Nat) (h : zH) : Option (Int32) := (gI h v0 12 44).bind fun x1 => if 0 ≤ x1 then ((gI h v0 12 43).bind fun x3 => if x3 = 0 then ((gI h v0 12 44).bind fun x5 => some (60 - x5)) else ((gI h v0 12 42).bind fun x6 => (gI h v0 12 44).bind fun x7 => some (x6 - x7))) else (some 0)
set_option maxRecDepth 100000 in
set_option maxHeartbeats 4000000 in
theorem k_X12_seenOf {N : Nat} {v0 : Nat} {h : zH} {r : Int32} (H : f_X12_seenOf N v0 h = some r) : zOk 0 0 0 yX12_seenOf cX12_seenOf 1 (some .int) [.ref v0] h (some (.int r)) h := by
  refine zOk.of (by decide) (Nat.le_of_ble_eq_true rfl) ?_
  unfold f_X12_seenOf at H
  refine z_aload_n (pc := 0) 0 dX12_seenOf_0 rfl rfl ?_
  obtain ⟨x1, ex1, H⟩ := zbind H
  refine z_getI (pc := 1) dX12_seenOf_1 fd_X12_365 ex1 ?_
  refine z_if_ge (pc := 4) 11 dX12_seenOf_4 (by decide) (fun c2 => ?_) (fun c2 => ?_)
  · rw [if_pos c2] at H
    refine z_aload_n (pc := 11) 0 dX12_seenOf_11 rfl rfl ?_
    obtain ⟨x3, ex3, H⟩ := zbind H
    refine z_getI (pc := 12) dX12_seenOf_12 fd_X12_371 ex3 ?_
    refine z_if_eq (pc := 15) 25 dX12_seenOf_15 (by decide) (fun c4 => ?_) (fun c4 => ?_)
    · rw [if_pos c4] at H
      refine z_bipush (pc := 25) (x := 60) dX12_seenOf_25 zc_bipush_60 ?_
      refine z_aload_n (pc := 27) 0 dX12_seenOf_27 rfl rfl ?_
      obtain ⟨x5, ex5, H⟩ := zbind H
      refine z_getI (pc := 28) dX12_seenOf_28 fd_X12_365 ex5 ?_
      refine z_isub (pc := 31) dX12_seenOf_31 ?_
      cases H
      exact z_ireturn rfl dX12_seenOf_32
    · rw [if_neg c4] at H
      refine z_aload_n (pc := 18) 0 dX12_seenOf_18 rfl rfl ?_
      obtain ⟨x6, ex6, H⟩ := zbind H
      refine z_getI (pc := 19) dX12_seenOf_19 fd_X12_381 ex6 ?_
      refine z_goto (pc := 22) 27 dX12_seenOf_22 (by decide) ?_
      refine z_aload_n (pc := 27) 0 dX12_seenOf_27 rfl rfl ?_
      obtain ⟨x7, ex7, H⟩ := zbind H
      refine z_getI (pc := 28) dX12_seenOf_28 fd_X12_365 ex7 ?_
      refine z_isub (pc := 31) dX12_seenOf_31 ?_
      cases H
      exact z_ireturn rfl dX12_seenOf_32
  · rw [if_neg c2] at H
    refine z_iconst (pc := 7) (x := 0) dX12_seenOf_7 zc_iconst_0 ?_
    refine z_goto (pc := 8) 32 dX12_seenOf_8 (by decide) ?_
    cases H
    exact z_ireturn rfl dX12_seenOf_32

theorem zc_bipush_64 : (Int8.ofInt (64)).toInt32 = (64 : Int32) := by decide
theorem md_X12_seenOf : zMd yX12_seenOf cX12_seenOf 1 0 (some .int) := ⟨zmw (zmt_7 _ (List.mem_of_getElem? (i := 219) rfl)) rfl, zmem 127 (by decide +kernel) rfl, by decide, by decide, by decide +kernel, by decide⟩
theorem ml_X12_387 : Cond.methodLink RX12 387 yX12_seenOf ∈ zB := zmem 1767 (by decide +kernel) rfl
theorem im_X12_seenOf : Cond.instanceMethod yX12_seenOf ∈ zB := zmem 1769 (by decide +kernel) rfl
theorem se_X12_seenOf : Cond.selects yX12_seenOf.cls yX12_seenOf yX12_seenOf ∈ zB := zmem 88 (by decide +kernel) rfl
def f_X12_signsOf (N : Nat) (v0 : Nat) (v1 : Int32) (h : zH) : Option (Int32 × zH) := (gR h v0 12 30).bind fun r1 => (aI h r1 v1).bind fun x2 => zif (zob h v0 12) <| (f_X12_goesThrough N v0 v1 x2 h).bind fun h4 => (gR h4 v0 12 30).bind fun r5 => (aI h4 r5 v1).bind fun x6 => (if x6 ≤ 100 then (some 0) else (some 1) : Option (Int32)).bind fun m7 => (gR h4 v0 12 34).bind fun r9 => (aI h4 r9 v1).bind fun x10 => (if (x10 >>> (1 &&& 31)) = 1 then (some 2) else ((gR h4 v0 12 34).bind fun r13 => (aI h4 r13 v1).bind fun x14 => if (x14 >>> (1 &&& 31)) = 2 then (some 4) else (some 0)) : Option (Int32)).bind fun m11 => zlet (m7 ||| m11 : Int32) fun x16 => zif (zob h4 v0 12) <| (f_X12_seenOf N v0 h4).bind fun q18 => (if q18 < 2 then (some 0) else (some 8) : Option (Int32)).bind fun m19 => zlet (x16 ||| m19 : Int32) fun x21 => (gR h4 v0 12 34).bind fun r22 => (aI h4 r22 v1).bind fun x23 => (if (x23 &&& 1) = 1 then (some 16) else (some 0) : Option (Int32)).bind fun m24 => zlet (x21 ||| m24 : Int32) fun x26 => (gR h4 v0 12 35).bind fun r27 => (aI h4 r27 v1).bind fun x28 => (if 0 ≤ x28 then (some 0) else (some 32) : Option (Int32)).bind fun m29 => zlet (x26 ||| m29 : Int32) fun x31 => (gR h4 v0 12 37).bind fun r32 => (aI h4 r32 v1).bind fun x33 => (if x33 ≤ 0 then (some 0) else (some 64) : Option (Int32)).bind fun m34 => zlet (x31 ||| m34 : Int32) fun x36 => (gR h4 v0 12 38).bind fun r37 => (aI h4 r37 v1).bind fun x38 => if 10 ≤ x38 then (some (x36 ||| 0, h4)) else (some (x36 ||| 128, h4))
set_option maxRecDepth 100000 in
set_option maxHeartbeats 4000000 in
theorem k_X12_signsOf {N : Nat} {v0 : Nat} {v1 : Int32} {h : zH} {r : Int32 × zH} (H : f_X12_signsOf N v0 v1 h = some r) : zOk 2 0 0 yX12_signsOf cX12_signsOf 3 (some .int) [.ref v0, .int v1] h (some (.int r.1)) r.2 := by
  refine zOk.of (by decide) (Nat.le_of_ble_eq_true rfl) ?_
  unfold f_X12_signsOf at H
  refine z_aload_n (pc := 0) 0 dX12_signsOf_0 rfl rfl ?_
  refine z_iload_n (pc := 1) 1 dX12_signsOf_1 rfl rfl ?_
  refine z_aload_n (pc := 2) 0 dX12_signsOf_2 rfl rfl ?_
  obtain ⟨r1, er1, H⟩ := zbind H
  refine z_getR (pc := 3) dX12_signsOf_3 fd_X12_121 er1 ?_
  refine z_iload_n (pc := 6) 1 dX12_signsOf_6 rfl rfl ?_
  obtain ⟨x2, ex2, H⟩ := zbind H
  refine z_iaload (pc := 7) dX12_signsOf_7 ex2 ?_
  obtain ⟨z3, H⟩ := zifE H
  obtain ⟨h4, eh4, H⟩ := zbind H
  refine z_callV (pc := 8) (mc := 0) (ms := 0) (d' := 1) (mc' := 0) (ms' := 0) (rest := []) [.int v1, .int x2] dX12_signsOf_8 md_X12_goesThrough ml_X12_384 im_X12_goesThrough se_X12_goesThrough rfl z3 rfl rfl (Nat.le_of_ble_eq_true rfl) (by omega) (k_X12_goesThrough eh4) ?_
  refine z_aload_n (pc := 11) 0 dX12_signsOf_11 rfl rfl ?_
  obtain ⟨r5, er5, H⟩ := zbind H
  refine z_getR (pc := 12) dX12_signsOf_12 fd_X12_121 er5 ?_
  refine z_iload_n (pc := 15) 1 dX12_signsOf_15 rfl rfl ?_
  obtain ⟨x6, ex6, H⟩ := zbind H
  refine z_iaload (pc := 16) dX12_signsOf_16 ex6 ?_
  refine z_bipush (pc := 17) (x := 100) dX12_signsOf_17 zc_bipush_100 ?_
  obtain ⟨m7, em7, H⟩ := zbind H
  have Jm7 : zW yX12_signsOf cX12_signsOf 3 (some .int) 2 0 0 27 [(0, .ref v0), (1, .int v1)] [.int m7] h4 (some (.int r.1)) r.2 := by
    refine z_istore_n (pc := 27) (lv' := [(2, .int m7), (0, .ref v0), (1, .int v1)]) dX12_signsOf_27 rfl (by decide) rfl ?_
    refine z_iload_n (pc := 28) 0 dX12_signsOf_28 rfl rfl ?_
    refine z_aload_n (pc := 29) 1 dX12_signsOf_29 rfl rfl ?_
    obtain ⟨r9, er9, H⟩ := zbind H
    refine z_getR (pc := 30) dX12_signsOf_30 fd_X12_133 er9 ?_
    refine z_iload_n (pc := 33) 2 dX12_signsOf_33 rfl rfl ?_
    obtain ⟨x10, ex10, H⟩ := zbind H
    refine z_iaload (pc := 34) dX12_signsOf_34 ex10 ?_
    refine z_iconst (pc := 35) (x := 1) dX12_signsOf_35 zc_iconst_1 ?_
    refine z_ishr (pc := 36) dX12_signsOf_36 ?_
    refine z_iconst (pc := 37) (x := 1) dX12_signsOf_37 zc_iconst_1 ?_
    obtain ⟨m11, em11, H⟩ := zbind H
    have Jm11 : zW yX12_signsOf cX12_signsOf 3 (some .int) 2 0 0 62 [(0, .ref v0), (1, .int v1)] [.int m11, .int m7] h4 (some (.int r.1)) r.2 := by
      refine z_ior (pc := 62) dX12_signsOf_62 ?_
      obtain ⟨x16, ex16, H⟩ := zletE H
      refine z_nmI ex16 ?_
      refine z_istore_n (pc := 63) (lv' := [(2, .int x16), (0, .ref v0), (1, .int v1)]) dX12_signsOf_63 rfl (by decide) rfl ?_
      refine z_iload_n (pc := 64) 0 dX12_signsOf_64 rfl rfl ?_
      refine z_aload_n (pc := 65) 1 dX12_signsOf_65 rfl rfl ?_
      obtain ⟨z17, H⟩ := zifE H
      obtain ⟨q18, eq18, H⟩ := zbind H
      refine z_callV (pc := 66) (mc := 0) (ms := 0) (d' := 0) (mc' := 0) (ms' := 0) (rest := [.int x16]) [] dX12_signsOf_66 md_X12_seenOf ml_X12_387 im_X12_seenOf se_X12_seenOf rfl z17 rfl rfl (Nat.le_of_ble_eq_true rfl) (by omega) (k_X12_seenOf eq18) ?_
      refine z_iconst (pc := 69) (x := 2) dX12_signsOf_69 zc_iconst_2 ?_
      obtain ⟨m19, em19, H⟩ := zbind H
      have Jm19 : zW yX12_signsOf cX12_signsOf 3 (some .int) 2 0 0 79 [(0, .ref v0), (1, .int v1)] [.int m19, .int x16] h4 (some (.int r.1)) r.2 := by
        refine z_ior (pc := 79) dX12_signsOf_79 ?_
        obtain ⟨x21, ex21, H⟩ := zletE H
        refine z_nmI ex21 ?_
        refine z_istore_n (pc := 80) (lv' := [(2, .int x21), (0, .ref v0), (1, .int v1)]) dX12_signsOf_80 rfl (by decide) rfl ?_
        refine z_iload_n (pc := 81) 0 dX12_signsOf_81 rfl rfl ?_
        refine z_aload_n (pc := 82) 1 dX12_signsOf_82 rfl rfl ?_
        obtain ⟨r22, er22, H⟩ := zbind H
        refine z_getR (pc := 83) dX12_signsOf_83 fd_X12_133 er22 ?_
        refine z_iload_n (pc := 86) 2 dX12_signsOf_86 rfl rfl ?_
        obtain ⟨x23, ex23, H⟩ := zbind H
        refine z_iaload (pc := 87) dX12_signsOf_87 ex23 ?_
        refine z_iconst (pc := 88) (x := 1) dX12_signsOf_88 zc_iconst_1 ?_
        refine z_iand (pc := 89) dX12_signsOf_89 ?_
        refine z_iconst (pc := 90) (x := 1) dX12_signsOf_90 zc_iconst_1 ?_
        obtain ⟨m24, em24, H⟩ := zbind H
        have Jm24 : zW yX12_signsOf cX12_signsOf 3 (some .int) 2 0 0 100 [(0, .ref v0), (1, .int v1)] [.int m24, .int x21] h4 (some (.int r.1)) r.2 := by
          refine z_ior (pc := 100) dX12_signsOf_100 ?_
          obtain ⟨x26, ex26, H⟩ := zletE H
          refine z_nmI ex26 ?_
          refine z_istore_n (pc := 101) (lv' := [(2, .int x26), (0, .ref v0), (1, .int v1)]) dX12_signsOf_101 rfl (by decide) rfl ?_
          refine z_iload_n (pc := 102) 0 dX12_signsOf_102 rfl rfl ?_
          refine z_aload_n (pc := 103) 1 dX12_signsOf_103 rfl rfl ?_
          obtain ⟨r27, er27, H⟩ := zbind H
          refine z_getR (pc := 104) dX12_signsOf_104 fd_X12_136 er27 ?_
          refine z_iload_n (pc := 107) 2 dX12_signsOf_107 rfl rfl ?_
          obtain ⟨x28, ex28, H⟩ := zbind H
          refine z_iaload (pc := 108) dX12_signsOf_108 ex28 ?_
          obtain ⟨m29, em29, H⟩ := zbind H
          have Jm29 : zW yX12_signsOf cX12_signsOf 3 (some .int) 2 0 0 118 [(0, .ref v0), (1, .int v1)] [.int m29, .int x26] h4 (some (.int r.1)) r.2 := by
            refine z_ior (pc := 118) dX12_signsOf_118 ?_
            obtain ⟨x31, ex31, H⟩ := zletE H
            refine z_nmI ex31 ?_
            refine z_istore_n (pc := 119) (lv' := [(2, .int x31), (0, .ref v0), (1, .int v1)]) dX12_signsOf_119 rfl (by decide) rfl ?_
            refine z_iload_n (pc := 120) 0 dX12_signsOf_120 rfl rfl ?_
            refine z_aload_n (pc := 121) 1 dX12_signsOf_121 rfl rfl ?_
            obtain ⟨r32, er32, H⟩ := zbind H
            refine z_getR (pc := 122) dX12_signsOf_122 fd_X12_142 er32 ?_
            refine z_iload_n (pc := 125) 2 dX12_signsOf_125 rfl rfl ?_
            obtain ⟨x33, ex33, H⟩ := zbind H
            refine z_iaload (pc := 126) dX12_signsOf_126 ex33 ?_
            obtain ⟨m34, em34, H⟩ := zbind H
            have Jm34 : zW yX12_signsOf cX12_signsOf 3 (some .int) 2 0 0 136 [(0, .ref v0), (1, .int v1)] [.int m34, .int x31] h4 (some (.int r.1)) r.2 := by
              refine z_ior (pc := 136) dX12_signsOf_136 ?_
              obtain ⟨x36, ex36, H⟩ := zletE H
              refine z_nmI ex36 ?_
              refine z_istore_n (pc := 137) (lv' := [(2, .int x36), (0, .ref v0), (1, .int v1)]) dX12_signsOf_137 rfl (by decide) rfl ?_
              refine z_iload_n (pc := 138) 0 dX12_signsOf_138 rfl rfl ?_
              refine z_aload_n (pc := 139) 1 dX12_signsOf_139 rfl rfl ?_
              obtain ⟨r37, er37, H⟩ := zbind H
              refine z_getR (pc := 140) dX12_signsOf_140 fd_X12_145 er37 ?_
              refine z_iload_n (pc := 143) 2 dX12_signsOf_143 rfl rfl ?_
              obtain ⟨x38, ex38, H⟩ := zbind H
              refine z_iaload (pc := 144) dX12_signsOf_144 ex38 ?_
              refine z_bipush (pc := 145) (x := 10) dX12_signsOf_145 zc_bipush_10 ?_
              refine z_icmp_ge (pc := 147) 156 dX12_signsOf_147 (by decide) (fun c39 => ?_) (fun c39 => ?_)
              · rw [if_pos c39] at H
                refine z_iconst (pc := 156) (x := 0) dX12_signsOf_156 zc_iconst_0 ?_
                refine z_ior (pc := 157) dX12_signsOf_157 ?_
                cases H
                exact z_ireturn rfl dX12_signsOf_158
              · rw [if_neg c39] at H
                refine z_sipush (pc := 150) (x := 128) dX12_signsOf_150 zc_sipush_128 ?_
                refine z_goto (pc := 153) 157 dX12_signsOf_153 (by decide) ?_
                refine z_ior (pc := 157) dX12_signsOf_157 ?_
                cases H
                exact z_ireturn rfl dX12_signsOf_158
            refine z_if_le (pc := 127) 135 dX12_signsOf_127 (by decide) (fun c35 => ?_) (fun c35 => ?_)
            · rw [if_pos c35] at em34
              refine z_iconst (pc := 135) (x := 0) dX12_signsOf_135 zc_iconst_0 ?_
              cases em34
              exact z_sub [1, 2] rfl Jm34
            · rw [if_neg c35] at em34
              refine z_bipush (pc := 130) (x := 64) dX12_signsOf_130 zc_bipush_64 ?_
              refine z_goto (pc := 132) 136 dX12_signsOf_132 (by decide) ?_
              cases em34
              exact z_sub [1, 2] rfl Jm34
          refine z_if_ge (pc := 109) 117 dX12_signsOf_109 (by decide) (fun c30 => ?_) (fun c30 => ?_)
          · rw [if_pos c30] at em29
            refine z_iconst (pc := 117) (x := 0) dX12_signsOf_117 zc_iconst_0 ?_
            cases em29
            exact z_sub [1, 2] rfl Jm29
          · rw [if_neg c30] at em29
            refine z_bipush (pc := 112) (x := 32) dX12_signsOf_112 zc_bipush_32 ?_
            refine z_goto (pc := 114) 118 dX12_signsOf_114 (by decide) ?_
            cases em29
            exact z_sub [1, 2] rfl Jm29
        refine z_icmp_ne (pc := 91) 99 dX12_signsOf_91 (by decide) (fun c25 => ?_) (fun c25 => ?_)
        · rw [if_neg c25] at em24
          refine z_iconst (pc := 99) (x := 0) dX12_signsOf_99 zc_iconst_0 ?_
          cases em24
          exact z_sub [1, 2] rfl Jm24
        · rw [if_pos c25] at em24
          refine z_bipush (pc := 94) (x := 16) dX12_signsOf_94 zc_bipush_16 ?_
          refine z_goto (pc := 96) 100 dX12_signsOf_96 (by decide) ?_
          cases em24
          exact z_sub [1, 2] rfl Jm24
      refine z_icmp_lt (pc := 70) 78 dX12_signsOf_70 (by decide) (fun c20 => ?_) (fun c20 => ?_)
      · rw [if_pos c20] at em19
        refine z_iconst (pc := 78) (x := 0) dX12_signsOf_78 zc_iconst_0 ?_
        cases em19
        exact z_sub [1, 2] rfl Jm19
      · rw [if_neg c20] at em19
        refine z_bipush (pc := 73) (x := 8) dX12_signsOf_73 zc_bipush_8 ?_
        refine z_goto (pc := 75) 79 dX12_signsOf_75 (by decide) ?_
        cases em19
        exact z_sub [1, 2] rfl Jm19
    refine z_icmp_ne (pc := 38) 45 dX12_signsOf_38 (by decide) (fun c12 => ?_) (fun c12 => ?_)
    · rw [if_neg c12] at em11
      refine z_aload_n (pc := 45) 1 dX12_signsOf_45 rfl rfl ?_
      obtain ⟨r13, er13, em11⟩ := zbind em11
      refine z_getR (pc := 46) dX12_signsOf_46 fd_X12_133 er13 ?_
      refine z_iload_n (pc := 49) 2 dX12_signsOf_49 rfl rfl ?_
      obtain ⟨x14, ex14, em11⟩ := zbind em11
      refine z_iaload (pc := 50) dX12_signsOf_50 ex14 ?_
      refine z_iconst (pc := 51) (x := 1) dX12_signsOf_51 zc_iconst_1 ?_
      refine z_ishr (pc := 52) dX12_signsOf_52 ?_
      refine z_iconst (pc := 53) (x := 2) dX12_signsOf_53 zc_iconst_2 ?_
      refine z_icmp_ne (pc := 54) 61 dX12_signsOf_54 (by decide) (fun c15 => ?_) (fun c15 => ?_)
      · rw [if_neg c15] at em11
        refine z_iconst (pc := 61) (x := 0) dX12_signsOf_61 zc_iconst_0 ?_
        cases em11
        exact z_sub [1, 2] rfl Jm11
      · rw [if_pos c15] at em11
        refine z_iconst (pc := 57) (x := 4) dX12_signsOf_57 zc_iconst_4 ?_
        refine z_goto (pc := 58) 62 dX12_signsOf_58 (by decide) ?_
        cases em11
        exact z_sub [1, 2] rfl Jm11
    · rw [if_pos c12] at em11
      refine z_iconst (pc := 41) (x := 2) dX12_signsOf_41 zc_iconst_2 ?_
      refine z_goto (pc := 42) 62 dX12_signsOf_42 (by decide) ?_
      cases em11
      exact z_sub [1, 2] rfl Jm11
  refine z_icmp_le (pc := 19) 26 dX12_signsOf_19 (by decide) (fun c8 => ?_) (fun c8 => ?_)
  · rw [if_pos c8] at em7
    refine z_iconst (pc := 26) (x := 0) dX12_signsOf_26 zc_iconst_0 ?_
    cases em7
    exact z_sub [0, 1] rfl Jm7
  · rw [if_neg c8] at em7
    refine z_iconst (pc := 22) (x := 1) dX12_signsOf_22 zc_iconst_1 ?_
    refine z_goto (pc := 23) 27 dX12_signsOf_23 (by decide) ?_
    cases em7
    exact z_sub [0, 1] rfl Jm7

