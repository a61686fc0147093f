theorem md_X12_isPlace : zMd yX12_isPlace cX12_isPlace 1 1 (some .boolean) := ⟨zmw (zmt_8 _ (List.mem_of_getElem? (i := 129) rfl)) rfl, zmem 127 (by decide +kernel) rfl, by decide, by decide, by decide +kernel, by decide⟩
theorem ml_X12_483 : Cond.methodLink RX12 483 yX12_isPlace ∈ zB := zmem 1918 (by decide +kernel) rfl
theorem sm_X12_isPlace : Cond.static yX12_isPlace ∈ zB := zmem 1919 (by decide +kernel) rfl
def f_X12_street (N : Nat) (v0 : Nat) (v1 : Int32) (v2 : Int32) (v3 : Int32) (v4 : Int32) (v5 : Int32) (v6 : Int32) (h : zH) : Option (Int32 × zH) := (pF h v0 12 0 (.int 0)).bind fun h1 => (if (p_X12_within v4 0 999) = 0 then (some 0) else (if (p_X12_within v5 0 999) = 0 then (some 0) else (if (p_X12_within v6 0 999) = 0 then (some 0) else (some 1))) : Option (Int32)).bind fun m2 => if (p_X12_within v1 0 7) = 0 then (some (0, h1)) else ((f_X12_isPlace N v2 h1).bind fun q7 => if q7 = 0 then (some (0, h1)) else ((f_X12_isPlace N v3 h1).bind fun q9 => if q9 = 0 then (some (0, h1)) else (if v2 = v3 then (some (0, h1)) else (if m2 = 0 then (some (0, h1)) else ((gR h1 v0 12 72).bind fun r13 => (sZ h1 r13 v1 1).bind fun h14 => (gR h14 v0 12 73).bind fun r15 => (sI h14 r15 v1 v2).bind fun h16 => (gR h16 v0 12 74).bind fun r17 => (sI h16 r17 v1 v3).bind fun h18 => (gR h18 v0 12 75).bind fun r19 => (sI h18 r19 (3 * v1) v4).bind fun h20 => (gR h20 v0 12 75).bind fun r21 => (sI h20 r21 ((3 * v1) + 1) v5).bind fun h22 => (gR h22 v0 12 75).bind fun r23 => (sI h22 r23 ((3 * v1) + 2) v6).bind fun h24 => some (1, h24))))))
set_option maxRecDepth 100000 in
set_option maxHeartbeats 4000000 in
theorem k_X12_street {N : Nat} {v0 : Nat} {v1 : Int32} {v2 : Int32} {v3 : Int32} {v4 : Int32} {v5 : Int32} {v6 : Int32} {h : zH} {r : Int32 × zH} (H : f_X12_street N v0 v1 v2 v3 v4 v5 v6 h = some r) : zOk 2 0 0 yX12_street cX12_street 8 (some .boolean) [.ref v0, .int v1, .int v2, .int v3, .int v4, .int v5, .int v6] h (some (.int r.1)) r.2 := by
  refine zOk.of (by decide) (Nat.le_of_ble_eq_true rfl) ?_
  unfold f_X12_street at H
  refine z_aload_n (pc := 0) 0 dX12_street_0 rfl rfl ?_
  refine z_iconst (pc := 1) (x := 0) dX12_street_1 zc_iconst_0 ?_
  obtain ⟨h1, eh1, H⟩ := zbind H
  refine z_put (pc := 2) dX12_street_2 fd_X12_1 rfl rfl eh1 ?_
  refine z_iload (pc := 5) 4 dX12_street_5 rfl ?_
  refine z_iconst (pc := 7) (x := 0) dX12_street_7 zc_iconst_0 ?_
  refine z_sipush (pc := 8) (x := 999) dX12_street_8 zc_sipush_999 ?_
  refine z_callS (pc := 11) (mc := 0) (ms := 0) (d' := 0) (mc' := 0) (ms' := 0) (rest := []) [.int v4, .int 0, .int 999] dX12_street_11 md_X12_within ml_X12_352 sm_X12_within rfl rfl (Nat.le_of_ble_eq_true rfl) (by omega) (k_X12_within v4 0 999 h1 _ rfl) ?_
  obtain ⟨m2, em2, H⟩ := zbind H
  have Jm2 : zW yX12_street cX12_street 8 (some .boolean) 2 0 0 46 [(0, .ref v0), (1, .int v1), (2, .int v2), (3, .int v3), (4, .int v4), (5, .int v5), (6, .int v6)] [.int m2] h1 (some (.int r.1)) r.2 := by
    refine z_istore (pc := 46) (lv' := [(7, .int m2), (0, .ref v0), (1, .int v1), (2, .int v2), (3, .int v3), (4, .int v4), (5, .int v5), (6, .int v6)]) dX12_street_46 (by decide) rfl ?_
    refine z_iload_n (pc := 48) 2 dX12_street_48 rfl rfl ?_
    refine z_iconst (pc := 49) (x := 0) dX12_street_49 zc_iconst_0 ?_
    refine z_bipush (pc := 50) (x := 7) dX12_street_50 zc_bipush_7 ?_
    refine z_callS (pc := 52) (mc := 0) (ms := 0) (d' := 0) (mc' := 0) (ms' := 0) (rest := []) [.int v1, .int 0, .int 7] dX12_street_52 md_X12_within ml_X12_352 sm_X12_within rfl rfl (Nat.le_of_ble_eq_true rfl) (by omega) (k_X12_within v1 0 7 h1 _ rfl) ?_
    refine z_if_eq (pc := 55) 82 dX12_street_55 (by decide) (fun c6 => ?_) (fun c6 => ?_)
    · rw [if_pos c6] at H
      refine z_iconst (pc := 82) (x := 0) dX12_street_82 zc_iconst_0 ?_
      cases H
      exact z_zreturn rfl dX12_street_83 (by decide)
    · rw [if_neg c6] at H
      refine z_iload_n (pc := 58) 3 dX12_street_58 rfl rfl ?_
      obtain ⟨q7, eq7, H⟩ := zbind H
      refine z_callS (pc := 59) (mc := 0) (ms := 0) (d' := 1) (mc' := 0) (ms' := 0) (rest := []) [.int v2] dX12_street_59 md_X12_isPlace ml_X12_483 sm_X12_isPlace rfl rfl (Nat.le_of_ble_eq_true rfl) (by omega) (k_X12_isPlace eq7) ?_
      refine z_if_eq (pc := 62) 82 dX12_street_62 (by decide) (fun c8 => ?_) (fun c8 => ?_)
      · rw [if_pos c8] at H
        refine z_iconst (pc := 82) (x := 0) dX12_street_82 zc_iconst_0 ?_
        cases H
        exact z_zreturn rfl dX12_street_83 (by decide)
      · rw [if_neg c8] at H
        refine z_iload_n (pc := 65) 4 dX12_street_65 rfl rfl ?_
        obtain ⟨q9, eq9, H⟩ := zbind H
        refine z_callS (pc := 66) (mc := 0) (ms := 0) (d' := 1) (mc' := 0) (ms' := 0) (rest := []) [.int v3] dX12_street_66 md_X12_isPlace ml_X12_483 sm_X12_isPlace rfl rfl (Nat.le_of_ble_eq_true rfl) (by omega) (k_X12_isPlace eq9) ?_
        refine z_if_eq (pc := 69) 82 dX12_street_69 (by decide) (fun c10 => ?_) (fun c10 => ?_)
        · rw [if_pos c10] at H
          refine z_iconst (pc := 82) (x := 0) dX12_street_82 zc_iconst_0 ?_
          cases H
          exact z_zreturn rfl dX12_street_83 (by decide)
        · rw [if_neg c10] at H
          refine z_iload_n (pc := 72) 3 dX12_street_72 rfl rfl ?_
          refine z_iload_n (pc := 73) 4 dX12_street_73 rfl rfl ?_
          refine z_icmp_eq (pc := 74) 82 dX12_street_74 (by decide) (fun c11 => ?_) (fun c11 => ?_)
          · rw [if_pos c11] at H
            refine z_iconst (pc := 82) (x := 0) dX12_street_82 zc_iconst_0 ?_
            cases H
            exact z_zreturn rfl dX12_street_83 (by decide)
          · rw [if_neg c11] at H
            refine z_iload (pc := 77) 0 dX12_street_77 rfl ?_
            refine z_if_ne (pc := 79) 84 dX12_street_79 (by decide) (fun c12 => ?_) (fun c12 => ?_)
            · rw [if_neg c12] at H
              refine z_aload_n (pc := 84) 1 dX12_street_84 rfl rfl ?_
              obtain ⟨r13, er13, H⟩ := zbind H
              refine z_getR (pc := 85) dX12_street_85 fd_X12_212 er13 ?_
              refine z_iload_n (pc := 88) 2 dX12_street_88 rfl rfl ?_
              refine z_iconst (pc := 89) (x := 1) dX12_street_89 zc_iconst_1 ?_
              obtain ⟨h14, eh14, H⟩ := zbind H
              refine z_zastore (pc := 90) dX12_street_90 eh14 ?_
              refine z_aload_n (pc := 91) 1 dX12_street_91 rfl rfl ?_
              obtain ⟨r15, er15, H⟩ := zbind H
              refine z_getR (pc := 92) dX12_street_92 fd_X12_215 er15 ?_
              refine z_iload_n (pc := 95) 2 dX12_street_95 rfl rfl ?_
              refine z_iload_n (pc := 96) 3 dX12_street_96 rfl rfl ?_
              obtain ⟨h16, eh16, H⟩ := zbind H
              refine z_iastore (pc := 97) dX12_street_97 eh16 ?_
              refine z_aload_n (pc := 98) 1 dX12_street_98 rfl rfl ?_
              obtain ⟨r17, er17, H⟩ := zbind H
              refine z_getR (pc := 99) dX12_street_99 fd_X12_218 er17 ?_
              refine z_iload_n (pc := 102) 2 dX12_street_102 rfl rfl ?_
              refine z_iload_n (pc := 103) 4 dX12_street_103 rfl rfl ?_
              obtain ⟨h18, eh18, H⟩ := zbind H
              refine z_iastore (pc := 104) dX12_street_104 eh18 ?_
              refine z_aload_n (pc := 105) 1 dX12_street_105 rfl rfl ?_
              obtain ⟨r19, er19, H⟩ := zbind H
              refine z_getR (pc := 106) dX12_street_106 fd_X12_221 er19 ?_
              refine z_iconst (pc := 109) (x := 3) dX12_street_109 zc_iconst_3 ?_
              refine z_iload_n (pc := 110) 2 dX12_street_110 rfl rfl ?_
              refine z_imul (pc := 111) dX12_street_111 ?_
              refine z_iload (pc := 112) 5 dX12_street_112 rfl ?_
              obtain ⟨h20, eh20, H⟩ := zbind H
              refine z_iastore (pc := 114) dX12_street_114 eh20 ?_
              refine z_aload_n (pc := 115) 1 dX12_street_115 rfl rfl ?_
              obtain ⟨r21, er21, H⟩ := zbind H
              refine z_getR (pc := 116) dX12_street_116 fd_X12_221 er21 ?_
              refine z_iconst (pc := 119) (x := 3) dX12_street_119 zc_iconst_3 ?_
              refine z_iload_n (pc := 120) 2 dX12_street_120 rfl rfl ?_
              refine z_imul (pc := 121) dX12_street_121 ?_
              refine z_iconst (pc := 122) (x := 1) dX12_street_122 zc_iconst_1 ?_
              refine z_iadd (pc := 123) dX12_street_123 ?_
              refine z_iload (pc := 124) 6 dX12_street_124 rfl ?_
              obtain ⟨h22, eh22, H⟩ := zbind H
              refine z_iastore (pc := 126) dX12_street_126 eh22 ?_
              refine z_aload_n (pc := 127) 1 dX12_street_127 rfl rfl ?_
              obtain ⟨r23, er23, H⟩ := zbind H
              refine z_getR (pc := 128) dX12_street_128 fd_X12_221 er23 ?_
              refine z_iconst (pc := 131) (x := 3) dX12_street_131 zc_iconst_3 ?_
              refine z_iload_n (pc := 132) 2 dX12_street_132 rfl rfl ?_
              refine z_imul (pc := 133) dX12_street_133 ?_
              refine z_iconst (pc := 134) (x := 2) dX12_street_134 zc_iconst_2 ?_
              refine z_iadd (pc := 135) dX12_street_135 ?_
              refine z_iload (pc := 136) 7 dX12_street_136 rfl ?_
              obtain ⟨h24, eh24, H⟩ := zbind H
              refine z_iastore (pc := 138) dX12_street_138 eh24 ?_
              refine z_iconst (pc := 139) (x := 1) dX12_street_139 zc_iconst_1 ?_
              cases H
              exact z_zreturn rfl dX12_street_140 (by decide)
            · rw [if_pos c12] at H
              refine z_iconst (pc := 82) (x := 0) dX12_street_82 zc_iconst_0 ?_
              cases H
              exact z_zreturn rfl dX12_street_83 (by decide)
  refine z_if_eq (pc := 14) 45 dX12_street_14 (by decide) (fun c3 => ?_) (fun c3 => ?_)
  · rw [if_pos c3] at em2
    refine z_iconst (pc := 45) (x := 0) dX12_street_45 zc_iconst_0 ?_
    cases em2
    exact z_sub [0, 1, 2, 3, 4, 5, 6] rfl Jm2
  · rw [if_neg c3] at em2
    refine z_iload (pc := 17) 5 dX12_street_17 rfl ?_
    refine z_iconst (pc := 19) (x := 0) dX12_street_19 zc_iconst_0 ?_
    refine z_sipush (pc := 20) (x := 999) dX12_street_20 zc_sipush_999 ?_
    refine z_callS (pc := 23) (mc := 0) (ms := 0) (d' := 0) (mc' := 0) (ms' := 0) (rest := []) [.int v5, .int 0, .int 999] dX12_street_23 md_X12_within ml_X12_352 sm_X12_within rfl rfl (Nat.le_of_ble_eq_true rfl) (by omega) (k_X12_within v5 0 999 h1 _ rfl) ?_
    refine z_if_eq (pc := 26) 45 dX12_street_26 (by decide) (fun c4 => ?_) (fun c4 => ?_)
    · rw [if_pos c4] at em2
      refine z_iconst (pc := 45) (x := 0) dX12_street_45 zc_iconst_0 ?_
      cases em2
      exact z_sub [0, 1, 2, 3, 4, 5, 6] rfl Jm2
    · rw [if_neg c4] at em2
      refine z_iload (pc := 29) 6 dX12_street_29 rfl ?_
      refine z_iconst (pc := 31) (x := 0) dX12_street_31 zc_iconst_0 ?_
      refine z_sipush (pc := 32) (x := 999) dX12_street_32 zc_sipush_999 ?_
      refine z_callS (pc := 35) (mc := 0) (ms := 0) (d' := 0) (mc' := 0) (ms' := 0) (rest := []) [.int v6, .int 0, .int 999] dX12_street_35 md_X12_within ml_X12_352 sm_X12_within rfl rfl (Nat.le_of_ble_eq_true rfl) (by omega) (k_X12_within v6 0 999 h1 _ rfl) ?_
      refine z_if_eq (pc := 38) 45 dX12_street_38 (by decide) (fun c5 => ?_) (fun c5 => ?_)
      · rw [if_pos c5] at em2
        refine z_iconst (pc := 45) (x := 0) dX12_street_45 zc_iconst_0 ?_
        cases em2
        exact z_sub [0, 1, 2, 3, 4, 5, 6] rfl Jm2
      · rw [if_neg c5] at em2
        refine z_iconst (pc := 41) (x := 1) dX12_street_41 zc_iconst_1 ?_
        refine z_goto (pc := 42) 46 dX12_street_42 (by decide) ?_
        cases em2
        exact z_sub [0, 1, 2, 3, 4, 5, 6] rfl Jm2

theorem fd_X12_486 : zFd RX12 486 12 76 (.int) false "WhoseStreetModel" := zFd.of cl_12 (by decide) (zmem 1446 (by decide +kernel) rfl) rfl rfl rfl
def f_X12_trip (N : Nat) (v0 : Nat) (v1 : Int32) (v2 : Int32) (h : zH) : Option (Int32 × zH) := (pF h v0 12 0 (.int 0)).bind fun h1 => (f_X12_isPlace N v1 h1).bind fun q2 => if q2 = 0 then (some ((-1), h1)) else ((f_X12_isPlace N v2 h1).bind fun q4 => if q4 = 0 then (some ((-1), h1)) else (if v1 = v2 then (some ((-1), h1)) else ((gI h1 v0 12 76).bind fun x7 => if x7 = 8 then (some ((-1), h1)) else ((gR h1 v0 12 77).bind fun r9 => (gI h1 v0 12 76).bind fun x10 => (sI h1 r9 x10 v1).bind fun h11 => (gR h11 v0 12 78).bind fun r12 => (gI h11 v0 12 76).bind fun x13 => (sI h11 r12 x13 v2).bind fun h14 => (gI h14 v0 12 76).bind fun x15 => (pF h14 v0 12 76 (.int (x15 + 1))).bind fun h16 => (gI h16 v0 12 76).bind fun x17 => some (x17 - 1, h16)))))
set_option maxRecDepth 100000 in
set_option maxHeartbeats 4000000 in
theorem k_X12_trip {N : Nat} {v0 : Nat} {v1 : Int32} {v2 : Int32} {h : zH} {r : Int32 × zH} (H : f_X12_trip N v0 v1 v2 h = some r) : zOk 2 0 0 yX12_trip cX12_trip 3 (some .int) [.ref v0, .int v1, .int v2] h (some (.int r.1)) r.2 := by
  refine zOk.of (by decide) (Nat.le_of_ble_eq_true rfl) ?_
  unfold f_X12_trip at H
  refine z_aload_n (pc := 0) 0 dX12_trip_0 rfl rfl ?_
  refine z_iconst (pc := 1) (x := 0) dX12_trip_1 zc_iconst_0 ?_
  obtain ⟨h1, eh1, H⟩ := zbind H
  refine z_put (pc := 2) dX12_trip_2 fd_X12_1 rfl rfl eh1 ?_
  refine z_iload_n (pc := 5) 1 dX12_trip_5 rfl rfl ?_
  obtain ⟨q2, eq2, H⟩ := zbind H
  refine z_callS (pc := 6) (mc := 0) (ms := 0) (d' := 1) (mc' := 0) (ms' := 0) (rest := []) [.int v1] dX12_trip_6 md_X12_isPlace ml_X12_483 sm_X12_isPlace rfl rfl (Nat.le_of_ble_eq_true rfl) (by omega) (k_X12_isPlace eq2) ?_
  refine z_if_eq (pc := 9) 33 dX12_trip_9 (by decide) (fun c3 => ?_) (fun c3 => ?_)
  · rw [if_pos c3] at H
    refine z_iconst (pc := 33) (x := (-1)) dX12_trip_33 zc_iconst_m1 ?_
    cases H
    exact z_ireturn rfl dX12_trip_34
  · rw [if_neg c3] at H
    refine z_iload_n (pc := 12) 2 dX12_trip_12 rfl rfl ?_
    obtain ⟨q4, eq4, H⟩ := zbind H
    refine z_callS (pc := 13) (mc := 0) (ms := 0) (d' := 1) (mc' := 0) (ms' := 0) (rest := []) [.int v2] dX12_trip_13 md_X12_isPlace ml_X12_483 sm_X12_isPlace rfl rfl (Nat.le_of_ble_eq_true rfl) (by omega) (k_X12_isPlace eq4) ?_
    refine z_if_eq (pc := 16) 33 dX12_trip_16 (by decide) (fun c5 => ?_) (fun c5 => ?_)
    · rw [if_pos c5] at H
      refine z_iconst (pc := 33) (x := (-1)) dX12_trip_33 zc_iconst_m1 ?_
      cases H
      exact z_ireturn rfl dX12_trip_34
    · rw [if_neg c5] at H
      refine z_iload_n (pc := 19) 1 dX12_trip_19 rfl rfl ?_
      refine z_iload_n (pc := 20) 2 dX12_trip_20 rfl rfl ?_
      refine z_icmp_eq (pc := 21) 33 dX12_trip_21 (by decide) (fun c6 => ?_) (fun c6 => ?_)
      · rw [if_pos c6] at H
        refine z_iconst (pc := 33) (x := (-1)) dX12_trip_33 zc_iconst_m1 ?_
        cases H
        exact z_ireturn rfl dX12_trip_34
      · rw [if_neg c6] at H
        refine z_aload_n (pc := 24) 0 dX12_trip_24 rfl rfl ?_
        obtain ⟨x7, ex7, H⟩ := zbind H
        refine z_getI (pc := 25) dX12_trip_25 fd_X12_486 ex7 ?_
        refine z_bipush (pc := 28) (x := 8) dX12_trip_28 zc_bipush_8 ?_
        refine z_icmp_ne (pc := 30) 35 dX12_trip_30 (by decide) (fun c8 => ?_) (fun c8 => ?_)
        · rw [if_neg c8] at H
          refine z_aload_n (pc := 35) 0 dX12_trip_35 rfl rfl ?_
          obtain ⟨r9, er9, H⟩ := zbind H
          refine z_getR (pc := 36) dX12_trip_36 fd_X12_224 er9 ?_
          refine z_aload_n (pc := 39) 0 dX12_trip_39 rfl rfl ?_
          obtain ⟨x10, ex10, H⟩ := zbind H
          refine z_getI (pc := 40) dX12_trip_40 fd_X12_486 ex10 ?_
          refine z_iload_n (pc := 43) 1 dX12_trip_43 rfl rfl ?_
          obtain ⟨h11, eh11, H⟩ := zbind H
          refine z_iastore (pc := 44) dX12_trip_44 eh11 ?_
          refine z_aload_n (pc := 45) 0 dX12_trip_45 rfl rfl ?_
          obtain ⟨r12, er12, H⟩ := zbind H
          refine z_getR (pc := 46) dX12_trip_46 fd_X12_227 er12 ?_
          refine z_aload_n (pc := 49) 0 dX12_trip_49 rfl rfl ?_
          obtain ⟨x13, ex13, H⟩ := zbind H
          refine z_getI (pc := 50) dX12_trip_50 fd_X12_486 ex13 ?_
          refine z_iload_n (pc := 53) 2 dX12_trip_53 rfl rfl ?_
          obtain ⟨h14, eh14, H⟩ := zbind H
          refine z_iastore (pc := 54) dX12_trip_54 eh14 ?_
          refine z_aload_n (pc := 55) 0 dX12_trip_55 rfl rfl ?_
          refine z_dup (pc := 56) dX12_trip_56 rfl ?_
          obtain ⟨x15, ex15, H⟩ := zbind H
          refine z_getI (pc := 57) dX12_trip_57 fd_X12_486 ex15 ?_
          refine z_iconst (pc := 60) (x := 1) dX12_trip_60 zc_iconst_1 ?_
          refine z_iadd (pc := 61) dX12_trip_61 ?_
          obtain ⟨h16, eh16, H⟩ := zbind H
          refine z_put (pc := 62) dX12_trip_62 fd_X12_486 rfl rfl eh16 ?_
          refine z_aload_n (pc := 65) 0 dX12_trip_65 rfl rfl ?_
          obtain ⟨x17, ex17, H⟩ := zbind H
          refine z_getI (pc := 66) dX12_trip_66 fd_X12_486 ex17 ?_
          refine z_iconst (pc := 69) (x := 1) dX12_trip_69 zc_iconst_1 ?_
          refine z_isub (pc := 70) dX12_trip_70 ?_
          cases H
          exact z_ireturn rfl dX12_trip_71
        · rw [if_pos c8] at H
          refine z_iconst (pc := 33) (x := (-1)) dX12_trip_33 zc_iconst_m1 ?_
          cases H
          exact z_ireturn rfl dX12_trip_34

def f_X12_doneTo (N : Nat) (v0 : Nat) (v1 : Int32) (v2 : Int32) (h : zH) : Option (Int32) := (gR h v0 12 79).bind fun r1 => (aI h r1 v2).bind fun x2 => zdiv x2 <| some ((v1 / x2) - (v1 / x2) / 3 * 3)
set_option maxRecDepth 100000 in
set_option maxHeartbeats 4000000 in
theorem k_X12_doneTo {N : Nat} {v0 : Nat} {v1 : Int32} {v2 : Int32} {h : zH} {r : Int32} (H : f_X12_doneTo N v0 v1 v2 h = some r) : zOk 0 0 0 yX12_doneTo cX12_doneTo 3 (some .int) [.ref v0, .int v1, .int v2] h (some (.int r)) h := by
  refine zOk.of (by decide) (Nat.le_of_ble_eq_true rfl) ?_
  unfold f_X12_doneTo at H
  refine z_iload_n (pc := 0) 1 dX12_doneTo_0 rfl rfl ?_
  refine z_aload_n (pc := 1) 0 dX12_doneTo_1 rfl rfl ?_
  obtain ⟨r1, er1, H⟩ := zbind H
  refine z_getR (pc := 2) dX12_doneTo_2 fd_X12_230 er1 ?_
  refine z_iload_n (pc := 5) 2 dX12_doneTo_5 rfl rfl ?_
  obtain ⟨x2, ex2, H⟩ := zbind H
  refine z_iaload (pc := 6) dX12_doneTo_6 ex2 ?_
  obtain ⟨z3, H⟩ := zdivE H
  refine z_idiv (pc := 7) dX12_doneTo_7 z3 ?_
  refine z_iconst (pc := 8) (x := 3) dX12_doneTo_8 zc_iconst_3 ?_
  refine z_irem (pc := 9) dX12_doneTo_9 (by decide) ?_
  cases H
  exact z_ireturn rfl dX12_doneTo_10

theorem md_X12_doneTo : zMd yX12_doneTo cX12_doneTo 3 2 (some .int) := ⟨zmw (zmt_8 _ (List.mem_of_getElem? (i := 145) rfl)) rfl, zmem 127 (by decide +kernel) rfl, by decide, by decide, by decide +kernel, by decide⟩
theorem ml_X12_489 : Cond.methodLink RX12 489 yX12_doneTo ∈ zB := zmem 1933 (by decide +kernel) rfl
theorem im_X12_doneTo : Cond.instanceMethod yX12_doneTo ∈ zB := zmem 1935 (by decide +kernel) rfl
theorem se_X12_doneTo : Cond.selects yX12_doneTo.cls yX12_doneTo yX12_doneTo ∈ zB := zmem 105 (by decide +kernel) rfl
def f_X12_comesTo_L20 (N : Nat) (v0 : Nat) (v1 : Int32) (v3 : Int32) (h : zH) : Nat → Int32 → Int32 → Option (Int32)
  | 0, _, _ => none
  | n + 1, v4, v7 => if 8 ≤ v7 then (some v4) else ((gR h v0 12 72).bind fun r4 => (aZ h r4 v7).bind fun x5 => (if x5 = 0 then (some 0) else (zif (zob h v0 12) <| (f_X12_doneTo N v0 v1 v7 h).bind fun q9 => if v3 < q9 then (some 0) else ((gR h v0 12 73).bind fun r11 => (aI h r11 v7).bind fun x12 => if ((v4 >>> (x12 &&& 31)) &&& 1) = 1 then (some 1) else ((gR h v0 12 74).bind fun r14 => (aI h r14 v7).bind fun x15 => if ((v4 >>> (x15 &&& 31)) &&& 1) = 1 then (some 1) else (some 0)))) : Option (Int32)).bind fun m6 => if m6 = 0 then (zlet (v4 ||| 0 : Int32) fun x18 => f_X12_comesTo_L20 N v0 v1 v3 h n x18 (v7 + 1)) else ((gR h v0 12 73).bind fun r19 => (aI h r19 v7).bind fun x20 => (gR h v0 12 74).bind fun r21 => (aI h r21 v7).bind fun x22 => zlet (v4 ||| ((1 <<< (x20 &&& 31)) ||| (1 <<< (x22 &&& 31))) : Int32) fun x23 => f_X12_comesTo_L20 N v0 v1 v3 h n x23 (v7 + 1)))
def f_X12_comesTo_L8 (N : Nat) (v0 : Nat) (v1 : Int32) (v3 : Int32) (h : zH) : Nat → Int32 → Int32 → Option (Int32)
  | 0, _, _ => none
  | n + 1, v4, v5 => if v5 = 0 then (some v4) else ((f_X12_comesTo_L20 N v0 v1 v3 h N v4 0).bind fun m24 => if m24 = v4 then (f_X12_comesTo_L8 N v0 v1 v3 h n m24 0) else (f_X12_comesTo_L8 N v0 v1 v3 h n m24 1))
set_option maxRecDepth 100000 in
set_option maxHeartbeats 4000000 in
theorem s_X12_comesTo_L20 {d mc ms N : Nat} {vv : Option Value} {hh : zH} {v0 : Nat} {v1 : Int32} {v3 : Int32} {v6 : Int32} {h : zH} (hd0 : 1 ≤ d) : ∀ (n : Nat) (v4 : Int32) (v7 : Int32) (m : Int32), f_X12_comesTo_L20 N v0 v1 v3 h n v4 v7 = some m → (zW yX12_comesTo cX12_comesTo 9 (some .int) d mc ms 126 [(0, .ref v0), (1, .int v1), (3, .int v3), (4, .int m), (6, .int v6)] [] h vv hh) → zW yX12_comesTo cX12_comesTo 9 (some .int) d mc ms 20 [(0, .ref v0), (1, .int v1), (3, .int v3), (4, .int v4), (6, .int v6), (7, .int v7)] [] h vv hh := by
  intro n
  induction n with
  | zero =>
    intro v4 v7 m H
    cases H
  | succ n ih =>
    intro v4 v7 m H KE
    unfold f_X12_comesTo_L20 at H
    refine z_iload (pc := 20) 5 dX12_comesTo_20 rfl ?_
    refine z_bipush (pc := 22) (x := 8) dX12_comesTo_22 zc_bipush_8 ?_
    refine z_icmp_ge (pc := 24) 126 dX12_comesTo_24 (by decide) (fun c3 => ?_) (fun c3 => ?_)
    · rw [if_pos c3] at H
      cases H
      exact z_sub [0, 1, 2, 3, 4] rfl (KE)
    · rw [if_neg c3] at H
      refine z_aload_n (pc := 27) 0 dX12_comesTo_27 rfl rfl ?_
      obtain ⟨r4, er4, H⟩ := zbind H
      refine z_getR (pc := 28) dX12_comesTo_28 fd_X12_212 er4 ?_
      refine z_iload (pc := 31) 5 dX12_comesTo_31 rfl ?_
      obtain ⟨x5, ex5, H⟩ := zbind H
      refine z_zaload (pc := 33) dX12_comesTo_33 ex5 ?_
      obtain ⟨m6, em6, H⟩ := zbind H
      have Jm6 : zW yX12_comesTo cX12_comesTo 9 (some .int) d mc ms 85 [(0, .ref v0), (1, .int v1), (3, .int v3), (4, .int v4), (6, .int v6), (7, .int v7)] [.int m6] h vv hh := by
        refine z_istore (pc := 85) (lv' := [(8, .int m6), (0, .ref v0), (1, .int v1), (3, .int v3), (4, .int v4), (6, .int v6), (7, .int v7)]) dX12_comesTo_85 (by decide) rfl ?_
        refine z_iload (pc := 87) 4 dX12_comesTo_87 rfl ?_
        refine z_iload (pc := 89) 0 dX12_comesTo_89 rfl ?_
        refine z_if_eq (pc := 91) 116 dX12_comesTo_91 (by decide) (fun c17 => ?_) (fun c17 => ?_)
        · rw [if_pos c17] at H
          refine z_iconst (pc := 116) (x := 0) dX12_comesTo_116 zc_iconst_0 ?_
          refine z_ior (pc := 117) dX12_comesTo_117 ?_
          obtain ⟨x18, ex18, H⟩ := zletE H
          refine z_nmI ex18 ?_
          refine z_istore (pc := 118) (lv' := [(4, .int x18), (8, .int m6), (0, .ref v0), (1, .int v1), (3, .int v3), (6, .int v6), (7, .int v7)]) dX12_comesTo_118 (by decide) rfl ?_
          refine z_iinc (pc := 120) (x' := v7 + 1) (lv' := [(7, .int (v7 + 1)), (4, .int x18), (8, .int m6), (0, .ref v0), (1, .int v1), (3, .int v3), (6, .int v6)]) 6 dX12_comesTo_120 rfl (by rfl) (by decide) rfl ?_
          refine z_goto (pc := 123) 20 dX12_comesTo_123 (by decide) ?_
          exact z_sub [3, 4, 5, 1, 6, 0] rfl (ih x18 (v7 + 1) _ H KE)
        · rw [if_neg c17] at H
          refine z_iconst (pc := 94) (x := 1) dX12_comesTo_94 zc_iconst_1 ?_
          refine z_aload_n (pc := 95) 1 dX12_comesTo_95 rfl rfl ?_
          obtain ⟨r19, er19, H⟩ := zbind H
          refine z_getR (pc := 96) dX12_comesTo_96 fd_X12_215 er19 ?_
          refine z_iload (pc := 99) 6 dX12_comesTo_99 rfl ?_
          obtain ⟨x20, ex20, H⟩ := zbind H
          refine z_iaload (pc := 101) dX12_comesTo_101 ex20 ?_
          refine z_ishl (pc := 102) dX12_comesTo_102 ?_
          refine z_iconst (pc := 103) (x := 1) dX12_comesTo_103 zc_iconst_1 ?_
          refine z_aload_n (pc := 104) 1 dX12_comesTo_104 rfl rfl ?_
          obtain ⟨r21, er21, H⟩ := zbind H
          refine z_getR (pc := 105) dX12_comesTo_105 fd_X12_218 er21 ?_
          refine z_iload (pc := 108) 6 dX12_comesTo_108 rfl ?_
          obtain ⟨x22, ex22, H⟩ := zbind H
          refine z_iaload (pc := 110) dX12_comesTo_110 ex22 ?_
          refine z_ishl (pc := 111) dX12_comesTo_111 ?_
          refine z_ior (pc := 112) dX12_comesTo_112 ?_
          refine z_goto (pc := 113) 117 dX12_comesTo_113 (by decide) ?_
          refine z_ior (pc := 117) dX12_comesTo_117 ?_
          obtain ⟨x23, ex23, H⟩ := zletE H
          refine z_nmI ex23 ?_
          refine z_istore (pc := 118) (lv' := [(4, .int x23), (8, .int m6), (0, .ref v0), (1, .int v1), (3, .int v3), (6, .int v6), (7, .int v7)]) dX12_comesTo_118 (by decide) rfl ?_
          refine z_iinc (pc := 120) (x' := v7 + 1) (lv' := [(7, .int (v7 + 1)), (4, .int x23), (8, .int m6), (0, .ref v0), (1, .int v1), (3, .int v3), (6, .int v6)]) 6 dX12_comesTo_120 rfl (by rfl) (by decide) rfl ?_
          refine z_goto (pc := 123) 20 dX12_comesTo_123 (by decide) ?_
          exact z_sub [3, 4, 5, 1, 6, 0] rfl (ih x23 (v7 + 1) _ H KE)
      refine z_if_eq (pc := 34) 84 dX12_comesTo_34 (by decide) (fun c7 => ?_) (fun c7 => ?_)
      · rw [if_pos c7] at em6
        refine z_iconst (pc := 84) (x := 0) dX12_comesTo_84 zc_iconst_0 ?_
        cases em6
        exact z_sub [0, 1, 2, 3, 4, 5] rfl Jm6
      · rw [if_neg c7] at em6
        refine z_aload_n (pc := 37) 0 dX12_comesTo_37 rfl rfl ?_
        refine z_iload_n (pc := 38) 1 dX12_comesTo_38 rfl rfl ?_
        refine z_iload (pc := 39) 5 dX12_comesTo_39 rfl ?_
        obtain ⟨z8, em6⟩ := zifE em6
        obtain ⟨q9, eq9, em6⟩ := zbind em6
        refine z_callV (pc := 41) (mc := mc) (ms := ms) (d' := 0) (mc' := 0) (ms' := 0) (rest := []) [.int v1, .int v7] dX12_comesTo_41 md_X12_doneTo ml_X12_489 im_X12_doneTo se_X12_doneTo rfl z8 rfl rfl (Nat.le_of_ble_eq_true rfl) (by omega) (k_X12_doneTo eq9) ?_
        refine z_iload_n (pc := 44) 2 dX12_comesTo_44 rfl rfl ?_
        refine z_icmp_gt (pc := 45) 84 dX12_comesTo_45 (by decide) (fun c10 => ?_) (fun c10 => ?_)
        · rw [if_pos c10] at em6
          refine z_iconst (pc := 84) (x := 0) dX12_comesTo_84 zc_iconst_0 ?_
          cases em6
          exact z_sub [0, 1, 2, 3, 4, 5] rfl Jm6
        · rw [if_neg c10] at em6
          refine z_iload (pc := 48) 3 dX12_comesTo_48 rfl ?_
          refine z_aload_n (pc := 50) 0 dX12_comesTo_50 rfl rfl ?_
          obtain ⟨r11, er11, em6⟩ := zbind em6
          refine z_getR (pc := 51) dX12_comesTo_51 fd_X12_215 er11 ?_
          refine z_iload (pc := 54) 5 dX12_comesTo_54 rfl ?_
          obtain ⟨x12, ex12, em6⟩ := zbind em6
          refine z_iaload (pc := 56) dX12_comesTo_56 ex12 ?_
          refine z_ishr (pc := 57) dX12_comesTo_57 ?_
          refine z_iconst (pc := 58) (x := 1) dX12_comesTo_58 zc_iconst_1 ?_
          refine z_iand (pc := 59) dX12_comesTo_59 ?_
          refine z_iconst (pc := 60) (x := 1) dX12_comesTo_60 zc_iconst_1 ?_
          refine z_icmp_eq (pc := 61) 80 dX12_comesTo_61 (by decide) (fun c13 => ?_) (fun c13 => ?_)
          · rw [if_pos c13] at em6
            refine z_iconst (pc := 80) (x := 1) dX12_comesTo_80 zc_iconst_1 ?_
            refine z_goto (pc := 81) 85 dX12_comesTo_81 (by decide) ?_
            cases em6
            exact z_sub [0, 1, 2, 3, 4, 5] rfl Jm6
          · rw [if_neg c13] at em6
            refine z_iload (pc := 64) 3 dX12_comesTo_64 rfl ?_
            refine z_aload_n (pc := 66) 0 dX12_comesTo_66 rfl rfl ?_
            obtain ⟨r14, er14, em6⟩ := zbind em6
            refine z_getR (pc := 67) dX12_comesTo_67 fd_X12_218 er14 ?_
            refine z_iload (pc := 70) 5 dX12_comesTo_70 rfl ?_
            obtain ⟨x15, ex15, em6⟩ := zbind em6
            refine z_iaload (pc := 72) dX12_comesTo_72 ex15 ?_
            refine z_ishr (pc := 73) dX12_comesTo_73 ?_
            refine z_iconst (pc := 74) (x := 1) dX12_comesTo_74 zc_iconst_1 ?_
            refine z_iand (pc := 75) dX12_comesTo_75 ?_
            refine z_iconst (pc := 76) (x := 1) dX12_comesTo_76 zc_iconst_1 ?_
            refine z_icmp_ne (pc := 77) 84 dX12_comesTo_77 (by decide) (fun c16 => ?_) (fun c16 => ?_)
            · rw [if_neg c16] at em6
              refine z_iconst (pc := 84) (x := 0) dX12_comesTo_84 zc_iconst_0 ?_
              cases em6
              exact z_sub [0, 1, 2, 3, 4, 5] rfl Jm6
            · rw [if_pos c16] at em6
              refine z_iconst (pc := 80) (x := 1) dX12_comesTo_80 zc_iconst_1 ?_
              refine z_goto (pc := 81) 85 dX12_comesTo_81 (by decide) ?_
              cases em6
              exact z_sub [0, 1, 2, 3, 4, 5] rfl Jm6
set_option maxRecDepth 100000 in
set_option maxHeartbeats 4000000 in
theorem s_X12_comesTo_L8 {d mc ms N : Nat} {vv : Option Value} {hh : zH} {v0 : Nat} {v1 : Int32} {v3 : Int32} {h : zH} (hd0 : 1 ≤ d) : ∀ (n : Nat) (v4 : Int32) (v5 : Int32) (m : Int32), f_X12_comesTo_L8 N v0 v1 v3 h n v4 v5 = some m → (zW yX12_comesTo cX12_comesTo 9 (some .int) d mc ms 143 [(4, .int m)] [] h vv hh) → zW yX12_comesTo cX12_comesTo 9 (some .int) d mc ms 8 [(0, .ref v0), (1, .int v1), (3, .int v3), (4, .int v4), (5, .int v5)] [] h vv hh := by
  intro n
  induction n with
  | zero =>
    intro v4 v5 m H
    cases H
  | succ n ih =>
    intro v4 v5 m H KE
    unfold f_X12_comesTo_L8 at H
    refine z_iload (pc := 8) 4 dX12_comesTo_8 rfl ?_
    refine z_if_eq (pc := 10) 143 dX12_comesTo_10 (by decide) (fun c2 => ?_) (fun c2 => ?_)
    · rw [if_pos c2] at H
      cases H
      exact z_sub [3] rfl (KE)
    · rw [if_neg c2] at H
      refine z_iload (pc := 13) 3 dX12_comesTo_13 rfl ?_
      refine z_istore (pc := 15) (lv' := [(6, .int v4), (0, .ref v0), (1, .int v1), (3, .int v3), (4, .int v4), (5, .int v5)]) dX12_comesTo_15 (by decide) rfl ?_
      refine z_iconst (pc := 17) (x := 0) dX12_comesTo_17 zc_iconst_0 ?_
      refine z_istore (pc := 18) (lv' := [(7, .int 0), (6, .int v4), (0, .ref v0), (1, .int v1), (3, .int v3), (4, .int v4), (5, .int v5)]) dX12_comesTo_18 (by decide) rfl ?_
      obtain ⟨m24, em24, H⟩ := zbind H
      refine z_sub [2, 3, 4, 5, 1, 0] rfl (s_X12_comesTo_L20 (by omega) N v4 0 _ em24 ?_)
      refine z_iload (pc := 126) 3 dX12_comesTo_126 rfl ?_
      refine z_iload (pc := 128) 4 dX12_comesTo_128 rfl ?_
      refine z_icmp_eq (pc := 130) 137 dX12_comesTo_130 (by decide) (fun c25 => ?_) (fun c25 => ?_)
      · rw [if_pos c25] at H
        refine z_iconst (pc := 137) (x := 0) dX12_comesTo_137 zc_iconst_0 ?_
        refine z_istore (pc := 138) (lv' := [(5, .int 0), (0, .ref v0), (1, .int v1), (3, .int v3), (4, .int m24), (6, .int v4)]) dX12_comesTo_138 (by decide) rfl ?_
        refine z_goto (pc := 140) 8 dX12_comesTo_140 (by decide) ?_
        exact z_sub [1, 2, 3, 4, 0] rfl (ih m24 0 _ H KE)
      · rw [if_neg c25] at H
        refine z_iconst (pc := 133) (x := 1) dX12_comesTo_133 zc_iconst_1 ?_
        refine z_goto (pc := 134) 138 dX12_comesTo_134 (by decide) ?_
        refine z_istore (pc := 138) (lv' := [(5, .int 1), (0, .ref v0), (1, .int v1), (3, .int v3), (4, .int m24), (6, .int v4)]) dX12_comesTo_138 (by decide) rfl ?_
        refine z_goto (pc := 140) 8 dX12_comesTo_140 (by decide) ?_
        exact z_sub [1, 2, 3, 4, 0] rfl (ih m24 1 _ H KE)
def f_X12_comesTo (N : Nat) (v0 : Nat) (v1 : Int32) (v2 : Int32) (v3 : Int32) (h : zH) : Option (Int32) := zlet (1 <<< (v2 &&& 31) : Int32) fun x1 => (f_X12_comesTo_L8 N v0 v1 v3 h N x1 1).bind fun m26 => some m26
set_option maxRecDepth 100000 in
set_option maxHeartbeats 4000000 in
theorem k_X12_comesTo {N : Nat} {v0 : Nat} {v1 : Int32} {v2 : Int32} {v3 : Int32} {h : zH} {r : Int32} (H : f_X12_comesTo N v0 v1 v2 v3 h = some r) : zOk 1 0 0 yX12_comesTo cX12_comesTo 9 (some .int) [.ref v0, .int v1, .int v2, .int v3] h (some (.int r)) h := by
  refine zOk.of (by decide) (Nat.le_of_ble_eq_true rfl) ?_
  unfold f_X12_comesTo at H
  refine z_iconst (pc := 0) (x := 1) dX12_comesTo_0 zc_iconst_1 ?_
  refine z_iload_n (pc := 1) 2 dX12_comesTo_1 rfl rfl ?_
  refine z_ishl (pc := 2) dX12_comesTo_2 ?_
  obtain ⟨x1, ex1, H⟩ := zletE H
  refine z_nmI ex1 ?_
  refine z_istore (pc := 3) (lv' := [(4, .int x1), (0, .ref v0), (1, .int v1), (2, .int v2), (3, .int v3)]) dX12_comesTo_3 (by decide) rfl ?_
  refine z_iconst (pc := 5) (x := 1) dX12_comesTo_5 zc_iconst_1 ?_
  refine z_istore (pc := 6) (lv' := [(5, .int 1), (4, .int x1), (0, .ref v0), (1, .int v1), (2, .int v2), (3, .int v3)]) dX12_comesTo_6 (by decide) rfl ?_
  obtain ⟨m26, em26, H⟩ := zbind H
  refine z_sub [2, 3, 5, 1, 0] rfl (s_X12_comesTo_L8 (by omega) N x1 1 _ em26 ?_)
  refine z_iload (pc := 143) 0 dX12_comesTo_143 rfl ?_
  cases H
  exact z_ireturn rfl dX12_comesTo_145

theorem md_X12_comesTo : zMd yX12_comesTo cX12_comesTo 9 3 (some .int) := ⟨zmw (zmt_8 _ (List.mem_of_getElem? (i := 157) rfl)) rfl, zmem 127 (by decide +kernel) rfl, by decide, by decide, by decide +kernel, by decide⟩
theorem ml_X12_492 : Cond.methodLink RX12 492 yX12_comesTo ∈ zB := zmem 1945 (by decide +kernel) rfl
theorem im_X12_comesTo : Cond.instanceMethod yX12_comesTo ∈ zB := zmem 1947 (by decide +kernel) rfl
theorem se_X12_comesTo : Cond.selects yX12_comesTo.cls yX12_comesTo yX12_comesTo ∈ zB := zmem 108 (by decide +kernel) rfl
def f_X12_goes (N : Nat) (v0 : Nat) (v1 : Int32) (v2 : Int32) (v3 : Int32) (h : zH) : Option (Int32) := (gR h v0 12 77).bind fun r1 => (aI h r1 v2).bind fun x2 => zif (zob h v0 12) <| (f_X12_comesTo N v0 v1 x2 v3 h).bind fun q4 => (gR h v0 12 78).bind fun r5 => (aI h r5 v2).bind fun x6 => if ((q4 >>> (x6 &&& 31)) &&& 1) = 1 then (some 1) else (some 0)
set_option maxRecDepth 100000 in
set_option maxHeartbeats 4000000 in
theorem k_X12_goes {N : Nat} {v0 : Nat} {v1 : Int32} {v2 : Int32} {v3 : Int32} {h : zH} {r : Int32} (H : f_X12_goes N v0 v1 v2 v3 h = some r) : zOk 2 0 0 yX12_goes cX12_goes 4 (some .boolean) [.ref v0, .int v1, .int v2, .int v3] h (some (.int r)) h := by
  refine zOk.of (by decide) (Nat.le_of_ble_eq_true rfl) ?_
  unfold f_X12_goes at H
  refine z_aload_n (pc := 0) 0 dX12_goes_0 rfl rfl ?_
  refine z_iload_n (pc := 1) 1 dX12_goes_1 rfl rfl ?_
  refine z_aload_n (pc := 2) 0 dX12_goes_2 rfl rfl ?_
  obtain ⟨r1, er1, H⟩ := zbind H
  refine z_getR (pc := 3) dX12_goes_3 fd_X12_224 er1 ?_
  refine z_iload_n (pc := 6) 2 dX12_goes_6 rfl rfl ?_
  obtain ⟨x2, ex2, H⟩ := zbind H
  refine z_iaload (pc := 7) dX12_goes_7 ex2 ?_
  refine z_iload_n (pc := 8) 3 dX12_goes_8 rfl rfl ?_
  obtain ⟨z3, H⟩ := zifE H
  obtain ⟨q4, eq4, H⟩ := zbind H
  refine z_callV (pc := 9) (mc := 0) (ms := 0) (d' := 1) (mc' := 0) (ms' := 0) (rest := []) [.int v1, .int x2, .int v3] dX12_goes_9 md_X12_comesTo ml_X12_492 im_X12_comesTo se_X12_comesTo rfl z3 rfl rfl (Nat.le_of_ble_eq_true rfl) (by omega) (k_X12_comesTo eq4) ?_
  refine z_aload_n (pc := 12) 0 dX12_goes_12 rfl rfl ?_
  obtain ⟨r5, er5, H⟩ := zbind H
  refine z_getR (pc := 13) dX12_goes_13 fd_X12_227 er5 ?_
  refine z_iload_n (pc := 16) 2 dX12_goes_16 rfl rfl ?_
  obtain ⟨x6, ex6, H⟩ := zbind H
  refine z_iaload (pc := 17) dX12_goes_17 ex6 ?_
  refine z_ishr (pc := 18) dX12_goes_18 ?_
  refine z_iconst (pc := 19) (x := 1) dX12_goes_19 zc_iconst_1 ?_
  refine z_iand (pc := 20) dX12_goes_20 ?_
  refine z_iconst (pc := 21) (x := 1) dX12_goes_21 zc_iconst_1 ?_
  refine z_icmp_ne (pc := 22) 29 dX12_goes_22 (by decide) (fun c7 => ?_) (fun c7 => ?_)
  · rw [if_neg c7] at H
    refine z_iconst (pc := 29) (x := 0) dX12_goes_29 zc_iconst_0 ?_
    cases H
    exact z_zreturn rfl dX12_goes_30 (by decide)
  · rw [if_pos c7] at H
    refine z_iconst (pc := 25) (x := 1) dX12_goes_25 zc_iconst_1 ?_
    refine z_goto (pc := 26) 30 dX12_goes_26 (by decide) ?_
    cases H
    exact z_zreturn rfl dX12_goes_30 (by decide)

theorem md_X12_goes : zMd yX12_goes cX12_goes 4 3 (some .boolean) := ⟨zmw (zmt_8 _ (List.mem_of_getElem? (i := 153) rfl)) rfl, zmem 127 (by decide +kernel) rfl, by decide, by decide, by decide +kernel, by decide⟩
theorem ml_X12_495 : Cond.methodLink RX12 495 yX12_goes ∈ zB := zmem 1941 (by decide +kernel) rfl
theorem im_X12_goes : Cond.instanceMethod yX12_goes ∈ zB := zmem 1943 (by decide +kernel) rfl
theorem se_X12_goes : Cond.selects yX12_goes.cls yX12_goes yX12_goes ∈ zB := zmem 107 (by decide +kernel) rfl
def f_X12_lateBy_L2 (N : Nat) (v0 : Nat) (v1 : Int32) (h : zH) : Nat → Int32 → Option ((Unit) ⊕ (Int32))
  | 0, _ => none
  | n + 1, v2 => if 8 ≤ v2 then (some (.inl ())) else ((gR h v0 12 72).bind fun r2 => (aZ h r2 v2).bind fun x3 => if x3 = 0 then (zif (zob h v0 12) <| (f_X12_doneTo N v0 v1 v2 h).bind fun q6 => if q6 ≤ 0 then (f_X12_lateBy_L2 N v0 v1 h n (v2 + 1)) else (some (.inr (-1)))) else (f_X12_lateBy_L2 N v0 v1 h n (v2 + 1)))
def f_X12_lateBy_L38 (N : Nat) (v0 : Nat) (v1 : Int32) (h : zH) : Nat → Int32 → Int32 → Option ((Int32) ⊕ (Int32))
  | 0, _, _ => none
  | n + 1, v2, v3 => (gI h v0 12 76).bind fun x10 => if x10 ≤ v3 then (some (.inl v2)) else (zif (zob h v0 12) <| (f_X12_goes N v0 v1 v3 1 h).bind fun q13 => if q13 = 0 then (some (.inr (-1))) else (zif (zob h v0 12) <| (f_X12_goes N v0 v1 v3 0 h).bind fun q16 => if q16 = 0 then (zlet (v2 + 1 : Int32) fun x18 => f_X12_lateBy_L38 N v0 v1 h n x18 (v3 + 1)) else (zlet (v2 + 0 : Int32) fun x19 => f_X12_lateBy_L38 N v0 v1 h n x19 (v3 + 1))))
set_option maxRecDepth 100000 in
set_option maxHeartbeats 4000000 in
theorem s_X12_lateBy_L2 {d mc ms N : Nat} {vv : Option Value} {hh : zH} {v0 : Nat} {v1 : Int32} {h : zH} (hd0 : 3 ≤ d) : ∀ (n : Nat) (v2 : Int32) (m : (Unit) ⊕ (Int32)), f_X12_lateBy_L2 N v0 v1 h n v2 = some m → (∀ s, m = .inl s → zW yX12_lateBy cX12_lateBy 4 (some .int) d mc ms 34 [(0, .ref v0), (1, .int v1)] [] h vv hh) → (∀ r, m = .inr r → vv = (some (.int r)) ∧ hh = h) → zW yX12_lateBy cX12_lateBy 4 (some .int) d mc ms 2 [(0, .ref v0), (1, .int v1), (2, .int v2)] [] h vv hh := by
  intro n
  induction n with
  | zero =>
    intro v2 m H
    cases H
  | succ n ih =>
    intro v2 m H KE KR
    unfold f_X12_lateBy_L2 at H
    refine z_iload_n (pc := 2) 2 dX12_lateBy_2 rfl rfl ?_
    refine z_bipush (pc := 3) (x := 8) dX12_lateBy_3 zc_bipush_8 ?_
    refine z_icmp_ge (pc := 5) 34 dX12_lateBy_5 (by decide) (fun c1 => ?_) (fun c1 => ?_)
    · rw [if_pos c1] at H
      cases H
      exact z_sub [0, 1] rfl (KE _ rfl)
    · rw [if_neg c1] at H
      refine z_aload_n (pc := 8) 0 dX12_lateBy_8 rfl rfl ?_
      obtain ⟨r2, er2, H⟩ := zbind H
      refine z_getR (pc := 9) dX12_lateBy_9 fd_X12_212 er2 ?_
      refine z_iload_n (pc := 12) 2 dX12_lateBy_12 rfl rfl ?_
      obtain ⟨x3, ex3, H⟩ := zbind H
      refine z_zaload (pc := 13) dX12_lateBy_13 ex3 ?_
      refine z_if_ne (pc := 14) 28 dX12_lateBy_14 (by decide) (fun c4 => ?_) (fun c4 => ?_)
      · rw [if_neg c4] at H
        refine z_iinc (pc := 28) (x' := v2 + 1) (lv' := [(2, .int (v2 + 1)), (0, .ref v0), (1, .int v1)]) 2 dX12_lateBy_28 rfl (by rfl) (by decide) rfl ?_
        refine z_goto (pc := 31) 2 dX12_lateBy_31 (by decide) ?_
        exact z_sub [1, 2, 0] rfl (ih (v2 + 1) _ H KE KR)
      · rw [if_pos c4] at H
        refine z_aload_n (pc := 17) 0 dX12_lateBy_17 rfl rfl ?_
        refine z_iload_n (pc := 18) 1 dX12_lateBy_18 rfl rfl ?_
        refine z_iload_n (pc := 19) 2 dX12_lateBy_19 rfl rfl ?_
        obtain ⟨z5, H⟩ := zifE H
        obtain ⟨q6, eq6, H⟩ := zbind H
        refine z_callV (pc := 20) (mc := mc) (ms := ms) (d' := 0) (mc' := 0) (ms' := 0) (rest := []) [.int v1, .int v2] dX12_lateBy_20 md_X12_doneTo ml_X12_489 im_X12_doneTo se_X12_doneTo rfl z5 rfl rfl (Nat.le_of_ble_eq_true rfl) (by omega) (k_X12_doneTo eq6) ?_
        refine z_if_le (pc := 23) 28 dX12_lateBy_23 (by decide) (fun c7 => ?_) (fun c7 => ?_)
        · rw [if_pos c7] at H
          refine z_iinc (pc := 28) (x' := v2 + 1) (lv' := [(2, .int (v2 + 1)), (0, .ref v0), (1, .int v1)]) 2 dX12_lateBy_28 rfl (by rfl) (by decide) rfl ?_
          refine z_goto (pc := 31) 2 dX12_lateBy_31 (by decide) ?_
          exact z_sub [1, 2, 0] rfl (ih (v2 + 1) _ H KE KR)
        · rw [if_neg c7] at H
          refine z_iconst (pc := 26) (x := (-1)) dX12_lateBy_26 zc_iconst_m1 ?_
          cases H
          obtain ⟨e8, e9⟩ := KR _ rfl
          subst e8
          subst e9
          exact z_ireturn rfl dX12_lateBy_27
set_option maxRecDepth 100000 in
set_option maxHeartbeats 4000000 in
theorem s_X12_lateBy_L38 {d mc ms N : Nat} {vv : Option Value} {hh : zH} {v0 : Nat} {v1 : Int32} {h : zH} (hd0 : 3 ≤ d) : ∀ (n : Nat) (v2 : Int32) (v3 : Int32) (m : (Int32) ⊕ (Int32)), f_X12_lateBy_L38 N v0 v1 h n v2 v3 = some m → (∀ s, m = .inl s → zW yX12_lateBy cX12_lateBy 4 (some .int) d mc ms 82 [(2, .int s)] [] h vv hh) → (∀ r, m = .inr r → vv = (some (.int r)) ∧ hh = h) → zW yX12_lateBy cX12_lateBy 4 (some .int) d mc ms 38 [(0, .ref v0), (1, .int v1), (2, .int v2), (3, .int v3)] [] h vv hh := by
  intro n
  induction n with
  | zero =>
    intro v2 v3 m H
    cases H
  | succ n ih =>
    intro v2 v3 m H KE KR
    unfold f_X12_lateBy_L38 at H
    refine z_iload_n (pc := 38) 3 dX12_lateBy_38 rfl rfl ?_
    refine z_aload_n (pc := 39) 0 dX12_lateBy_39 rfl rfl ?_
    obtain ⟨x10, ex10, H⟩ := zbind H
    refine z_getI (pc := 40) dX12_lateBy_40 fd_X12_486 ex10 ?_
    refine z_icmp_ge (pc := 43) 82 dX12_lateBy_43 (by decide) (fun c11 => ?_) (fun c11 => ?_)
    · rw [if_pos c11] at H
      cases H
      exact z_sub [2] rfl (KE _ rfl)
    · rw [if_neg c11] at H
      refine z_aload_n (pc := 46) 0 dX12_lateBy_46 rfl rfl ?_
      refine z_iload_n (pc := 47) 1 dX12_lateBy_47 rfl rfl ?_
      refine z_iload_n (pc := 48) 3 dX12_lateBy_48 rfl rfl ?_
      refine z_iconst (pc := 49) (x := 1) dX12_lateBy_49 zc_iconst_1 ?_
      obtain ⟨z12, H⟩ := zifE H
      obtain ⟨q13, eq13, H⟩ := zbind H
      refine z_callV (pc := 50) (mc := mc) (ms := ms) (d' := 2) (mc' := 0) (ms' := 0) (rest := []) [.int v1, .int v3, .int 1] dX12_lateBy_50 md_X12_goes ml_X12_495 im_X12_goes se_X12_goes rfl z12 rfl rfl (Nat.le_of_ble_eq_true rfl) (by omega) (k_X12_goes eq13) ?_
      refine z_if_ne (pc := 53) 58 dX12_lateBy_53 (by decide) (fun c14 => ?_) (fun c14 => ?_)
      · rw [if_neg c14] at H
        refine z_iload_n (pc := 58) 2 dX12_lateBy_58 rfl rfl ?_
        refine z_aload_n (pc := 59) 0 dX12_lateBy_59 rfl rfl ?_
        refine z_iload_n (pc := 60) 1 dX12_lateBy_60 rfl rfl ?_
        refine z_iload_n (pc := 61) 3 dX12_lateBy_61 rfl rfl ?_
        refine z_iconst (pc := 62) (x := 0) dX12_lateBy_62 zc_iconst_0 ?_
        obtain ⟨z15, H⟩ := zifE H
        obtain ⟨q16, eq16, H⟩ := zbind H
        refine z_callV (pc := 63) (mc := mc) (ms := ms) (d' := 2) (mc' := 0) (ms' := 0) (rest := [.int v2]) [.int v1, .int v3, .int 0] dX12_lateBy_63 md_X12_goes ml_X12_495 im_X12_goes se_X12_goes rfl z15 rfl rfl (Nat.le_of_ble_eq_true rfl) (by omega) (k_X12_goes eq16) ?_
        refine z_if_eq (pc := 66) 73 dX12_lateBy_66 (by decide) (fun c17 => ?_) (fun c17 => ?_)
        · rw [if_pos c17] at H
          refine z_iconst (pc := 73) (x := 1) dX12_lateBy_73 zc_iconst_1 ?_
          refine z_iadd (pc := 74) dX12_lateBy_74 ?_
          obtain ⟨x18, ex18, H⟩ := zletE H
          refine z_nmI ex18 ?_
          refine z_istore_n (pc := 75) (lv' := [(2, .int x18), (0, .ref v0), (1, .int v1), (3, .int v3)]) dX12_lateBy_75 rfl (by decide) rfl ?_
          refine z_iinc (pc := 76) (x' := v3 + 1) (lv' := [(3, .int (v3 + 1)), (2, .int x18), (0, .ref v0), (1, .int v1)]) 3 dX12_lateBy_76 rfl (by rfl) (by decide) rfl ?_
          refine z_goto (pc := 79) 38 dX12_lateBy_79 (by decide) ?_
          exact z_sub [2, 3, 1, 0] rfl (ih x18 (v3 + 1) _ H KE KR)
        · rw [if_neg c17] at H
          refine z_iconst (pc := 69) (x := 0) dX12_lateBy_69 zc_iconst_0 ?_
          refine z_goto (pc := 70) 74 dX12_lateBy_70 (by decide) ?_
          refine z_iadd (pc := 74) dX12_lateBy_74 ?_
          obtain ⟨x19, ex19, H⟩ := zletE H
          refine z_nmI ex19 ?_
          refine z_istore_n (pc := 75) (lv' := [(2, .int x19), (0, .ref v0), (1, .int v1), (3, .int v3)]) dX12_lateBy_75 rfl (by decide) rfl ?_
          refine z_iinc (pc := 76) (x' := v3 + 1) (lv' := [(3, .int (v3 + 1)), (2, .int x19), (0, .ref v0), (1, .int v1)]) 3 dX12_lateBy_76 rfl (by rfl) (by decide) rfl ?_
          refine z_goto (pc := 79) 38 dX12_lateBy_79 (by decide) ?_
          exact z_sub [2, 3, 1, 0] rfl (ih x19 (v3 + 1) _ H KE KR)
      · rw [if_pos c14] at H
        refine z_iconst (pc := 56) (x := (-1)) dX12_lateBy_56 zc_iconst_m1 ?_
        cases H
        obtain ⟨e8, e9⟩ := KR _ rfl
        subst e8
        subst e9
        exact z_ireturn rfl dX12_lateBy_57
def f_X12_lateBy (N : Nat) (v0 : Nat) (v1 : Int32) (h : zH) : Option (Int32) := (f_X12_lateBy_L2 N v0 v1 h N 0).bind fun m8 => zsum m8 fun s9 => (f_X12_lateBy_L38 N v0 v1 h N 0 0).bind fun m20 => zsum m20 fun s21 => some s21
set_option maxRecDepth 100000 in
set_option maxHeartbeats 4000000 in
theorem k_X12_lateBy {N : Nat} {v0 : Nat} {v1 : Int32} {h : zH} {r : Int32} (H : f_X12_lateBy N v0 v1 h = some r) : zOk 3 0 0 yX12_lateBy cX12_lateBy 4 (some .int) [.ref v0, .int v1] h (some (.int r)) h := by
  refine zOk.of (by decide) (Nat.le_of_ble_eq_true rfl) ?_
  unfold f_X12_lateBy at H
  refine z_iconst (pc := 0) (x := 0) dX12_lateBy_0 zc_iconst_0 ?_
  refine z_istore_n (pc := 1) (lv' := [(2, .int 0), (0, .ref v0), (1, .int v1)]) dX12_lateBy_1 rfl (by decide) rfl ?_
  obtain ⟨m8, em8, H⟩ := zbind H
  refine z_sub [1, 2, 0] rfl (s_X12_lateBy_L2 (by omega) N 0 _ em8 ?_ ?_)
  · intro s9 e9
    subst e9
    have H := zsumL H
    refine z_iconst (pc := 34) (x := 0) dX12_lateBy_34 zc_iconst_0 ?_
    refine z_istore_n (pc := 35) (lv' := [(2, .int 0), (0, .ref v0), (1, .int v1)]) dX12_lateBy_35 rfl (by decide) rfl ?_
    refine z_iconst (pc := 36) (x := 0) dX12_lateBy_36 zc_iconst_0 ?_
    refine z_istore_n (pc := 37) (lv' := [(3, .int 0), (2, .int 0), (0, .ref v0), (1, .int v1)]) dX12_lateBy_37 rfl (by decide) rfl ?_
    obtain ⟨m20, em20, H⟩ := zbind H
    refine z_sub [2, 3, 1, 0] rfl (s_X12_lateBy_L38 (by omega) N 0 0 _ em20 ?_ ?_)
    · intro s21 e9
      subst e9
      have H := zsumL H
      refine z_iload_n (pc := 82) 0 dX12_lateBy_82 rfl rfl ?_
      cases H
      exact z_ireturn rfl dX12_lateBy_83
    · intro r e9
      subst e9
      have H := zsumR H
      cases H
      exact ⟨rfl, rfl⟩
  · intro r e9
    subst e9
    have H := zsumR H
    cases H
    exact ⟨rfl, rfl⟩

def f_X12_harmOf_L4 (N : Nat) (v0 : Nat) (v1 : Int32) (h : zH) : Nat → Int32 → Int32 → Option (Int32)
  | 0, _, _ => none
  | n + 1, v2, v3 => if 8 ≤ v3 then (some v2) else ((gR h v0 12 72).bind fun r2 => (aZ h r2 v3).bind fun x3 => if x3 = 0 then (zlet (v2 + 0 : Int32) fun x5 => f_X12_harmOf_L4 N v0 v1 h n x5 (v3 + 1)) else ((gR h v0 12 75).bind fun r6 => zif (zob h v0 12) <| (f_X12_doneTo N v0 v1 v3 h).bind fun q8 => (aI h r6 ((3 * v3) + q8)).bind fun x9 => zlet (v2 + x9 : Int32) fun x10 => f_X12_harmOf_L4 N v0 v1 h n x10 (v3 + 1)))
set_option maxRecDepth 100000 in
set_option maxHeartbeats 4000000 in
theorem s_X12_harmOf_L4 {d mc ms N : Nat} {vv : Option Value} {hh : zH} {v0 : Nat} {v1 : Int32} {h : zH} (hd0 : 1 ≤ d) : ∀ (n : Nat) (v2 : Int32) (v3 : Int32) (m : Int32), f_X12_harmOf_L4 N v0 v1 h n v2 v3 = some m → (zW yX12_harmOf cX12_harmOf 4 (some .int) d mc ms 47 [(2, .int m)] [] h vv hh) → zW yX12_harmOf cX12_harmOf 4 (some .int) d mc ms 4 [(0, .ref v0), (1, .int v1), (2, .int v2), (3, .int v3)] [] h vv hh := by
  intro n
  induction n with
  | zero =>
    intro v2 v3 m H
    cases H
  | succ n ih =>
    intro v2 v3 m H KE
    unfold f_X12_harmOf_L4 at H
    refine z_iload_n (pc := 4) 3 dX12_harmOf_4 rfl rfl ?_
    refine z_bipush (pc := 5) (x := 8) dX12_harmOf_5 zc_bipush_8 ?_
    refine z_icmp_ge (pc := 7) 47 dX12_harmOf_7 (by decide) (fun c1 => ?_) (fun c1 => ?_)
    · rw [if_pos c1] at H
      cases H
      exact z_sub [2] rfl (KE)
    · rw [if_neg c1] at H
      refine z_iload_n (pc := 10) 2 dX12_harmOf_10 rfl rfl ?_
      refine z_aload_n (pc := 11) 0 dX12_harmOf_11 rfl rfl ?_
      obtain ⟨r2, er2, H⟩ := zbind H
      refine z_getR (pc := 12) dX12_harmOf_12 fd_X12_212 er2 ?_
      refine z_iload_n (pc := 15) 3 dX12_harmOf_15 rfl rfl ?_
      obtain ⟨x3, ex3, H⟩ := zbind H
      refine z_zaload (pc := 16) dX12_harmOf_16 ex3 ?_
      refine z_if_eq (pc := 17) 38 dX12_harmOf_17 (by decide) (fun c4 => ?_) (fun c4 => ?_)
      · rw [if_pos c4] at H
        refine z_iconst (pc := 38) (x := 0) dX12_harmOf_38 zc_iconst_0 ?_
        refine z_iadd (pc := 39) dX12_harmOf_39 ?_
        obtain ⟨x5, ex5, H⟩ := zletE H
        refine z_nmI ex5 ?_
        refine z_istore_n (pc := 40) (lv' := [(2, .int x5), (0, .ref v0), (1, .int v1), (3, .int v3)]) dX12_harmOf_40 rfl (by decide) rfl ?_
        refine z_iinc (pc := 41) (x' := v3 + 1) (lv' := [(3, .int (v3 + 1)), (2, .int x5), (0, .ref v0), (1, .int v1)]) 3 dX12_harmOf_41 rfl (by rfl) (by decide) rfl ?_
        refine z_goto (pc := 44) 4 dX12_harmOf_44 (by decide) ?_
        exact z_sub [2, 3, 1, 0] rfl (ih x5 (v3 + 1) _ H KE)
      · rw [if_neg c4] at H
        refine z_aload_n (pc := 20) 0 dX12_harmOf_20 rfl rfl ?_
        obtain ⟨r6, er6, H⟩ := zbind H
        refine z_getR (pc := 21) dX12_harmOf_21 fd_X12_221 er6 ?_
        refine z_iconst (pc := 24) (x := 3) dX12_harmOf_24 zc_iconst_3 ?_
        refine z_iload_n (pc := 25) 3 dX12_harmOf_25 rfl rfl ?_
        refine z_imul (pc := 26) dX12_harmOf_26 ?_
        refine z_aload_n (pc := 27) 0 dX12_harmOf_27 rfl rfl ?_
        refine z_iload_n (pc := 28) 1 dX12_harmOf_28 rfl rfl ?_
        refine z_iload_n (pc := 29) 3 dX12_harmOf_29 rfl rfl ?_
        obtain ⟨z7, H⟩ := zifE H
        obtain ⟨q8, eq8, H⟩ := zbind H
        refine z_callV (pc := 30) (mc := mc) (ms := ms) (d' := 0) (mc' := 0) (ms' := 0) (rest := [.int (3 * v3), .ref r6, .int v2]) [.int v1, .int v3] dX12_harmOf_30 md_X12_doneTo ml_X12_489 im_X12_doneTo se_X12_doneTo rfl z7 rfl rfl (Nat.le_of_ble_eq_true rfl) (by omega) (k_X12_doneTo eq8) ?_
        refine z_iadd (pc := 33) dX12_harmOf_33 ?_
        obtain ⟨x9, ex9, H⟩ := zbind H
        refine z_iaload (pc := 34) dX12_harmOf_34 ex9 ?_
        refine z_goto (pc := 35) 39 dX12_harmOf_35 (by decide) ?_
        refine z_iadd (pc := 39) dX12_harmOf_39 ?_
        obtain ⟨x10, ex10, H⟩ := zletE H
        refine z_nmI ex10 ?_
        refine z_istore_n (pc := 40) (lv' := [(2, .int x10), (0, .ref v0), (1, .int v1), (3, .int v3)]) dX12_harmOf_40 rfl (by decide) rfl ?_
        refine z_iinc (pc := 41) (x' := v3 + 1) (lv' := [(3, .int (v3 + 1)), (2, .int x10), (0, .ref v0), (1, .int v1)]) 3 dX12_harmOf_41 rfl (by rfl) (by decide) rfl ?_
        refine z_goto (pc := 44) 4 dX12_harmOf_44 (by decide) ?_
        exact z_sub [2, 3, 1, 0] rfl (ih x10 (v3 + 1) _ H KE)
def f_X12_harmOf (N : Nat) (v0 : Nat) (v1 : Int32) (h : zH) : Option (Int32) := (f_X12_harmOf_L4 N v0 v1 h N 0 0).bind fun m11 => some m11
set_option maxRecDepth 100000 in
set_option maxHeartbeats 4000000 in
theorem k_X12_harmOf {N : Nat} {v0 : Nat} {v1 : Int32} {h : zH} {r : Int32} (H : f_X12_harmOf N v0 v1 h = some r) : zOk 1 0 0 yX12_harmOf cX12_harmOf 4 (some .int) [.ref v0, .int v1] h (some (.int r)) h := by
  refine zOk.of (by decide) (Nat.le_of_ble_eq_true rfl) ?_
  unfold f_X12_harmOf at H
  refine z_iconst (pc := 0) (x := 0) dX12_harmOf_0 zc_iconst_0 ?_
  refine z_istore_n (pc := 1) (lv' := [(2, .int 0), (0, .ref v0), (1, .int v1)]) dX12_harmOf_1 rfl (by decide) rfl ?_
  refine z_iconst (pc := 2) (x := 0) dX12_harmOf_2 zc_iconst_0 ?_
  refine z_istore_n (pc := 3) (lv' := [(3, .int 0), (2, .int 0), (0, .ref v0), (1, .int v1)]) dX12_harmOf_3 rfl (by decide) rfl ?_
  obtain ⟨m11, em11, H⟩ := zbind H
  refine z_sub [2, 3, 1, 0] rfl (s_X12_harmOf_L4 (by omega) N 0 0 _ em11 ?_)
  refine z_iload_n (pc := 47) 0 dX12_harmOf_47 rfl rfl ?_
  cases H
  exact z_ireturn rfl dX12_harmOf_48

theorem zc_sipush_6561 : (Int16.ofInt (6561)).toInt32 = (6561 : Int32) := by decide
theorem md_X12_harmOf : zMd yX12_harmOf cX12_harmOf 4 1 (some .int) := ⟨zmw (zmt_8 _ (List.mem_of_getElem? (i := 141) rfl)) rfl, zmem 127 (by decide +kernel) rfl, by decide, by decide, by decide +kernel, by decide⟩
theorem ml_X12_498 : Cond.methodLink RX12 498 yX12_harmOf ∈ zB := zmem 1929 (by decide +kernel) rfl
theorem im_X12_harmOf : Cond.instanceMethod yX12_harmOf ∈ zB := zmem 1931 (by decide +kernel) rfl
theorem se_X12_harmOf : Cond.selects yX12_harmOf.cls yX12_harmOf yX12_harmOf ∈ zB := zmem 104 (by decide +kernel) rfl
theorem md_X12_lateBy : zMd yX12_lateBy cX12_lateBy 4 1 (some .int) := ⟨zmw (zmt_8 _ (List.mem_of_getElem? (i := 149) rfl)) rfl, zmem 127 (by decide +kernel) rfl, by decide, by decide, by decide +kernel, by decide⟩
theorem ml_X12_501 : Cond.methodLink RX12 501 yX12_lateBy ∈ zB := zmem 1937 (by decide +kernel) rfl
theorem im_X12_lateBy : Cond.instanceMethod yX12_lateBy ∈ zB := zmem 1939 (by decide +kernel) rfl
theorem se_X12_lateBy : Cond.selects yX12_lateBy.cls yX12_lateBy yX12_lateBy ∈ zB := zmem 106 (by decide +kernel) rfl
def f_X12_plan_L47 (N : Nat) (v0 : Nat) (v1 : Int32) (h : zH) : Nat → Int32 → Int32 → Option (Int32)
  | 0, _, _ => none
  | n + 1, v3, v4 => if 6561 ≤ v4 then (some v3) else ((if v3 < 0 then (some (.inl v4)) else (zif (zob h v0 12) <| (f_X12_harmOf N v0 v4 h).bind fun q16 => zif (zob h v0 12) <| (f_X12_harmOf N v0 v3 h).bind fun q18 => if q18 ≤ q16 then ((f_X12_plan_L47 N v0 v1 h n v3 (v4 + 1)).map .inr) else (some (.inl v4))) : Option ((Int32) ⊕ (Int32))).bind fun m12 => zsum m12 fun s13 => zif (zob h v0 12) <| (f_X12_lateBy N v0 s13 h).bind fun q22 => if q22 < 0 then (f_X12_plan_L47 N v0 v1 h n v3 (s13 + 1)) else (if v1 < q22 then (f_X12_plan_L47 N v0 v1 h n v3 (s13 + 1)) else (f_X12_plan_L47 N v0 v1 h n s13 (s13 + 1))))
set_option maxRecDepth 100000 in
set_option maxHeartbeats 4000000 in
theorem s_X12_plan_L47 {d mc ms N : Nat} {vv : Option Value} {hh : zH} {v0 : Nat} {v1 : Int32} {v2 : Int32} {h : zH} (hd0 : 4 ≤ d) : ∀ (n : Nat) (v3 : Int32) (v4 : Int32) (m : Int32), f_X12_plan_L47 N v0 v1 h n v3 v4 = some m → (zW yX12_plan cX12_plan 6 (some .int) d mc ms 105 [(0, .ref v0), (2, .int v2), (3, .int m)] [] h vv hh) → zW yX12_plan cX12_plan 6 (some .int) d mc ms 47 [(0, .ref v0), (1, .int v1), (2, .int v2), (3, .int v3), (4, .int v4)] [] h vv hh := by
  intro n
  induction n with
  | zero =>
    intro v3 v4 m H
    cases H
  | succ n ih =>
    intro v3 v4 m H KE
    unfold f_X12_plan_L47 at H
    refine z_iload (pc := 47) 4 dX12_plan_47 rfl ?_
    refine z_sipush (pc := 49) (x := 6561) dX12_plan_49 zc_sipush_6561 ?_
    refine z_icmp_ge (pc := 52) 105 dX12_plan_52 (by decide) (fun c11 => ?_) (fun c11 => ?_)
    · rw [if_pos c11] at H
      cases H
      exact z_sub [0, 2, 3] rfl (KE)
    · rw [if_neg c11] at H
      refine z_iload_n (pc := 55) 3 dX12_plan_55 rfl rfl ?_
      obtain ⟨m12, em12, H⟩ := zbind H
      have Jm12 : ∀ s13, m12 = .inl s13 → zW yX12_plan cX12_plan 6 (some .int) d mc ms 73 [(0, .ref v0), (1, .int v1), (2, .int v2), (3, .int v3), (4, .int s13)] [] h vv hh := by
        intro s13 e9
        subst e9
        have H := zsumL H
        refine z_aload_n (pc := 73) 0 dX12_plan_73 rfl rfl ?_
        refine z_iload (pc := 74) 4 dX12_plan_74 rfl ?_
        obtain ⟨z21, H⟩ := zifE H
        obtain ⟨q22, eq22, H⟩ := zbind H
        refine z_callV (pc := 76) (mc := mc) (ms := ms) (d' := 3) (mc' := 0) (ms' := 0) (rest := []) [.int s13] dX12_plan_76 md_X12_lateBy ml_X12_501 im_X12_lateBy se_X12_lateBy rfl z21 rfl rfl (Nat.le_of_ble_eq_true rfl) (by omega) (k_X12_lateBy eq22) ?_
        refine z_istore (pc := 79) (lv' := [(5, .int q22), (0, .ref v0), (1, .int v1), (2, .int v2), (3, .int v3), (4, .int s13)]) dX12_plan_79 (by decide) rfl ?_
        refine z_iload (pc := 81) 0 dX12_plan_81 rfl ?_
        refine z_if_lt (pc := 83) 97 dX12_plan_83 (by decide) (fun c23 => ?_) (fun c23 => ?_)
        · rw [if_pos c23] at H
          refine z_iload_n (pc := 97) 4 dX12_plan_97 rfl rfl ?_
          refine z_istore_n (pc := 98) (lv' := [(3, .int v3), (5, .int q22), (0, .ref v0), (1, .int v1), (2, .int v2), (4, .int s13)]) dX12_plan_98 rfl (by decide) rfl ?_
          refine z_iinc (pc := 99) (x' := s13 + 1) (lv' := [(4, .int (s13 + 1)), (3, .int v3), (5, .int q22), (0, .ref v0), (1, .int v1), (2, .int v2)]) 5 dX12_plan_99 rfl (by rfl) (by decide) rfl ?_
          refine z_goto (pc := 102) 47 dX12_plan_102 (by decide) ?_
          exact z_sub [3, 4, 5, 1, 0] rfl (ih v3 (s13 + 1) _ H KE)
        · rw [if_neg c23] at H
          refine z_iload (pc := 86) 0 dX12_plan_86 rfl ?_
          refine z_iload_n (pc := 88) 2 dX12_plan_88 rfl rfl ?_
          refine z_icmp_gt (pc := 89) 97 dX12_plan_89 (by decide) (fun c24 => ?_) (fun c24 => ?_)
          · rw [if_pos c24] at H
            refine z_iload_n (pc := 97) 4 dX12_plan_97 rfl rfl ?_
            refine z_istore_n (pc := 98) (lv' := [(3, .int v3), (5, .int q22), (0, .ref v0), (1, .int v1), (2, .int v2), (4, .int s13)]) dX12_plan_98 rfl (by decide) rfl ?_
            refine z_iinc (pc := 99) (x' := s13 + 1) (lv' := [(4, .int (s13 + 1)), (3, .int v3), (5, .int q22), (0, .ref v0), (1, .int v1), (2, .int v2)]) 5 dX12_plan_99 rfl (by rfl) (by decide) rfl ?_
            refine z_goto (pc := 102) 47 dX12_plan_102 (by decide) ?_
            exact z_sub [3, 4, 5, 1, 0] rfl (ih v3 (s13 + 1) _ H KE)
          · rw [if_neg c24] at H
            refine z_iload (pc := 92) 5 dX12_plan_92 rfl ?_
            refine z_goto (pc := 94) 98 dX12_plan_94 (by decide) ?_
            refine z_istore_n (pc := 98) (lv' := [(3, .int s13), (5, .int q22), (0, .ref v0), (1, .int v1), (2, .int v2), (4, .int s13)]) dX12_plan_98 rfl (by decide) rfl ?_
            refine z_iinc (pc := 99) (x' := s13 + 1) (lv' := [(4, .int (s13 + 1)), (3, .int s13), (5, .int q22), (0, .ref v0), (1, .int v1), (2, .int v2)]) 5 dX12_plan_99 rfl (by rfl) (by decide) rfl ?_
            refine z_goto (pc := 102) 47 dX12_plan_102 (by decide) ?_
            exact z_sub [3, 4, 5, 1, 0] rfl (ih s13 (s13 + 1) _ H KE)
      refine z_if_lt (pc := 56) 73 dX12_plan_56 (by decide) (fun c14 => ?_) (fun c14 => ?_)
      · rw [if_pos c14] at em12
        cases em12
        exact z_sub [0, 1, 2, 3, 4] rfl (Jm12 _ rfl)
      · rw [if_neg c14] at em12
        refine z_aload_n (pc := 59) 0 dX12_plan_59 rfl rfl ?_
        refine z_iload (pc := 60) 4 dX12_plan_60 rfl ?_
        obtain ⟨z15, em12⟩ := zifE em12
        obtain ⟨q16, eq16, em12⟩ := zbind em12
        refine z_callV (pc := 62) (mc := mc) (ms := ms) (d' := 1) (mc' := 0) (ms' := 0) (rest := []) [.int v4] dX12_plan_62 md_X12_harmOf ml_X12_498 im_X12_harmOf se_X12_harmOf rfl z15 rfl rfl (Nat.le_of_ble_eq_true rfl) (by omega) (k_X12_harmOf eq16) ?_
        refine z_aload_n (pc := 65) 0 dX12_plan_65 rfl rfl ?_
        refine z_iload_n (pc := 66) 3 dX12_plan_66 rfl rfl ?_
        obtain ⟨z17, em12⟩ := zifE em12
        obtain ⟨q18, eq18, em12⟩ := zbind em12
        refine z_callV (pc := 67) (mc := mc) (ms := ms) (d' := 1) (mc' := 0) (ms' := 0) (rest := [.int q16]) [.int v3] dX12_plan_67 md_X12_harmOf ml_X12_498 im_X12_harmOf se_X12_harmOf rfl z17 rfl rfl (Nat.le_of_ble_eq_true rfl) (by omega) (k_X12_harmOf eq18) ?_
        refine z_icmp_ge (pc := 70) 99 dX12_plan_70 (by decide) (fun c19 => ?_) (fun c19 => ?_)
        · rw [if_pos c19] at em12
          refine z_iinc (pc := 99) (x' := v4 + 1) (lv' := [(4, .int (v4 + 1)), (0, .ref v0), (1, .int v1), (2, .int v2), (3, .int v3)]) 4 dX12_plan_99 rfl (by rfl) (by decide) rfl ?_
          refine z_goto (pc := 102) 47 dX12_plan_102 (by decide) ?_
          obtain ⟨o20, H9, e9⟩ := zmapR em12
          subst e9
          have H9 := H9.trans (zsumR H)
          exact z_sub [1, 2, 3, 4, 0] rfl (ih v3 (v4 + 1) _ H9 KE)
        · rw [if_neg c19] at em12
          cases em12
          exact z_sub [0, 1, 2, 3, 4] rfl (Jm12 _ rfl)
def f_X12_plan (N : Nat) (v0 : Nat) (v1 : Int32) (v2 : Int32) (h : zH) : Option (Int32 × zH) := (pF h v0 12 0 (.int 0)).bind fun h1 => if (p_X12_within v1 0 8) = 0 then (some ((-1), h1)) else (if (p_X12_within v2 0 9) = 0 then (some ((-1), h1)) else ((if 8 ≤ v2 then (some (.inl ())) else ((gR h1 v0 12 72).bind fun r7 => (aZ h1 r7 v2).bind fun x8 => if x8 = 0 then ((some ((-1), h1)).map .inr) else (some (.inl ()))) : Option ((Unit) ⊕ (Int32 × zH))).bind fun m4 => zsum m4 fun s5 => (f_X12_plan_L47 N v0 v1 h1 N (-1) 0).bind fun m25 => if 0 ≤ m25 then (if 8 ≤ v2 then (if v2 = 8 then (zif (zob h1 v0 12) <| (f_X12_harmOf N v0 m25 h1).bind fun q32 => some (q32, h1)) else (zif (zob h1 v0 12) <| (f_X12_lateBy N v0 m25 h1).bind fun q30 => some (q30, h1))) else (zif (zob h1 v0 12) <| (f_X12_doneTo N v0 m25 v2 h1).bind fun q34 => some (q34, h1))) else (some ((-1), h1))))
set_option maxRecDepth 100000 in
set_option maxHeartbeats 4000000 in
theorem k_X12_plan {N : Nat} {v0 : Nat} {v1 : Int32} {v2 : Int32} {h : zH} {r : Int32 × zH} (H : f_X12_plan N v0 v1 v2 h = some r) : zOk 4 0 0 yX12_plan cX12_plan 6 (some .int) [.ref v0, .int v1, .int v2] h (some (.int r.1)) r.2 := by
  refine zOk.of (by decide) (Nat.le_of_ble_eq_true rfl) ?_
  unfold f_X12_plan at H
  refine z_aload_n (pc := 0) 0 dX12_plan_0 rfl rfl ?_
  refine z_iconst (pc := 1) (x := 0) dX12_plan_1 zc_iconst_0 ?_
  obtain ⟨h1, eh1, H⟩ := zbind H
  refine z_put (pc := 2) dX12_plan_2 fd_X12_1 rfl rfl eh1 ?_
  refine z_iload_n (pc := 5) 1 dX12_plan_5 rfl rfl ?_
  refine z_iconst (pc := 6) (x := 0) dX12_plan_6 zc_iconst_0 ?_
  refine z_bipush (pc := 7) (x := 8) dX12_plan_7 zc_bipush_8 ?_
  refine z_callS (pc := 9) (mc := 0) (ms := 0) (d' := 0) (mc' := 0) (ms' := 0) (rest := []) [.int v1, .int 0, .int 8] dX12_plan_9 md_X12_within ml_X12_352 sm_X12_within rfl rfl (Nat.le_of_ble_eq_true rfl) (by omega) (k_X12_within v1 0 8 h1 _ rfl) ?_
  refine z_if_eq (pc := 12) 40 dX12_plan_12 (by decide) (fun c2 => ?_) (fun c2 => ?_)
  · rw [if_pos c2] at H
    refine z_iconst (pc := 40) (x := (-1)) dX12_plan_40 zc_iconst_m1 ?_
    cases H
    exact z_ireturn rfl dX12_plan_41
  · rw [if_neg c2] at H
    refine z_iload_n (pc := 15) 2 dX12_plan_15 rfl rfl ?_
    refine z_iconst (pc := 16) (x := 0) dX12_plan_16 zc_iconst_0 ?_
    refine z_bipush (pc := 17) (x := 9) dX12_plan_17 zc_bipush_9 ?_
    refine z_callS (pc := 19) (mc := 0) (ms := 0) (d' := 0) (mc' := 0) (ms' := 0) (rest := []) [.int v2, .int 0, .int 9] dX12_plan_19 md_X12_within ml_X12_352 sm_X12_within rfl rfl (Nat.le_of_ble_eq_true rfl) (by omega) (k_X12_within v2 0 9 h1 _ rfl) ?_
    refine z_if_eq (pc := 22) 40 dX12_plan_22 (by decide) (fun c3 => ?_) (fun c3 => ?_)
    · rw [if_pos c3] at H
      refine z_iconst (pc := 40) (x := (-1)) dX12_plan_40 zc_iconst_m1 ?_
      cases H
      exact z_ireturn rfl dX12_plan_41
    · rw [if_neg c3] at H
      refine z_iload_n (pc := 25) 2 dX12_plan_25 rfl rfl ?_
      refine z_bipush (pc := 26) (x := 8) dX12_plan_26 zc_bipush_8 ?_
      obtain ⟨m4, em4, H⟩ := zbind H
      have Jm4 : ∀ s5, m4 = .inl s5 → zW yX12_plan cX12_plan 6 (some .int) 4 0 0 42 [(0, .ref v0), (1, .int v1), (2, .int v2)] [] h1 (some (.int r.1)) r.2 := by
        intro s5 e9
        subst e9
        have H := zsumL H
        refine z_iconst (pc := 42) (x := (-1)) dX12_plan_42 zc_iconst_m1 ?_
        refine z_istore_n (pc := 43) (lv' := [(3, .int (-1)), (0, .ref v0), (1, .int v1), (2, .int v2)]) dX12_plan_43 rfl (by decide) rfl ?_
        refine z_iconst (pc := 44) (x := 0) dX12_plan_44 zc_iconst_0 ?_
        refine z_istore (pc := 45) (lv' := [(4, .int 0), (3, .int (-1)), (0, .ref v0), (1, .int v1), (2, .int v2)]) dX12_plan_45 (by decide) rfl ?_
        obtain ⟨m25, em25, H⟩ := zbind H
        refine z_sub [2, 3, 4, 1, 0] rfl (s_X12_plan_L47 (by omega) N (-1) 0 _ em25 ?_)
        refine z_iload_n (pc := 105) 2 dX12_plan_105 rfl rfl ?_
        refine z_if_ge (pc := 106) 113 dX12_plan_106 (by decide) (fun c26 => ?_) (fun c26 => ?_)
        · rw [if_pos c26] at H
          refine z_iload_n (pc := 113) 1 dX12_plan_113 rfl rfl ?_
          refine z_bipush (pc := 114) (x := 8) dX12_plan_114 zc_bipush_8 ?_
          refine z_icmp_ge (pc := 116) 128 dX12_plan_116 (by decide) (fun c27 => ?_) (fun c27 => ?_)
          · rw [if_pos c27] at H
            refine z_iload_n (pc := 128) 1 dX12_plan_128 rfl rfl ?_
            refine z_bipush (pc := 129) (x := 8) dX12_plan_129 zc_bipush_8 ?_
            refine z_icmp_ne (pc := 131) 142 dX12_plan_131 (by decide) (fun c28 => ?_) (fun c28 => ?_)
            · rw [if_neg c28] at H
              refine z_aload_n (pc := 142) 0 dX12_plan_142 rfl rfl ?_
              refine z_iload_n (pc := 143) 2 dX12_plan_143 rfl rfl ?_
              obtain ⟨z29, H⟩ := zifE H
              obtain ⟨q30, eq30, H⟩ := zbind H
              refine z_callV (pc := 144) (mc := 0) (ms := 0) (d' := 3) (mc' := 0) (ms' := 0) (rest := []) [.int m25] dX12_plan_144 md_X12_lateBy ml_X12_501 im_X12_lateBy se_X12_lateBy rfl z29 rfl rfl (Nat.le_of_ble_eq_true rfl) (by omega) (k_X12_lateBy eq30) ?_
              cases H
              exact z_ireturn rfl dX12_plan_147
            · rw [if_pos c28] at H
              refine z_aload_n (pc := 134) 0 dX12_plan_134 rfl rfl ?_
              refine z_iload_n (pc := 135) 2 dX12_plan_135 rfl rfl ?_
              obtain ⟨z31, H⟩ := zifE H
              obtain ⟨q32, eq32, H⟩ := zbind H
              refine z_callV (pc := 136) (mc := 0) (ms := 0) (d' := 1) (mc' := 0) (ms' := 0) (rest := []) [.int m25] dX12_plan_136 md_X12_harmOf ml_X12_498 im_X12_harmOf se_X12_harmOf rfl z31 rfl rfl (Nat.le_of_ble_eq_true rfl) (by omega) (k_X12_harmOf eq32) ?_
              refine z_goto (pc := 139) 147 dX12_plan_139 (by decide) ?_
              cases H
              exact z_ireturn rfl dX12_plan_147
          · rw [if_neg c27] at H
            refine z_aload_n (pc := 119) 0 dX12_plan_119 rfl rfl ?_
            refine z_iload_n (pc := 120) 2 dX12_plan_120 rfl rfl ?_
            refine z_iload_n (pc := 121) 1 dX12_plan_121 rfl rfl ?_
            obtain ⟨z33, H⟩ := zifE H
            obtain ⟨q34, eq34, H⟩ := zbind H
            refine z_callV (pc := 122) (mc := 0) (ms := 0) (d' := 0) (mc' := 0) (ms' := 0) (rest := []) [.int m25, .int v2] dX12_plan_122 md_X12_doneTo ml_X12_489 im_X12_doneTo se_X12_doneTo rfl z33 rfl rfl (Nat.le_of_ble_eq_true rfl) (by omega) (k_X12_doneTo eq34) ?_
            refine z_goto (pc := 125) 147 dX12_plan_125 (by decide) ?_
            cases H
            exact z_ireturn rfl dX12_plan_147
        · rw [if_neg c26] at H
          refine z_iconst (pc := 109) (x := (-1)) dX12_plan_109 zc_iconst_m1 ?_
          refine z_goto (pc := 110) 147 dX12_plan_110 (by decide) ?_
          cases H
          exact z_ireturn rfl dX12_plan_147
      refine z_icmp_ge (pc := 28) 42 dX12_plan_28 (by decide) (fun c6 => ?_) (fun c6 => ?_)
      · rw [if_pos c6] at em4
        cases em4
        exact z_sub [0, 1, 2] rfl (Jm4 _ rfl)
      · rw [if_neg c6] at em4
        refine z_aload_n (pc := 31) 0 dX12_plan_31 rfl rfl ?_
        obtain ⟨r7, er7, em4⟩ := zbind em4
        refine z_getR (pc := 32) dX12_plan_32 fd_X12_212 er7 ?_
        refine z_iload_n (pc := 35) 2 dX12_plan_35 rfl rfl ?_
        obtain ⟨x8, ex8, em4⟩ := zbind em4
        refine z_zaload (pc := 36) dX12_plan_36 ex8 ?_
        refine z_if_ne (pc := 37) 42 dX12_plan_37 (by decide) (fun c9 => ?_) (fun c9 => ?_)
        · rw [if_neg c9] at em4
          cases em4
          exact z_sub [0, 1, 2] rfl (Jm4 _ rfl)
        · rw [if_pos c9] at em4
          refine z_iconst (pc := 40) (x := (-1)) dX12_plan_40 zc_iconst_m1 ?_
          obtain ⟨o10, H9, e9⟩ := zmapR em4
          subst e9
          have H9 := H9.trans (zsumR H)
          cases H9
          exact z_ireturn rfl dX12_plan_41

def f_X12_manyOf_L4 (N : Nat) (v0 : Nat) (h : zH) : Nat → Int32 → Int32 → Option (Int32)
  | 0, _, _ => none
  | n + 1, v1, v2 => (aN h v0).bind fun x1 => if x1 ≤ v2 then (some v1) else ((aZ h v0 v2).bind fun x3 => if x3 = 0 then (zlet (v1 + 0 : Int32) fun x5 => f_X12_manyOf_L4 N v0 h n x5 (v2 + 1)) else (zlet (v1 + 1 : Int32) fun x6 => f_X12_manyOf_L4 N v0 h n x6 (v2 + 1)))
set_option maxRecDepth 100000 in
set_option maxHeartbeats 4000000 in
theorem s_X12_manyOf_L4 {d mc ms N : Nat} {vv : Option Value} {hh : zH} {v0 : Nat} {h : zH} (hd0 : 0 ≤ d) : ∀ (n : Nat) (v1 : Int32) (v2 : Int32) (m : Int32), f_X12_manyOf_L4 N v0 h n v1 v2 = some m → (zW yX12_manyOf cX12_manyOf 3 (some .int) d mc ms 30 [(1, .int m)] [] h vv hh) → zW yX12_manyOf cX12_manyOf 3 (some .int) d mc ms 4 [(0, .ref v0), (1, .int v1), (2, .int v2)] [] h vv hh := by
  intro n
  induction n with
  | zero =>
    intro v1 v2 m H
    cases H
  | succ n ih =>
    intro v1 v2 m H KE
    unfold f_X12_manyOf_L4 at H
    refine z_iload_n (pc := 4) 2 dX12_manyOf_4 rfl rfl ?_
    refine z_aload_n (pc := 5) 0 dX12_manyOf_5 rfl rfl ?_
    obtain ⟨x1, ex1, H⟩ := zbind H
    refine z_alen (pc := 6) dX12_manyOf_6 ex1 ?_
    refine z_icmp_ge (pc := 7) 30 dX12_manyOf_7 (by decide) (fun c2 => ?_) (fun c2 => ?_)
    · rw [if_pos c2] at H
      cases H
      exact z_sub [1] rfl (KE)
    · rw [if_neg c2] at H
      refine z_iload_n (pc := 10) 1 dX12_manyOf_10 rfl rfl ?_
      refine z_aload_n (pc := 11) 0 dX12_manyOf_11 rfl rfl ?_
      refine z_iload_n (pc := 12) 2 dX12_manyOf_12 rfl rfl ?_
      obtain ⟨x3, ex3, H⟩ := zbind H
      refine z_zaload (pc := 13) dX12_manyOf_13 ex3 ?_
      refine z_if_eq (pc := 14) 21 dX12_manyOf_14 (by decide) (fun c4 => ?_) (fun c4 => ?_)
      · rw [if_pos c4] at H
        refine z_iconst (pc := 21) (x := 0) dX12_manyOf_21 zc_iconst_0 ?_
        refine z_iadd (pc := 22) dX12_manyOf_22 ?_
        obtain ⟨x5, ex5, H⟩ := zletE H
        refine z_nmI ex5 ?_
        refine z_istore_n (pc := 23) (lv' := [(1, .int x5), (0, .ref v0), (2, .int v2)]) dX12_manyOf_23 rfl (by decide) rfl ?_
        refine z_iinc (pc := 24) (x' := v2 + 1) (lv' := [(2, .int (v2 + 1)), (1, .int x5), (0, .ref v0)]) 2 dX12_manyOf_24 rfl (by rfl) (by decide) rfl ?_
        refine z_goto (pc := 27) 4 dX12_manyOf_27 (by decide) ?_
        exact z_sub [2, 1, 0] rfl (ih x5 (v2 + 1) _ H KE)
      · rw [if_neg c4] at H
        refine z_iconst (pc := 17) (x := 1) dX12_manyOf_17 zc_iconst_1 ?_
        refine z_goto (pc := 18) 22 dX12_manyOf_18 (by decide) ?_
        refine z_iadd (pc := 22) dX12_manyOf_22 ?_
        obtain ⟨x6, ex6, H⟩ := zletE H
        refine z_nmI ex6 ?_
        refine z_istore_n (pc := 23) (lv' := [(1, .int x6), (0, .ref v0), (2, .int v2)]) dX12_manyOf_23 rfl (by decide) rfl ?_
        refine z_iinc (pc := 24) (x' := v2 + 1) (lv' := [(2, .int (v2 + 1)), (1, .int x6), (0, .ref v0)]) 2 dX12_manyOf_24 rfl (by rfl) (by decide) rfl ?_
        refine z_goto (pc := 27) 4 dX12_manyOf_27 (by decide) ?_
        exact z_sub [2, 1, 0] rfl (ih x6 (v2 + 1) _ H KE)
def f_X12_manyOf (N : Nat) (v0 : Nat) (h : zH) : Option (Int32) := (f_X12_manyOf_L4 N v0 h N 0 0).bind fun m7 => some m7
set_option maxRecDepth 100000 in
set_option maxHeartbeats 4000000 in
theorem k_X12_manyOf {N : Nat} {v0 : Nat} {h : zH} {r : Int32} (H : f_X12_manyOf N v0 h = some r) : zOk 0 0 0 yX12_manyOf cX12_manyOf 3 (some .int) [.ref v0] h (some (.int r)) h := by
  refine zOk.of (by decide) (Nat.le_of_ble_eq_true rfl) ?_
  unfold f_X12_manyOf at H
  refine z_iconst (pc := 0) (x := 0) dX12_manyOf_0 zc_iconst_0 ?_
  refine z_istore_n (pc := 1) (lv' := [(1, .int 0), (0, .ref v0)]) dX12_manyOf_1 rfl (by decide) rfl ?_
  refine z_iconst (pc := 2) (x := 0) dX12_manyOf_2 zc_iconst_0 ?_
  refine z_istore_n (pc := 3) (lv' := [(2, .int 0), (1, .int 0), (0, .ref v0)]) dX12_manyOf_3 rfl (by decide) rfl ?_
  obtain ⟨m7, em7, H⟩ := zbind H
  refine z_sub [2, 1, 0] rfl (s_X12_manyOf_L4 (by omega) N 0 0 _ em7 ?_)
  refine z_iload_n (pc := 30) 0 dX12_manyOf_30 rfl rfl ?_
  cases H
  exact z_ireturn rfl dX12_manyOf_31

def f_X12_rulingsSeen_L4 (N : Nat) (v0 : Nat) (h : zH) : Nat → Int32 → Int32 → Option (Int32)
  | 0, _, _ => none
  | n + 1, v1, v2 => (gI h v0 12 49).bind fun x1 => if x1 ≤ v2 then (some v1) else ((gR h v0 12 52).bind fun r3 => (aI h r3 v2).bind fun x4 => zif (zob h v0 12) <| (f_X12_viewYear N v0 h).bind fun q6 => if q6 < x4 then (zlet (v1 + 0 : Int32) fun x8 => f_X12_rulingsSeen_L4 N v0 h n x8 (v2 + 1)) else (zlet (v1 + 1 : Int32) fun x9 => f_X12_rulingsSeen_L4 N v0 h n x9 (v2 + 1)))
set_option maxRecDepth 100000 in
set_option maxHeartbeats 4000000 in
theorem s_X12_rulingsSeen_L4 {d mc ms N : Nat} {vv : Option Value} {hh : zH} {v0 : Nat} {h : zH} (hd0 : 1 ≤ d) : ∀ (n : Nat) (v1 : Int32) (v2 : Int32) (m : Int32), f_X12_rulingsSeen_L4 N v0 h n v1 v2 = some m → (zW yX12_rulingsSeen cX12_rulingsSeen 3 (some .int) d mc ms 39 [(1, .int m)] [] h vv hh) → zW yX12_rulingsSeen cX12_rulingsSeen 3 (some .int) d mc ms 4 [(0, .ref v0), (1, .int v1), (2, .int v2)] [] h vv hh := by
  intro n
  induction n with
  | zero =>
    intro v1 v2 m H
    cases H
  | succ n ih =>
    intro v1 v2 m H KE
    unfold f_X12_rulingsSeen_L4 at H
    refine z_iload_n (pc := 4) 2 dX12_rulingsSeen_4 rfl rfl ?_
    refine z_aload_n (pc := 5) 0 dX12_rulingsSeen_5 rfl rfl ?_
    obtain ⟨x1, ex1, H⟩ := zbind H
    refine z_getI (pc := 6) dX12_rulingsSeen_6 fd_X12_420 ex1 ?_
    refine z_icmp_ge (pc := 9) 39 dX12_rulingsSeen_9 (by decide) (fun c2 => ?_) (fun c2 => ?_)
    · rw [if_pos c2] at H
      cases H
      exact z_sub [1] rfl (KE)
    · rw [if_neg c2] at H
      refine z_iload_n (pc := 12) 1 dX12_rulingsSeen_12 rfl rfl ?_
      refine z_aload_n (pc := 13) 0 dX12_rulingsSeen_13 rfl rfl ?_
      obtain ⟨r3, er3, H⟩ := zbind H
      refine z_getR (pc := 14) dX12_rulingsSeen_14 fd_X12_164 er3 ?_
      refine z_iload_n (pc := 17) 2 dX12_rulingsSeen_17 rfl rfl ?_
      obtain ⟨x4, ex4, H⟩ := zbind H
      refine z_iaload (pc := 18) dX12_rulingsSeen_18 ex4 ?_
      refine z_aload_n (pc := 19) 0 dX12_rulingsSeen_19 rfl rfl ?_
      obtain ⟨z5, H⟩ := zifE H
      obtain ⟨q6, eq6, H⟩ := zbind H
      refine z_callV (pc := 20) (mc := mc) (ms := ms) (d' := 0) (mc' := 0) (ms' := 0) (rest := [.int x4, .int v1]) [] dX12_rulingsSeen_20 md_X12_viewYear ml_X12_396 im_X12_viewYear se_X12_viewYear rfl z5 rfl rfl (Nat.le_of_ble_eq_true rfl) (by omega) (k_X12_viewYear eq6) ?_
      refine z_icmp_gt (pc := 23) 30 dX12_rulingsSeen_23 (by decide) (fun c7 => ?_) (fun c7 => ?_)
      · rw [if_pos c7] at H
        refine z_iconst (pc := 30) (x := 0) dX12_rulingsSeen_30 zc_iconst_0 ?_
        refine z_iadd (pc := 31) dX12_rulingsSeen_31 ?_
        obtain ⟨x8, ex8, H⟩ := zletE H
        refine z_nmI ex8 ?_
        refine z_istore_n (pc := 32) (lv' := [(1, .int x8), (0, .ref v0), (2, .int v2)]) dX12_rulingsSeen_32 rfl (by decide) rfl ?_
        refine z_iinc (pc := 33) (x' := v2 + 1) (lv' := [(2, .int (v2 + 1)), (1, .int x8), (0, .ref v0)]) 2 dX12_rulingsSeen_33 rfl (by rfl) (by decide) rfl ?_
        refine z_goto (pc := 36) 4 dX12_rulingsSeen_36 (by decide) ?_
        exact z_sub [2, 1, 0] rfl (ih x8 (v2 + 1) _ H KE)
      · rw [if_neg c7] at H
        refine z_iconst (pc := 26) (x := 1) dX12_rulingsSeen_26 zc_iconst_1 ?_
        refine z_goto (pc := 27) 31 dX12_rulingsSeen_27 (by decide) ?_
        refine z_iadd (pc := 31) dX12_rulingsSeen_31 ?_
        obtain ⟨x9, ex9, H⟩ := zletE H
        refine z_nmI ex9 ?_
        refine z_istore_n (pc := 32) (lv' := [(1, .int x9), (0, .ref v0), (2, .int v2)]) dX12_rulingsSeen_32 rfl (by decide) rfl ?_
        refine z_iinc (pc := 33) (x' := v2 + 1) (lv' := [(2, .int (v2 + 1)), (1, .int x9), (0, .ref v0)]) 2 dX12_rulingsSeen_33 rfl (by rfl) (by decide) rfl ?_
        refine z_goto (pc := 36) 4 dX12_rulingsSeen_36 (by decide) ?_
        exact z_sub [2, 1, 0] rfl (ih x9 (v2 + 1) _ H KE)
def f_X12_rulingsSeen (N : Nat) (v0 : Nat) (h : zH) : Option (Int32) := (f_X12_rulingsSeen_L4 N v0 h N 0 0).bind fun m10 => some m10
set_option maxRecDepth 100000 in
set_option maxHeartbeats 4000000 in
theorem k_X12_rulingsSeen {N : Nat} {v0 : Nat} {h : zH} {r : Int32} (H : f_X12_rulingsSeen N v0 h = some r) : zOk 1 0 0 yX12_rulingsSeen cX12_rulingsSeen 3 (some .int) [.ref v0] h (some (.int r)) h := by
  refine zOk.of (by decide) (Nat.le_of_ble_eq_true rfl) ?_
  unfold f_X12_rulingsSeen at H
  refine z_iconst (pc := 0) (x := 0) dX12_rulingsSeen_0 zc_iconst_0 ?_
  refine z_istore_n (pc := 1) (lv' := [(1, .int 0), (0, .ref v0)]) dX12_rulingsSeen_1 rfl (by decide) rfl ?_
  refine z_iconst (pc := 2) (x := 0) dX12_rulingsSeen_2 zc_iconst_0 ?_
  refine z_istore_n (pc := 3) (lv' := [(2, .int 0), (1, .int 0), (0, .ref v0)]) dX12_rulingsSeen_3 rfl (by decide) rfl ?_
  obtain ⟨m10, em10, H⟩ := zbind H
  refine z_sub [2, 1, 0] rfl (s_X12_rulingsSeen_L4 (by omega) N 0 0 _ em10 ?_)
  refine z_iload_n (pc := 39) 0 dX12_rulingsSeen_39 rfl rfl ?_
  cases H
  exact z_ireturn rfl dX12_rulingsSeen_40

def f_X12_metMany_L4 (N : Nat) (v0 : Nat) : Nat → Int32 → Int32 → zH → Option (Int32 × zH)
  | 0, _, _, _ => none
  | n + 1, v1, v2, h => (gI h v0 12 27).bind fun x1 => if x1 ≤ v2 then (some (v1, h)) else ((gR h v0 12 30).bind fun r3 => (aI h r3 v2).bind fun x4 => zif (zob h v0 12) <| (f_X12_goesThrough N v0 v2 x4 h).bind fun h6 => (gI h6 v0 12 43).bind fun x7 => if x7 = 0 then (zlet (v1 + 0 : Int32) fun x9 => f_X12_metMany_L4 N v0 n x9 (v2 + 1) h6) else (zlet (v1 + 1 : Int32) fun x10 => f_X12_metMany_L4 N v0 n x10 (v2 + 1) h6))
set_option maxRecDepth 100000 in
set_option maxHeartbeats 4000000 in
theorem s_X12_metMany_L4 {d mc ms N : Nat} {vv : Option Value} {hh : zH} {v0 : Nat} (hd0 : 2 ≤ d) : ∀ (n : Nat) (v1 : Int32) (v2 : Int32) (h : zH) (m : Int32 × zH), f_X12_metMany_L4 N v0 n v1 v2 h = some m → (zW yX12_metMany cX12_metMany 3 (some .int) d mc ms 44 [(1, .int m.1)] [] m.2 vv hh) → zW yX12_metMany cX12_metMany 3 (some .int) d mc ms 4 [(0, .ref v0), (1, .int v1), (2, .int v2)] [] h vv hh := by
  intro n
  induction n with
  | zero =>
    intro v1 v2 h m H
    cases H
  | succ n ih =>
    intro v1 v2 h m H KE
    unfold f_X12_metMany_L4 at H
    refine z_iload_n (pc := 4) 2 dX12_metMany_4 rfl rfl ?_
    refine z_aload_n (pc := 5) 0 dX12_metMany_5 rfl rfl ?_
    obtain ⟨x1, ex1, H⟩ := zbind H
    refine z_getI (pc := 6) dX12_metMany_6 fd_X12_359 ex1 ?_
    refine z_icmp_ge (pc := 9) 44 dX12_metMany_9 (by decide) (fun c2 => ?_) (fun c2 => ?_)
    · rw [if_pos c2] at H
      cases H
      exact z_sub [1] rfl (KE)
    · rw [if_neg c2] at H
      refine z_aload_n (pc := 12) 0 dX12_metMany_12 rfl rfl ?_
      refine z_iload_n (pc := 13) 2 dX12_metMany_13 rfl rfl ?_
      refine z_aload_n (pc := 14) 0 dX12_metMany_14 rfl rfl ?_
      obtain ⟨r3, er3, H⟩ := zbind H
      refine z_getR (pc := 15) dX12_metMany_15 fd_X12_121 er3 ?_
      refine z_iload_n (pc := 18) 2 dX12_metMany_18 rfl rfl ?_
      obtain ⟨x4, ex4, H⟩ := zbind H
      refine z_iaload (pc := 19) dX12_metMany_19 ex4 ?_
      obtain ⟨z5, H⟩ := zifE H
      obtain ⟨h6, eh6, H⟩ := zbind H
      refine z_callV (pc := 20) (mc := mc) (ms := ms) (d' := 1) (mc' := 0) (ms' := 0) (rest := []) [.int v2, .int x4] dX12_metMany_20 md_X12_goesThrough ml_X12_384 im_X12_goesThrough se_X12_goesThrough rfl z5 rfl rfl (Nat.le_of_ble_eq_true rfl) (by omega) (k_X12_goesThrough eh6) ?_
      refine z_iload_n (pc := 23) 1 dX12_metMany_23 rfl rfl ?_
      refine z_aload_n (pc := 24) 0 dX12_metMany_24 rfl rfl ?_
      obtain ⟨x7, ex7, H⟩ := zbind H
      refine z_getI (pc := 25) dX12_metMany_25 fd_X12_371 ex7 ?_
      refine z_if_eq (pc := 28) 35 dX12_metMany_28 (by decide) (fun c8 => ?_) (fun c8 => ?_)
      · rw [if_pos c8] at H
        refine z_iconst (pc := 35) (x := 0) dX12_metMany_35 zc_iconst_0 ?_
        refine z_iadd (pc := 36) dX12_metMany_36 ?_
        obtain ⟨x9, ex9, H⟩ := zletE H
        refine z_nmI ex9 ?_
        refine z_istore_n (pc := 37) (lv' := [(1, .int x9), (0, .ref v0), (2, .int v2)]) dX12_metMany_37 rfl (by decide) rfl ?_
        refine z_iinc (pc := 38) (x' := v2 + 1) (lv' := [(2, .int (v2 + 1)), (1, .int x9), (0, .ref v0)]) 2 dX12_metMany_38 rfl (by rfl) (by decide) rfl ?_
        refine z_goto (pc := 41) 4 dX12_metMany_41 (by decide) ?_
        exact z_sub [2, 1, 0] rfl (ih x9 (v2 + 1) h6 _ H KE)
      · rw [if_neg c8] at H
        refine z_iconst (pc := 31) (x := 1) dX12_metMany_31 zc_iconst_1 ?_
        refine z_goto (pc := 32) 36 dX12_metMany_32 (by decide) ?_
        refine z_iadd (pc := 36) dX12_metMany_36 ?_
        obtain ⟨x10, ex10, H⟩ := zletE H
        refine z_nmI ex10 ?_
        refine z_istore_n (pc := 37) (lv' := [(1, .int x10), (0, .ref v0), (2, .int v2)]) dX12_metMany_37 rfl (by decide) rfl ?_
        refine z_iinc (pc := 38) (x' := v2 + 1) (lv' := [(2, .int (v2 + 1)), (1, .int x10), (0, .ref v0)]) 2 dX12_metMany_38 rfl (by rfl) (by decide) rfl ?_
        refine z_goto (pc := 41) 4 dX12_metMany_41 (by decide) ?_
        exact z_sub [2, 1, 0] rfl (ih x10 (v2 + 1) h6 _ H KE)
def f_X12_metMany (N : Nat) (v0 : Nat) (h : zH) : Option (Int32 × zH) := (f_X12_metMany_L4 N v0 N 0 0 h).bind fun m11 => some (m11.1, m11.2)
set_option maxRecDepth 100000 in
set_option maxHeartbeats 4000000 in
theorem k_X12_metMany {N : Nat} {v0 : Nat} {h : zH} {r : Int32 × zH} (H : f_X12_metMany N v0 h = some r) : zOk 2 0 0 yX12_metMany cX12_metMany 3 (some .int) [.ref v0] h (some (.int r.1)) r.2 := by
  refine zOk.of (by decide) (Nat.le_of_ble_eq_true rfl) ?_
  unfold f_X12_metMany at H
  refine z_iconst (pc := 0) (x := 0) dX12_metMany_0 zc_iconst_0 ?_
  refine z_istore_n (pc := 1) (lv' := [(1, .int 0), (0, .ref v0)]) dX12_metMany_1 rfl (by decide) rfl ?_
  refine z_iconst (pc := 2) (x := 0) dX12_metMany_2 zc_iconst_0 ?_
  refine z_istore_n (pc := 3) (lv' := [(2, .int 0), (1, .int 0), (0, .ref v0)]) dX12_metMany_3 rfl (by decide) rfl ?_
  obtain ⟨m11, em11, H⟩ := zbind H
  refine z_sub [2, 1, 0] rfl (s_X12_metMany_L4 (by omega) N 0 0 h _ em11 ?_)
  refine z_iload_n (pc := 44) 0 dX12_metMany_44 rfl rfl ?_
  cases H
  exact z_ireturn rfl dX12_metMany_45

theorem md_X12_rulingsSeen : zMd yX12_rulingsSeen cX12_rulingsSeen 3 0 (some .int) := ⟨zmw (zmt_8 _ (List.mem_of_getElem? (i := 165) rfl)) rfl, zmem 127 (by decide +kernel) rfl, by decide, by decide, by decide +kernel, by decide⟩
theorem ml_X12_504 : Cond.methodLink RX12 504 yX12_rulingsSeen ∈ zB := zmem 1953 (by decide +kernel) rfl
theorem im_X12_rulingsSeen : Cond.instanceMethod yX12_rulingsSeen ∈ zB := zmem 1955 (by decide +kernel) rfl
theorem se_X12_rulingsSeen : Cond.selects yX12_rulingsSeen.cls yX12_rulingsSeen yX12_rulingsSeen ∈ zB := zmem 109 (by decide +kernel) rfl
theorem md_X12_manyOf : zMd yX12_manyOf cX12_manyOf 3 1 (some .int) := ⟨zmw (zmt_8 _ (List.mem_of_getElem? (i := 168) rfl)) rfl, zmem 127 (by decide +kernel) rfl, by decide, by decide, by decide +kernel, by decide⟩
theorem ml_X12_507 : Cond.methodLink RX12 507 yX12_manyOf ∈ zB := zmem 1957 (by decide +kernel) rfl
theorem sm_X12_manyOf : Cond.static yX12_manyOf ∈ zB := zmem 1958 (by decide +kernel) rfl
theorem md_X12_metMany : zMd yX12_metMany cX12_metMany 3 0 (some .int) := ⟨zmw (zmt_8 _ (List.mem_of_getElem? (i := 172) rfl)) rfl, zmem 127 (by decide +kernel) rfl, by decide, by decide, by decide +kernel, by decide⟩
theorem ml_X12_511 : Cond.methodLink RX12 511 yX12_metMany ∈ zB := zmem 1960 (by decide +kernel) rfl
theorem im_X12_metMany : Cond.instanceMethod yX12_metMany ∈ zB := zmem 1962 (by decide +kernel) rfl
theorem se_X12_metMany : Cond.selects yX12_metMany.cls yX12_metMany yX12_metMany ∈ zB := zmem 110 (by decide +kernel) rfl
def f_X12_count (N : Nat) (v0 : Nat) (v1 : Int32) (h : zH) : Option (Int32 × zH) := (pF h v0 12 0 (.int 0)).bind fun h1 => if v1 = 0 then ((gI h1 v0 12 25).bind fun x3 => some (x3, h1)) else (if v1 = 1 then (zif (zob h1 v0 12) <| (f_X12_viewYear N v0 h1).bind fun q6 => some (q6, h1)) else (if v1 = 2 then ((gI h1 v0 12 27).bind fun x8 => some (x8, h1)) else (if v1 = 3 then ((gI h1 v0 12 10).bind fun x10 => some (x10, h1)) else (if v1 = 4 then ((gI h1 v0 12 49).bind fun x12 => some (x12, h1)) else (if v1 = 5 then (zif (zob h1 v0 12) <| (f_X12_rulingsSeen N v0 h1).bind fun q15 => some (q15, h1)) else (if v1 = 6 then ((gI h1 v0 12 2).bind fun x17 => some (x17, h1)) else (if v1 = 7 then ((gR h1 v0 12 57).bind fun r19 => (f_X12_manyOf N r19 h1).bind fun q20 => some (q20, h1)) else (if v1 = 8 then ((gI h1 v0 12 67).bind fun x22 => some (x22, h1)) else (if v1 = 9 then ((gR h1 v0 12 72).bind fun r24 => (f_X12_manyOf N r24 h1).bind fun q25 => some (q25, h1)) else (if v1 = 10 then ((gI h1 v0 12 76).bind fun x27 => some (x27, h1)) else (if v1 = 11 then (zif (zob h1 v0 12) <| (f_X12_metMany N v0 h1).bind fun q30 => some (q30.1, q30.2)) else (some ((-1), h1)))))))))))))
set_option maxRecDepth 100000 in
set_option maxHeartbeats 4000000 in
theorem k_X12_count {N : Nat} {v0 : Nat} {v1 : Int32} {h : zH} {r : Int32 × zH} (H : f_X12_count N v0 v1 h = some r) : zOk 3 0 0 yX12_count cX12_count 2 (some .int) [.ref v0, .int v1] h (some (.int r.1)) r.2 := by
  refine zOk.of (by decide) (Nat.le_of_ble_eq_true rfl) ?_
  unfold f_X12_count at H
  refine z_aload_n (pc := 0) 0 dX12_count_0 rfl rfl ?_
  refine z_iconst (pc := 1) (x := 0) dX12_count_1 zc_iconst_0 ?_
  obtain ⟨h1, eh1, H⟩ := zbind H
  refine z_put (pc := 2) dX12_count_2 fd_X12_1 rfl rfl eh1 ?_
  refine z_iload_n (pc := 5) 1 dX12_count_5 rfl rfl ?_
  by_cases c2 : v1 = 0
  · rw [if_pos c2] at H
    refine z_tswIn (pc := 6) (off := 62) 68 dX12_count_6 (by rw [c2]; decide) (by rw [c2]; decide) (by rw [c2]; decide) (by decide) ?_
    refine z_aload_n (pc := 68) 0 dX12_count_68 rfl rfl ?_
    obtain ⟨x3, ex3, H⟩ := zbind H
    refine z_getI (pc := 69) dX12_count_69 fd_X12_296 ex3 ?_
    cases H
    exact z_ireturn rfl dX12_count_72
  rw [if_neg c2] at H
  by_cases c4 : v1 = 1
  · rw [if_pos c4] at H
    refine z_tswIn (pc := 6) (off := 67) 73 dX12_count_6 (by rw [c4]; decide) (by rw [c4]; decide) (by rw [c4]; decide) (by decide) ?_
    refine z_aload_n (pc := 73) 0 dX12_count_73 rfl rfl ?_
    obtain ⟨z5, H⟩ := zifE H
    obtain ⟨q6, eq6, H⟩ := zbind H
    refine z_callV (pc := 74) (mc := 0) (ms := 0) (d' := 0) (mc' := 0) (ms' := 0) (rest := []) [] dX12_count_74 md_X12_viewYear ml_X12_396 im_X12_viewYear se_X12_viewYear rfl z5 rfl rfl (Nat.le_of_ble_eq_true rfl) (by omega) (k_X12_viewYear eq6) ?_
    cases H
    exact z_ireturn rfl dX12_count_77
  rw [if_neg c4] at H
  by_cases c7 : v1 = 2
  · rw [if_pos c7] at H
    refine z_tswIn (pc := 6) (off := 72) 78 dX12_count_6 (by rw [c7]; decide) (by rw [c7]; decide) (by rw [c7]; decide) (by decide) ?_
    refine z_aload_n (pc := 78) 0 dX12_count_78 rfl rfl ?_
    obtain ⟨x8, ex8, H⟩ := zbind H
    refine z_getI (pc := 79) dX12_count_79 fd_X12_359 ex8 ?_
    cases H
    exact z_ireturn rfl dX12_count_82
  rw [if_neg c7] at H
  by_cases c9 : v1 = 3
  · rw [if_pos c9] at H
    refine z_tswIn (pc := 6) (off := 77) 83 dX12_count_6 (by rw [c9]; decide) (by rw [c9]; decide) (by rw [c9]; decide) (by decide) ?_
    refine z_aload_n (pc := 83) 0 dX12_count_83 rfl rfl ?_
    obtain ⟨x10, ex10, H⟩ := zbind H
    refine z_getI (pc := 84) dX12_count_84 fd_X12_281 ex10 ?_
    cases H
    exact z_ireturn rfl dX12_count_87
  rw [if_neg c9] at H
  by_cases c11 : v1 = 4
  · rw [if_pos c11] at H
    refine z_tswIn (pc := 6) (off := 82) 88 dX12_count_6 (by rw [c11]; decide) (by rw [c11]; decide) (by rw [c11]; decide) (by decide) ?_
    refine z_aload_n (pc := 88) 0 dX12_count_88 rfl rfl ?_
    obtain ⟨x12, ex12, H⟩ := zbind H
    refine z_getI (pc := 89) dX12_count_89 fd_X12_420 ex12 ?_
    cases H
    exact z_ireturn rfl dX12_count_92
  rw [if_neg c11] at H
  by_cases c13 : v1 = 5
  · rw [if_pos c13] at H
    refine z_tswIn (pc := 6) (off := 87) 93 dX12_count_6 (by rw [c13]; decide) (by rw [c13]; decide) (by rw [c13]; decide) (by decide) ?_
    refine z_aload_n (pc := 93) 0 dX12_count_93 rfl rfl ?_
    obtain ⟨z14, H⟩ := zifE H
    obtain ⟨q15, eq15, H⟩ := zbind H
    refine z_callV (pc := 94) (mc := 0) (ms := 0) (d' := 1) (mc' := 0) (ms' := 0) (rest := []) [] dX12_count_94 md_X12_rulingsSeen ml_X12_504 im_X12_rulingsSeen se_X12_rulingsSeen rfl z14 rfl rfl (Nat.le_of_ble_eq_true rfl) (by omega) (k_X12_rulingsSeen eq15) ?_
    cases H
    exact z_ireturn rfl dX12_count_97
  rw [if_neg c13] at H
  by_cases c16 : v1 = 6
  · rw [if_pos c16] at H
    refine z_tswIn (pc := 6) (off := 92) 98 dX12_count_6 (by rw [c16]; decide) (by rw [c16]; decide) (by rw [c16]; decide) (by decide) ?_
    refine z_aload_n (pc := 98) 0 dX12_count_98 rfl rfl ?_
    obtain ⟨x17, ex17, H⟩ := zbind H
    refine z_getI (pc := 99) dX12_count_99 fd_X12_11 ex17 ?_
    cases H
    exact z_ireturn rfl dX12_count_102
  rw [if_neg c16] at H
  by_cases c18 : v1 = 7
  · rw [if_pos c18] at H
    refine z_tswIn (pc := 6) (off := 97) 103 dX12_count_6 (by rw [c18]; decide) (by rw [c18]; decide) (by rw [c18]; decide) (by decide) ?_
    refine z_aload_n (pc := 103) 0 dX12_count_103 rfl rfl ?_
    obtain ⟨r19, er19, H⟩ := zbind H
    refine z_getR (pc := 104) dX12_count_104 fd_X12_179 er19 ?_
    obtain ⟨q20, eq20, H⟩ := zbind H
    refine z_callS (pc := 107) (mc := 0) (ms := 0) (d' := 0) (mc' := 0) (ms' := 0) (rest := []) [.ref r19] dX12_count_107 md_X12_manyOf ml_X12_507 sm_X12_manyOf rfl rfl (Nat.le_of_ble_eq_true rfl) (by omega) (k_X12_manyOf eq20) ?_
    cases H
    exact z_ireturn rfl dX12_count_110
  rw [if_neg c18] at H
  by_cases c21 : v1 = 8
  · rw [if_pos c21] at H
    refine z_tswIn (pc := 6) (off := 105) 111 dX12_count_6 (by rw [c21]; decide) (by rw [c21]; decide) (by rw [c21]; decide) (by decide) ?_
    refine z_aload_n (pc := 111) 0 dX12_count_111 rfl rfl ?_
    obtain ⟨x22, ex22, H⟩ := zbind H
    refine z_getI (pc := 112) dX12_count_112 fd_X12_466 ex22 ?_
    cases H
    exact z_ireturn rfl dX12_count_115
  rw [if_neg c21] at H
  by_cases c23 : v1 = 9
  · rw [if_pos c23] at H
    refine z_tswIn (pc := 6) (off := 110) 116 dX12_count_6 (by rw [c23]; decide) (by rw [c23]; decide) (by rw [c23]; decide) (by decide) ?_
    refine z_aload_n (pc := 116) 0 dX12_count_116 rfl rfl ?_
    obtain ⟨r24, er24, H⟩ := zbind H
    refine z_getR (pc := 117) dX12_count_117 fd_X12_212 er24 ?_
    obtain ⟨q25, eq25, H⟩ := zbind H
    refine z_callS (pc := 120) (mc := 0) (ms := 0) (d' := 0) (mc' := 0) (ms' := 0) (rest := []) [.ref r24] dX12_count_120 md_X12_manyOf ml_X12_507 sm_X12_manyOf rfl rfl (Nat.le_of_ble_eq_true rfl) (by omega) (k_X12_manyOf eq25) ?_
    cases H
    exact z_ireturn rfl dX12_count_123
  rw [if_neg c23] at H
  by_cases c26 : v1 = 10
  · rw [if_pos c26] at H
    refine z_tswIn (pc := 6) (off := 118) 124 dX12_count_6 (by rw [c26]; decide) (by rw [c26]; decide) (by rw [c26]; decide) (by decide) ?_
    refine z_aload_n (pc := 124) 0 dX12_count_124 rfl rfl ?_
    obtain ⟨x27, ex27, H⟩ := zbind H
    refine z_getI (pc := 125) dX12_count_125 fd_X12_486 ex27 ?_
    cases H
    exact z_ireturn rfl dX12_count_128
  rw [if_neg c26] at H
  by_cases c28 : v1 = 11
  · rw [if_pos c28] at H
    refine z_tswIn (pc := 6) (off := 123) 129 dX12_count_6 (by rw [c28]; decide) (by rw [c28]; decide) (by rw [c28]; decide) (by decide) ?_
    refine z_aload_n (pc := 129) 0 dX12_count_129 rfl rfl ?_
    obtain ⟨z29, H⟩ := zifE H
    obtain ⟨q30, eq30, H⟩ := zbind H
    refine z_callV (pc := 130) (mc := 0) (ms := 0) (d' := 2) (mc' := 0) (ms' := 0) (rest := []) [] dX12_count_130 md_X12_metMany ml_X12_511 im_X12_metMany se_X12_metMany rfl z29 rfl rfl (Nat.le_of_ble_eq_true rfl) (by omega) (k_X12_metMany eq30) ?_
    cases H
    exact z_ireturn rfl dX12_count_133
  rw [if_neg c28] at H
  refine z_tswOut (pc := 6) 134 dX12_count_6 (by have := lv_neT (a := 0) c2 (by decide); have := lv_neT (a := 1) c4 (by decide); have := lv_neT (a := 2) c7 (by decide); have := lv_neT (a := 3) c9 (by decide); have := lv_neT (a := 4) c11 (by decide); have := lv_neT (a := 5) c13 (by decide); have := lv_neT (a := 6) c16 (by decide); have := lv_neT (a := 7) c18 (by decide); have := lv_neT (a := 8) c21 (by decide); have := lv_neT (a := 9) c23 (by decide); have := lv_neT (a := 10) c26 (by decide); have := lv_neT (a := 11) c28 (by decide); omega) (by decide) ?_
  refine z_iconst (pc := 134) (x := (-1)) dX12_count_134 zc_iconst_m1 ?_
  cases H
  exact z_ireturn rfl dX12_count_135

