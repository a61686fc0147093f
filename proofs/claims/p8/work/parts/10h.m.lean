theorem zc_bipush_30 : (Int8.ofInt (30)).toInt32 = (30 : Int32) := by decide
theorem ml_X11_82 : Cond.methodLink RX11 82 yX11_within ∈ zB := zmem 547 (by decide +kernel) rfl
theorem fd_X11_86 : zFd RX11 86 11 11 (.int) false "WhoseStreet" := zFd.of cl_11 (by decide) (zmem 514 (by decide +kernel) rfl) rfl rfl rfl
def f_X11_years (N : Nat) (v0 : Nat) (v1 : Int32) (h : zH) : Option (Int32 × zH) := if (p_X11_within v1 0 30) = 0 then (some ((-1), h)) else ((gI h v0 11 11).bind fun x2 => if (x2 + v1) ≤ 30 then ((gI h v0 11 11).bind fun x4 => (pF h v0 11 11 (.int (x4 + v1))).bind fun h5 => (gI h5 v0 11 11).bind fun x6 => some (x6, h5)) else (some ((-1), h)))
set_option maxRecDepth 100000 in
set_option maxHeartbeats 4000000 in
theorem k_X11_years {N : Nat} {v0 : Nat} {v1 : Int32} {h : zH} {r : Int32 × zH} (H : f_X11_years N v0 v1 h = some r) : zOk 1 0 0 yX11_years cX11_years 2 (some .int) [.ref v0, .int v1] h (some (.int r.1)) r.2 := by
  refine zOk.of (by decide) (Nat.le_of_ble_eq_true rfl) ?_
  unfold f_X11_years at H
  refine z_iload_n (pc := 0) 1 dX11_years_0 rfl rfl ?_
  refine z_iconst (pc := 1) (x := 0) dX11_years_1 zc_iconst_0 ?_
  refine z_bipush (pc := 2) (x := 30) dX11_years_2 zc_bipush_30 ?_
  refine z_callS (pc := 4) (mc := 0) (ms := 0) (d' := 0) (mc' := 0) (ms' := 0) (rest := []) [.int v1, .int 0, .int 30] dX11_years_4 md_X11_within ml_X11_82 sm_X11_within rfl rfl (Nat.le_of_ble_eq_true rfl) (by omega) (k_X11_within v1 0 30 h _ rfl) ?_
  refine z_if_eq (pc := 7) 21 dX11_years_7 (by decide) (fun c1 => ?_) (fun c1 => ?_)
  · rw [if_pos c1] at H
    refine z_iconst (pc := 21) (x := (-1)) dX11_years_21 zc_iconst_m1 ?_
    cases H
    exact z_ireturn rfl dX11_years_22
  · rw [if_neg c1] at H
    refine z_aload_n (pc := 10) 0 dX11_years_10 rfl rfl ?_
    obtain ⟨x2, ex2, H⟩ := zbind H
    refine z_getI (pc := 11) dX11_years_11 fd_X11_86 ex2 ?_
    refine z_iload_n (pc := 14) 1 dX11_years_14 rfl rfl ?_
    refine z_iadd (pc := 15) dX11_years_15 ?_
    refine z_bipush (pc := 16) (x := 30) dX11_years_16 zc_bipush_30 ?_
    refine z_icmp_le (pc := 18) 23 dX11_years_18 (by decide) (fun c3 => ?_) (fun c3 => ?_)
    · rw [if_pos c3] at H
      refine z_aload_n (pc := 23) 0 dX11_years_23 rfl rfl ?_
      refine z_dup (pc := 24) dX11_years_24 rfl ?_
      obtain ⟨x4, ex4, H⟩ := zbind H
      refine z_getI (pc := 25) dX11_years_25 fd_X11_86 ex4 ?_
      refine z_iload_n (pc := 28) 1 dX11_years_28 rfl rfl ?_
      refine z_iadd (pc := 29) dX11_years_29 ?_
      obtain ⟨h5, eh5, H⟩ := zbind H
      refine z_put (pc := 30) dX11_years_30 fd_X11_86 rfl rfl eh5 ?_
      refine z_aload_n (pc := 33) 0 dX11_years_33 rfl rfl ?_
      obtain ⟨x6, ex6, H⟩ := zbind H
      refine z_getI (pc := 34) dX11_years_34 fd_X11_86 ex6 ?_
      cases H
      exact z_ireturn rfl dX11_years_37
    · rw [if_neg c3] at H
      refine z_iconst (pc := 21) (x := (-1)) dX11_years_21 zc_iconst_m1 ?_
      cases H
      exact z_ireturn rfl dX11_years_22

def f_X11_view (N : Nat) (v0 : Nat) (v1 : Int32) (h : zH) : Option (Int32 × zH) := (gI h v0 11 11).bind fun x1 => if (p_X11_within v1 0 x1) = 0 then (some (0, h)) else ((gI h v0 11 11).bind fun x3 => if v1 = x3 then ((pF h v0 11 12 (.int (-1))).bind fun h6 => some (1, h6)) else ((pF h v0 11 12 (.int v1)).bind fun h5 => some (1, h5)))
set_option maxRecDepth 100000 in
set_option maxHeartbeats 4000000 in
theorem k_X11_view {N : Nat} {v0 : Nat} {v1 : Int32} {h : zH} {r : Int32 × zH} (H : f_X11_view N v0 v1 h = some r) : zOk 1 0 0 yX11_view cX11_view 2 (some .boolean) [.ref v0, .int v1] h (some (.int r.1)) r.2 := by
  refine zOk.of (by decide) (Nat.le_of_ble_eq_true rfl) ?_
  unfold f_X11_view at H
  refine z_iload_n (pc := 0) 1 dX11_view_0 rfl rfl ?_
  refine z_iconst (pc := 1) (x := 0) dX11_view_1 zc_iconst_0 ?_
  refine z_aload_n (pc := 2) 0 dX11_view_2 rfl rfl ?_
  obtain ⟨x1, ex1, H⟩ := zbind H
  refine z_getI (pc := 3) dX11_view_3 fd_X11_86 ex1 ?_
  refine z_callS (pc := 6) (mc := 0) (ms := 0) (d' := 0) (mc' := 0) (ms' := 0) (rest := []) [.int v1, .int 0, .int x1] dX11_view_6 md_X11_within ml_X11_82 sm_X11_within rfl rfl (Nat.le_of_ble_eq_true rfl) (by omega) (k_X11_within v1 0 x1 h _ rfl) ?_
  refine z_if_ne (pc := 9) 14 dX11_view_9 (by decide) (fun c2 => ?_) (fun c2 => ?_)
  · rw [if_neg c2] at H
    refine z_aload_n (pc := 14) 0 dX11_view_14 rfl rfl ?_
    refine z_iload_n (pc := 15) 1 dX11_view_15 rfl rfl ?_
    refine z_aload_n (pc := 16) 0 dX11_view_16 rfl rfl ?_
    obtain ⟨x3, ex3, H⟩ := zbind H
    refine z_getI (pc := 17) dX11_view_17 fd_X11_86 ex3 ?_
    refine z_icmp_ne (pc := 20) 27 dX11_view_20 (by decide) (fun c4 => ?_) (fun c4 => ?_)
    · rw [if_neg c4] at H
      refine z_iload_n (pc := 27) 1 dX11_view_27 rfl rfl ?_
      obtain ⟨h5, eh5, H⟩ := zbind H
      refine z_put (pc := 28) dX11_view_28 fd_X11_78 rfl rfl eh5 ?_
      refine z_iconst (pc := 31) (x := 1) dX11_view_31 zc_iconst_1 ?_
      cases H
      exact z_zreturn rfl dX11_view_32 (by decide)
    · rw [if_pos c4] at H
      refine z_iconst (pc := 23) (x := (-1)) dX11_view_23 zc_iconst_m1 ?_
      refine z_goto (pc := 24) 28 dX11_view_24 (by decide) ?_
      obtain ⟨h6, eh6, H⟩ := zbind H
      refine z_put (pc := 28) dX11_view_28 fd_X11_78 rfl rfl eh6 ?_
      refine z_iconst (pc := 31) (x := 1) dX11_view_31 zc_iconst_1 ?_
      cases H
      exact z_zreturn rfl dX11_view_32 (by decide)
  · rw [if_pos c2] at H
    refine z_iconst (pc := 12) (x := 0) dX11_view_12 zc_iconst_0 ?_
    cases H
    exact z_zreturn rfl dX11_view_13 (by decide)

theorem zc_sipush_m9999 : (Int16.ofInt (-9999)).toInt32 = (-9999 : Int32) := by decide
theorem zc_sipush_300 : (Int16.ofInt (300)).toInt32 = (300 : Int32) := by decide
theorem zc_sipush_m999 : (Int16.ofInt (-999)).toInt32 = (-999 : Int32) := by decide
theorem fd_X11_89 : zFd RX11 89 11 10 (.int) false "WhoseStreet" := zFd.of cl_11 (by decide) (zmem 513 (by decide +kernel) rfl) rfl rfl rfl
theorem in_X6 : Cond.instantiable RX6 16 ∈ zB := zmem 558 (by decide +kernel) rfl
theorem it_X6 : Cond.initialized RX6 ∈ zB := zmem 128 (by decide +kernel) rfl
theorem md_X6_init : zMd yX6_init cX6_init 7 6 none := ⟨zmw (zmt_2 _ (List.mem_of_getElem? (i := 210) rfl)) rfl, zmem 128 (by decide +kernel) rfl, by decide, by decide, by decide +kernel, by decide⟩
theorem ml_X11_92 : Cond.methodLink RX11 92 yX6_init ∈ zB := zmem 559 (by decide +kernel) rfl
theorem im_X6_init : Cond.instanceMethod yX6_init ∈ zB := zmem 560 (by decide +kernel) rfl
theorem md_X8_settle : zMd yX8_settle cX8_settle 2 1 none := ⟨zmw (zmt_3 _ (List.mem_of_getElem? (i := 43) rfl)) rfl, zmem 113 (by decide +kernel) rfl, by decide, by decide, by decide +kernel, by decide⟩
theorem ml_X11_95 : Cond.methodLink RX11 95 yX8_settle ∈ zB := zmem 631 (by decide +kernel) rfl
theorem im_X8_settle : Cond.instanceMethod yX8_settle ∈ zB := zmem 632 (by decide +kernel) rfl
theorem se_X8_settle : Cond.selects yX8_settle.cls yX8_settle yX8_settle ∈ zB := zmem 633 (by decide +kernel) rfl
def f_X11_meeting (N : Nat) (v0 : Nat) (v1 : Int32) (v2 : Int32) (v3 : Int32) (v4 : Int32) (v5 : Int32) (v6 : Int32) (v7 : Int32) (h : zH) : Option (Int32 × zH) := (if (p_X11_within v2 (-9999) (-1)) = 0 then (some 0) else (if (p_X11_within v3 1 300) = 0 then (some 0) else (if (p_X11_within v4 0 5) = 0 then (some 0) else (some 1))) : Option (Int32)).bind fun m1 => (if (p_X11_within v5 (-999) (-1)) = 0 then (some 0) else (if (p_X11_within v6 1 60) = 0 then (some 0) else (if (p_X11_within v7 0 5) = 0 then (some 0) else (some 1))) : Option (Int32)).bind fun m5 => (gI h v0 11 11).bind fun x9 => if (p_X11_within v1 0 x9) = 0 then (some ((-1), h)) else (if m1 = 0 then (some ((-1), h)) else (if m5 = 0 then (some ((-1), h)) else ((gI h v0 11 10).bind fun x13 => if x13 < 40 then (zlet (znew h (.inr (6, [.int 0, .int 0, .int 0, .int 0, .int 0, .int 0, .int 0, .int 0, .int 0, .int 0, .int 0, .int 0, .int 0, .int 0, .int 0, .int 0])) : zH) fun h15 => (f_X6_init N h.1.1 v2 v3 v4 v5 v6 v7 h15).bind fun h16 => (gR h16 v0 11 1).bind fun r17 => zif (zob h16 r17 8) <| (f_X8_settle N r17 h.1.1 h16).bind fun h19 => (gR h19 v0 11 0).bind fun r20 => (gI h19 v0 11 10).bind fun x21 => (sQ h19 r20 x21 h.1.1).bind fun h22 => (gI h22 v0 11 10).bind fun x23 => (pF h22 v0 11 10 (.int (x23 + 1))).bind fun h24 => (gI h24 v0 11 10).bind fun x25 => some (x25 - 1, h24)) else (some ((-1), h)))))
set_option maxRecDepth 100000 in
set_option maxHeartbeats 4000000 in
theorem k_X11_meeting {N : Nat} {v0 : Nat} {v1 : Int32} {v2 : Int32} {v3 : Int32} {v4 : Int32} {v5 : Int32} {v6 : Int32} {v7 : Int32} {h : zH} {r : Int32 × zH} (H : f_X11_meeting N v0 v1 v2 v3 v4 v5 v6 v7 h = some r) : zOk 5 1 16 yX11_meeting cX11_meeting 11 (some .int) [.ref v0, .int v1, .int v2, .int v3, .int v4, .int v5, .int v6, .int v7] h (some (.int r.1)) r.2 := by
  refine zOk.of (by decide) (Nat.le_of_ble_eq_true rfl) ?_
  unfold f_X11_meeting at H
  refine z_iload_n (pc := 0) 2 dX11_meeting_0 rfl rfl ?_
  refine z_sipush (pc := 1) (x := (-9999)) dX11_meeting_1 zc_sipush_m9999 ?_
  refine z_iconst (pc := 4) (x := (-1)) dX11_meeting_4 zc_iconst_m1 ?_
  refine z_callS (pc := 5) (mc := 1) (ms := 16) (d' := 0) (mc' := 0) (ms' := 0) (rest := []) [.int v2, .int (-9999), .int (-1)] dX11_meeting_5 md_X11_within ml_X11_82 sm_X11_within rfl rfl (Nat.le_of_ble_eq_true rfl) (by omega) (k_X11_within v2 (-9999) (-1) h _ rfl) ?_
  obtain ⟨m1, em1, H⟩ := zbind H
  have Jm1 : zW yX11_meeting cX11_meeting 11 (some .int) 5 1 16 37 [(0, .ref v0), (1, .int v1), (2, .int v2), (3, .int v3), (4, .int v4), (5, .int v5), (6, .int v6), (7, .int v7)] [.int m1] h (some (.int r.1)) r.2 := by
    refine z_istore (pc := 37) (lv' := [(8, .int m1), (0, .ref v0), (1, .int v1), (2, .int v2), (3, .int v3), (4, .int v4), (5, .int v5), (6, .int v6), (7, .int v7)]) dX11_meeting_37 (by decide) rfl ?_
    refine z_iload (pc := 39) 6 dX11_meeting_39 rfl ?_
    refine z_sipush (pc := 41) (x := (-999)) dX11_meeting_41 zc_sipush_m999 ?_
    refine z_iconst (pc := 44) (x := (-1)) dX11_meeting_44 zc_iconst_m1 ?_
    refine z_callS (pc := 45) (mc := 1) (ms := 16) (d' := 0) (mc' := 0) (ms' := 0) (rest := []) [.int v5, .int (-999), .int (-1)] dX11_meeting_45 md_X11_within ml_X11_82 sm_X11_within rfl rfl (Nat.le_of_ble_eq_true rfl) (by omega) (k_X11_within v5 (-999) (-1) h _ rfl) ?_
    obtain ⟨m5, em5, H⟩ := zbind H
    have Jm5 : zW yX11_meeting cX11_meeting 11 (some .int) 5 1 16 77 [(0, .ref v0), (1, .int v1), (2, .int v2), (3, .int v3), (4, .int v4), (5, .int v5), (6, .int v6), (7, .int v7), (8, .int m1)] [.int m5] h (some (.int r.1)) r.2 := by
      refine z_istore (pc := 77) (lv' := [(9, .int m5), (0, .ref v0), (1, .int v1), (2, .int v2), (3, .int v3), (4, .int v4), (5, .int v5), (6, .int v6), (7, .int v7), (8, .int m1)]) dX11_meeting_77 (by decide) rfl ?_
      refine z_iload_n (pc := 79) 2 dX11_meeting_79 rfl rfl ?_
      refine z_iconst (pc := 80) (x := 0) dX11_meeting_80 zc_iconst_0 ?_
      refine z_aload_n (pc := 81) 1 dX11_meeting_81 rfl rfl ?_
      obtain ⟨x9, ex9, H⟩ := zbind H
      refine z_getI (pc := 82) dX11_meeting_82 fd_X11_86 ex9 ?_
      refine z_callS (pc := 85) (mc := 1) (ms := 16) (d' := 0) (mc' := 0) (ms' := 0) (rest := []) [.int v1, .int 0, .int x9] dX11_meeting_85 md_X11_within ml_X11_82 sm_X11_within rfl rfl (Nat.le_of_ble_eq_true rfl) (by omega) (k_X11_within v1 0 x9 h _ rfl) ?_
      refine z_if_eq (pc := 88) 110 dX11_meeting_88 (by decide) (fun c10 => ?_) (fun c10 => ?_)
      · rw [if_pos c10] at H
        refine z_iconst (pc := 110) (x := (-1)) dX11_meeting_110 zc_iconst_m1 ?_
        cases H
        exact z_ireturn rfl dX11_meeting_111
      · rw [if_neg c10] at H
        refine z_iload (pc := 91) 9 dX11_meeting_91 rfl ?_
        refine z_if_eq (pc := 93) 110 dX11_meeting_93 (by decide) (fun c11 => ?_) (fun c11 => ?_)
        · rw [if_pos c11] at H
          refine z_iconst (pc := 110) (x := (-1)) dX11_meeting_110 zc_iconst_m1 ?_
          cases H
          exact z_ireturn rfl dX11_meeting_111
        · rw [if_neg c11] at H
          refine z_iload (pc := 96) 0 dX11_meeting_96 rfl ?_
          refine z_if_eq (pc := 98) 110 dX11_meeting_98 (by decide) (fun c12 => ?_) (fun c12 => ?_)
          · rw [if_pos c12] at H
            refine z_iconst (pc := 110) (x := (-1)) dX11_meeting_110 zc_iconst_m1 ?_
            cases H
            exact z_ireturn rfl dX11_meeting_111
          · rw [if_neg c12] at H
            refine z_aload_n (pc := 101) 1 dX11_meeting_101 rfl rfl ?_
            obtain ⟨x13, ex13, H⟩ := zbind H
            refine z_getI (pc := 102) dX11_meeting_102 fd_X11_89 ex13 ?_
            refine z_bipush (pc := 105) (x := 40) dX11_meeting_105 zc_bipush_40 ?_
            refine z_icmp_lt (pc := 107) 112 dX11_meeting_107 (by decide) (fun c14 => ?_) (fun c14 => ?_)
            · rw [if_pos c14] at H
              refine z_new (pc := 112) (mc := 0) (ms := 0) (N := 16) [.int 0, .int 0, .int 0, .int 0, .int 0, .int 0, .int 0, .int 0, .int 0, .int 0, .int 0, .int 0, .int 0, .int 0, .int 0, .int 0] dX11_meeting_112 cl_6 ck_X11_9 in_X6 it_X6 (by decide +kernel) ?_
              obtain ⟨h15, eh15, H⟩ := zletE H
              refine z_nmH eh15 ?_
              refine z_dup (pc := 115) dX11_meeting_115 rfl ?_
              refine z_iload_n (pc := 116) 3 dX11_meeting_116 rfl rfl ?_
              refine z_iload_n (pc := 117) 4 dX11_meeting_117 rfl rfl ?_
              refine z_iload (pc := 118) 5 dX11_meeting_118 rfl ?_
              refine z_iload (pc := 120) 6 dX11_meeting_120 rfl ?_
              refine z_iload (pc := 122) 7 dX11_meeting_122 rfl ?_
              refine z_iload (pc := 124) 8 dX11_meeting_124 rfl ?_
              obtain ⟨h16, eh16, H⟩ := zbind H
              refine z_callI (pc := 126) (mc := 0) (ms := 0) (d' := 1) (mc' := 0) (ms' := 0) (rest := [.ref h.1.1]) [.int v2, .int v3, .int v4, .int v5, .int v6, .int v7] dX11_meeting_126 md_X6_init ml_X11_92 im_X6_init rfl rfl rfl (Nat.le_of_ble_eq_true rfl) (by omega) (k_X6_init eh16) ?_
              refine z_astore (pc := 129) (lv' := [(10, .ref h.1.1), (9, .int m5), (0, .ref v0), (1, .int v1), (2, .int v2), (3, .int v3), (4, .int v4), (5, .int v5), (6, .int v6), (7, .int v7), (8, .int m1)]) dX11_meeting_129 (by decide) rfl ?_
              refine z_aload_n (pc := 131) 2 dX11_meeting_131 rfl rfl ?_
              obtain ⟨r17, er17, H⟩ := zbind H
              refine z_getR (pc := 132) dX11_meeting_132 fd_X11_18 er17 ?_
              refine z_aload (pc := 135) 0 dX11_meeting_135 rfl ?_
              obtain ⟨z18, H⟩ := zifE H
              obtain ⟨h19, eh19, H⟩ := zbind H
              refine z_callV (pc := 137) (mc := 0) (ms := 0) (d' := 4) (mc' := 0) (ms' := 0) (rest := []) [.ref h.1.1] dX11_meeting_137 md_X8_settle ml_X11_95 im_X8_settle se_X8_settle rfl z18 rfl rfl (Nat.le_of_ble_eq_true rfl) (by omega) (k_X8_settle eh19) ?_
              refine z_aload_n (pc := 140) 2 dX11_meeting_140 rfl rfl ?_
              obtain ⟨r20, er20, H⟩ := zbind H
              refine z_getR (pc := 141) dX11_meeting_141 fd_X11_11 er20 ?_
              refine z_aload_n (pc := 144) 2 dX11_meeting_144 rfl rfl ?_
              obtain ⟨x21, ex21, H⟩ := zbind H
              refine z_getI (pc := 145) dX11_meeting_145 fd_X11_89 ex21 ?_
              refine z_aload (pc := 148) 0 dX11_meeting_148 rfl ?_
              obtain ⟨h22, eh22, H⟩ := zbind H
              refine z_aastore (pc := 150) dX11_meeting_150 eh22 ?_
              refine z_aload_n (pc := 151) 2 dX11_meeting_151 rfl rfl ?_
              refine z_dup (pc := 152) dX11_meeting_152 rfl ?_
              obtain ⟨x23, ex23, H⟩ := zbind H
              refine z_getI (pc := 153) dX11_meeting_153 fd_X11_89 ex23 ?_
              refine z_iconst (pc := 156) (x := 1) dX11_meeting_156 zc_iconst_1 ?_
              refine z_iadd (pc := 157) dX11_meeting_157 ?_
              obtain ⟨h24, eh24, H⟩ := zbind H
              refine z_put (pc := 158) dX11_meeting_158 fd_X11_89 rfl rfl eh24 ?_
              refine z_aload_n (pc := 161) 2 dX11_meeting_161 rfl rfl ?_
              obtain ⟨x25, ex25, H⟩ := zbind H
              refine z_getI (pc := 162) dX11_meeting_162 fd_X11_89 ex25 ?_
              refine z_iconst (pc := 165) (x := 1) dX11_meeting_165 zc_iconst_1 ?_
              refine z_isub (pc := 166) dX11_meeting_166 ?_
              cases H
              exact z_ireturn rfl dX11_meeting_167
            · rw [if_neg c14] at H
              refine z_iconst (pc := 110) (x := (-1)) dX11_meeting_110 zc_iconst_m1 ?_
              cases H
              exact z_ireturn rfl dX11_meeting_111
    refine z_if_eq (pc := 48) 76 dX11_meeting_48 (by decide) (fun c6 => ?_) (fun c6 => ?_)
    · rw [if_pos c6] at em5
      refine z_iconst (pc := 76) (x := 0) dX11_meeting_76 zc_iconst_0 ?_
      cases em5
      exact z_sub [1, 2, 3, 4, 5, 6, 7, 8, 0] rfl Jm5
    · rw [if_neg c6] at em5
      refine z_iload (pc := 51) 7 dX11_meeting_51 rfl ?_
      refine z_iconst (pc := 53) (x := 1) dX11_meeting_53 zc_iconst_1 ?_
      refine z_bipush (pc := 54) (x := 60) dX11_meeting_54 zc_bipush_60 ?_
      refine z_callS (pc := 56) (mc := 1) (ms := 16) (d' := 0) (mc' := 0) (ms' := 0) (rest := []) [.int v6, .int 1, .int 60] dX11_meeting_56 md_X11_within ml_X11_82 sm_X11_within rfl rfl (Nat.le_of_ble_eq_true rfl) (by omega) (k_X11_within v6 1 60 h _ rfl) ?_
      refine z_if_eq (pc := 59) 76 dX11_meeting_59 (by decide) (fun c7 => ?_) (fun c7 => ?_)
      · rw [if_pos c7] at em5
        refine z_iconst (pc := 76) (x := 0) dX11_meeting_76 zc_iconst_0 ?_
        cases em5
        exact z_sub [1, 2, 3, 4, 5, 6, 7, 8, 0] rfl Jm5
      · rw [if_neg c7] at em5
        refine z_iload (pc := 62) 8 dX11_meeting_62 rfl ?_
        refine z_iconst (pc := 64) (x := 0) dX11_meeting_64 zc_iconst_0 ?_
        refine z_iconst (pc := 65) (x := 5) dX11_meeting_65 zc_iconst_5 ?_
        refine z_callS (pc := 66) (mc := 1) (ms := 16) (d' := 0) (mc' := 0) (ms' := 0) (rest := []) [.int v7, .int 0, .int 5] dX11_meeting_66 md_X11_within ml_X11_82 sm_X11_within rfl rfl (Nat.le_of_ble_eq_true rfl) (by omega) (k_X11_within v7 0 5 h _ rfl) ?_
        refine z_if_eq (pc := 69) 76 dX11_meeting_69 (by decide) (fun c8 => ?_) (fun c8 => ?_)
        · rw [if_pos c8] at em5
          refine z_iconst (pc := 76) (x := 0) dX11_meeting_76 zc_iconst_0 ?_
          cases em5
          exact z_sub [1, 2, 3, 4, 5, 6, 7, 8, 0] rfl Jm5
        · rw [if_neg c8] at em5
          refine z_iconst (pc := 72) (x := 1) dX11_meeting_72 zc_iconst_1 ?_
          refine z_goto (pc := 73) 77 dX11_meeting_73 (by decide) ?_
          cases em5
          exact z_sub [1, 2, 3, 4, 5, 6, 7, 8, 0] rfl Jm5
  refine z_if_eq (pc := 8) 36 dX11_meeting_8 (by decide) (fun c2 => ?_) (fun c2 => ?_)
  · rw [if_pos c2] at em1
    refine z_iconst (pc := 36) (x := 0) dX11_meeting_36 zc_iconst_0 ?_
    cases em1
    exact z_sub [0, 1, 2, 3, 4, 5, 6, 7] rfl Jm1
  · rw [if_neg c2] at em1
    refine z_iload_n (pc := 11) 3 dX11_meeting_11 rfl rfl ?_
    refine z_iconst (pc := 12) (x := 1) dX11_meeting_12 zc_iconst_1 ?_
    refine z_sipush (pc := 13) (x := 300) dX11_meeting_13 zc_sipush_300 ?_
    refine z_callS (pc := 16) (mc := 1) (ms := 16) (d' := 0) (mc' := 0) (ms' := 0) (rest := []) [.int v3, .int 1, .int 300] dX11_meeting_16 md_X11_within ml_X11_82 sm_X11_within rfl rfl (Nat.le_of_ble_eq_true rfl) (by omega) (k_X11_within v3 1 300 h _ rfl) ?_
    refine z_if_eq (pc := 19) 36 dX11_meeting_19 (by decide) (fun c3 => ?_) (fun c3 => ?_)
    · rw [if_pos c3] at em1
      refine z_iconst (pc := 36) (x := 0) dX11_meeting_36 zc_iconst_0 ?_
      cases em1
      exact z_sub [0, 1, 2, 3, 4, 5, 6, 7] rfl Jm1
    · rw [if_neg c3] at em1
      refine z_iload (pc := 22) 4 dX11_meeting_22 rfl ?_
      refine z_iconst (pc := 24) (x := 0) dX11_meeting_24 zc_iconst_0 ?_
      refine z_iconst (pc := 25) (x := 5) dX11_meeting_25 zc_iconst_5 ?_
      refine z_callS (pc := 26) (mc := 1) (ms := 16) (d' := 0) (mc' := 0) (ms' := 0) (rest := []) [.int v4, .int 0, .int 5] dX11_meeting_26 md_X11_within ml_X11_82 sm_X11_within rfl rfl (Nat.le_of_ble_eq_true rfl) (by omega) (k_X11_within v4 0 5 h _ rfl) ?_
      refine z_if_eq (pc := 29) 36 dX11_meeting_29 (by decide) (fun c4 => ?_) (fun c4 => ?_)
      · rw [if_pos c4] at em1
        refine z_iconst (pc := 36) (x := 0) dX11_meeting_36 zc_iconst_0 ?_
        cases em1
        exact z_sub [0, 1, 2, 3, 4, 5, 6, 7] rfl Jm1
      · rw [if_neg c4] at em1
        refine z_iconst (pc := 32) (x := 1) dX11_meeting_32 zc_iconst_1 ?_
        refine z_goto (pc := 33) 37 dX11_meeting_33 (by decide) ?_
        cases em1
        exact z_sub [0, 1, 2, 3, 4, 5, 6, 7] rfl Jm1

def f_X11_meetingOf (N : Nat) (v0 : Nat) (v1 : Int32) (h : zH) : Option (Option Nat) := if v1 < 0 then (some none) else ((gI h v0 11 10).bind fun x2 => if x2 ≤ v1 then (some none) else (if 40 ≤ v1 then (some none) else ((gR h v0 11 0).bind fun r5 => (aQ h r5 v1).bind fun x6 => some x6)))
set_option maxRecDepth 100000 in
set_option maxHeartbeats 4000000 in
theorem k_X11_meetingOf {N : Nat} {v0 : Nat} {v1 : Int32} {h : zH} {r : Option Nat} (H : f_X11_meetingOf N v0 v1 h = some r) : zOk 0 0 0 yX11_meetingOf cX11_meetingOf 2 (some (.object "WhoseStreet$Meeting")) [.ref v0, .int v1] h (some (va_rf r)) h := by
  refine zOk.of (by decide) (Nat.le_of_ble_eq_true rfl) ?_
  unfold f_X11_meetingOf at H
  refine z_iload_n (pc := 0) 1 dX11_meetingOf_0 rfl rfl ?_
  refine z_if_lt (pc := 1) 27 dX11_meetingOf_1 (by decide) (fun c1 => ?_) (fun c1 => ?_)
  · rw [if_pos c1] at H
    refine z_null (pc := 27) dX11_meetingOf_27 ?_
    cases H
    exact z_areturn rfl (Or.inl ⟨_, rfl⟩) (va_rf_or _) dX11_meetingOf_28
  · rw [if_neg c1] at H
    refine z_iload_n (pc := 4) 1 dX11_meetingOf_4 rfl rfl ?_
    refine z_aload_n (pc := 5) 0 dX11_meetingOf_5 rfl rfl ?_
    obtain ⟨x2, ex2, H⟩ := zbind H
    refine z_getI (pc := 6) dX11_meetingOf_6 fd_X11_89 ex2 ?_
    refine z_icmp_ge (pc := 9) 27 dX11_meetingOf_9 (by decide) (fun c3 => ?_) (fun c3 => ?_)
    · rw [if_pos c3] at H
      refine z_null (pc := 27) dX11_meetingOf_27 ?_
      cases H
      exact z_areturn rfl (Or.inl ⟨_, rfl⟩) (va_rf_or _) dX11_meetingOf_28
    · rw [if_neg c3] at H
      refine z_iload_n (pc := 12) 1 dX11_meetingOf_12 rfl rfl ?_
      refine z_bipush (pc := 13) (x := 40) dX11_meetingOf_13 zc_bipush_40 ?_
      refine z_icmp_ge (pc := 15) 27 dX11_meetingOf_15 (by decide) (fun c4 => ?_) (fun c4 => ?_)
      · rw [if_pos c4] at H
        refine z_null (pc := 27) dX11_meetingOf_27 ?_
        cases H
        exact z_areturn rfl (Or.inl ⟨_, rfl⟩) (va_rf_or _) dX11_meetingOf_28
      · rw [if_neg c4] at H
        refine z_aload_n (pc := 18) 0 dX11_meetingOf_18 rfl rfl ?_
        obtain ⟨r5, er5, H⟩ := zbind H
        refine z_getR (pc := 19) dX11_meetingOf_19 fd_X11_11 er5 ?_
        refine z_iload_n (pc := 22) 1 dX11_meetingOf_22 rfl rfl ?_
        obtain ⟨x6, ex6, H⟩ := zbind H
        refine z_aaload (pc := 23) dX11_meetingOf_23 ex6 ?_
        refine z_goto (pc := 24) 28 dX11_meetingOf_24 (by decide) ?_
        cases H
        exact z_areturn rfl (Or.inl ⟨_, rfl⟩) (va_rf_or _) dX11_meetingOf_28

theorem zc_bipush_99 : (Int8.ofInt (99)).toInt32 = (99 : Int32) := by decide
theorem md_X11_meetingOf : zMd yX11_meetingOf cX11_meetingOf 2 1 (some (.object "WhoseStreet$Meeting")) := ⟨zmw (zmt_3 _ (List.mem_of_getElem? (i := 80) rfl)) rfl, zmem 112 (by decide +kernel) rfl, by decide, by decide, by decide +kernel, by decide⟩
theorem ml_X11_99 : Cond.methodLink RX11 99 yX11_meetingOf ∈ zB := zmem 668 (by decide +kernel) rfl
theorem im_X11_meetingOf : Cond.instanceMethod yX11_meetingOf ∈ zB := zmem 670 (by decide +kernel) rfl
theorem se_X11_meetingOf : Cond.selects yX11_meetingOf.cls yX11_meetingOf yX11_meetingOf ∈ zB := zmem 4 (by decide +kernel) rfl
theorem fd_X11_103 : zFd RX11 103 6 7 (.int) false "WhoseStreet$Meeting" := zFd.of cl_6 (by decide) (zmem 578 (by decide +kernel) rfl) rfl rfl rfl
theorem fd_X11_106 : zFd RX11 106 6 8 (.int) false "WhoseStreet$Meeting" := zFd.of cl_6 (by decide) (zmem 580 (by decide +kernel) rfl) rfl rfl rfl
theorem fd_X11_109 : zFd RX11 109 6 9 (.int) false "WhoseStreet$Meeting" := zFd.of cl_6 (by decide) (zmem 583 (by decide +kernel) rfl) rfl rfl rfl
theorem fd_X11_112 : zFd RX11 112 6 10 (.int) false "WhoseStreet$Meeting" := zFd.of cl_6 (by decide) (zmem 586 (by decide +kernel) rfl) rfl rfl rfl
def f_X11_stand (N : Nat) (v0 : Nat) (v1 : Int32) (v2 : Int32) (v3 : Int32) (v4 : Int32) (v5 : Int32) (h : zH) : Option (Int32 × zH) := zif (zob h v0 11) <| (f_X11_meetingOf N v0 v1 h).bind fun q2 => (if v2 = 0 then (some 1) else (if (p_X11_within v2 (-9999) (-1)) = 0 then (some 0) else (if (p_X11_within v3 (-999) (-1)) = 0 then (some 0) else (some 1))) : Option (Int32)).bind fun m3 => zopt q2 (some (0, h)) (fun a7 => if m3 = 0 then (some (0, h)) else (if (p_X11_within v4 0 2) = 0 then (some (0, h)) else (if (p_X11_within v5 0 99) = 0 then (some (0, h)) else ((pF h a7 6 7 (.int v2)).bind fun h12 => (pF h12 a7 6 8 (.int v3)).bind fun h13 => (pF h13 a7 6 9 (.int v4)).bind fun h14 => (pF h14 a7 6 10 (.int v5)).bind fun h15 => (gR h15 v0 11 1).bind fun r16 => zif (zob h15 r16 8) <| (f_X8_settle N r16 a7 h15).bind fun h18 => some (1, h18)))))
set_option maxRecDepth 100000 in
set_option maxHeartbeats 4000000 in
theorem k_X11_stand {N : Nat} {v0 : Nat} {v1 : Int32} {v2 : Int32} {v3 : Int32} {v4 : Int32} {v5 : Int32} {h : zH} {r : Int32 × zH} (H : f_X11_stand N v0 v1 v2 v3 v4 v5 h = some r) : zOk 5 0 0 yX11_stand cX11_stand 8 (some .boolean) [.ref v0, .int v1, .int v2, .int v3, .int v4, .int v5] h (some (.int r.1)) r.2 := by
  refine zOk.of (by decide) (Nat.le_of_ble_eq_true rfl) ?_
  unfold f_X11_stand at H
  refine z_aload_n (pc := 0) 0 dX11_stand_0 rfl rfl ?_
  refine z_iload_n (pc := 1) 1 dX11_stand_1 rfl rfl ?_
  obtain ⟨z1, H⟩ := zifE H
  obtain ⟨q2, eq2, H⟩ := zbind H
  refine z_callV (pc := 2) (mc := 0) (ms := 0) (d' := 0) (mc' := 0) (ms' := 0) (rest := []) [.int v1] dX11_stand_2 md_X11_meetingOf ml_X11_99 im_X11_meetingOf se_X11_meetingOf rfl z1 rfl rfl (Nat.le_of_ble_eq_true rfl) (by omega) (k_X11_meetingOf eq2) ?_
  refine z_astoreQ (pc := 5) (lv' := [(6, va_rf q2), (0, .ref v0), (1, .int v1), (2, .int v2), (3, .int v3), (4, .int v4), (5, .int v5)]) dX11_stand_5 (by decide) rfl ?_
  refine z_iload_n (pc := 7) 3 dX11_stand_7 rfl rfl ?_
  obtain ⟨m3, em3, H⟩ := zbind H
  have Jm3 : zW yX11_stand cX11_stand 8 (some .boolean) 5 0 0 38 [(0, .ref v0), (2, .int v2), (3, .int v3), (4, .int v4), (5, .int v5), (6, va_rf q2)] [.int m3] h (some (.int r.1)) r.2 := by
    refine z_istore (pc := 38) (lv' := [(7, .int m3), (0, .ref v0), (2, .int v2), (3, .int v3), (4, .int v4), (5, .int v5), (6, va_rf q2)]) dX11_stand_38 (by decide) (by generalize q2 = o8; cases o8 <;> rfl) ?_
    refine z_aloadQ (pc := 40) 6 dX11_stand_40 rfl ?_
    refine z_ifnull (pc := 42) 71 dX11_stand_42 (by decide) (fun c8 => ?_) (fun a7 c8 => ?_)
    · subst c8
      have H := zoptN H
      refine z_iconst (pc := 71) (x := 0) dX11_stand_71 zc_iconst_0 ?_
      cases H
      exact z_zreturn rfl dX11_stand_72 (by decide)
    · subst c8
      have H := zoptS H
      refine z_sub (lv' := [(7, .int m3), (0, .ref v0), (2, .int v2), (3, .int v3), (4, .int v4), (5, .int v5), (6, .ref a7)]) [0, 1, 2, 3, 4, 5, 6] rfl ?_
      refine z_iload (pc := 45) 0 dX11_stand_45 rfl ?_
      refine z_if_eq (pc := 47) 71 dX11_stand_47 (by decide) (fun c9 => ?_) (fun c9 => ?_)
      · rw [if_pos c9] at H
        refine z_iconst (pc := 71) (x := 0) dX11_stand_71 zc_iconst_0 ?_
        cases H
        exact z_zreturn rfl dX11_stand_72 (by decide)
      · rw [if_neg c9] at H
        refine z_iload (pc := 50) 4 dX11_stand_50 rfl ?_
        refine z_iconst (pc := 52) (x := 0) dX11_stand_52 zc_iconst_0 ?_
        refine z_iconst (pc := 53) (x := 2) dX11_stand_53 zc_iconst_2 ?_
        refine z_callS (pc := 54) (mc := 0) (ms := 0) (d' := 0) (mc' := 0) (ms' := 0) (rest := []) [.int v4, .int 0, .int 2] dX11_stand_54 md_X11_within ml_X11_82 sm_X11_within rfl rfl (Nat.le_of_ble_eq_true rfl) (by omega) (k_X11_within v4 0 2 h _ rfl) ?_
        refine z_if_eq (pc := 57) 71 dX11_stand_57 (by decide) (fun c10 => ?_) (fun c10 => ?_)
        · rw [if_pos c10] at H
          refine z_iconst (pc := 71) (x := 0) dX11_stand_71 zc_iconst_0 ?_
          cases H
          exact z_zreturn rfl dX11_stand_72 (by decide)
        · rw [if_neg c10] at H
          refine z_iload (pc := 60) 5 dX11_stand_60 rfl ?_
          refine z_iconst (pc := 62) (x := 0) dX11_stand_62 zc_iconst_0 ?_
          refine z_bipush (pc := 63) (x := 99) dX11_stand_63 zc_bipush_99 ?_
          refine z_callS (pc := 65) (mc := 0) (ms := 0) (d' := 0) (mc' := 0) (ms' := 0) (rest := []) [.int v5, .int 0, .int 99] dX11_stand_65 md_X11_within ml_X11_82 sm_X11_within rfl rfl (Nat.le_of_ble_eq_true rfl) (by omega) (k_X11_within v5 0 99 h _ rfl) ?_
          refine z_if_ne (pc := 68) 73 dX11_stand_68 (by decide) (fun c11 => ?_) (fun c11 => ?_)
          · rw [if_neg c11] at H
            refine z_aload (pc := 73) 6 dX11_stand_73 rfl ?_
            refine z_iload_n (pc := 75) 2 dX11_stand_75 rfl rfl ?_
            obtain ⟨h12, eh12, H⟩ := zbind H
            refine z_put (pc := 76) dX11_stand_76 fd_X11_103 rfl rfl eh12 ?_
            refine z_aload (pc := 79) 6 dX11_stand_79 rfl ?_
            refine z_iload_n (pc := 81) 3 dX11_stand_81 rfl rfl ?_
            obtain ⟨h13, eh13, H⟩ := zbind H
            refine z_put (pc := 82) dX11_stand_82 fd_X11_106 rfl rfl eh13 ?_
            refine z_aload (pc := 85) 6 dX11_stand_85 rfl ?_
            refine z_iload (pc := 87) 4 dX11_stand_87 rfl ?_
            obtain ⟨h14, eh14, H⟩ := zbind H
            refine z_put (pc := 89) dX11_stand_89 fd_X11_109 rfl rfl eh14 ?_
            refine z_aload (pc := 92) 6 dX11_stand_92 rfl ?_
            refine z_iload (pc := 94) 5 dX11_stand_94 rfl ?_
            obtain ⟨h15, eh15, H⟩ := zbind H
            refine z_put (pc := 96) dX11_stand_96 fd_X11_112 rfl rfl eh15 ?_
            refine z_aload_n (pc := 99) 1 dX11_stand_99 rfl rfl ?_
            obtain ⟨r16, er16, H⟩ := zbind H
            refine z_getR (pc := 100) dX11_stand_100 fd_X11_18 er16 ?_
            refine z_aload (pc := 103) 6 dX11_stand_103 rfl ?_
            obtain ⟨z17, H⟩ := zifE H
            obtain ⟨h18, eh18, H⟩ := zbind H
            refine z_callV (pc := 105) (mc := 0) (ms := 0) (d' := 4) (mc' := 0) (ms' := 0) (rest := []) [.ref a7] dX11_stand_105 md_X8_settle ml_X11_95 im_X8_settle se_X8_settle rfl z17 rfl rfl (Nat.le_of_ble_eq_true rfl) (by omega) (k_X8_settle eh18) ?_
            refine z_iconst (pc := 108) (x := 1) dX11_stand_108 zc_iconst_1 ?_
            cases H
            exact z_zreturn rfl dX11_stand_109 (by decide)
          · rw [if_pos c11] at H
            refine z_iconst (pc := 71) (x := 0) dX11_stand_71 zc_iconst_0 ?_
            cases H
            exact z_zreturn rfl dX11_stand_72 (by decide)
  refine z_if_eq (pc := 8) 33 dX11_stand_8 (by decide) (fun c4 => ?_) (fun c4 => ?_)
  · rw [if_pos c4] at em3
    refine z_iconst (pc := 33) (x := 1) dX11_stand_33 zc_iconst_1 ?_
    refine z_goto (pc := 34) 38 dX11_stand_34 (by decide) ?_
    cases em3
    exact z_sub [1, 3, 4, 5, 6, 0] rfl Jm3
  · rw [if_neg c4] at em3
    refine z_iload_n (pc := 11) 3 dX11_stand_11 rfl rfl ?_
    refine z_sipush (pc := 12) (x := (-9999)) dX11_stand_12 zc_sipush_m9999 ?_
    refine z_iconst (pc := 15) (x := (-1)) dX11_stand_15 zc_iconst_m1 ?_
    refine z_callS (pc := 16) (mc := 0) (ms := 0) (d' := 0) (mc' := 0) (ms' := 0) (rest := []) [.int v2, .int (-9999), .int (-1)] dX11_stand_16 md_X11_within ml_X11_82 sm_X11_within rfl rfl (Nat.le_of_ble_eq_true rfl) (by omega) (k_X11_within v2 (-9999) (-1) h _ rfl) ?_
    refine z_if_eq (pc := 19) 37 dX11_stand_19 (by decide) (fun c5 => ?_) (fun c5 => ?_)
    · rw [if_pos c5] at em3
      refine z_iconst (pc := 37) (x := 0) dX11_stand_37 zc_iconst_0 ?_
      cases em3
      exact z_sub [1, 3, 4, 5, 6, 0] rfl Jm3
    · rw [if_neg c5] at em3
      refine z_iload_n (pc := 22) 4 dX11_stand_22 rfl rfl ?_
      refine z_sipush (pc := 23) (x := (-999)) dX11_stand_23 zc_sipush_m999 ?_
      refine z_iconst (pc := 26) (x := (-1)) dX11_stand_26 zc_iconst_m1 ?_
      refine z_callS (pc := 27) (mc := 0) (ms := 0) (d' := 0) (mc' := 0) (ms' := 0) (rest := []) [.int v3, .int (-999), .int (-1)] dX11_stand_27 md_X11_within ml_X11_82 sm_X11_within rfl rfl (Nat.le_of_ble_eq_true rfl) (by omega) (k_X11_within v3 (-999) (-1) h _ rfl) ?_
      refine z_if_eq (pc := 30) 37 dX11_stand_30 (by decide) (fun c6 => ?_) (fun c6 => ?_)
      · rw [if_pos c6] at em3
        refine z_iconst (pc := 37) (x := 0) dX11_stand_37 zc_iconst_0 ?_
        cases em3
        exact z_sub [1, 3, 4, 5, 6, 0] rfl Jm3
      · rw [if_neg c6] at em3
        refine z_iconst (pc := 33) (x := 1) dX11_stand_33 zc_iconst_1 ?_
        refine z_goto (pc := 34) 38 dX11_stand_34 (by decide) ?_
        cases em3
        exact z_sub [1, 3, 4, 5, 6, 0] rfl Jm3

theorem fd_X11_115 : zFd RX11 115 6 11 (.int) false "WhoseStreet$Meeting" := zFd.of cl_6 (by decide) (zmem 589 (by decide +kernel) rfl) rfl rfl rfl
theorem fd_X11_118 : zFd RX11 118 6 12 (.int) false "WhoseStreet$Meeting" := zFd.of cl_6 (by decide) (zmem 592 (by decide +kernel) rfl) rfl rfl rfl
theorem md_X8_safeSpeed : zMd yX8_safeSpeed cX8_safeSpeed 2 1 (some .int) := ⟨zmw (zmt_3 _ (List.mem_of_getElem? (i := 88) rfl)) rfl, zmem 113 (by decide +kernel) rfl, by decide, by decide, by decide +kernel, by decide⟩
theorem ml_X11_121 : Cond.methodLink RX11 121 yX8_safeSpeed ∈ zB := zmem 676 (by decide +kernel) rfl
theorem im_X8_safeSpeed : Cond.instanceMethod yX8_safeSpeed ∈ zB := zmem 677 (by decide +kernel) rfl
theorem se_X8_safeSpeed : Cond.selects yX8_safeSpeed.cls yX8_safeSpeed yX8_safeSpeed ∈ zB := zmem 678 (by decide +kernel) rfl
theorem ml_X11_125 : Cond.methodLink RX11 125 yX6_seen ∈ zB := zmem 684 (by decide +kernel) rfl
theorem fd_X11_129 : zFd RX11 129 6 14 (.int) false "WhoseStreet$Meeting" := zFd.of cl_6 (by decide) (zmem 596 (by decide +kernel) rfl) rfl rfl rfl
theorem ml_X11_132 : Cond.methodLink RX11 132 yX6_signs ∈ zB := zmem 692 (by decide +kernel) rfl
theorem fd_X11_135 : zFd RX11 135 6 13 (.int) false "WhoseStreet$Meeting" := zFd.of cl_6 (by decide) (zmem 594 (by decide +kernel) rfl) rfl rfl rfl
def f_X11_look (N : Nat) (v0 : Nat) (v1 : Int32) (v2 : Int32) (h : zH) : Option (Int32 × zH) := zif (zob h v0 11) <| (f_X11_meetingOf N v0 v1 h).bind fun q2 => zopt q2 (some ((-1), h)) (fun a3 => if v2 = 0 then ((gI h a3 6 11).bind fun x6 => some (x6, h)) else (if v2 = 1 then ((gI h a3 6 12).bind fun x8 => some (x8, h)) else (if v2 = 2 then ((gR h v0 11 1).bind fun r10 => zif (zob h r10 8) <| (f_X8_safeSpeed N r10 a3 h).bind fun q12 => some (q12.1, q12.2)) else (if v2 = 3 then (zif (zob h a3 6) <| (f_X6_seen N a3 h).bind fun q15 => some (q15, h)) else (if v2 = 4 then ((gI h a3 6 14).bind fun x17 => some (x17, h)) else (if v2 = 5 then (zif (zob h a3 6) <| (f_X6_signs N a3 h).bind fun q20 => some (q20, h)) else (if v2 = 6 then ((gI h a3 6 13).bind fun x22 => some (x22, h)) else (some ((-1), h)))))))))
set_option maxRecDepth 100000 in
set_option maxHeartbeats 4000000 in
theorem k_X11_look {N : Nat} {v0 : Nat} {v1 : Int32} {v2 : Int32} {h : zH} {r : Int32 × zH} (H : f_X11_look N v0 v1 v2 h = some r) : zOk 6 0 0 yX11_look cX11_look 4 (some .int) [.ref v0, .int v1, .int v2] h (some (.int r.1)) r.2 := by
  refine zOk.of (by decide) (Nat.le_of_ble_eq_true rfl) ?_
  unfold f_X11_look at H
  refine z_aload_n (pc := 0) 0 dX11_look_0 rfl rfl ?_
  refine z_iload_n (pc := 1) 1 dX11_look_1 rfl rfl ?_
  obtain ⟨z1, H⟩ := zifE H
  obtain ⟨q2, eq2, H⟩ := zbind H
  refine z_callV (pc := 2) (mc := 0) (ms := 0) (d' := 0) (mc' := 0) (ms' := 0) (rest := []) [.int v1] dX11_look_2 md_X11_meetingOf ml_X11_99 im_X11_meetingOf se_X11_meetingOf rfl z1 rfl rfl (Nat.le_of_ble_eq_true rfl) (by omega) (k_X11_meetingOf eq2) ?_
  refine z_astore_nQ (pc := 5) (lv' := [(3, va_rf q2), (0, .ref v0), (1, .int v1), (2, .int v2)]) dX11_look_5 rfl (by decide) rfl ?_
  refine z_aload_nQ (pc := 6) 0 dX11_look_6 rfl rfl ?_
  refine z_ifnonnull (pc := 7) 12 dX11_look_7 (by decide) (fun a3 c4 => ?_) (fun c4 => ?_)
  · subst c4
    have H := zoptS H
    refine z_sub (lv' := [(3, .ref a3), (0, .ref v0), (1, .int v1), (2, .int v2)]) [0, 1, 2, 3] rfl ?_
    refine z_iload_n (pc := 12) 3 dX11_look_12 rfl rfl ?_
    by_cases c5 : v2 = 0
    · rw [if_pos c5] at H
      refine z_tswIn (pc := 13) (off := 43) 56 dX11_look_13 (by rw [c5]; decide) (by rw [c5]; decide) (by rw [c5]; decide) (by decide) ?_
      refine z_aload_n (pc := 56) 0 dX11_look_56 rfl rfl ?_
      obtain ⟨x6, ex6, H⟩ := zbind H
      refine z_getI (pc := 57) dX11_look_57 fd_X11_115 ex6 ?_
      cases H
      exact z_ireturn rfl dX11_look_60
    rw [if_neg c5] at H
    by_cases c7 : v2 = 1
    · rw [if_pos c7] at H
      refine z_tswIn (pc := 13) (off := 48) 61 dX11_look_13 (by rw [c7]; decide) (by rw [c7]; decide) (by rw [c7]; decide) (by decide) ?_
      refine z_aload_n (pc := 61) 0 dX11_look_61 rfl rfl ?_
      obtain ⟨x8, ex8, H⟩ := zbind H
      refine z_getI (pc := 62) dX11_look_62 fd_X11_118 ex8 ?_
      cases H
      exact z_ireturn rfl dX11_look_65
    rw [if_neg c7] at H
    by_cases c9 : v2 = 2
    · rw [if_pos c9] at H
      refine z_tswIn (pc := 13) (off := 53) 66 dX11_look_13 (by rw [c9]; decide) (by rw [c9]; decide) (by rw [c9]; decide) (by decide) ?_
      refine z_aload_n (pc := 66) 1 dX11_look_66 rfl rfl ?_
      obtain ⟨r10, er10, H⟩ := zbind H
      refine z_getR (pc := 67) dX11_look_67 fd_X11_18 er10 ?_
      refine z_aload_n (pc := 70) 0 dX11_look_70 rfl rfl ?_
      obtain ⟨z11, H⟩ := zifE H
      obtain ⟨q12, eq12, H⟩ := zbind H
      refine z_callV (pc := 71) (mc := 0) (ms := 0) (d' := 5) (mc' := 0) (ms' := 0) (rest := []) [.ref a3] dX11_look_71 md_X8_safeSpeed ml_X11_121 im_X8_safeSpeed se_X8_safeSpeed rfl z11 rfl rfl (Nat.le_of_ble_eq_true rfl) (by omega) (k_X8_safeSpeed eq12) ?_
      cases H
      exact z_ireturn rfl dX11_look_74
    rw [if_neg c9] at H
    by_cases c13 : v2 = 3
    · rw [if_pos c13] at H
      refine z_tswIn (pc := 13) (off := 62) 75 dX11_look_13 (by rw [c13]; decide) (by rw [c13]; decide) (by rw [c13]; decide) (by decide) ?_
      refine z_aload_n (pc := 75) 0 dX11_look_75 rfl rfl ?_
      obtain ⟨z14, H⟩ := zifE H
      obtain ⟨q15, eq15, H⟩ := zbind H
      refine z_callV (pc := 76) (mc := 0) (ms := 0) (d' := 1) (mc' := 0) (ms' := 0) (rest := []) [] dX11_look_76 md_X6_seen ml_X11_125 im_X6_seen se_X6_seen rfl z14 rfl rfl (Nat.le_of_ble_eq_true rfl) (by omega) (k_X6_seen eq15) ?_
      cases H
      exact z_ireturn rfl dX11_look_79
    rw [if_neg c13] at H
    by_cases c16 : v2 = 4
    · rw [if_pos c16] at H
      refine z_tswIn (pc := 13) (off := 67) 80 dX11_look_13 (by rw [c16]; decide) (by rw [c16]; decide) (by rw [c16]; decide) (by decide) ?_
      refine z_aload_n (pc := 80) 0 dX11_look_80 rfl rfl ?_
      obtain ⟨x17, ex17, H⟩ := zbind H
      refine z_getI (pc := 81) dX11_look_81 fd_X11_129 ex17 ?_
      cases H
      exact z_ireturn rfl dX11_look_84
    rw [if_neg c16] at H
    by_cases c18 : v2 = 5
    · rw [if_pos c18] at H
      refine z_tswIn (pc := 13) (off := 72) 85 dX11_look_13 (by rw [c18]; decide) (by rw [c18]; decide) (by rw [c18]; decide) (by decide) ?_
      refine z_aload_n (pc := 85) 0 dX11_look_85 rfl rfl ?_
      obtain ⟨z19, H⟩ := zifE H
      obtain ⟨q20, eq20, H⟩ := zbind H
      refine z_callV (pc := 86) (mc := 0) (ms := 0) (d' := 2) (mc' := 0) (ms' := 0) (rest := []) [] dX11_look_86 md_X6_signs ml_X11_132 im_X6_signs se_X6_signs rfl z19 rfl rfl (Nat.le_of_ble_eq_true rfl) (by omega) (k_X6_signs eq20) ?_
      cases H
      exact z_ireturn rfl dX11_look_89
    rw [if_neg c18] at H
    by_cases c21 : v2 = 6
    · rw [if_pos c21] at H
      refine z_tswIn (pc := 13) (off := 77) 90 dX11_look_13 (by rw [c21]; decide) (by rw [c21]; decide) (by rw [c21]; decide) (by decide) ?_
      refine z_aload_n (pc := 90) 0 dX11_look_90 rfl rfl ?_
      obtain ⟨x22, ex22, H⟩ := zbind H
      refine z_getI (pc := 91) dX11_look_91 fd_X11_135 ex22 ?_
      cases H
      exact z_ireturn rfl dX11_look_94
    rw [if_neg c21] at H
    refine z_tswOut (pc := 13) 95 dX11_look_13 (by have := lv_neT (a := 0) c5 (by decide); have := lv_neT (a := 1) c7 (by decide); have := lv_neT (a := 2) c9 (by decide); have := lv_neT (a := 3) c13 (by decide); have := lv_neT (a := 4) c16 (by decide); have := lv_neT (a := 5) c18 (by decide); have := lv_neT (a := 6) c21 (by decide); omega) (by decide) ?_
    refine z_iconst (pc := 95) (x := (-1)) dX11_look_95 zc_iconst_m1 ?_
    cases H
    exact z_ireturn rfl dX11_look_96
  · subst c4
    have H := zoptN H
    refine z_iconst (pc := 10) (x := (-1)) dX11_look_10 zc_iconst_m1 ?_
    cases H
    exact z_ireturn rfl dX11_look_11

theorem ml_X11_138 : Cond.methodLink RX11 138 yX6_end ∈ zB := zmem 1268 (by decide +kernel) rfl
theorem fd_X11_148 : zFd RX11 148 6 1 (.int) true "WhoseStreet$Meeting" := zFd.of cl_6 (by decide) (zmem 567 (by decide +kernel) rfl) rfl rfl rfl
theorem ml_X11_151 : Cond.methodLink RX11 151 yX8_go ∈ zB := zmem 1334 (by decide +kernel) rfl
theorem fd_X11_158 : zFd RX11 158 8 1 (.int) false "WhoseStreet$Ride" := zFd.of cl_8 (by decide) (zmem 157 (by decide +kernel) rfl) rfl rfl rfl
theorem fd_X11_155 : zFd RX11 155 8 0 (.int) false "WhoseStreet$Ride" := zFd.of cl_8 (by decide) (zmem 155 (by decide +kernel) rfl) rfl rfl rfl
def f_X11_at (N : Nat) (v0 : Nat) (v1 : Int32) (v2 : Int32) (v3 : Int32) (h : zH) : Option (Int32 × zH) := zif (zob h v0 11) <| (f_X11_meetingOf N v0 v1 h).bind fun q2 => (zopt q2 (some (.inl h)) (fun a5 => if (p_X11_within v2 0 1) = 0 then (some (.inl h)) else (zif (zob h a5 6) <| (f_X6_end N a5 h).bind fun q9 => if (p_X11_within v3 0 q9) = 0 then (some (.inl h)) else ((gR h v0 11 1).bind fun r11 => (gI h a5 6 1).bind fun x12 => zif (zob h r11 8) <| (f_X8_go N r11 a5 x12 v3 h).bind fun h14 => if v2 = 0 then ((gR h14 v0 11 1).bind fun r19 => (gI h14 r19 8 0).bind fun x20 => (some (x20, h14)).map .inr) else ((gR h14 v0 11 1).bind fun r16 => (gI h14 r16 8 1).bind fun x17 => (some (x17, h14)).map .inr)))) : Option ((zH) ⊕ (Int32 × zH))).bind fun m3 => zsum m3 fun s4 => none
set_option maxRecDepth 100000 in
set_option maxHeartbeats 4000000 in
theorem k_X11_at {N : Nat} {v0 : Nat} {v1 : Int32} {v2 : Int32} {v3 : Int32} {h : zH} {r : Int32 × zH} (H : f_X11_at N v0 v1 v2 v3 h = some r) : zOk 4 0 0 yX11_at cX11_at 5 (some .int) [.ref v0, .int v1, .int v2, .int v3] h (some (.int r.1)) r.2 := by
  refine zOk.of (by decide) (Nat.le_of_ble_eq_true rfl) ?_
  unfold f_X11_at at H
  refine z_aload_n (pc := 0) 0 dX11_at_0 rfl rfl ?_
  refine z_iload_n (pc := 1) 1 dX11_at_1 rfl rfl ?_
  obtain ⟨z1, H⟩ := zifE H
  obtain ⟨q2, eq2, H⟩ := zbind H
  refine z_callV (pc := 2) (mc := 0) (ms := 0) (d' := 0) (mc' := 0) (ms' := 0) (rest := []) [.int v1] dX11_at_2 md_X11_meetingOf ml_X11_99 im_X11_meetingOf se_X11_meetingOf rfl z1 rfl rfl (Nat.le_of_ble_eq_true rfl) (by omega) (k_X11_meetingOf eq2) ?_
  refine z_astoreQ (pc := 5) (lv' := [(4, va_rf q2), (0, .ref v0), (1, .int v1), (2, .int v2), (3, .int v3)]) dX11_at_5 (by decide) rfl ?_
  refine z_aloadQ (pc := 7) 0 dX11_at_7 rfl ?_
  obtain ⟨m3, em3, H⟩ := zbind H
  have Jm3 : ∀ s4, m3 = .inl s4 → zW yX11_at cX11_at 5 (some .int) 4 0 0 34 [] [] s4 (some (.int r.1)) r.2 := by
    intro s4 e9
    subst e9
    have H := zsumL H
    cases H
  refine z_ifnull (pc := 9) 34 dX11_at_9 (by decide) (fun c6 => ?_) (fun a5 c6 => ?_)
  · subst c6
    have em3 := zoptN em3
    cases em3
    exact z_sub [] rfl (Jm3 _ rfl)
  · subst c6
    have em3 := zoptS em3
    refine z_sub (lv' := [(4, .ref a5), (0, .ref v0), (1, .int v1), (2, .int v2), (3, .int v3)]) [0, 1, 2, 3, 4] rfl ?_
    refine z_iload_n (pc := 12) 3 dX11_at_12 rfl rfl ?_
    refine z_iconst (pc := 13) (x := 0) dX11_at_13 zc_iconst_0 ?_
    refine z_iconst (pc := 14) (x := 1) dX11_at_14 zc_iconst_1 ?_
    refine z_callS (pc := 15) (mc := 0) (ms := 0) (d' := 0) (mc' := 0) (ms' := 0) (rest := []) [.int v2, .int 0, .int 1] dX11_at_15 md_X11_within ml_X11_82 sm_X11_within rfl rfl (Nat.le_of_ble_eq_true rfl) (by omega) (k_X11_within v2 0 1 h _ rfl) ?_
    refine z_if_eq (pc := 18) 34 dX11_at_18 (by decide) (fun c7 => ?_) (fun c7 => ?_)
    · rw [if_pos c7] at em3
      cases em3
      exact z_sub [] rfl (Jm3 _ rfl)
    · rw [if_neg c7] at em3
      refine z_iload_n (pc := 21) 4 dX11_at_21 rfl rfl ?_
      refine z_iconst (pc := 22) (x := 0) dX11_at_22 zc_iconst_0 ?_
      refine z_aload (pc := 23) 0 dX11_at_23 rfl ?_
      obtain ⟨z8, em3⟩ := zifE em3
      obtain ⟨q9, eq9, em3⟩ := zbind em3
      refine z_callV (pc := 25) (mc := 0) (ms := 0) (d' := 0) (mc' := 0) (ms' := 0) (rest := [.int 0, .int v3]) [] dX11_at_25 md_X6_end ml_X11_138 im_X6_end se_X6_end rfl z8 rfl rfl (Nat.le_of_ble_eq_true rfl) (by omega) (k_X6_end eq9) ?_
      refine z_callS (pc := 28) (mc := 0) (ms := 0) (d' := 0) (mc' := 0) (ms' := 0) (rest := []) [.int v3, .int 0, .int q9] dX11_at_28 md_X11_within ml_X11_82 sm_X11_within rfl rfl (Nat.le_of_ble_eq_true rfl) (by omega) (k_X11_within v3 0 q9 h _ rfl) ?_
      refine z_if_ne (pc := 31) 44 dX11_at_31 (by decide) (fun c10 => ?_) (fun c10 => ?_)
      · rw [if_neg c10] at em3
        refine z_aload_n (pc := 44) 1 dX11_at_44 rfl rfl ?_
        obtain ⟨r11, er11, em3⟩ := zbind em3
        refine z_getR (pc := 45) dX11_at_45 fd_X11_18 er11 ?_
        refine z_aload (pc := 48) 0 dX11_at_48 rfl ?_
        refine z_aload (pc := 50) 0 dX11_at_50 rfl ?_
        obtain ⟨x12, ex12, em3⟩ := zbind em3
        refine z_getI (pc := 52) dX11_at_52 fd_X11_148 ex12 ?_
        refine z_iload_n (pc := 55) 4 dX11_at_55 rfl rfl ?_
        obtain ⟨z13, em3⟩ := zifE em3
        obtain ⟨h14, eh14, em3⟩ := zbind em3
        refine z_callV (pc := 56) (mc := 0) (ms := 0) (d' := 3) (mc' := 0) (ms' := 0) (rest := []) [.ref a5, .int x12, .int v3] dX11_at_56 md_X8_go ml_X11_151 im_X8_go se_X8_go rfl z13 rfl rfl (Nat.le_of_ble_eq_true rfl) (by omega) (k_X8_go eh14) ?_
        refine z_iload_n (pc := 59) 3 dX11_at_59 rfl rfl ?_
        refine z_if_ne (pc := 60) 73 dX11_at_60 (by decide) (fun c15 => ?_) (fun c15 => ?_)
        · rw [if_neg c15] at em3
          refine z_aload_n (pc := 73) 1 dX11_at_73 rfl rfl ?_
          obtain ⟨r16, er16, em3⟩ := zbind em3
          refine z_getR (pc := 74) dX11_at_74 fd_X11_18 er16 ?_
          obtain ⟨x17, ex17, em3⟩ := zbind em3
          refine z_getI (pc := 77) dX11_at_77 fd_X11_158 ex17 ?_
          obtain ⟨o18, H9, e9⟩ := zmapR em3
          subst e9
          have H9 := H9.trans (zsumR H)
          cases H9
          exact z_ireturn rfl dX11_at_80
        · rw [if_pos c15] at em3
          refine z_aload_n (pc := 63) 1 dX11_at_63 rfl rfl ?_
          obtain ⟨r19, er19, em3⟩ := zbind em3
          refine z_getR (pc := 64) dX11_at_64 fd_X11_18 er19 ?_
          obtain ⟨x20, ex20, em3⟩ := zbind em3
          refine z_getI (pc := 67) dX11_at_67 fd_X11_155 ex20 ?_
          refine z_goto (pc := 70) 80 dX11_at_70 (by decide) ?_
          obtain ⟨o21, H9, e9⟩ := zmapR em3
          subst e9
          have H9 := H9.trans (zsumR H)
          cases H9
          exact z_ireturn rfl dX11_at_80
      · rw [if_pos c10] at em3
        cases em3
        exact z_sub [] rfl (Jm3 _ rfl)

theorem md_X9_put : zMd yX9_put cX9_put 5 1 none := ⟨zmw (zmt_3 _ (List.mem_of_getElem? (i := 116) rfl)) rfl, zmem 114 (by decide +kernel) rfl, by decide, by decide, by decide +kernel, by decide⟩
theorem ml_X11_161 : Cond.methodLink RX11 161 yX9_put ∈ zB := zmem 704 (by decide +kernel) rfl
theorem im_X9_put : Cond.instanceMethod yX9_put ∈ zB := zmem 705 (by decide +kernel) rfl
theorem se_X9_put : Cond.selects yX9_put.cls yX9_put yX9_put ∈ zB := zmem 706 (by decide +kernel) rfl
theorem fd_X11_165 : zFd RX11 165 9 2 (.int) false "WhoseStreet$Tape" := zFd.of cl_9 (by decide) (zmem 240 (by decide +kernel) rfl) rfl rfl rfl
def f_X11_feed (N : Nat) (v0 : Nat) (v1 : Int64) (v3 : Int64) (v5 : Int64) (h : zH) : Option (Int32 × zH) := (gR h v0 11 2).bind fun r1 => zif (zob h r1 9) <| (f_X9_put N r1 v1 h).bind fun h3 => (gR h3 v0 11 2).bind fun r4 => zif (zob h3 r4 9) <| (f_X9_put N r4 v3 h3).bind fun h6 => (gR h6 v0 11 2).bind fun r7 => zif (zob h6 r7 9) <| (f_X9_put N r7 v5 h6).bind fun h9 => (gR h9 v0 11 2).bind fun r10 => (gI h9 r10 9 2).bind fun x11 => some (x11, h9)
set_option maxRecDepth 100000 in
set_option maxHeartbeats 4000000 in
theorem k_X11_feed {N : Nat} {v0 : Nat} {v1 : Int64} {v3 : Int64} {v5 : Int64} {h : zH} {r : Int32 × zH} (H : f_X11_feed N v0 v1 v3 v5 h = some r) : zOk 2 0 0 yX11_feed cX11_feed 7 (some .int) [.ref v0, .long v1, .long v3, .long v5] h (some (.int r.1)) r.2 := by
  refine zOk.of (by decide) (Nat.le_of_ble_eq_true rfl) ?_
  unfold f_X11_feed at H
  refine z_aload_n (pc := 0) 0 dX11_feed_0 rfl rfl ?_
  obtain ⟨r1, er1, H⟩ := zbind H
  refine z_getR (pc := 1) dX11_feed_1 fd_X11_25 er1 ?_
  refine z_lload_n (pc := 4) 1 dX11_feed_4 rfl rfl ?_
  obtain ⟨z2, H⟩ := zifE H
  obtain ⟨h3, eh3, H⟩ := zbind H
  refine z_callV (pc := 5) (mc := 0) (ms := 0) (d' := 1) (mc' := 0) (ms' := 0) (rest := []) [.long v1] dX11_feed_5 md_X9_put ml_X11_161 im_X9_put se_X9_put rfl z2 rfl rfl (Nat.le_of_ble_eq_true rfl) (by omega) (k_X9_put eh3) ?_
  refine z_aload_n (pc := 8) 0 dX11_feed_8 rfl rfl ?_
  obtain ⟨r4, er4, H⟩ := zbind H
  refine z_getR (pc := 9) dX11_feed_9 fd_X11_25 er4 ?_
  refine z_lload_n (pc := 12) 2 dX11_feed_12 rfl rfl ?_
  obtain ⟨z5, H⟩ := zifE H
  obtain ⟨h6, eh6, H⟩ := zbind H
  refine z_callV (pc := 13) (mc := 0) (ms := 0) (d' := 1) (mc' := 0) (ms' := 0) (rest := []) [.long v3] dX11_feed_13 md_X9_put ml_X11_161 im_X9_put se_X9_put rfl z5 rfl rfl (Nat.le_of_ble_eq_true rfl) (by omega) (k_X9_put eh6) ?_
  refine z_aload_n (pc := 16) 0 dX11_feed_16 rfl rfl ?_
  obtain ⟨r7, er7, H⟩ := zbind H
  refine z_getR (pc := 17) dX11_feed_17 fd_X11_25 er7 ?_
  refine z_lload (pc := 20) 3 dX11_feed_20 rfl ?_
  obtain ⟨z8, H⟩ := zifE H
  obtain ⟨h9, eh9, H⟩ := zbind H
  refine z_callV (pc := 22) (mc := 0) (ms := 0) (d' := 1) (mc' := 0) (ms' := 0) (rest := []) [.long v5] dX11_feed_22 md_X9_put ml_X11_161 im_X9_put se_X9_put rfl z8 rfl rfl (Nat.le_of_ble_eq_true rfl) (by omega) (k_X9_put eh9) ?_
  refine z_aload_n (pc := 25) 0 dX11_feed_25 rfl rfl ?_
  obtain ⟨r10, er10, H⟩ := zbind H
  refine z_getR (pc := 26) dX11_feed_26 fd_X11_25 er10 ?_
  obtain ⟨x11, ex11, H⟩ := zbind H
  refine z_getI (pc := 29) dX11_feed_29 fd_X11_165 ex11 ?_
  cases H
  exact z_ireturn rfl dX11_feed_32

theorem md_X1_isFull : zMd yX1_isFull cX1_isFull 1 0 (some .boolean) := ⟨zmw (zmt_3 _ (List.mem_of_getElem? (i := 125) rfl)) rfl, zmem 120 (by decide +kernel) rfl, by decide, by decide, by decide +kernel, by decide⟩
theorem ml_X11_168 : Cond.methodLink RX11 168 yX1_isFull ∈ zB := zmem 713 (by decide +kernel) rfl
theorem im_X1_isFull : Cond.instanceMethod yX1_isFull ∈ zB := zmem 714 (by decide +kernel) rfl
theorem se_X1_isFull : Cond.selects yX1_isFull.cls yX1_isFull yX1_isFull ∈ zB := zmem 715 (by decide +kernel) rfl
theorem md_X7_read : zMd yX7_read cX7_read 3 1 (some .int) := ⟨zmw (zmt_3 _ (List.mem_of_getElem? (i := 129) rfl)) rfl, zmem 119 (by decide +kernel) rfl, by decide, by decide, by decide +kernel, by decide⟩
theorem ml_X11_172 : Cond.methodLink RX11 172 yX7_read ∈ zB := zmem 717 (by decide +kernel) rfl
theorem im_X7_read : Cond.instanceMethod yX7_read ∈ zB := zmem 718 (by decide +kernel) rfl
theorem se_X7_read : Cond.selects yX7_read.cls yX7_read yX7_read ∈ zB := zmem 719 (by decide +kernel) rfl
theorem ck_X11_176 : Cond.classLink RX11 176 RX4 ∈ zB := zmem 880 (by decide +kernel) rfl
theorem in_X4 : Cond.instantiable RX4 3 ∈ zB := zmem 881 (by decide +kernel) rfl
theorem it_X4 : Cond.initialized RX4 ∈ zB := zmem 135 (by decide +kernel) rfl
theorem md_X7_written : zMd yX7_written cX7_written 1 0 (some (.array .int)) := ⟨zmw (zmt_4 _ (List.mem_of_getElem? (i := 54) rfl)) rfl, zmem 119 (by decide +kernel) rfl, by decide, by decide, by decide +kernel, by decide⟩
theorem ml_X11_178 : Cond.methodLink RX11 178 yX7_written ∈ zB := zmem 882 (by decide +kernel) rfl
theorem im_X7_written : Cond.instanceMethod yX7_written ∈ zB := zmem 883 (by decide +kernel) rfl
theorem se_X7_written : Cond.selects yX7_written.cls yX7_written yX7_written ∈ zB := zmem 884 (by decide +kernel) rfl
theorem md_X4_init : zMd yX4_init cX4_init 4 3 none := ⟨zmw (zmt_4 _ (List.mem_of_getElem? (i := 71) rfl)) rfl, zmem 135 (by decide +kernel) rfl, by decide, by decide, by decide +kernel, by decide⟩
theorem ml_X11_182 : Cond.methodLink RX11 182 yX4_init ∈ zB := zmem 900 (by decide +kernel) rfl
theorem im_X4_init : Cond.instanceMethod yX4_init ∈ zB := zmem 901 (by decide +kernel) rfl
theorem md_X1_add : zMd yX1_add cX1_add 2 1 none := ⟨zmw (zmt_4 _ (List.mem_of_getElem? (i := 89) rfl)) rfl, zmem 120 (by decide +kernel) rfl, by decide, by decide, by decide +kernel, by decide⟩
theorem ml_X11_185 : Cond.methodLink RX11 185 yX1_add ∈ zB := zmem 917 (by decide +kernel) rfl
theorem im_X1_add : Cond.instanceMethod yX1_add ∈ zB := zmem 918 (by decide +kernel) rfl
theorem se_X1_add : Cond.selects yX1_add.cls yX1_add yX1_add ∈ zB := zmem 919 (by decide +kernel) rfl
def f_X11_law (N : Nat) (v0 : Nat) (v1 : Int32) (h : zH) : Option (Int32 × zH) := if (p_X11_within v1 0 30) = 0 then ((gR h v0 11 2).bind fun r2 => (pF h r2 9 2 (.int 0)).bind fun h3 => some ((-1), h3)) else ((gR h v0 11 4).bind fun r4 => zif (zob h r4 1) <| (f_X1_isFull N r4 h).bind fun q6 => if q6 = 0 then ((gR h v0 11 3).bind fun r10 => (gR h v0 11 2).bind fun r11 => zif (zob h r10 7) <| (f_X7_read N r10 r11 h).bind fun q13 => if q13.1 = 0 then ((gR q13.2 v0 11 4).bind fun r17 => zlet (znew q13.2 (.inr (4, [.int 0, .int 0, .null])) : zH) fun h18 => (gI h18 v0 11 11).bind fun x19 => (gR h18 v0 11 3).bind fun r20 => zif (zob h18 r20 7) <| (f_X7_written N r20 h18).bind fun q22 => (f_X4_init N q13.2.1.1 x19 v1 q22.1 q22.2).bind fun h23 => zif (zob h23 r17 1) <| (f_X1_add N r17 q13.2.1.1 h23).bind fun h25 => (gR h25 v0 11 2).bind fun r26 => (pF h25 r26 9 2 (.int 0)).bind fun h27 => some (q13.1, h27)) else ((gR q13.2 v0 11 2).bind fun r15 => (pF q13.2 r15 9 2 (.int 0)).bind fun h16 => some (q13.1, h16))) else ((gR h v0 11 2).bind fun r8 => (pF h r8 9 2 (.int 0)).bind fun h9 => some ((-1), h9)))
set_option maxRecDepth 100000 in
set_option maxHeartbeats 4000000 in
theorem k_X11_law {N : Nat} {v0 : Nat} {v1 : Int32} {h : zH} {r : Int32 × zH} (H : f_X11_law N v0 v1 h = some r) : zOk 9 2 1003 yX11_law cX11_law 3 (some .int) [.ref v0, .int v1] h (some (.int r.1)) r.2 := by
  refine zOk.of (by decide) (Nat.le_of_ble_eq_true rfl) ?_
  unfold f_X11_law at H
  refine z_iconst (pc := 0) (x := (-1)) dX11_law_0 zc_iconst_m1 ?_
  refine z_istore_n (pc := 1) (lv' := [(2, .int (-1)), (0, .ref v0), (1, .int v1)]) dX11_law_1 rfl (by decide) rfl ?_
  refine z_iload_n (pc := 2) 2 dX11_law_2 rfl rfl ?_
  refine z_iconst (pc := 3) (x := 0) dX11_law_3 zc_iconst_0 ?_
  refine z_bipush (pc := 4) (x := 30) dX11_law_4 zc_bipush_30 ?_
  refine z_callS (pc := 6) (mc := 2) (ms := 1003) (d' := 0) (mc' := 0) (ms' := 0) (rest := []) [.int v1, .int 0, .int 30] dX11_law_6 md_X11_within ml_X11_82 sm_X11_within rfl rfl (Nat.le_of_ble_eq_true rfl) (by omega) (k_X11_within v1 0 30 h _ rfl) ?_
  refine z_if_eq (pc := 9) 64 dX11_law_9 (by decide) (fun c1 => ?_) (fun c1 => ?_)
  · rw [if_pos c1] at H
    refine z_aload_n (pc := 64) 1 dX11_law_64 rfl rfl ?_
    obtain ⟨r2, er2, H⟩ := zbind H
    refine z_getR (pc := 65) dX11_law_65 fd_X11_25 er2 ?_
    refine z_iconst (pc := 68) (x := 0) dX11_law_68 zc_iconst_0 ?_
    obtain ⟨h3, eh3, H⟩ := zbind H
    refine z_put (pc := 69) dX11_law_69 fd_X11_165 rfl rfl eh3 ?_
    refine z_iload_n (pc := 72) 0 dX11_law_72 rfl rfl ?_
    cases H
    exact z_ireturn rfl dX11_law_73
  · rw [if_neg c1] at H
    refine z_aload_n (pc := 12) 1 dX11_law_12 rfl rfl ?_
    obtain ⟨r4, er4, H⟩ := zbind H
    refine z_getR (pc := 13) dX11_law_13 fd_X11_39 er4 ?_
    obtain ⟨z5, H⟩ := zifE H
    obtain ⟨q6, eq6, H⟩ := zbind H
    refine z_callV (pc := 16) (mc := 2) (ms := 1003) (d' := 0) (mc' := 0) (ms' := 0) (rest := []) [] dX11_law_16 md_X1_isFull ml_X11_168 im_X1_isFull se_X1_isFull rfl z5 rfl rfl (Nat.le_of_ble_eq_true rfl) (by omega) (k_X1_isFull eq6) ?_
    refine z_if_ne (pc := 19) 64 dX11_law_19 (by decide) (fun c7 => ?_) (fun c7 => ?_)
    · rw [if_neg c7] at H
      refine z_aload_n (pc := 64) 1 dX11_law_64 rfl rfl ?_
      obtain ⟨r8, er8, H⟩ := zbind H
      refine z_getR (pc := 65) dX11_law_65 fd_X11_25 er8 ?_
      refine z_iconst (pc := 68) (x := 0) dX11_law_68 zc_iconst_0 ?_
      obtain ⟨h9, eh9, H⟩ := zbind H
      refine z_put (pc := 69) dX11_law_69 fd_X11_165 rfl rfl eh9 ?_
      refine z_iload_n (pc := 72) 0 dX11_law_72 rfl rfl ?_
      cases H
      exact z_ireturn rfl dX11_law_73
    · rw [if_pos c7] at H
      refine z_aload_n (pc := 22) 1 dX11_law_22 rfl rfl ?_
      obtain ⟨r10, er10, H⟩ := zbind H
      refine z_getR (pc := 23) dX11_law_23 fd_X11_32 er10 ?_
      refine z_aload_n (pc := 26) 1 dX11_law_26 rfl rfl ?_
      obtain ⟨r11, er11, H⟩ := zbind H
      refine z_getR (pc := 27) dX11_law_27 fd_X11_25 er11 ?_
      obtain ⟨z12, H⟩ := zifE H
      obtain ⟨q13, eq13, H⟩ := zbind H
      refine z_callV (pc := 30) (mc := 2) (ms := 1003) (d' := 8) (mc' := 0) (ms' := 0) (rest := []) [.ref r11] dX11_law_30 md_X7_read ml_X11_172 im_X7_read se_X7_read rfl z12 rfl rfl (Nat.le_of_ble_eq_true rfl) (by omega) (k_X7_read eq13) ?_
      refine z_istore_n (pc := 33) (lv' := [(2, .int q13.1), (0, .ref v0), (1, .int v1)]) dX11_law_33 rfl (by decide) rfl ?_
      refine z_iload_n (pc := 34) 0 dX11_law_34 rfl rfl ?_
      refine z_if_ne (pc := 35) 64 dX11_law_35 (by decide) (fun c14 => ?_) (fun c14 => ?_)
      · rw [if_neg c14] at H
        refine z_aload_n (pc := 64) 1 dX11_law_64 rfl rfl ?_
        obtain ⟨r15, er15, H⟩ := zbind H
        refine z_getR (pc := 65) dX11_law_65 fd_X11_25 er15 ?_
        refine z_iconst (pc := 68) (x := 0) dX11_law_68 zc_iconst_0 ?_
        obtain ⟨h16, eh16, H⟩ := zbind H
        refine z_put (pc := 69) dX11_law_69 fd_X11_165 rfl rfl eh16 ?_
        refine z_iload_n (pc := 72) 0 dX11_law_72 rfl rfl ?_
        cases H
        exact z_ireturn rfl dX11_law_73
      · rw [if_pos c14] at H
        refine z_aload_n (pc := 38) 1 dX11_law_38 rfl rfl ?_
        obtain ⟨r17, er17, H⟩ := zbind H
        refine z_getR (pc := 39) dX11_law_39 fd_X11_39 er17 ?_
        refine z_new (pc := 42) (mc := 1) (ms := 1000) (N := 3) [.int 0, .int 0, .null] dX11_law_42 cl_4 ck_X11_176 in_X4 it_X4 (by decide +kernel) ?_
        obtain ⟨h18, eh18, H⟩ := zletE H
        refine z_nmH eh18 ?_
        refine z_dup (pc := 45) dX11_law_45 rfl ?_
        refine z_aload_n (pc := 46) 1 dX11_law_46 rfl rfl ?_
        obtain ⟨x19, ex19, H⟩ := zbind H
        refine z_getI (pc := 47) dX11_law_47 fd_X11_86 ex19 ?_
        refine z_iload_n (pc := 50) 2 dX11_law_50 rfl rfl ?_
        refine z_aload_n (pc := 51) 1 dX11_law_51 rfl rfl ?_
        obtain ⟨r20, er20, H⟩ := zbind H
        refine z_getR (pc := 52) dX11_law_52 fd_X11_32 er20 ?_
        obtain ⟨z21, H⟩ := zifE H
        obtain ⟨q22, eq22, H⟩ := zbind H
        refine z_callV (pc := 55) (mc := 0) (ms := 0) (d' := 2) (mc' := 1) (ms' := 1000) (rest := [.int v1, .int x19, .ref q13.2.1.1, .ref q13.2.1.1, .ref r17]) [] dX11_law_55 md_X7_written ml_X11_178 im_X7_written se_X7_written rfl z21 rfl rfl (Nat.le_of_ble_eq_true rfl) (by omega) (k_X7_written eq22) ?_
        obtain ⟨h23, eh23, H⟩ := zbind H
        refine z_callI (pc := 58) (mc := 0) (ms := 0) (d' := 1) (mc' := 0) (ms' := 0) (rest := [.ref q13.2.1.1, .ref r17]) [.int x19, .int v1, .ref q22.1] dX11_law_58 md_X4_init ml_X11_182 im_X4_init rfl rfl rfl (Nat.le_of_ble_eq_true rfl) (by omega) (k_X4_init eh23) ?_
        obtain ⟨z24, H⟩ := zifE H
        obtain ⟨h25, eh25, H⟩ := zbind H
        refine z_callV (pc := 61) (mc := 0) (ms := 0) (d' := 0) (mc' := 0) (ms' := 0) (rest := []) [.ref q13.2.1.1] dX11_law_61 md_X1_add ml_X11_185 im_X1_add se_X1_add rfl z24 rfl rfl (Nat.le_of_ble_eq_true rfl) (by omega) (k_X1_add eh25) ?_
        refine z_aload_n (pc := 64) 1 dX11_law_64 rfl rfl ?_
        obtain ⟨r26, er26, H⟩ := zbind H
        refine z_getR (pc := 65) dX11_law_65 fd_X11_25 er26 ?_
        refine z_iconst (pc := 68) (x := 0) dX11_law_68 zc_iconst_0 ?_
        obtain ⟨h27, eh27, H⟩ := zbind H
        refine z_put (pc := 69) dX11_law_69 fd_X11_165 rfl rfl eh27 ?_
        refine z_iload_n (pc := 72) 0 dX11_law_72 rfl rfl ?_
        cases H
        exact z_ireturn rfl dX11_law_73

def f_X11_viewNow (N : Nat) (v0 : Nat) (h : zH) : Option (Int32) := (gI h v0 11 12).bind fun x1 => if x1 = (-1) then ((gI h v0 11 11).bind fun x4 => some x4) else ((gI h v0 11 12).bind fun x3 => some x3)
set_option maxRecDepth 100000 in
set_option maxHeartbeats 4000000 in
theorem k_X11_viewNow {N : Nat} {v0 : Nat} {h : zH} {r : Int32} (H : f_X11_viewNow N v0 h = some r) : zOk 0 0 0 yX11_viewNow cX11_viewNow 1 (some .int) [.ref v0] h (some (.int r)) h := by
  refine zOk.of (by decide) (Nat.le_of_ble_eq_true rfl) ?_
  unfold f_X11_viewNow at H
  refine z_aload_n (pc := 0) 0 dX11_viewNow_0 rfl rfl ?_
  obtain ⟨x1, ex1, H⟩ := zbind H
  refine z_getI (pc := 1) dX11_viewNow_1 fd_X11_78 ex1 ?_
  refine z_iconst (pc := 4) (x := (-1)) dX11_viewNow_4 zc_iconst_m1 ?_
  refine z_icmp_ne (pc := 5) 15 dX11_viewNow_5 (by decide) (fun c2 => ?_) (fun c2 => ?_)
  · rw [if_neg c2] at H
    refine z_aload_n (pc := 15) 0 dX11_viewNow_15 rfl rfl ?_
    obtain ⟨x3, ex3, H⟩ := zbind H
    refine z_getI (pc := 16) dX11_viewNow_16 fd_X11_78 ex3 ?_
    cases H
    exact z_ireturn rfl dX11_viewNow_19
  · rw [if_pos c2] at H
    refine z_aload_n (pc := 8) 0 dX11_viewNow_8 rfl rfl ?_
    obtain ⟨x4, ex4, H⟩ := zbind H
    refine z_getI (pc := 9) dX11_viewNow_9 fd_X11_86 ex4 ?_
    refine z_goto (pc := 12) 19 dX11_viewNow_12 (by decide) ?_
    cases H
    exact z_ireturn rfl dX11_viewNow_19

theorem md_X11_viewNow : zMd yX11_viewNow cX11_viewNow 1 0 (some .int) := ⟨zmw (zmt_4 _ (List.mem_of_getElem? (i := 97) rfl)) rfl, zmem 112 (by decide +kernel) rfl, by decide, by decide, by decide +kernel, by decide⟩
theorem ml_X11_189 : Cond.methodLink RX11 189 yX11_viewNow ∈ zB := zmem 925 (by decide +kernel) rfl
theorem im_X11_viewNow : Cond.instanceMethod yX11_viewNow ∈ zB := zmem 927 (by decide +kernel) rfl
theorem se_X11_viewNow : Cond.selects yX11_viewNow.cls yX11_viewNow yX11_viewNow ∈ zB := zmem 28 (by decide +kernel) rfl
theorem md_X1_judge : zMd yX1_judge cX1_judge 5 3 none := ⟨zmw (zmt_4 _ (List.mem_of_getElem? (i := 101) rfl)) rfl, zmem 120 (by decide +kernel) rfl, by decide, by decide, by decide +kernel, by decide⟩
theorem ml_X11_192 : Cond.methodLink RX11 192 yX1_judge ∈ zB := zmem 929 (by decide +kernel) rfl
theorem im_X1_judge : Cond.instanceMethod yX1_judge ∈ zB := zmem 930 (by decide +kernel) rfl
theorem se_X1_judge : Cond.selects yX1_judge.cls yX1_judge yX1_judge ∈ zB := zmem 931 (by decide +kernel) rfl
theorem fd_X11_195 : zFd RX11 195 1 4 (.int) false "WhoseStreet$Book" := zFd.of cl_1 (by decide) (zmem 318 (by decide +kernel) rfl) rfl rfl rfl
theorem fd_X11_198 : zFd RX11 198 1 5 (.int) false "WhoseStreet$Book" := zFd.of cl_1 (by decide) (zmem 320 (by decide +kernel) rfl) rfl rfl rfl
theorem fd_X11_201 : zFd RX11 201 1 6 (.int) false "WhoseStreet$Book" := zFd.of cl_1 (by decide) (zmem 322 (by decide +kernel) rfl) rfl rfl rfl
theorem fd_X11_204 : zFd RX11 204 1 7 (.int) false "WhoseStreet$Book" := zFd.of cl_1 (by decide) (zmem 324 (by decide +kernel) rfl) rfl rfl rfl
def f_X11_whose (N : Nat) (v0 : Nat) (v1 : Int32) (v2 : Int32) (v3 : Int32) (h : zH) : Option (Int32 × zH) := zif (zob h v0 11) <| (f_X11_meetingOf N v0 v1 h).bind fun q2 => zopt q2 (some ((-1), h)) (fun a3 => if (p_X11_within v2 0 30) = 0 then (some ((-1), h)) else ((gR h v0 11 4).bind fun r6 => zif (zob h v0 11) <| (f_X11_viewNow N v0 h).bind fun q8 => zif (zob h r6 1) <| (f_X1_judge N r6 a3 v2 q8 h).bind fun h10 => if v3 = 0 then ((gR h10 v0 11 4).bind fun r12 => (gI h10 r12 1 4).bind fun x13 => some (x13, h10)) else (if v3 = 1 then ((gR h10 v0 11 4).bind fun r15 => (gI h10 r15 1 5).bind fun x16 => some (x16, h10)) else (if v3 = 2 then ((gR h10 v0 11 4).bind fun r18 => (gI h10 r18 1 6).bind fun x19 => some (x19, h10)) else (if v3 = 3 then ((gR h10 v0 11 4).bind fun r21 => (gI h10 r21 1 7).bind fun x22 => some (x22, h10)) else (some ((-1), h10)))))))
set_option maxRecDepth 100000 in
set_option maxHeartbeats 4000000 in
theorem k_X11_whose {N : Nat} {v0 : Nat} {v1 : Int32} {v2 : Int32} {v3 : Int32} {h : zH} {r : Int32 × zH} (H : f_X11_whose N v0 v1 v2 v3 h = some r) : zOk 7 0 0 yX11_whose cX11_whose 5 (some .int) [.ref v0, .int v1, .int v2, .int v3] h (some (.int r.1)) r.2 := by
  refine zOk.of (by decide) (Nat.le_of_ble_eq_true rfl) ?_
  unfold f_X11_whose at H
  refine z_aload_n (pc := 0) 0 dX11_whose_0 rfl rfl ?_
  refine z_iload_n (pc := 1) 1 dX11_whose_1 rfl rfl ?_
  obtain ⟨z1, H⟩ := zifE H
  obtain ⟨q2, eq2, H⟩ := zbind H
  refine z_callV (pc := 2) (mc := 0) (ms := 0) (d' := 0) (mc' := 0) (ms' := 0) (rest := []) [.int v1] dX11_whose_2 md_X11_meetingOf ml_X11_99 im_X11_meetingOf se_X11_meetingOf rfl z1 rfl rfl (Nat.le_of_ble_eq_true rfl) (by omega) (k_X11_meetingOf eq2) ?_
  refine z_astoreQ (pc := 5) (lv' := [(4, va_rf q2), (0, .ref v0), (1, .int v1), (2, .int v2), (3, .int v3)]) dX11_whose_5 (by decide) rfl ?_
  refine z_aloadQ (pc := 7) 0 dX11_whose_7 rfl ?_
  refine z_ifnull (pc := 9) 22 dX11_whose_9 (by decide) (fun c4 => ?_) (fun a3 c4 => ?_)
  · subst c4
    have H := zoptN H
    refine z_iconst (pc := 22) (x := (-1)) dX11_whose_22 zc_iconst_m1 ?_
    cases H
    exact z_ireturn rfl dX11_whose_23
  · subst c4
    have H := zoptS H
    refine z_sub (lv' := [(4, .ref a3), (0, .ref v0), (1, .int v1), (2, .int v2), (3, .int v3)]) [0, 1, 2, 3, 4] rfl ?_
    refine z_iload_n (pc := 12) 3 dX11_whose_12 rfl rfl ?_
    refine z_iconst (pc := 13) (x := 0) dX11_whose_13 zc_iconst_0 ?_
    refine z_bipush (pc := 14) (x := 30) dX11_whose_14 zc_bipush_30 ?_
    refine z_callS (pc := 16) (mc := 0) (ms := 0) (d' := 0) (mc' := 0) (ms' := 0) (rest := []) [.int v2, .int 0, .int 30] dX11_whose_16 md_X11_within ml_X11_82 sm_X11_within rfl rfl (Nat.le_of_ble_eq_true rfl) (by omega) (k_X11_within v2 0 30 h _ rfl) ?_
    refine z_if_ne (pc := 19) 24 dX11_whose_19 (by decide) (fun c5 => ?_) (fun c5 => ?_)
    · rw [if_neg c5] at H
      refine z_aload_n (pc := 24) 1 dX11_whose_24 rfl rfl ?_
      obtain ⟨r6, er6, H⟩ := zbind H
      refine z_getR (pc := 25) dX11_whose_25 fd_X11_39 er6 ?_
      refine z_aload (pc := 28) 0 dX11_whose_28 rfl ?_
      refine z_iload_n (pc := 30) 3 dX11_whose_30 rfl rfl ?_
      refine z_aload_n (pc := 31) 1 dX11_whose_31 rfl rfl ?_
      obtain ⟨z7, H⟩ := zifE H
      obtain ⟨q8, eq8, H⟩ := zbind H
      refine z_callV (pc := 32) (mc := 0) (ms := 0) (d' := 0) (mc' := 0) (ms' := 0) (rest := [.int v2, .ref a3, .ref r6]) [] dX11_whose_32 md_X11_viewNow ml_X11_189 im_X11_viewNow se_X11_viewNow rfl z7 rfl rfl (Nat.le_of_ble_eq_true rfl) (by omega) (k_X11_viewNow eq8) ?_
      obtain ⟨z9, H⟩ := zifE H
      obtain ⟨h10, eh10, H⟩ := zbind H
      refine z_callV (pc := 35) (mc := 0) (ms := 0) (d' := 6) (mc' := 0) (ms' := 0) (rest := []) [.ref a3, .int v2, .int q8] dX11_whose_35 md_X1_judge ml_X11_192 im_X1_judge se_X1_judge rfl z9 rfl rfl (Nat.le_of_ble_eq_true rfl) (by omega) (k_X1_judge eh10) ?_
      refine z_iload_n (pc := 38) 4 dX11_whose_38 rfl rfl ?_
      by_cases c11 : v3 = 0
      · rw [if_pos c11] at H
        refine z_tswIn (pc := 39) (off := 29) 68 dX11_whose_39 (by rw [c11]; decide) (by rw [c11]; decide) (by rw [c11]; decide) (by decide) ?_
        refine z_aload_n (pc := 68) 1 dX11_whose_68 rfl rfl ?_
        obtain ⟨r12, er12, H⟩ := zbind H
        refine z_getR (pc := 69) dX11_whose_69 fd_X11_39 er12 ?_
        obtain ⟨x13, ex13, H⟩ := zbind H
        refine z_getI (pc := 72) dX11_whose_72 fd_X11_195 ex13 ?_
        cases H
        exact z_ireturn rfl dX11_whose_75
      rw [if_neg c11] at H
      by_cases c14 : v3 = 1
      · rw [if_pos c14] at H
        refine z_tswIn (pc := 39) (off := 37) 76 dX11_whose_39 (by rw [c14]; decide) (by rw [c14]; decide) (by rw [c14]; decide) (by decide) ?_
        refine z_aload_n (pc := 76) 1 dX11_whose_76 rfl rfl ?_
        obtain ⟨r15, er15, H⟩ := zbind H
        refine z_getR (pc := 77) dX11_whose_77 fd_X11_39 er15 ?_
        obtain ⟨x16, ex16, H⟩ := zbind H
        refine z_getI (pc := 80) dX11_whose_80 fd_X11_198 ex16 ?_
        cases H
        exact z_ireturn rfl dX11_whose_83
      rw [if_neg c14] at H
      by_cases c17 : v3 = 2
      · rw [if_pos c17] at H
        refine z_tswIn (pc := 39) (off := 45) 84 dX11_whose_39 (by rw [c17]; decide) (by rw [c17]; decide) (by rw [c17]; decide) (by decide) ?_
        refine z_aload_n (pc := 84) 1 dX11_whose_84 rfl rfl ?_
        obtain ⟨r18, er18, H⟩ := zbind H
        refine z_getR (pc := 85) dX11_whose_85 fd_X11_39 er18 ?_
        obtain ⟨x19, ex19, H⟩ := zbind H
        refine z_getI (pc := 88) dX11_whose_88 fd_X11_201 ex19 ?_
        cases H
        exact z_ireturn rfl dX11_whose_91
      rw [if_neg c17] at H
      by_cases c20 : v3 = 3
      · rw [if_pos c20] at H
        refine z_tswIn (pc := 39) (off := 53) 92 dX11_whose_39 (by rw [c20]; decide) (by rw [c20]; decide) (by rw [c20]; decide) (by decide) ?_
        refine z_aload_n (pc := 92) 1 dX11_whose_92 rfl rfl ?_
        obtain ⟨r21, er21, H⟩ := zbind H
        refine z_getR (pc := 93) dX11_whose_93 fd_X11_39 er21 ?_
        obtain ⟨x22, ex22, H⟩ := zbind H
        refine z_getI (pc := 96) dX11_whose_96 fd_X11_204 ex22 ?_
        cases H
        exact z_ireturn rfl dX11_whose_99
      rw [if_neg c20] at H
      refine z_tswOut (pc := 39) 100 dX11_whose_39 (by have := lv_neT (a := 0) c11 (by decide); have := lv_neT (a := 1) c14 (by decide); have := lv_neT (a := 2) c17 (by decide); have := lv_neT (a := 3) c20 (by decide); omega) (by decide) ?_
      refine z_iconst (pc := 100) (x := (-1)) dX11_whose_100 zc_iconst_m1 ?_
      cases H
      exact z_ireturn rfl dX11_whose_101
    · rw [if_pos c5] at H
      refine z_iconst (pc := 22) (x := (-1)) dX11_whose_22 zc_iconst_m1 ?_
      cases H
      exact z_ireturn rfl dX11_whose_23

def f_X11_changes_L44 (N : Nat) (v0 : Nat) (v2 : Int32) (v3 : Option Nat) : Nat → Int32 → Int32 → Int32 → zH → Option ((zH) ⊕ (Int32 × zH))
  | 0, _, _, _, _ => none
  | n + 1, v4, v5, v6, h => if 30 < v6 then (some (.inl h)) else ((gR h v0 11 4).bind fun r14 => v3.bind fun a15 => zif (zob h v0 11) <| (f_X11_viewNow N v0 h).bind fun q17 => zif (zob h r14 1) <| (f_X1_judge N r14 a15 v6 q17 h).bind fun h19 => (gR h19 v0 11 4).bind fun r20 => (gI h19 r20 1 4).bind fun x21 => (if x21 = v4 then (some (.inl v5)) else (if v5 = v2 then ((some (.inr (v6, h19))).map .inr) else (some (.inl (v5 + 1)))) : Option ((Int32) ⊕ ((zH) ⊕ (Int32 × zH)))).bind fun m22 => zsum m22 fun s23 => (gR h19 v0 11 4).bind fun r27 => (gI h19 r27 1 4).bind fun x28 => f_X11_changes_L44 N v0 v2 v3 n x28 s23 (v6 + 1) h19)
set_option maxRecDepth 100000 in
set_option maxHeartbeats 4000000 in
theorem s_X11_changes_L44 {d mc ms N : Nat} {vv : Option Value} {hh : zH} {v0 : Nat} {v2 : Int32} {v3 : Option Nat} (hd0 : 7 ≤ d) : ∀ (n : Nat) (v4 : Int32) (v5 : Int32) (v6 : Int32) (h : zH) (m : (zH) ⊕ (Int32 × zH)), f_X11_changes_L44 N v0 v2 v3 n v4 v5 v6 h = some m → (∀ s, m = .inl s → zW yX11_changes cX11_changes 7 (some .int) d mc ms 104 [] [] s vv hh) → (∀ r, m = .inr r → vv = (some (.int r.1)) ∧ hh = r.2) → zW yX11_changes cX11_changes 7 (some .int) d mc ms 44 [(0, .ref v0), (2, .int v2), (3, va_rf v3), (4, .int v4), (5, .int v5), (6, .int v6)] [] h vv hh := by
  intro n
  induction n with
  | zero =>
    intro v4 v5 v6 h m H
    cases H
  | succ n ih =>
    intro v4 v5 v6 h m H KE KR
    unfold f_X11_changes_L44 at H
    refine z_iload (pc := 44) 5 dX11_changes_44 rfl ?_
    refine z_bipush (pc := 46) (x := 30) dX11_changes_46 zc_bipush_30 ?_
    refine z_icmp_gt (pc := 48) 104 dX11_changes_48 (by decide) (fun c13 => ?_) (fun c13 => ?_)
    · rw [if_pos c13] at H
      cases H
      exact z_sub [] rfl (KE _ rfl)
    · rw [if_neg c13] at H
      refine z_aload_n (pc := 51) 0 dX11_changes_51 rfl rfl ?_
      obtain ⟨r14, er14, H⟩ := zbind H
      refine z_getR (pc := 52) dX11_changes_52 fd_X11_39 er14 ?_
      refine z_aload_nQ (pc := 55) 2 dX11_changes_55 rfl rfl ?_
      obtain ⟨a15, ea15, H⟩ := zbind H
      refine z_nmQ ea15 ?_
      refine z_iload (pc := 56) 5 dX11_changes_56 rfl ?_
      refine z_aload_n (pc := 58) 0 dX11_changes_58 rfl rfl ?_
      obtain ⟨z16, H⟩ := zifE H
      obtain ⟨q17, eq17, H⟩ := zbind H
      refine z_callV (pc := 59) (mc := mc) (ms := ms) (d' := 0) (mc' := 0) (ms' := 0) (rest := [.int v6, .ref a15, .ref r14]) [] dX11_changes_59 md_X11_viewNow ml_X11_189 im_X11_viewNow se_X11_viewNow rfl z16 rfl rfl (Nat.le_of_ble_eq_true rfl) (by omega) (k_X11_viewNow eq17) ?_
      obtain ⟨z18, H⟩ := zifE H
      obtain ⟨h19, eh19, H⟩ := zbind H
      refine z_callV (pc := 62) (mc := mc) (ms := ms) (d' := 6) (mc' := 0) (ms' := 0) (rest := []) [.ref a15, .int v6, .int q17] dX11_changes_62 md_X1_judge ml_X11_192 im_X1_judge se_X1_judge rfl z18 rfl rfl (Nat.le_of_ble_eq_true rfl) (by omega) (k_X1_judge eh19) ?_
      refine z_aload_n (pc := 65) 0 dX11_changes_65 rfl rfl ?_
      obtain ⟨r20, er20, H⟩ := zbind H
      refine z_getR (pc := 66) dX11_changes_66 fd_X11_39 er20 ?_
      obtain ⟨x21, ex21, H⟩ := zbind H
      refine z_getI (pc := 69) dX11_changes_69 fd_X11_195 ex21 ?_
      refine z_iload (pc := 72) 3 dX11_changes_72 rfl ?_
      obtain ⟨m22, em22, H⟩ := zbind H
      have Jm22 : ∀ s23, m22 = .inl s23 → zW yX11_changes cX11_changes 7 (some .int) d mc ms 89 [(0, .ref v0), (2, .int v2), (3, va_rf v3), (5, .int s23), (6, .int v6)] [] h19 vv hh := by
        intro s23 e9
        subst e9
        have H := zsumL H
        refine z_aload_n (pc := 89) 0 dX11_changes_89 rfl rfl ?_
        obtain ⟨r27, er27, H⟩ := zbind H
        refine z_getR (pc := 90) dX11_changes_90 fd_X11_39 er27 ?_
        obtain ⟨x28, ex28, H⟩ := zbind H
        refine z_getI (pc := 93) dX11_changes_93 fd_X11_195 ex28 ?_
        refine z_istore (pc := 96) (lv' := [(4, .int x28), (0, .ref v0), (2, .int v2), (3, va_rf v3), (5, .int s23), (6, .int v6)]) dX11_changes_96 (by decide) (by generalize v3 = o8; cases o8 <;> rfl) ?_
        refine z_iinc (pc := 98) (x' := v6 + 1) (lv' := [(6, .int (v6 + 1)), (4, .int x28), (0, .ref v0), (2, .int v2), (3, va_rf v3), (5, .int s23)]) 5 dX11_changes_98 rfl (by rfl) (by decide) rfl ?_
        refine z_goto (pc := 101) 44 dX11_changes_101 (by decide) ?_
        exact z_sub [2, 3, 4, 1, 5, 0] rfl (ih x28 s23 (v6 + 1) h19 _ H KE KR)
      refine z_icmp_eq (pc := 74) 89 dX11_changes_74 (by decide) (fun c24 => ?_) (fun c24 => ?_)
      · rw [if_pos c24] at em22
        cases em22
        exact z_sub [0, 1, 2, 4, 5] rfl (Jm22 _ rfl)
      · rw [if_neg c24] at em22
        refine z_iload (pc := 77) 4 dX11_changes_77 rfl ?_
        refine z_iload_n (pc := 79) 1 dX11_changes_79 rfl rfl ?_
        refine z_icmp_ne (pc := 80) 86 dX11_changes_80 (by decide) (fun c25 => ?_) (fun c25 => ?_)
        · rw [if_neg c25] at em22
          refine z_iinc (pc := 86) (x' := v5 + 1) (lv' := [(5, .int (v5 + 1)), (0, .ref v0), (2, .int v2), (3, va_rf v3), (4, .int v4), (6, .int v6)]) 4 dX11_changes_86 rfl (by rfl) (by decide) rfl ?_
          cases em22
          exact z_sub [1, 2, 3, 0, 5] rfl (Jm22 _ rfl)
        · rw [if_pos c25] at em22
          refine z_iload (pc := 83) 5 dX11_changes_83 rfl ?_
          obtain ⟨o26, H9, e9⟩ := zmapR em22
          subst e9
          have H9 := H9.trans (zsumR H)
          cases H9
          obtain ⟨e8, e9⟩ := KR _ rfl
          subst e8
          subst e9
          exact z_ireturn rfl dX11_changes_85
def f_X11_changes (N : Nat) (v0 : Nat) (v1 : Int32) (v2 : Int32) (h : zH) : Option (Int32 × zH) := zif (zob h v0 11) <| (f_X11_meetingOf N v0 v1 h).bind fun q2 => zopt q2 (some ((-1), h)) (fun a3 => if 0 ≤ v2 then ((gR h v0 11 4).bind fun r6 => zif (zob h v0 11) <| (f_X11_viewNow N v0 h).bind fun q8 => zif (zob h r6 1) <| (f_X1_judge N r6 a3 0 q8 h).bind fun h10 => (gR h10 v0 11 4).bind fun r11 => (gI h10 r11 1 4).bind fun x12 => (f_X11_changes_L44 N v0 v2 a3 N x12 0 1 h10).bind fun m29 => zsum m29 fun s30 => some ((-1), s30)) else (some ((-1), h)))
set_option maxRecDepth 100000 in
set_option maxHeartbeats 4000000 in
theorem k_X11_changes {N : Nat} {v0 : Nat} {v1 : Int32} {v2 : Int32} {h : zH} {r : Int32 × zH} (H : f_X11_changes N v0 v1 v2 h = some r) : zOk 7 0 0 yX11_changes cX11_changes 7 (some .int) [.ref v0, .int v1, .int v2] h (some (.int r.1)) r.2 := by
  refine zOk.of (by decide) (Nat.le_of_ble_eq_true rfl) ?_
  unfold f_X11_changes at H
  refine z_aload_n (pc := 0) 0 dX11_changes_0 rfl rfl ?_
  refine z_iload_n (pc := 1) 1 dX11_changes_1 rfl rfl ?_
  obtain ⟨z1, H⟩ := zifE H
  obtain ⟨q2, eq2, H⟩ := zbind H
  refine z_callV (pc := 2) (mc := 0) (ms := 0) (d' := 0) (mc' := 0) (ms' := 0) (rest := []) [.int v1] dX11_changes_2 md_X11_meetingOf ml_X11_99 im_X11_meetingOf se_X11_meetingOf rfl z1 rfl rfl (Nat.le_of_ble_eq_true rfl) (by omega) (k_X11_meetingOf eq2) ?_
  refine z_astore_nQ (pc := 5) (lv' := [(3, va_rf q2), (0, .ref v0), (1, .int v1), (2, .int v2)]) dX11_changes_5 rfl (by decide) rfl ?_
  refine z_aload_nQ (pc := 6) 0 dX11_changes_6 rfl rfl ?_
  refine z_ifnull (pc := 7) 14 dX11_changes_7 (by decide) (fun c4 => ?_) (fun a3 c4 => ?_)
  · subst c4
    have H := zoptN H
    refine z_iconst (pc := 14) (x := (-1)) dX11_changes_14 zc_iconst_m1 ?_
    cases H
    exact z_ireturn rfl dX11_changes_15
  · subst c4
    have H := zoptS H
    refine z_sub (lv' := [(3, .ref a3), (0, .ref v0), (1, .int v1), (2, .int v2)]) [0, 1, 2, 3] rfl ?_
    refine z_iload_n (pc := 10) 3 dX11_changes_10 rfl rfl ?_
    refine z_if_ge (pc := 11) 16 dX11_changes_11 (by decide) (fun c5 => ?_) (fun c5 => ?_)
    · rw [if_pos c5] at H
      refine z_aload_n (pc := 16) 1 dX11_changes_16 rfl rfl ?_
      obtain ⟨r6, er6, H⟩ := zbind H
      refine z_getR (pc := 17) dX11_changes_17 fd_X11_39 er6 ?_
      refine z_aload_n (pc := 20) 0 dX11_changes_20 rfl rfl ?_
      refine z_iconst (pc := 21) (x := 0) dX11_changes_21 zc_iconst_0 ?_
      refine z_aload_n (pc := 22) 1 dX11_changes_22 rfl rfl ?_
      obtain ⟨z7, H⟩ := zifE H
      obtain ⟨q8, eq8, H⟩ := zbind H
      refine z_callV (pc := 23) (mc := 0) (ms := 0) (d' := 0) (mc' := 0) (ms' := 0) (rest := [.int 0, .ref a3, .ref r6]) [] dX11_changes_23 md_X11_viewNow ml_X11_189 im_X11_viewNow se_X11_viewNow rfl z7 rfl rfl (Nat.le_of_ble_eq_true rfl) (by omega) (k_X11_viewNow eq8) ?_
      obtain ⟨z9, H⟩ := zifE H
      obtain ⟨h10, eh10, H⟩ := zbind H
      refine z_callV (pc := 26) (mc := 0) (ms := 0) (d' := 6) (mc' := 0) (ms' := 0) (rest := []) [.ref a3, .int 0, .int q8] dX11_changes_26 md_X1_judge ml_X11_192 im_X1_judge se_X1_judge rfl z9 rfl rfl (Nat.le_of_ble_eq_true rfl) (by omega) (k_X1_judge eh10) ?_
      refine z_aload_n (pc := 29) 1 dX11_changes_29 rfl rfl ?_
      obtain ⟨r11, er11, H⟩ := zbind H
      refine z_getR (pc := 30) dX11_changes_30 fd_X11_39 er11 ?_
      obtain ⟨x12, ex12, H⟩ := zbind H
      refine z_getI (pc := 33) dX11_changes_33 fd_X11_195 ex12 ?_
      refine z_istore (pc := 36) (lv' := [(4, .int x12), (3, .ref a3), (0, .ref v0), (1, .int v1), (2, .int v2)]) dX11_changes_36 (by decide) rfl ?_
      refine z_iconst (pc := 38) (x := 0) dX11_changes_38 zc_iconst_0 ?_
      refine z_istore (pc := 39) (lv' := [(5, .int 0), (4, .int x12), (3, .ref a3), (0, .ref v0), (1, .int v1), (2, .int v2)]) dX11_changes_39 (by decide) rfl ?_
      refine z_iconst (pc := 41) (x := 1) dX11_changes_41 zc_iconst_1 ?_
      refine z_istore (pc := 42) (lv' := [(6, .int 1), (5, .int 0), (4, .int x12), (3, .ref a3), (0, .ref v0), (1, .int v1), (2, .int v2)]) dX11_changes_42 (by decide) rfl ?_
      obtain ⟨m29, em29, H⟩ := zbind H
      refine z_sub [4, 6, 3, 2, 1, 0] rfl (s_X11_changes_L44 (by omega) N x12 0 1 h10 _ em29 ?_ ?_)
      · intro s30 e9
        subst e9
        have H := zsumL H
        refine z_iconst (pc := 104) (x := (-1)) dX11_changes_104 zc_iconst_m1 ?_
        cases H
        exact z_ireturn rfl dX11_changes_105
      · intro r e9
        subst e9
        have H := zsumR H
        cases H
        exact ⟨rfl, rfl⟩
    · rw [if_neg c5] at H
      refine z_iconst (pc := 14) (x := (-1)) dX11_changes_14 zc_iconst_m1 ?_
      cases H
      exact z_ireturn rfl dX11_changes_15

theorem md_X0_add : zMd yX0_add cX0_add 4 3 (some .boolean) := ⟨zmw (zmt_4 _ (List.mem_of_getElem? (i := 149) rfl)) rfl, zmem 121 (by decide +kernel) rfl, by decide, by decide, by decide +kernel, by decide⟩
theorem ml_X11_207 : Cond.methodLink RX11 207 yX0_add ∈ zB := zmem 977 (by decide +kernel) rfl
theorem im_X0_add : Cond.instanceMethod yX0_add ∈ zB := zmem 978 (by decide +kernel) rfl
theorem se_X0_add : Cond.selects yX0_add.cls yX0_add yX0_add ∈ zB := zmem 979 (by decide +kernel) rfl
def f_X11_ruling (N : Nat) (v0 : Nat) (v1 : Int32) (v2 : Int32) (h : zH) : Option (Int32 × zH) := zif (zob h v0 11) <| (f_X11_meetingOf N v0 v1 h).bind fun q2 => zopt q2 (some (0, h)) (fun a3 => (gR h v0 11 5).bind fun r5 => (gI h v0 11 11).bind fun x6 => zif (zob h r5 0) <| (f_X0_add N r5 a3 x6 v2 h).bind fun q8 => if q8.1 = 0 then (some (0, q8.2)) else (some (1, q8.2)))
set_option maxRecDepth 100000 in
set_option maxHeartbeats 4000000 in
theorem k_X11_ruling {N : Nat} {v0 : Nat} {v1 : Int32} {v2 : Int32} {h : zH} {r : Int32 × zH} (H : f_X11_ruling N v0 v1 v2 h = some r) : zOk 1 0 0 yX11_ruling cX11_ruling 4 (some .boolean) [.ref v0, .int v1, .int v2] h (some (.int r.1)) r.2 := by
  refine zOk.of (by decide) (Nat.le_of_ble_eq_true rfl) ?_
  unfold f_X11_ruling at H
  refine z_aload_n (pc := 0) 0 dX11_ruling_0 rfl rfl ?_
  refine z_iload_n (pc := 1) 1 dX11_ruling_1 rfl rfl ?_
  obtain ⟨z1, H⟩ := zifE H
  obtain ⟨q2, eq2, H⟩ := zbind H
  refine z_callV (pc := 2) (mc := 0) (ms := 0) (d' := 0) (mc' := 0) (ms' := 0) (rest := []) [.int v1] dX11_ruling_2 md_X11_meetingOf ml_X11_99 im_X11_meetingOf se_X11_meetingOf rfl z1 rfl rfl (Nat.le_of_ble_eq_true rfl) (by omega) (k_X11_meetingOf eq2) ?_
  refine z_astore_nQ (pc := 5) (lv' := [(3, va_rf q2), (0, .ref v0), (1, .int v1), (2, .int v2)]) dX11_ruling_5 rfl (by decide) rfl ?_
  refine z_aload_nQ (pc := 6) 0 dX11_ruling_6 rfl rfl ?_
  refine z_ifnull (pc := 7) 30 dX11_ruling_7 (by decide) (fun c4 => ?_) (fun a3 c4 => ?_)
  · subst c4
    have H := zoptN H
    refine z_iconst (pc := 30) (x := 0) dX11_ruling_30 zc_iconst_0 ?_
    cases H
    exact z_zreturn rfl dX11_ruling_31 (by decide)
  · subst c4
    have H := zoptS H
    refine z_sub (lv' := [(3, .ref a3), (0, .ref v0), (1, .int v1), (2, .int v2)]) [0, 1, 2, 3] rfl ?_
    refine z_aload_n (pc := 10) 1 dX11_ruling_10 rfl rfl ?_
    obtain ⟨r5, er5, H⟩ := zbind H
    refine z_getR (pc := 11) dX11_ruling_11 fd_X11_46 er5 ?_
    refine z_aload_n (pc := 14) 0 dX11_ruling_14 rfl rfl ?_
    refine z_aload_n (pc := 15) 1 dX11_ruling_15 rfl rfl ?_
    obtain ⟨x6, ex6, H⟩ := zbind H
    refine z_getI (pc := 16) dX11_ruling_16 fd_X11_86 ex6 ?_
    refine z_iload_n (pc := 19) 3 dX11_ruling_19 rfl rfl ?_
    obtain ⟨z7, H⟩ := zifE H
    obtain ⟨q8, eq8, H⟩ := zbind H
    refine z_callV (pc := 20) (mc := 0) (ms := 0) (d' := 0) (mc' := 0) (ms' := 0) (rest := []) [.ref a3, .int x6, .int v2] dX11_ruling_20 md_X0_add ml_X11_207 im_X0_add se_X0_add rfl z7 rfl rfl (Nat.le_of_ble_eq_true rfl) (by omega) (k_X0_add eq8) ?_
    refine z_if_eq (pc := 23) 30 dX11_ruling_23 (by decide) (fun c9 => ?_) (fun c9 => ?_)
    · rw [if_pos c9] at H
      refine z_iconst (pc := 30) (x := 0) dX11_ruling_30 zc_iconst_0 ?_
      cases H
      exact z_zreturn rfl dX11_ruling_31 (by decide)
    · rw [if_neg c9] at H
      refine z_iconst (pc := 26) (x := 1) dX11_ruling_26 zc_iconst_1 ?_
      refine z_goto (pc := 27) 31 dX11_ruling_27 (by decide) ?_
      cases H
      exact z_zreturn rfl dX11_ruling_31 (by decide)

theorem md_X0_keepFrom : zMd yX0_keepFrom cX0_keepFrom 3 2 none := ⟨zmw (zmt_4 _ (List.mem_of_getElem? (i := 157) rfl)) rfl, zmem 121 (by decide +kernel) rfl, by decide, by decide, by decide +kernel, by decide⟩
theorem ml_X11_210 : Cond.methodLink RX11 210 yX0_keepFrom ∈ zB := zmem 985 (by decide +kernel) rfl
theorem im_X0_keepFrom : Cond.instanceMethod yX0_keepFrom ∈ zB := zmem 986 (by decide +kernel) rfl
theorem se_X0_keepFrom : Cond.selects yX0_keepFrom.cls yX0_keepFrom yX0_keepFrom ∈ zB := zmem 987 (by decide +kernel) rfl
theorem fd_X11_214 : zFd RX11 214 0 6 (.int) false "WhoseStreet$Bench" := zFd.of cl_0 (by decide) (zmem 366 (by decide +kernel) rfl) rfl rfl rfl
def f_X11_customs (N : Nat) (v0 : Nat) (v1 : Int32) (h : zH) : Option (Int32 × zH) := if (p_X11_within v1 0 30) = 0 then (some ((-1), h)) else ((gR h v0 11 5).bind fun r2 => zif (zob h v0 11) <| (f_X11_viewNow N v0 h).bind fun q4 => zif (zob h r2 0) <| (f_X0_keepFrom N r2 v1 q4 h).bind fun h6 => (gR h6 v0 11 5).bind fun r7 => (gI h6 r7 0 6).bind fun x8 => some (x8, h6))
set_option maxRecDepth 100000 in
set_option maxHeartbeats 4000000 in
theorem k_X11_customs {N : Nat} {v0 : Nat} {v1 : Int32} {h : zH} {r : Int32 × zH} (H : f_X11_customs N v0 v1 h = some r) : zOk 6 0 0 yX11_customs cX11_customs 2 (some .int) [.ref v0, .int v1] h (some (.int r.1)) r.2 := by
  refine zOk.of (by decide) (Nat.le_of_ble_eq_true rfl) ?_
  unfold f_X11_customs at H
  refine z_iload_n (pc := 0) 1 dX11_customs_0 rfl rfl ?_
  refine z_iconst (pc := 1) (x := 0) dX11_customs_1 zc_iconst_0 ?_
  refine z_bipush (pc := 2) (x := 30) dX11_customs_2 zc_bipush_30 ?_
  refine z_callS (pc := 4) (mc := 0) (ms := 0) (d' := 0) (mc' := 0) (ms' := 0) (rest := []) [.int v1, .int 0, .int 30] dX11_customs_4 md_X11_within ml_X11_82 sm_X11_within rfl rfl (Nat.le_of_ble_eq_true rfl) (by omega) (k_X11_within v1 0 30 h _ rfl) ?_
  refine z_if_ne (pc := 7) 12 dX11_customs_7 (by decide) (fun c1 => ?_) (fun c1 => ?_)
  · rw [if_neg c1] at H
    refine z_aload_n (pc := 12) 0 dX11_customs_12 rfl rfl ?_
    obtain ⟨r2, er2, H⟩ := zbind H
    refine z_getR (pc := 13) dX11_customs_13 fd_X11_46 er2 ?_
    refine z_iload_n (pc := 16) 1 dX11_customs_16 rfl rfl ?_
    refine z_aload_n (pc := 17) 0 dX11_customs_17 rfl rfl ?_
    obtain ⟨z3, H⟩ := zifE H
    obtain ⟨q4, eq4, H⟩ := zbind H
    refine z_callV (pc := 18) (mc := 0) (ms := 0) (d' := 0) (mc' := 0) (ms' := 0) (rest := [.int v1, .ref r2]) [] dX11_customs_18 md_X11_viewNow ml_X11_189 im_X11_viewNow se_X11_viewNow rfl z3 rfl rfl (Nat.le_of_ble_eq_true rfl) (by omega) (k_X11_viewNow eq4) ?_
    obtain ⟨z5, H⟩ := zifE H
    obtain ⟨h6, eh6, H⟩ := zbind H
    refine z_callV (pc := 21) (mc := 0) (ms := 0) (d' := 5) (mc' := 0) (ms' := 0) (rest := []) [.int v1, .int q4] dX11_customs_21 md_X0_keepFrom ml_X11_210 im_X0_keepFrom se_X0_keepFrom rfl z5 rfl rfl (Nat.le_of_ble_eq_true rfl) (by omega) (k_X0_keepFrom eh6) ?_
    refine z_aload_n (pc := 24) 0 dX11_customs_24 rfl rfl ?_
    obtain ⟨r7, er7, H⟩ := zbind H
    refine z_getR (pc := 25) dX11_customs_25 fd_X11_46 er7 ?_
    obtain ⟨x8, ex8, H⟩ := zbind H
    refine z_getI (pc := 28) dX11_customs_28 fd_X11_214 ex8 ?_
    cases H
    exact z_ireturn rfl dX11_customs_31
  · rw [if_pos c1] at H
    refine z_iconst (pc := 10) (x := (-1)) dX11_customs_10 zc_iconst_m1 ?_
    cases H
    exact z_ireturn rfl dX11_customs_11

theorem md_X0_judge : zMd yX0_judge cX0_judge 5 1 (some .int) := ⟨zmw (zmt_4 _ (List.mem_of_getElem? (i := 187) rfl)) rfl, zmem 121 (by decide +kernel) rfl, by decide, by decide, by decide +kernel, by decide⟩
theorem ml_X11_217 : Cond.methodLink RX11 217 yX0_judge ∈ zB := zmem 1015 (by decide +kernel) rfl
theorem im_X0_judge : Cond.instanceMethod yX0_judge ∈ zB := zmem 1016 (by decide +kernel) rfl
theorem se_X0_judge : Cond.selects yX0_judge.cls yX0_judge yX0_judge ∈ zB := zmem 1017 (by decide +kernel) rfl
def f_X11_held (N : Nat) (v0 : Nat) (v1 : Int32) (v2 : Int32) (h : zH) : Option (Int32 × zH) := zif (zob h v0 11) <| (f_X11_meetingOf N v0 v1 h).bind fun q2 => zopt q2 (some ((-1), h)) (fun a3 => if (p_X11_within v2 0 30) = 0 then (some ((-1), h)) else ((gR h v0 11 5).bind fun r6 => zif (zob h v0 11) <| (f_X11_viewNow N v0 h).bind fun q8 => zif (zob h r6 0) <| (f_X0_keepFrom N r6 v2 q8 h).bind fun h10 => (gR h10 v0 11 5).bind fun r11 => zif (zob h10 r11 0) <| (f_X0_judge N r11 a3 h10).bind fun q13 => some (q13, h10)))
set_option maxRecDepth 100000 in
set_option maxHeartbeats 4000000 in
theorem k_X11_held {N : Nat} {v0 : Nat} {v1 : Int32} {v2 : Int32} {h : zH} {r : Int32 × zH} (H : f_X11_held N v0 v1 v2 h = some r) : zOk 6 0 0 yX11_held cX11_held 4 (some .int) [.ref v0, .int v1, .int v2] h (some (.int r.1)) r.2 := by
  refine zOk.of (by decide) (Nat.le_of_ble_eq_true rfl) ?_
  unfold f_X11_held at H
  refine z_aload_n (pc := 0) 0 dX11_held_0 rfl rfl ?_
  refine z_iload_n (pc := 1) 1 dX11_held_1 rfl rfl ?_
  obtain ⟨z1, H⟩ := zifE H
  obtain ⟨q2, eq2, H⟩ := zbind H
  refine z_callV (pc := 2) (mc := 0) (ms := 0) (d' := 0) (mc' := 0) (ms' := 0) (rest := []) [.int v1] dX11_held_2 md_X11_meetingOf ml_X11_99 im_X11_meetingOf se_X11_meetingOf rfl z1 rfl rfl (Nat.le_of_ble_eq_true rfl) (by omega) (k_X11_meetingOf eq2) ?_
  refine z_astore_nQ (pc := 5) (lv' := [(3, va_rf q2), (0, .ref v0), (1, .int v1), (2, .int v2)]) dX11_held_5 rfl (by decide) rfl ?_
  refine z_aload_nQ (pc := 6) 0 dX11_held_6 rfl rfl ?_
  refine z_ifnull (pc := 7) 20 dX11_held_7 (by decide) (fun c4 => ?_) (fun a3 c4 => ?_)
  · subst c4
    have H := zoptN H
    refine z_iconst (pc := 20) (x := (-1)) dX11_held_20 zc_iconst_m1 ?_
    cases H
    exact z_ireturn rfl dX11_held_21
  · subst c4
    have H := zoptS H
    refine z_sub (lv' := [(3, .ref a3), (0, .ref v0), (1, .int v1), (2, .int v2)]) [0, 1, 2, 3] rfl ?_
    refine z_iload_n (pc := 10) 3 dX11_held_10 rfl rfl ?_
    refine z_iconst (pc := 11) (x := 0) dX11_held_11 zc_iconst_0 ?_
    refine z_bipush (pc := 12) (x := 30) dX11_held_12 zc_bipush_30 ?_
    refine z_callS (pc := 14) (mc := 0) (ms := 0) (d' := 0) (mc' := 0) (ms' := 0) (rest := []) [.int v2, .int 0, .int 30] dX11_held_14 md_X11_within ml_X11_82 sm_X11_within rfl rfl (Nat.le_of_ble_eq_true rfl) (by omega) (k_X11_within v2 0 30 h _ rfl) ?_
    refine z_if_ne (pc := 17) 22 dX11_held_17 (by decide) (fun c5 => ?_) (fun c5 => ?_)
    · rw [if_neg c5] at H
      refine z_aload_n (pc := 22) 1 dX11_held_22 rfl rfl ?_
      obtain ⟨r6, er6, H⟩ := zbind H
      refine z_getR (pc := 23) dX11_held_23 fd_X11_46 er6 ?_
      refine z_iload_n (pc := 26) 3 dX11_held_26 rfl rfl ?_
      refine z_aload_n (pc := 27) 1 dX11_held_27 rfl rfl ?_
      obtain ⟨z7, H⟩ := zifE H
      obtain ⟨q8, eq8, H⟩ := zbind H
      refine z_callV (pc := 28) (mc := 0) (ms := 0) (d' := 0) (mc' := 0) (ms' := 0) (rest := [.int v2, .ref r6]) [] dX11_held_28 md_X11_viewNow ml_X11_189 im_X11_viewNow se_X11_viewNow rfl z7 rfl rfl (Nat.le_of_ble_eq_true rfl) (by omega) (k_X11_viewNow eq8) ?_
      obtain ⟨z9, H⟩ := zifE H
      obtain ⟨h10, eh10, H⟩ := zbind H
      refine z_callV (pc := 31) (mc := 0) (ms := 0) (d' := 5) (mc' := 0) (ms' := 0) (rest := []) [.int v2, .int q8] dX11_held_31 md_X0_keepFrom ml_X11_210 im_X0_keepFrom se_X0_keepFrom rfl z9 rfl rfl (Nat.le_of_ble_eq_true rfl) (by omega) (k_X0_keepFrom eh10) ?_
      refine z_aload_n (pc := 34) 1 dX11_held_34 rfl rfl ?_
      obtain ⟨r11, er11, H⟩ := zbind H
      refine z_getR (pc := 35) dX11_held_35 fd_X11_46 er11 ?_
      refine z_aload_n (pc := 38) 0 dX11_held_38 rfl rfl ?_
      obtain ⟨z12, H⟩ := zifE H
      obtain ⟨q13, eq13, H⟩ := zbind H
      refine z_callV (pc := 39) (mc := 0) (ms := 0) (d' := 4) (mc' := 0) (ms' := 0) (rest := []) [.ref a3] dX11_held_39 md_X0_judge ml_X11_217 im_X0_judge se_X0_judge rfl z12 rfl rfl (Nat.le_of_ble_eq_true rfl) (by omega) (k_X0_judge eq13) ?_
      cases H
      exact z_ireturn rfl dX11_held_42
    · rw [if_pos c5] at H
      refine z_iconst (pc := 20) (x := (-1)) dX11_held_20 zc_iconst_m1 ?_
      cases H
      exact z_ireturn rfl dX11_held_21

theorem zc_bipush_15 : (Int8.ofInt (15)).toInt32 = (15 : Int32) := by decide
theorem md_X0_firstYearOf : zMd yX0_firstYearOf cX0_firstYearOf 5 2 (some .int) := ⟨zmw (zmt_4 _ (List.mem_of_getElem? (i := 195) rfl)) rfl, zmem 121 (by decide +kernel) rfl, by decide, by decide, by decide +kernel, by decide⟩
theorem ml_X11_219 : Cond.methodLink RX11 219 yX0_firstYearOf ∈ zB := zmem 1023 (by decide +kernel) rfl
theorem im_X0_firstYearOf : Cond.instanceMethod yX0_firstYearOf ∈ zB := zmem 1024 (by decide +kernel) rfl
theorem se_X0_firstYearOf : Cond.selects yX0_firstYearOf.cls yX0_firstYearOf yX0_firstYearOf ∈ zB := zmem 1025 (by decide +kernel) rfl
def f_X11_since (N : Nat) (v0 : Nat) (v1 : Int32) (h : zH) : Option (Int32 × zH) := if (p_X11_within v1 0 15) = 0 then (some ((-1), h)) else ((gR h v0 11 5).bind fun r2 => zif (zob h v0 11) <| (f_X11_viewNow N v0 h).bind fun q4 => zif (zob h r2 0) <| (f_X0_firstYearOf N r2 v1 q4 h).bind fun q6 => some (q6.1, q6.2))
set_option maxRecDepth 100000 in
set_option maxHeartbeats 4000000 in
theorem k_X11_since {N : Nat} {v0 : Nat} {v1 : Int32} {h : zH} {r : Int32 × zH} (H : f_X11_since N v0 v1 h = some r) : zOk 6 0 0 yX11_since cX11_since 2 (some .int) [.ref v0, .int v1] h (some (.int r.1)) r.2 := by
  refine zOk.of (by decide) (Nat.le_of_ble_eq_true rfl) ?_
  unfold f_X11_since at H
  refine z_iload_n (pc := 0) 1 dX11_since_0 rfl rfl ?_
  refine z_iconst (pc := 1) (x := 0) dX11_since_1 zc_iconst_0 ?_
  refine z_bipush (pc := 2) (x := 15) dX11_since_2 zc_bipush_15 ?_
  refine z_callS (pc := 4) (mc := 0) (ms := 0) (d' := 0) (mc' := 0) (ms' := 0) (rest := []) [.int v1, .int 0, .int 15] dX11_since_4 md_X11_within ml_X11_82 sm_X11_within rfl rfl (Nat.le_of_ble_eq_true rfl) (by omega) (k_X11_within v1 0 15 h _ rfl) ?_
  refine z_if_eq (pc := 7) 25 dX11_since_7 (by decide) (fun c1 => ?_) (fun c1 => ?_)
  · rw [if_pos c1] at H
    refine z_iconst (pc := 25) (x := (-1)) dX11_since_25 zc_iconst_m1 ?_
    cases H
    exact z_ireturn rfl dX11_since_26
  · rw [if_neg c1] at H
    refine z_aload_n (pc := 10) 0 dX11_since_10 rfl rfl ?_
    obtain ⟨r2, er2, H⟩ := zbind H
    refine z_getR (pc := 11) dX11_since_11 fd_X11_46 er2 ?_
    refine z_iload_n (pc := 14) 1 dX11_since_14 rfl rfl ?_
    refine z_aload_n (pc := 15) 0 dX11_since_15 rfl rfl ?_
    obtain ⟨z3, H⟩ := zifE H
    obtain ⟨q4, eq4, H⟩ := zbind H
    refine z_callV (pc := 16) (mc := 0) (ms := 0) (d' := 0) (mc' := 0) (ms' := 0) (rest := [.int v1, .ref r2]) [] dX11_since_16 md_X11_viewNow ml_X11_189 im_X11_viewNow se_X11_viewNow rfl z3 rfl rfl (Nat.le_of_ble_eq_true rfl) (by omega) (k_X11_viewNow eq4) ?_
    obtain ⟨z5, H⟩ := zifE H
    obtain ⟨q6, eq6, H⟩ := zbind H
    refine z_callV (pc := 19) (mc := 0) (ms := 0) (d' := 5) (mc' := 0) (ms' := 0) (rest := []) [.int v1, .int q4] dX11_since_19 md_X0_firstYearOf ml_X11_219 im_X0_firstYearOf se_X0_firstYearOf rfl z5 rfl rfl (Nat.le_of_ble_eq_true rfl) (by omega) (k_X0_firstYearOf eq6) ?_
    refine z_goto (pc := 22) 26 dX11_since_22 (by decide) ?_
    cases H
    exact z_ireturn rfl dX11_since_26

