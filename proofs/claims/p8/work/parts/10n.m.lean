theorem md_X12_signsOf : zMd yX12_signsOf cX12_signsOf 3 1 (some .int) := ⟨zmw (zmt_7 _ (List.mem_of_getElem? (i := 215) rfl)) rfl, zmem 127 (by decide +kernel) rfl, by decide, by decide, by decide +kernel, by decide⟩
theorem ml_X12_393 : Cond.methodLink RX12 393 yX12_signsOf ∈ zB := zmem 1763 (by decide +kernel) rfl
theorem im_X12_signsOf : Cond.instanceMethod yX12_signsOf ∈ zB := zmem 1765 (by decide +kernel) rfl
theorem se_X12_signsOf : Cond.selects yX12_signsOf.cls yX12_signsOf yX12_signsOf ∈ zB := zmem 87 (by decide +kernel) rfl
theorem md_X12_safeSpeed : zMd yX12_safeSpeed cX12_safeSpeed 3 1 (some .int) := ⟨zmw (zmt_7 _ (List.mem_of_getElem? (i := 200) rfl)) rfl, zmem 127 (by decide +kernel) rfl, by decide, by decide, by decide +kernel, by decide⟩
theorem ml_X12_390 : Cond.methodLink RX12 390 yX12_safeSpeed ∈ zB := zmem 1748 (by decide +kernel) rfl
theorem im_X12_safeSpeed : Cond.instanceMethod yX12_safeSpeed ∈ zB := zmem 1750 (by decide +kernel) rfl
theorem se_X12_safeSpeed : Cond.selects yX12_safeSpeed.cls yX12_safeSpeed yX12_safeSpeed ∈ zB := zmem 84 (by decide +kernel) rfl
def f_X12_look (N : Nat) (v0 : Nat) (v1 : Int32) (v2 : Int32) (h : zH) : Option (Int32 × zH) := (pF h v0 12 0 (.int 0)).bind fun h1 => zif (zob h1 v0 12) <| (f_X12_isMeeting N v0 v1 h1).bind fun q3 => if q3 = 0 then (some ((-1), h1)) else (if (p_X12_within v2 0 6) = 0 then (some ((-1), h1)) else (if v2 = 2 then (zif (zob h1 v0 12) <| (f_X12_safeSpeed N v0 v1 h1).bind fun q33 => some (q33.1, q33.2)) else (if v2 = 5 then (zif (zob h1 v0 12) <| (f_X12_signsOf N v0 v1 h1).bind fun q31 => some (q31.1, q31.2)) else ((gR h1 v0 12 30).bind fun r8 => (aI h1 r8 v1).bind fun x9 => zif (zob h1 v0 12) <| (f_X12_goesThrough N v0 v1 x9 h1).bind fun h11 => if v2 = 0 then ((gI h11 v0 12 43).bind fun x13 => if x13 = 0 then (some ((-1), h11)) else ((gI h11 v0 12 42).bind fun x15 => some (x15, h11))) else (if v2 = 1 then ((gI h11 v0 12 44).bind fun x17 => some (x17, h11)) else (if v2 = 2 then ((gI h11 v0 12 45).bind fun x19 => some (x19, h11)) else (if v2 = 3 then (zif (zob h11 v0 12) <| (f_X12_seenOf N v0 h11).bind fun q22 => some (q22, h11)) else (if v2 = 4 then ((gI h11 v0 12 43).bind fun x24 => if x24 = 0 then (some ((-1), h11)) else ((gR h11 v0 12 41).bind fun r26 => (gI h11 v0 12 42).bind fun x27 => (aI h11 r26 (x27 - 1)).bind fun x28 => some (x28, h11))) else ((gI h11 v0 12 45).bind fun x29 => some (x29, h11))))))))))
set_option maxRecDepth 100000 in
set_option maxHeartbeats 4000000 in
theorem k_X12_look {N : Nat} {v0 : Nat} {v1 : Int32} {v2 : Int32} {h : zH} {r : Int32 × zH} (H : f_X12_look N v0 v1 v2 h = some r) : zOk 3 0 0 yX12_look cX12_look 3 (some .int) [.ref v0, .int v1, .int v2] h (some (.int r.1)) r.2 := by
  refine zOk.of (by decide) (Nat.le_of_ble_eq_true rfl) ?_
  unfold f_X12_look at H
  refine z_aload_n (pc := 0) 0 dX12_look_0 rfl rfl ?_
  refine z_iconst (pc := 1) (x := 0) dX12_look_1 zc_iconst_0 ?_
  obtain ⟨h1, eh1, H⟩ := zbind H
  refine z_put (pc := 2) dX12_look_2 fd_X12_1 rfl rfl eh1 ?_
  refine z_aload_n (pc := 5) 0 dX12_look_5 rfl rfl ?_
  refine z_iload_n (pc := 6) 1 dX12_look_6 rfl rfl ?_
  obtain ⟨z2, H⟩ := zifE H
  obtain ⟨q3, eq3, H⟩ := zbind H
  refine z_callV (pc := 7) (mc := 0) (ms := 0) (d' := 0) (mc' := 0) (ms' := 0) (rest := []) [.int v1] dX12_look_7 md_X12_isMeeting ml_X12_362 im_X12_isMeeting se_X12_isMeeting rfl z2 rfl rfl (Nat.le_of_ble_eq_true rfl) (by omega) (k_X12_isMeeting eq3) ?_
  refine z_if_eq (pc := 10) 23 dX12_look_10 (by decide) (fun c4 => ?_) (fun c4 => ?_)
  · rw [if_pos c4] at H
    refine z_iconst (pc := 23) (x := (-1)) dX12_look_23 zc_iconst_m1 ?_
    cases H
    exact z_ireturn rfl dX12_look_24
  · rw [if_neg c4] at H
    refine z_iload_n (pc := 13) 2 dX12_look_13 rfl rfl ?_
    refine z_iconst (pc := 14) (x := 0) dX12_look_14 zc_iconst_0 ?_
    refine z_bipush (pc := 15) (x := 6) dX12_look_15 zc_bipush_6 ?_
    refine z_callS (pc := 17) (mc := 0) (ms := 0) (d' := 0) (mc' := 0) (ms' := 0) (rest := []) [.int v2, .int 0, .int 6] dX12_look_17 md_X12_within ml_X12_352 sm_X12_within rfl rfl (Nat.le_of_ble_eq_true rfl) (by omega) (k_X12_within v2 0 6 h1 _ rfl) ?_
    refine z_if_ne (pc := 20) 25 dX12_look_20 (by decide) (fun c5 => ?_) (fun c5 => ?_)
    · rw [if_neg c5] at H
      refine z_iload_n (pc := 25) 2 dX12_look_25 rfl rfl ?_
      refine z_iconst (pc := 26) (x := 2) dX12_look_26 zc_iconst_2 ?_
      refine z_icmp_ne (pc := 27) 36 dX12_look_27 (by decide) (fun c6 => ?_) (fun c6 => ?_)
      · rw [if_neg c6] at H
        refine z_iload_n (pc := 36) 2 dX12_look_36 rfl rfl ?_
        refine z_iconst (pc := 37) (x := 5) dX12_look_37 zc_iconst_5 ?_
        refine z_icmp_ne (pc := 38) 47 dX12_look_38 (by decide) (fun c7 => ?_) (fun c7 => ?_)
        · rw [if_neg c7] at H
          refine z_aload_n (pc := 47) 0 dX12_look_47 rfl rfl ?_
          refine z_iload_n (pc := 48) 1 dX12_look_48 rfl rfl ?_
          refine z_aload_n (pc := 49) 0 dX12_look_49 rfl rfl ?_
          obtain ⟨r8, er8, H⟩ := zbind H
          refine z_getR (pc := 50) dX12_look_50 fd_X12_121 er8 ?_
          refine z_iload_n (pc := 53) 1 dX12_look_53 rfl rfl ?_
          obtain ⟨x9, ex9, H⟩ := zbind H
          refine z_iaload (pc := 54) dX12_look_54 ex9 ?_
          obtain ⟨z10, H⟩ := zifE H
          obtain ⟨h11, eh11, H⟩ := zbind H
          refine z_callV (pc := 55) (mc := 0) (ms := 0) (d' := 1) (mc' := 0) (ms' := 0) (rest := []) [.int v1, .int x9] dX12_look_55 md_X12_goesThrough ml_X12_384 im_X12_goesThrough se_X12_goesThrough rfl z10 rfl rfl (Nat.le_of_ble_eq_true rfl) (by omega) (k_X12_goesThrough eh11) ?_
          refine z_iload_n (pc := 58) 2 dX12_look_58 rfl rfl ?_
          by_cases c12 : v2 = 0
          · rw [if_pos c12] at H
            refine z_tswIn (pc := 59) (off := 33) 92 dX12_look_59 (by rw [c12]; decide) (by rw [c12]; decide) (by rw [c12]; decide) (by decide) ?_
            refine z_aload_n (pc := 92) 0 dX12_look_92 rfl rfl ?_
            obtain ⟨x13, ex13, H⟩ := zbind H
            refine z_getI (pc := 93) dX12_look_93 fd_X12_371 ex13 ?_
            refine z_if_eq (pc := 96) 106 dX12_look_96 (by decide) (fun c14 => ?_) (fun c14 => ?_)
            · rw [if_pos c14] at H
              refine z_iconst (pc := 106) (x := (-1)) dX12_look_106 zc_iconst_m1 ?_
              cases H
              exact z_ireturn rfl dX12_look_107
            · rw [if_neg c14] at H
              refine z_aload_n (pc := 99) 0 dX12_look_99 rfl rfl ?_
              obtain ⟨x15, ex15, H⟩ := zbind H
              refine z_getI (pc := 100) dX12_look_100 fd_X12_381 ex15 ?_
              refine z_goto (pc := 103) 107 dX12_look_103 (by decide) ?_
              cases H
              exact z_ireturn rfl dX12_look_107
          rw [if_neg c12] at H
          by_cases c16 : v2 = 1
          · rw [if_pos c16] at H
            refine z_tswIn (pc := 59) (off := 49) 108 dX12_look_59 (by rw [c16]; decide) (by rw [c16]; decide) (by rw [c16]; decide) (by decide) ?_
            refine z_aload_n (pc := 108) 0 dX12_look_108 rfl rfl ?_
            obtain ⟨x17, ex17, H⟩ := zbind H
            refine z_getI (pc := 109) dX12_look_109 fd_X12_365 ex17 ?_
            cases H
            exact z_ireturn rfl dX12_look_112
          rw [if_neg c16] at H
          by_cases c18 : v2 = 2
          · rw [if_pos c18] at H
            refine z_tswIn (pc := 59) (off := 82) 141 dX12_look_59 (by rw [c18]; decide) (by rw [c18]; decide) (by rw [c18]; decide) (by decide) ?_
            refine z_aload_n (pc := 141) 0 dX12_look_141 rfl rfl ?_
            obtain ⟨x19, ex19, H⟩ := zbind H
            refine z_getI (pc := 142) dX12_look_142 fd_X12_368 ex19 ?_
            cases H
            exact z_ireturn rfl dX12_look_145
          rw [if_neg c18] at H
          by_cases c20 : v2 = 3
          · rw [if_pos c20] at H
            refine z_tswIn (pc := 59) (off := 54) 113 dX12_look_59 (by rw [c20]; decide) (by rw [c20]; decide) (by rw [c20]; decide) (by decide) ?_
            refine z_aload_n (pc := 113) 0 dX12_look_113 rfl rfl ?_
            obtain ⟨z21, H⟩ := zifE H
            obtain ⟨q22, eq22, H⟩ := zbind H
            refine z_callV (pc := 114) (mc := 0) (ms := 0) (d' := 0) (mc' := 0) (ms' := 0) (rest := []) [] dX12_look_114 md_X12_seenOf ml_X12_387 im_X12_seenOf se_X12_seenOf rfl z21 rfl rfl (Nat.le_of_ble_eq_true rfl) (by omega) (k_X12_seenOf eq22) ?_
            cases H
            exact z_ireturn rfl dX12_look_117
          rw [if_neg c20] at H
          by_cases c23 : v2 = 4
          · rw [if_pos c23] at H
            refine z_tswIn (pc := 59) (off := 59) 118 dX12_look_59 (by rw [c23]; decide) (by rw [c23]; decide) (by rw [c23]; decide) (by decide) ?_
            refine z_aload_n (pc := 118) 0 dX12_look_118 rfl rfl ?_
            obtain ⟨x24, ex24, H⟩ := zbind H
            refine z_getI (pc := 119) dX12_look_119 fd_X12_371 ex24 ?_
            refine z_if_eq (pc := 122) 139 dX12_look_122 (by decide) (fun c25 => ?_) (fun c25 => ?_)
            · rw [if_pos c25] at H
              refine z_iconst (pc := 139) (x := (-1)) dX12_look_139 zc_iconst_m1 ?_
              cases H
              exact z_ireturn rfl dX12_look_140
            · rw [if_neg c25] at H
              refine z_aload_n (pc := 125) 0 dX12_look_125 rfl rfl ?_
              obtain ⟨r26, er26, H⟩ := zbind H
              refine z_getR (pc := 126) dX12_look_126 fd_X12_154 er26 ?_
              refine z_aload_n (pc := 129) 0 dX12_look_129 rfl rfl ?_
              obtain ⟨x27, ex27, H⟩ := zbind H
              refine z_getI (pc := 130) dX12_look_130 fd_X12_381 ex27 ?_
              refine z_iconst (pc := 133) (x := 1) dX12_look_133 zc_iconst_1 ?_
              refine z_isub (pc := 134) dX12_look_134 ?_
              obtain ⟨x28, ex28, H⟩ := zbind H
              refine z_iaload (pc := 135) dX12_look_135 ex28 ?_
              refine z_goto (pc := 136) 140 dX12_look_136 (by decide) ?_
              cases H
              exact z_ireturn rfl dX12_look_140
          rw [if_neg c23] at H
          refine z_tswOut (pc := 59) 141 dX12_look_59 (by have := lv_neT (a := 0) c12 (by decide); have := lv_neT (a := 1) c16 (by decide); have := lv_neT (a := 2) c18 (by decide); have := lv_neT (a := 3) c20 (by decide); have := lv_neT (a := 4) c23 (by decide); omega) (by decide) ?_
          refine z_aload_n (pc := 141) 0 dX12_look_141 rfl rfl ?_
          obtain ⟨x29, ex29, H⟩ := zbind H
          refine z_getI (pc := 142) dX12_look_142 fd_X12_368 ex29 ?_
          cases H
          exact z_ireturn rfl dX12_look_145
        · rw [if_pos c7] at H
          refine z_aload_n (pc := 41) 0 dX12_look_41 rfl rfl ?_
          refine z_iload_n (pc := 42) 1 dX12_look_42 rfl rfl ?_
          obtain ⟨z30, H⟩ := zifE H
          obtain ⟨q31, eq31, H⟩ := zbind H
          refine z_callV (pc := 43) (mc := 0) (ms := 0) (d' := 2) (mc' := 0) (ms' := 0) (rest := []) [.int v1] dX12_look_43 md_X12_signsOf ml_X12_393 im_X12_signsOf se_X12_signsOf rfl z30 rfl rfl (Nat.le_of_ble_eq_true rfl) (by omega) (k_X12_signsOf eq31) ?_
          cases H
          exact z_ireturn rfl dX12_look_46
      · rw [if_pos c6] at H
        refine z_aload_n (pc := 30) 0 dX12_look_30 rfl rfl ?_
        refine z_iload_n (pc := 31) 1 dX12_look_31 rfl rfl ?_
        obtain ⟨z32, H⟩ := zifE H
        obtain ⟨q33, eq33, H⟩ := zbind H
        refine z_callV (pc := 32) (mc := 0) (ms := 0) (d' := 2) (mc' := 0) (ms' := 0) (rest := []) [.int v1] dX12_look_32 md_X12_safeSpeed ml_X12_390 im_X12_safeSpeed se_X12_safeSpeed rfl z32 rfl rfl (Nat.le_of_ble_eq_true rfl) (by omega) (k_X12_safeSpeed eq33) ?_
        cases H
        exact z_ireturn rfl dX12_look_35
    · rw [if_pos c5] at H
      refine z_iconst (pc := 23) (x := (-1)) dX12_look_23 zc_iconst_m1 ?_
      cases H
      exact z_ireturn rfl dX12_look_24

def f_X12_at (N : Nat) (v0 : Nat) (v1 : Int32) (v2 : Int32) (v3 : Int32) (h : zH) : Option (Int32 × zH) := (pF h v0 12 0 (.int 1)).bind fun h1 => zif (zob h1 v0 12) <| (f_X12_isMeeting N v0 v1 h1).bind fun q3 => if q3 = 0 then (some (0, h1)) else (if (p_X12_within v2 0 1) = 0 then (some (0, h1)) else ((gR h1 v0 12 30).bind fun r6 => (aI h1 r6 v1).bind fun x7 => zif (zob h1 v0 12) <| (f_X12_goesThrough N v0 v1 x7 h1).bind fun h9 => (gI h9 v0 12 42).bind fun x10 => (if (p_X12_within v3 0 x10) = 0 then (some 1) else (some 0) : Option (Int32)).bind fun m11 => (pF h9 v0 12 0 (.int m11)).bind fun h13 => (gI h13 v0 12 0).bind fun x14 => if x14 ≤ 0 then (if v2 = 0 then ((gR h13 v0 12 39).bind fun r19 => (aI h13 r19 v3).bind fun x20 => some (x20, h13)) else ((gR h13 v0 12 40).bind fun r17 => (aI h13 r17 v3).bind fun x18 => some (x18, h13))) else (some (0, h13))))
set_option maxRecDepth 100000 in
set_option maxHeartbeats 4000000 in
theorem k_X12_at {N : Nat} {v0 : Nat} {v1 : Int32} {v2 : Int32} {v3 : Int32} {h : zH} {r : Int32 × zH} (H : f_X12_at N v0 v1 v2 v3 h = some r) : zOk 2 0 0 yX12_at cX12_at 4 (some .int) [.ref v0, .int v1, .int v2, .int v3] h (some (.int r.1)) r.2 := by
  refine zOk.of (by decide) (Nat.le_of_ble_eq_true rfl) ?_
  unfold f_X12_at at H
  refine z_aload_n (pc := 0) 0 dX12_at_0 rfl rfl ?_
  refine z_iconst (pc := 1) (x := 1) dX12_at_1 zc_iconst_1 ?_
  obtain ⟨h1, eh1, H⟩ := zbind H
  refine z_put (pc := 2) dX12_at_2 fd_X12_1 rfl rfl eh1 ?_
  refine z_aload_n (pc := 5) 0 dX12_at_5 rfl rfl ?_
  refine z_iload_n (pc := 6) 1 dX12_at_6 rfl rfl ?_
  obtain ⟨z2, H⟩ := zifE H
  obtain ⟨q3, eq3, H⟩ := zbind H
  refine z_callV (pc := 7) (mc := 0) (ms := 0) (d' := 0) (mc' := 0) (ms' := 0) (rest := []) [.int v1] dX12_at_7 md_X12_isMeeting ml_X12_362 im_X12_isMeeting se_X12_isMeeting rfl z2 rfl rfl (Nat.le_of_ble_eq_true rfl) (by omega) (k_X12_isMeeting eq3) ?_
  refine z_if_eq (pc := 10) 22 dX12_at_10 (by decide) (fun c4 => ?_) (fun c4 => ?_)
  · rw [if_pos c4] at H
    refine z_iconst (pc := 22) (x := 0) dX12_at_22 zc_iconst_0 ?_
    cases H
    exact z_ireturn rfl dX12_at_23
  · rw [if_neg c4] at H
    refine z_iload_n (pc := 13) 2 dX12_at_13 rfl rfl ?_
    refine z_iconst (pc := 14) (x := 0) dX12_at_14 zc_iconst_0 ?_
    refine z_iconst (pc := 15) (x := 1) dX12_at_15 zc_iconst_1 ?_
    refine z_callS (pc := 16) (mc := 0) (ms := 0) (d' := 0) (mc' := 0) (ms' := 0) (rest := []) [.int v2, .int 0, .int 1] dX12_at_16 md_X12_within ml_X12_352 sm_X12_within rfl rfl (Nat.le_of_ble_eq_true rfl) (by omega) (k_X12_within v2 0 1 h1 _ rfl) ?_
    refine z_if_ne (pc := 19) 24 dX12_at_19 (by decide) (fun c5 => ?_) (fun c5 => ?_)
    · rw [if_neg c5] at H
      refine z_aload_n (pc := 24) 0 dX12_at_24 rfl rfl ?_
      refine z_iload_n (pc := 25) 1 dX12_at_25 rfl rfl ?_
      refine z_aload_n (pc := 26) 0 dX12_at_26 rfl rfl ?_
      obtain ⟨r6, er6, H⟩ := zbind H
      refine z_getR (pc := 27) dX12_at_27 fd_X12_121 er6 ?_
      refine z_iload_n (pc := 30) 1 dX12_at_30 rfl rfl ?_
      obtain ⟨x7, ex7, H⟩ := zbind H
      refine z_iaload (pc := 31) dX12_at_31 ex7 ?_
      obtain ⟨z8, H⟩ := zifE H
      obtain ⟨h9, eh9, H⟩ := zbind H
      refine z_callV (pc := 32) (mc := 0) (ms := 0) (d' := 1) (mc' := 0) (ms' := 0) (rest := []) [.int v1, .int x7] dX12_at_32 md_X12_goesThrough ml_X12_384 im_X12_goesThrough se_X12_goesThrough rfl z8 rfl rfl (Nat.le_of_ble_eq_true rfl) (by omega) (k_X12_goesThrough eh9) ?_
      refine z_aload_n (pc := 35) 0 dX12_at_35 rfl rfl ?_
      refine z_iload_n (pc := 36) 3 dX12_at_36 rfl rfl ?_
      refine z_iconst (pc := 37) (x := 0) dX12_at_37 zc_iconst_0 ?_
      refine z_aload_n (pc := 38) 0 dX12_at_38 rfl rfl ?_
      obtain ⟨x10, ex10, H⟩ := zbind H
      refine z_getI (pc := 39) dX12_at_39 fd_X12_381 ex10 ?_
      refine z_callS (pc := 42) (mc := 0) (ms := 0) (d' := 0) (mc' := 0) (ms' := 0) (rest := [.ref v0]) [.int v3, .int 0, .int x10] dX12_at_42 md_X12_within ml_X12_352 sm_X12_within rfl rfl (Nat.le_of_ble_eq_true rfl) (by omega) (k_X12_within v3 0 x10 h9 _ rfl) ?_
      obtain ⟨m11, em11, H⟩ := zbind H
      have Jm11 : zW yX12_at cX12_at 4 (some .int) 2 0 0 53 [(0, .ref v0), (2, .int v2), (3, .int v3)] [.int m11, .ref v0] h9 (some (.int r.1)) r.2 := by
        obtain ⟨h13, eh13, H⟩ := zbind H
        refine z_put (pc := 53) dX12_at_53 fd_X12_1 rfl rfl eh13 ?_
        refine z_aload_n (pc := 56) 0 dX12_at_56 rfl rfl ?_
        obtain ⟨x14, ex14, H⟩ := zbind H
        refine z_getI (pc := 57) dX12_at_57 fd_X12_1 ex14 ?_
        refine z_if_le (pc := 60) 67 dX12_at_60 (by decide) (fun c15 => ?_) (fun c15 => ?_)
        · rw [if_pos c15] at H
          refine z_iload_n (pc := 67) 1 dX12_at_67 rfl rfl ?_
          refine z_if_ne (pc := 68) 80 dX12_at_68 (by decide) (fun c16 => ?_) (fun c16 => ?_)
          · rw [if_neg c16] at H
            refine z_aload_n (pc := 80) 0 dX12_at_80 rfl rfl ?_
            obtain ⟨r17, er17, H⟩ := zbind H
            refine z_getR (pc := 81) dX12_at_81 fd_X12_151 er17 ?_
            refine z_iload_n (pc := 84) 2 dX12_at_84 rfl rfl ?_
            obtain ⟨x18, ex18, H⟩ := zbind H
            refine z_iaload (pc := 85) dX12_at_85 ex18 ?_
            cases H
            exact z_ireturn rfl dX12_at_86
          · rw [if_pos c16] at H
            refine z_aload_n (pc := 71) 0 dX12_at_71 rfl rfl ?_
            obtain ⟨r19, er19, H⟩ := zbind H
            refine z_getR (pc := 72) dX12_at_72 fd_X12_148 er19 ?_
            refine z_iload_n (pc := 75) 2 dX12_at_75 rfl rfl ?_
            obtain ⟨x20, ex20, H⟩ := zbind H
            refine z_iaload (pc := 76) dX12_at_76 ex20 ?_
            refine z_goto (pc := 77) 86 dX12_at_77 (by decide) ?_
            cases H
            exact z_ireturn rfl dX12_at_86
        · rw [if_neg c15] at H
          refine z_iconst (pc := 63) (x := 0) dX12_at_63 zc_iconst_0 ?_
          refine z_goto (pc := 64) 86 dX12_at_64 (by decide) ?_
          cases H
          exact z_ireturn rfl dX12_at_86
      refine z_if_eq (pc := 45) 52 dX12_at_45 (by decide) (fun c12 => ?_) (fun c12 => ?_)
      · rw [if_pos c12] at em11
        refine z_iconst (pc := 52) (x := 1) dX12_at_52 zc_iconst_1 ?_
        cases em11
        exact z_sub [0, 2, 3] rfl Jm11
      · rw [if_neg c12] at em11
        refine z_iconst (pc := 48) (x := 0) dX12_at_48 zc_iconst_0 ?_
        refine z_goto (pc := 49) 53 dX12_at_49 (by decide) ?_
        cases em11
        exact z_sub [0, 2, 3] rfl Jm11
    · rw [if_pos c5] at H
      refine z_iconst (pc := 22) (x := 0) dX12_at_22 zc_iconst_0 ?_
      cases H
      exact z_ireturn rfl dX12_at_23

theorem md_X12_viewYear : zMd yX12_viewYear cX12_viewYear 1 0 (some .int) := ⟨zmw (zmt_7 _ (List.mem_of_getElem? (i := 239) rfl)) rfl, zmem 127 (by decide +kernel) rfl, by decide, by decide, by decide +kernel, by decide⟩
theorem ml_X12_396 : Cond.methodLink RX12 396 yX12_viewYear ∈ zB := zmem 1787 (by decide +kernel) rfl
theorem im_X12_viewYear : Cond.instanceMethod yX12_viewYear ∈ zB := zmem 1789 (by decide +kernel) rfl
theorem se_X12_viewYear : Cond.selects yX12_viewYear.cls yX12_viewYear yX12_viewYear ∈ zB := zmem 91 (by decide +kernel) rfl
def f_X12_lawIn_L4 (N : Nat) (v0 : Nat) (v1 : Int32) (h : zH) : Nat → Int32 → Int32 → Option (Int32)
  | 0, _, _ => none
  | n + 1, v2, v3 => (gI h v0 12 10).bind fun x1 => if x1 ≤ v3 then (some v2) else ((gR h v0 12 12).bind fun r3 => (aI h r3 v3).bind fun x4 => zif (zob h v0 12) <| (f_X12_viewYear N v0 h).bind fun q6 => (if q6 < x4 then (some 0) else ((gR h v0 12 11).bind fun r9 => (aI h r9 v3).bind fun x10 => if v1 < x10 then (some 0) else (some 1)) : Option (Int32)).bind fun m7 => if m7 = 0 then (f_X12_lawIn_L4 N v0 v1 h n v2 (v3 + 1)) else (if v2 < 0 then (f_X12_lawIn_L4 N v0 v1 h n v3 (v3 + 1)) else ((gR h v0 12 11).bind fun r14 => (aI h r14 v3).bind fun x15 => (gR h v0 12 11).bind fun r16 => (aI h r16 v2).bind fun x17 => if x15 < x17 then (f_X12_lawIn_L4 N v0 v1 h n v2 (v3 + 1)) else (f_X12_lawIn_L4 N v0 v1 h n v3 (v3 + 1)))))
set_option maxRecDepth 100000 in
set_option maxHeartbeats 4000000 in
theorem s_X12_lawIn_L4 {d mc ms N : Nat} {vv : Option Value} {hh : zH} {v0 : Nat} {v1 : Int32} {h : zH} (hd0 : 1 ≤ d) : ∀ (n : Nat) (v2 : Int32) (v3 : Int32) (m : Int32), f_X12_lawIn_L4 N v0 v1 h n v2 v3 = some m → (zW yX12_lawIn cX12_lawIn 5 (some .int) d mc ms 78 [(2, .int m)] [] h vv hh) → zW yX12_lawIn cX12_lawIn 5 (some .int) d mc ms 4 [(0, .ref v0), (1, .int v1), (2, .int v2), (3, .int v3)] [] h vv hh := by
  intro n
  induction n with
  | zero =>
    intro v2 v3 m H
    cases H
  | succ n ih =>
    intro v2 v3 m H KE
    unfold f_X12_lawIn_L4 at H
    refine z_iload_n (pc := 4) 3 dX12_lawIn_4 rfl rfl ?_
    refine z_aload_n (pc := 5) 0 dX12_lawIn_5 rfl rfl ?_
    obtain ⟨x1, ex1, H⟩ := zbind H
    refine z_getI (pc := 6) dX12_lawIn_6 fd_X12_281 ex1 ?_
    refine z_icmp_ge (pc := 9) 78 dX12_lawIn_9 (by decide) (fun c2 => ?_) (fun c2 => ?_)
    · rw [if_pos c2] at H
      cases H
      exact z_sub [2] rfl (KE)
    · rw [if_neg c2] at H
      refine z_aload_n (pc := 12) 0 dX12_lawIn_12 rfl rfl ?_
      obtain ⟨r3, er3, H⟩ := zbind H
      refine z_getR (pc := 13) dX12_lawIn_13 fd_X12_82 er3 ?_
      refine z_iload_n (pc := 16) 3 dX12_lawIn_16 rfl rfl ?_
      obtain ⟨x4, ex4, H⟩ := zbind H
      refine z_iaload (pc := 17) dX12_lawIn_17 ex4 ?_
      refine z_aload_n (pc := 18) 0 dX12_lawIn_18 rfl rfl ?_
      obtain ⟨z5, H⟩ := zifE H
      obtain ⟨q6, eq6, H⟩ := zbind H
      refine z_callV (pc := 19) (mc := mc) (ms := ms) (d' := 0) (mc' := 0) (ms' := 0) (rest := [.int x4]) [] dX12_lawIn_19 md_X12_viewYear ml_X12_396 im_X12_viewYear se_X12_viewYear rfl z5 rfl rfl (Nat.le_of_ble_eq_true rfl) (by omega) (k_X12_viewYear eq6) ?_
      obtain ⟨m7, em7, H⟩ := zbind H
      have Jm7 : zW yX12_lawIn cX12_lawIn 5 (some .int) d mc ms 40 [(0, .ref v0), (1, .int v1), (2, .int v2), (3, .int v3)] [.int m7] h vv hh := by
        refine z_istore (pc := 40) (lv' := [(4, .int m7), (0, .ref v0), (1, .int v1), (2, .int v2), (3, .int v3)]) dX12_lawIn_40 (by decide) rfl ?_
        refine z_iload (pc := 42) 0 dX12_lawIn_42 rfl ?_
        refine z_if_eq (pc := 44) 70 dX12_lawIn_44 (by decide) (fun c12 => ?_) (fun c12 => ?_)
        · rw [if_pos c12] at H
          refine z_iload_n (pc := 70) 3 dX12_lawIn_70 rfl rfl ?_
          refine z_istore_n (pc := 71) (lv' := [(2, .int v2), (4, .int m7), (0, .ref v0), (1, .int v1), (3, .int v3)]) dX12_lawIn_71 rfl (by decide) rfl ?_
          refine z_iinc (pc := 72) (x' := v3 + 1) (lv' := [(3, .int (v3 + 1)), (2, .int v2), (4, .int m7), (0, .ref v0), (1, .int v1)]) 4 dX12_lawIn_72 rfl (by rfl) (by decide) rfl ?_
          refine z_goto (pc := 75) 4 dX12_lawIn_75 (by decide) ?_
          exact z_sub [3, 4, 1, 0] rfl (ih v2 (v3 + 1) _ H KE)
        · rw [if_neg c12] at H
          refine z_iload_n (pc := 47) 3 dX12_lawIn_47 rfl rfl ?_
          refine z_if_lt (pc := 48) 66 dX12_lawIn_48 (by decide) (fun c13 => ?_) (fun c13 => ?_)
          · rw [if_pos c13] at H
            refine z_iload_n (pc := 66) 4 dX12_lawIn_66 rfl rfl ?_
            refine z_goto (pc := 67) 71 dX12_lawIn_67 (by decide) ?_
            refine z_istore_n (pc := 71) (lv' := [(2, .int v3), (4, .int m7), (0, .ref v0), (1, .int v1), (3, .int v3)]) dX12_lawIn_71 rfl (by decide) rfl ?_
            refine z_iinc (pc := 72) (x' := v3 + 1) (lv' := [(3, .int (v3 + 1)), (2, .int v3), (4, .int m7), (0, .ref v0), (1, .int v1)]) 4 dX12_lawIn_72 rfl (by rfl) (by decide) rfl ?_
            refine z_goto (pc := 75) 4 dX12_lawIn_75 (by decide) ?_
            exact z_sub [3, 4, 1, 0] rfl (ih v3 (v3 + 1) _ H KE)
          · rw [if_neg c13] at H
            refine z_aload_n (pc := 51) 1 dX12_lawIn_51 rfl rfl ?_
            obtain ⟨r14, er14, H⟩ := zbind H
            refine z_getR (pc := 52) dX12_lawIn_52 fd_X12_79 er14 ?_
            refine z_iload_n (pc := 55) 4 dX12_lawIn_55 rfl rfl ?_
            obtain ⟨x15, ex15, H⟩ := zbind H
            refine z_iaload (pc := 56) dX12_lawIn_56 ex15 ?_
            refine z_aload_n (pc := 57) 1 dX12_lawIn_57 rfl rfl ?_
            obtain ⟨r16, er16, H⟩ := zbind H
            refine z_getR (pc := 58) dX12_lawIn_58 fd_X12_79 er16 ?_
            refine z_iload_n (pc := 61) 3 dX12_lawIn_61 rfl rfl ?_
            obtain ⟨x17, ex17, H⟩ := zbind H
            refine z_iaload (pc := 62) dX12_lawIn_62 ex17 ?_
            refine z_icmp_lt (pc := 63) 70 dX12_lawIn_63 (by decide) (fun c18 => ?_) (fun c18 => ?_)
            · rw [if_pos c18] at H
              refine z_iload_n (pc := 70) 3 dX12_lawIn_70 rfl rfl ?_
              refine z_istore_n (pc := 71) (lv' := [(2, .int v2), (4, .int m7), (0, .ref v0), (1, .int v1), (3, .int v3)]) dX12_lawIn_71 rfl (by decide) rfl ?_
              refine z_iinc (pc := 72) (x' := v3 + 1) (lv' := [(3, .int (v3 + 1)), (2, .int v2), (4, .int m7), (0, .ref v0), (1, .int v1)]) 4 dX12_lawIn_72 rfl (by rfl) (by decide) rfl ?_
              refine z_goto (pc := 75) 4 dX12_lawIn_75 (by decide) ?_
              exact z_sub [3, 4, 1, 0] rfl (ih v2 (v3 + 1) _ H KE)
            · rw [if_neg c18] at H
              refine z_iload_n (pc := 66) 4 dX12_lawIn_66 rfl rfl ?_
              refine z_goto (pc := 67) 71 dX12_lawIn_67 (by decide) ?_
              refine z_istore_n (pc := 71) (lv' := [(2, .int v3), (4, .int m7), (0, .ref v0), (1, .int v1), (3, .int v3)]) dX12_lawIn_71 rfl (by decide) rfl ?_
              refine z_iinc (pc := 72) (x' := v3 + 1) (lv' := [(3, .int (v3 + 1)), (2, .int v3), (4, .int m7), (0, .ref v0), (1, .int v1)]) 4 dX12_lawIn_72 rfl (by rfl) (by decide) rfl ?_
              refine z_goto (pc := 75) 4 dX12_lawIn_75 (by decide) ?_
              exact z_sub [3, 4, 1, 0] rfl (ih v3 (v3 + 1) _ H KE)
      refine z_icmp_gt (pc := 22) 39 dX12_lawIn_22 (by decide) (fun c8 => ?_) (fun c8 => ?_)
      · rw [if_pos c8] at em7
        refine z_iconst (pc := 39) (x := 0) dX12_lawIn_39 zc_iconst_0 ?_
        cases em7
        exact z_sub [0, 1, 2, 3] rfl Jm7
      · rw [if_neg c8] at em7
        refine z_aload_n (pc := 25) 0 dX12_lawIn_25 rfl rfl ?_
        obtain ⟨r9, er9, em7⟩ := zbind em7
        refine z_getR (pc := 26) dX12_lawIn_26 fd_X12_79 er9 ?_
        refine z_iload_n (pc := 29) 3 dX12_lawIn_29 rfl rfl ?_
        obtain ⟨x10, ex10, em7⟩ := zbind em7
        refine z_iaload (pc := 30) dX12_lawIn_30 ex10 ?_
        refine z_iload_n (pc := 31) 1 dX12_lawIn_31 rfl rfl ?_
        refine z_icmp_gt (pc := 32) 39 dX12_lawIn_32 (by decide) (fun c11 => ?_) (fun c11 => ?_)
        · rw [if_pos c11] at em7
          refine z_iconst (pc := 39) (x := 0) dX12_lawIn_39 zc_iconst_0 ?_
          cases em7
          exact z_sub [0, 1, 2, 3] rfl Jm7
        · rw [if_neg c11] at em7
          refine z_iconst (pc := 35) (x := 1) dX12_lawIn_35 zc_iconst_1 ?_
          refine z_goto (pc := 36) 40 dX12_lawIn_36 (by decide) ?_
          cases em7
          exact z_sub [0, 1, 2, 3] rfl Jm7
def f_X12_lawIn (N : Nat) (v0 : Nat) (v1 : Int32) (h : zH) : Option (Int32) := (f_X12_lawIn_L4 N v0 v1 h N (-1) 0).bind fun m19 => some m19
set_option maxRecDepth 100000 in
set_option maxHeartbeats 4000000 in
theorem k_X12_lawIn {N : Nat} {v0 : Nat} {v1 : Int32} {h : zH} {r : Int32} (H : f_X12_lawIn N v0 v1 h = some r) : zOk 1 0 0 yX12_lawIn cX12_lawIn 5 (some .int) [.ref v0, .int v1] h (some (.int r)) h := by
  refine zOk.of (by decide) (Nat.le_of_ble_eq_true rfl) ?_
  unfold f_X12_lawIn at H
  refine z_iconst (pc := 0) (x := (-1)) dX12_lawIn_0 zc_iconst_m1 ?_
  refine z_istore_n (pc := 1) (lv' := [(2, .int (-1)), (0, .ref v0), (1, .int v1)]) dX12_lawIn_1 rfl (by decide) rfl ?_
  refine z_iconst (pc := 2) (x := 0) dX12_lawIn_2 zc_iconst_0 ?_
  refine z_istore_n (pc := 3) (lv' := [(3, .int 0), (2, .int (-1)), (0, .ref v0), (1, .int v1)]) dX12_lawIn_3 rfl (by decide) rfl ?_
  obtain ⟨m19, em19, H⟩ := zbind H
  refine z_sub [2, 3, 1, 0] rfl (s_X12_lawIn_L4 (by omega) N (-1) 0 _ em19 ?_)
  refine z_iload_n (pc := 78) 0 dX12_lawIn_78 rfl rfl ?_
  cases H
  exact z_ireturn rfl dX12_lawIn_79

def f_X12_knows (N : Nat) (v0 : Nat) (v1 : Int32) (v2 : Int32) (h : zH) : Option (zH) := (gR h v0 12 30).bind fun r1 => (aI h r1 v1).bind fun x2 => zif (zob h v0 12) <| (f_X12_goesThrough N v0 v1 x2 h).bind fun h4 => (gR h4 v0 12 22).bind fun r5 => (gR h4 v0 12 30).bind fun r6 => (aI h4 r6 v1).bind fun x7 => (sI h4 r5 0 x7).bind fun h8 => (gR h8 v0 12 22).bind fun r9 => (gR h8 v0 12 33).bind fun r10 => (aI h8 r10 v1).bind fun x11 => (sI h8 r9 1 x11).bind fun h12 => (gR h12 v0 12 22).bind fun r13 => zif (zob h12 v0 12) <| (f_X12_seenOf N v0 h12).bind fun q15 => (sI h12 r13 2 q15).bind fun h16 => (gR h16 v0 12 22).bind fun r17 => (gI h16 v0 12 43).bind fun x18 => (if x18 = 0 then (some 0) else (some 1) : Option (Int32)).bind fun m19 => (sI h16 r17 3 m19).bind fun h21 => (gR h21 v0 12 22).bind fun r22 => (gR h21 v0 12 34).bind fun r23 => (aI h21 r23 v1).bind fun x24 => (sI h21 r22 4 (x24 &&& 1)).bind fun h25 => (gR h25 v0 12 22).bind fun r26 => (gR h25 v0 12 34).bind fun r27 => (aI h25 r27 v1).bind fun x28 => (sI h25 r26 5 (x28 >>> (1 &&& 31))).bind fun h29 => (gR h29 v0 12 22).bind fun r30 => (gR h29 v0 12 37).bind fun r31 => (aI h29 r31 v1).bind fun x32 => (sI h29 r30 6 x32).bind fun h33 => (gR h33 v0 12 22).bind fun r34 => (gR h33 v0 12 38).bind fun r35 => (aI h33 r35 v1).bind fun x36 => (sI h33 r34 7 x36).bind fun h37 => (gR h37 v0 12 22).bind fun r38 => (gR h37 v0 12 35).bind fun r39 => (aI h37 r39 v1).bind fun x40 => (if 0 ≤ x40 then (some 0) else (some 1) : Option (Int32)).bind fun m41 => (sI h37 r38 8 m41).bind fun h43 => (gR h43 v0 12 22).bind fun r44 => (sI h43 r44 9 0).bind fun h45 => (gR h45 v0 12 22).bind fun r46 => (sI h45 r46 10 v2).bind fun h47 => some h47
set_option maxRecDepth 100000 in
set_option maxHeartbeats 4000000 in
theorem k_X12_knows {N : Nat} {v0 : Nat} {v1 : Int32} {v2 : Int32} {h : zH} {r : zH} (H : f_X12_knows N v0 v1 v2 h = some r) : zOk 2 0 0 yX12_knows cX12_knows 3 none [.ref v0, .int v1, .int v2] h none r := by
  refine zOk.of (by decide) (Nat.le_of_ble_eq_true rfl) ?_
  unfold f_X12_knows at H
  refine z_aload_n (pc := 0) 0 dX12_knows_0 rfl rfl ?_
  refine z_iload_n (pc := 1) 1 dX12_knows_1 rfl rfl ?_
  refine z_aload_n (pc := 2) 0 dX12_knows_2 rfl rfl ?_
  obtain ⟨r1, er1, H⟩ := zbind H
  refine z_getR (pc := 3) dX12_knows_3 fd_X12_121 er1 ?_
  refine z_iload_n (pc := 6) 1 dX12_knows_6 rfl rfl ?_
  obtain ⟨x2, ex2, H⟩ := zbind H
  refine z_iaload (pc := 7) dX12_knows_7 ex2 ?_
  obtain ⟨z3, H⟩ := zifE H
  obtain ⟨h4, eh4, H⟩ := zbind H
  refine z_callV (pc := 8) (mc := 0) (ms := 0) (d' := 1) (mc' := 0) (ms' := 0) (rest := []) [.int v1, .int x2] dX12_knows_8 md_X12_goesThrough ml_X12_384 im_X12_goesThrough se_X12_goesThrough rfl z3 rfl rfl (Nat.le_of_ble_eq_true rfl) (by omega) (k_X12_goesThrough eh4) ?_
  refine z_aload_n (pc := 11) 0 dX12_knows_11 rfl rfl ?_
  obtain ⟨r5, er5, H⟩ := zbind H
  refine z_getR (pc := 12) dX12_knows_12 fd_X12_106 er5 ?_
  refine z_iconst (pc := 15) (x := 0) dX12_knows_15 zc_iconst_0 ?_
  refine z_aload_n (pc := 16) 0 dX12_knows_16 rfl rfl ?_
  obtain ⟨r6, er6, H⟩ := zbind H
  refine z_getR (pc := 17) dX12_knows_17 fd_X12_121 er6 ?_
  refine z_iload_n (pc := 20) 1 dX12_knows_20 rfl rfl ?_
  obtain ⟨x7, ex7, H⟩ := zbind H
  refine z_iaload (pc := 21) dX12_knows_21 ex7 ?_
  obtain ⟨h8, eh8, H⟩ := zbind H
  refine z_iastore (pc := 22) dX12_knows_22 eh8 ?_
  refine z_aload_n (pc := 23) 0 dX12_knows_23 rfl rfl ?_
  obtain ⟨r9, er9, H⟩ := zbind H
  refine z_getR (pc := 24) dX12_knows_24 fd_X12_106 er9 ?_
  refine z_iconst (pc := 27) (x := 1) dX12_knows_27 zc_iconst_1 ?_
  refine z_aload_n (pc := 28) 0 dX12_knows_28 rfl rfl ?_
  obtain ⟨r10, er10, H⟩ := zbind H
  refine z_getR (pc := 29) dX12_knows_29 fd_X12_130 er10 ?_
  refine z_iload_n (pc := 32) 1 dX12_knows_32 rfl rfl ?_
  obtain ⟨x11, ex11, H⟩ := zbind H
  refine z_iaload (pc := 33) dX12_knows_33 ex11 ?_
  obtain ⟨h12, eh12, H⟩ := zbind H
  refine z_iastore (pc := 34) dX12_knows_34 eh12 ?_
  refine z_aload_n (pc := 35) 0 dX12_knows_35 rfl rfl ?_
  obtain ⟨r13, er13, H⟩ := zbind H
  refine z_getR (pc := 36) dX12_knows_36 fd_X12_106 er13 ?_
  refine z_iconst (pc := 39) (x := 2) dX12_knows_39 zc_iconst_2 ?_
  refine z_aload_n (pc := 40) 0 dX12_knows_40 rfl rfl ?_
  obtain ⟨z14, H⟩ := zifE H
  obtain ⟨q15, eq15, H⟩ := zbind H
  refine z_callV (pc := 41) (mc := 0) (ms := 0) (d' := 0) (mc' := 0) (ms' := 0) (rest := [.int 2, .ref r13]) [] dX12_knows_41 md_X12_seenOf ml_X12_387 im_X12_seenOf se_X12_seenOf rfl z14 rfl rfl (Nat.le_of_ble_eq_true rfl) (by omega) (k_X12_seenOf eq15) ?_
  obtain ⟨h16, eh16, H⟩ := zbind H
  refine z_iastore (pc := 44) dX12_knows_44 eh16 ?_
  refine z_aload_n (pc := 45) 0 dX12_knows_45 rfl rfl ?_
  obtain ⟨r17, er17, H⟩ := zbind H
  refine z_getR (pc := 46) dX12_knows_46 fd_X12_106 er17 ?_
  refine z_iconst (pc := 49) (x := 3) dX12_knows_49 zc_iconst_3 ?_
  refine z_aload_n (pc := 50) 0 dX12_knows_50 rfl rfl ?_
  obtain ⟨x18, ex18, H⟩ := zbind H
  refine z_getI (pc := 51) dX12_knows_51 fd_X12_371 ex18 ?_
  obtain ⟨m19, em19, H⟩ := zbind H
  have Jm19 : zW yX12_knows cX12_knows 3 none 2 0 0 62 [(0, .ref v0), (1, .int v1), (2, .int v2)] [.int m19, .int 3, .ref r17] h16 none r := by
    obtain ⟨h21, eh21, H⟩ := zbind H
    refine z_iastore (pc := 62) dX12_knows_62 eh21 ?_
    refine z_aload_n (pc := 63) 0 dX12_knows_63 rfl rfl ?_
    obtain ⟨r22, er22, H⟩ := zbind H
    refine z_getR (pc := 64) dX12_knows_64 fd_X12_106 er22 ?_
    refine z_iconst (pc := 67) (x := 4) dX12_knows_67 zc_iconst_4 ?_
    refine z_aload_n (pc := 68) 0 dX12_knows_68 rfl rfl ?_
    obtain ⟨r23, er23, H⟩ := zbind H
    refine z_getR (pc := 69) dX12_knows_69 fd_X12_133 er23 ?_
    refine z_iload_n (pc := 72) 1 dX12_knows_72 rfl rfl ?_
    obtain ⟨x24, ex24, H⟩ := zbind H
    refine z_iaload (pc := 73) dX12_knows_73 ex24 ?_
    refine z_iconst (pc := 74) (x := 1) dX12_knows_74 zc_iconst_1 ?_
    refine z_iand (pc := 75) dX12_knows_75 ?_
    obtain ⟨h25, eh25, H⟩ := zbind H
    refine z_iastore (pc := 76) dX12_knows_76 eh25 ?_
    refine z_aload_n (pc := 77) 0 dX12_knows_77 rfl rfl ?_
    obtain ⟨r26, er26, H⟩ := zbind H
    refine z_getR (pc := 78) dX12_knows_78 fd_X12_106 er26 ?_
    refine z_iconst (pc := 81) (x := 5) dX12_knows_81 zc_iconst_5 ?_
    refine z_aload_n (pc := 82) 0 dX12_knows_82 rfl rfl ?_
    obtain ⟨r27, er27, H⟩ := zbind H
    refine z_getR (pc := 83) dX12_knows_83 fd_X12_133 er27 ?_
    refine z_iload_n (pc := 86) 1 dX12_knows_86 rfl rfl ?_
    obtain ⟨x28, ex28, H⟩ := zbind H
    refine z_iaload (pc := 87) dX12_knows_87 ex28 ?_
    refine z_iconst (pc := 88) (x := 1) dX12_knows_88 zc_iconst_1 ?_
    refine z_ishr (pc := 89) dX12_knows_89 ?_
    obtain ⟨h29, eh29, H⟩ := zbind H
    refine z_iastore (pc := 90) dX12_knows_90 eh29 ?_
    refine z_aload_n (pc := 91) 0 dX12_knows_91 rfl rfl ?_
    obtain ⟨r30, er30, H⟩ := zbind H
    refine z_getR (pc := 92) dX12_knows_92 fd_X12_106 er30 ?_
    refine z_bipush (pc := 95) (x := 6) dX12_knows_95 zc_bipush_6 ?_
    refine z_aload_n (pc := 97) 0 dX12_knows_97 rfl rfl ?_
    obtain ⟨r31, er31, H⟩ := zbind H
    refine z_getR (pc := 98) dX12_knows_98 fd_X12_142 er31 ?_
    refine z_iload_n (pc := 101) 1 dX12_knows_101 rfl rfl ?_
    obtain ⟨x32, ex32, H⟩ := zbind H
    refine z_iaload (pc := 102) dX12_knows_102 ex32 ?_
    obtain ⟨h33, eh33, H⟩ := zbind H
    refine z_iastore (pc := 103) dX12_knows_103 eh33 ?_
    refine z_aload_n (pc := 104) 0 dX12_knows_104 rfl rfl ?_
    obtain ⟨r34, er34, H⟩ := zbind H
    refine z_getR (pc := 105) dX12_knows_105 fd_X12_106 er34 ?_
    refine z_bipush (pc := 108) (x := 7) dX12_knows_108 zc_bipush_7 ?_
    refine z_aload_n (pc := 110) 0 dX12_knows_110 rfl rfl ?_
    obtain ⟨r35, er35, H⟩ := zbind H
    refine z_getR (pc := 111) dX12_knows_111 fd_X12_145 er35 ?_
    refine z_iload_n (pc := 114) 1 dX12_knows_114 rfl rfl ?_
    obtain ⟨x36, ex36, H⟩ := zbind H
    refine z_iaload (pc := 115) dX12_knows_115 ex36 ?_
    obtain ⟨h37, eh37, H⟩ := zbind H
    refine z_iastore (pc := 116) dX12_knows_116 eh37 ?_
    refine z_aload_n (pc := 117) 0 dX12_knows_117 rfl rfl ?_
    obtain ⟨r38, er38, H⟩ := zbind H
    refine z_getR (pc := 118) dX12_knows_118 fd_X12_106 er38 ?_
    refine z_bipush (pc := 121) (x := 8) dX12_knows_121 zc_bipush_8 ?_
    refine z_aload_n (pc := 123) 0 dX12_knows_123 rfl rfl ?_
    obtain ⟨r39, er39, H⟩ := zbind H
    refine z_getR (pc := 124) dX12_knows_124 fd_X12_136 er39 ?_
    refine z_iload_n (pc := 127) 1 dX12_knows_127 rfl rfl ?_
    obtain ⟨x40, ex40, H⟩ := zbind H
    refine z_iaload (pc := 128) dX12_knows_128 ex40 ?_
    obtain ⟨m41, em41, H⟩ := zbind H
    have Jm41 : zW yX12_knows cX12_knows 3 none 2 0 0 137 [(0, .ref v0), (2, .int v2)] [.int m41, .int 8, .ref r38] h37 none r := by
      obtain ⟨h43, eh43, H⟩ := zbind H
      refine z_iastore (pc := 137) dX12_knows_137 eh43 ?_
      refine z_aload_n (pc := 138) 0 dX12_knows_138 rfl rfl ?_
      obtain ⟨r44, er44, H⟩ := zbind H
      refine z_getR (pc := 139) dX12_knows_139 fd_X12_106 er44 ?_
      refine z_bipush (pc := 142) (x := 9) dX12_knows_142 zc_bipush_9 ?_
      refine z_iconst (pc := 144) (x := 0) dX12_knows_144 zc_iconst_0 ?_
      obtain ⟨h45, eh45, H⟩ := zbind H
      refine z_iastore (pc := 145) dX12_knows_145 eh45 ?_
      refine z_aload_n (pc := 146) 0 dX12_knows_146 rfl rfl ?_
      obtain ⟨r46, er46, H⟩ := zbind H
      refine z_getR (pc := 147) dX12_knows_147 fd_X12_106 er46 ?_
      refine z_bipush (pc := 150) (x := 10) dX12_knows_150 zc_bipush_10 ?_
      refine z_iload_n (pc := 152) 1 dX12_knows_152 rfl rfl ?_
      obtain ⟨h47, eh47, H⟩ := zbind H
      refine z_iastore (pc := 153) dX12_knows_153 eh47 ?_
      cases H
      exact z_return rfl dX12_knows_154
    refine z_if_ge (pc := 129) 136 dX12_knows_129 (by decide) (fun c42 => ?_) (fun c42 => ?_)
    · rw [if_pos c42] at em41
      refine z_iconst (pc := 136) (x := 0) dX12_knows_136 zc_iconst_0 ?_
      cases em41
      exact z_sub [0, 2] rfl Jm41
    · rw [if_neg c42] at em41
      refine z_iconst (pc := 132) (x := 1) dX12_knows_132 zc_iconst_1 ?_
      refine z_goto (pc := 133) 137 dX12_knows_133 (by decide) ?_
      cases em41
      exact z_sub [0, 2] rfl Jm41
  refine z_if_eq (pc := 54) 61 dX12_knows_54 (by decide) (fun c20 => ?_) (fun c20 => ?_)
  · rw [if_pos c20] at em19
    refine z_iconst (pc := 61) (x := 0) dX12_knows_61 zc_iconst_0 ?_
    cases em19
    exact z_sub [0, 1, 2] rfl Jm19
  · rw [if_neg c20] at em19
    refine z_iconst (pc := 57) (x := 1) dX12_knows_57 zc_iconst_1 ?_
    refine z_goto (pc := 58) 62 dX12_knows_58 (by decide) ?_
    cases em19
    exact z_sub [0, 1, 2] rfl Jm19

theorem fd_X12_399 : zFd RX12 399 12 46 (.int) false "WhoseStreetModel" := zFd.of cl_12 (by decide) (zmem 1416 (by decide +kernel) rfl) rfl rfl rfl
theorem fd_X12_402 : zFd RX12 402 12 47 (.int) false "WhoseStreetModel" := zFd.of cl_12 (by decide) (zmem 1417 (by decide +kernel) rfl) rfl rfl rfl
theorem fd_X12_405 : zFd RX12 405 12 48 (.int) false "WhoseStreetModel" := zFd.of cl_12 (by decide) (zmem 1418 (by decide +kernel) rfl) rfl rfl rfl
theorem md_X12_lawIn : zMd yX12_lawIn cX12_lawIn 5 1 (some .int) := ⟨zmw (zmt_7 _ (List.mem_of_getElem? (i := 235) rfl)) rfl, zmem 127 (by decide +kernel) rfl, by decide, by decide, by decide +kernel, by decide⟩
theorem ml_X12_408 : Cond.methodLink RX12 408 yX12_lawIn ∈ zB := zmem 1783 (by decide +kernel) rfl
theorem im_X12_lawIn : Cond.instanceMethod yX12_lawIn ∈ zB := zmem 1785 (by decide +kernel) rfl
theorem se_X12_lawIn : Cond.selects yX12_lawIn.cls yX12_lawIn yX12_lawIn ∈ zB := zmem 90 (by decide +kernel) rfl
theorem md_X12_knows : zMd yX12_knows cX12_knows 3 2 none := ⟨zmw (zmt_8 _ (List.mem_of_getElem? (i := 3) rfl)) rfl, zmem 127 (by decide +kernel) rfl, by decide, by decide, by decide +kernel, by decide⟩
theorem ml_X12_411 : Cond.methodLink RX12 411 yX12_knows ∈ zB := zmem 1791 (by decide +kernel) rfl
theorem im_X12_knows : Cond.instanceMethod yX12_knows ∈ zB := zmem 1793 (by decide +kernel) rfl
theorem se_X12_knows : Cond.selects yX12_knows.cls yX12_knows yX12_knows ∈ zB := zmem 92 (by decide +kernel) rfl
theorem md_X12_worth : zMd yX12_worth cX12_worth 5 1 (some .int) := ⟨zmw (zmt_8 _ (List.mem_of_getElem? (i := 7) rfl)) rfl, zmem 127 (by decide +kernel) rfl, by decide, by decide, by decide +kernel, by decide⟩
theorem ml_X12_414 : Cond.methodLink RX12 414 yX12_worth ∈ zB := zmem 1795 (by decide +kernel) rfl
theorem im_X12_worth : Cond.instanceMethod yX12_worth ∈ zB := zmem 1797 (by decide +kernel) rfl
theorem se_X12_worth : Cond.selects yX12_worth.cls yX12_worth yX12_worth ∈ zB := zmem 93 (by decide +kernel) rfl
def f_X12_says_L38 (N : Nat) (v0 : Nat) (v3 : Int32) : Nat → Int32 → Int32 → zH → Option (zH)
  | 0, _, _, _ => none
  | n + 1, v4, v5, h => (gR h v0 12 13).bind fun r9 => (aI h r9 v3).bind fun x10 => if x10 ≤ v5 then (some h) else (zlet ((20 * v3) + v5 : Int32) fun x12 => (gR h v0 12 14).bind fun r13 => (aI h r13 x12).bind fun x14 => if x14 = 0 then ((gR h v0 12 23).bind fun r16 => (gR h v0 12 16).bind fun r17 => (aI h r17 x12).bind fun x18 => zif (zob h v0 12) <| (f_X12_worth N v0 x18 h).bind fun q20 => (sI q20.2 r16 v4 q20.1).bind fun h21 => f_X12_says_L38 N v0 v3 n (v4 + 1) (v5 + 1) h21) else (f_X12_says_L38 N v0 v3 n v4 (v5 + 1) h))
def f_X12_says_L98 (N : Nat) (v0 : Nat) (v3 : Int32) : Nat → Int32 → zH → Option (zH)
  | 0, _, _ => none
  | n + 1, v5, h => (gR h v0 12 13).bind fun r23 => (aI h r23 v3).bind fun x24 => if x24 ≤ v5 then (some h) else (zlet ((20 * v3) + v5 : Int32) fun x26 => (gR h v0 12 14).bind fun r27 => (aI h r27 x26).bind fun x28 => if x28 = 19 then ((gI h v0 12 48).bind fun x30 => if x30 = 0 then ((gR h v0 12 16).bind fun r32 => (aI h r32 x26).bind fun x33 => zif (zob h v0 12) <| (f_X12_worth N v0 x33 h).bind fun q35 => if q35.1 = 0 then (f_X12_says_L98 N v0 v3 n (v5 + 1) q35.2) else ((gR q35.2 v0 12 15).bind fun r37 => (aI q35.2 r37 x26).bind fun x38 => (pF q35.2 v0 12 48 (.int x38)).bind fun h39 => f_X12_says_L98 N v0 v3 n (v5 + 1) h39)) else (f_X12_says_L98 N v0 v3 n (v5 + 1) h)) else (f_X12_says_L98 N v0 v3 n (v5 + 1) h))
def f_X12_says_L182 (N : Nat) (v0 : Nat) (v3 : Int32) : Nat → Int32 → zH → Option (zH)
  | 0, _, _ => none
  | n + 1, v5, h => (gR h v0 12 13).bind fun r44 => (aI h r44 v3).bind fun x45 => if x45 ≤ v5 then (some h) else ((gI h v0 12 47).bind fun x47 => if 0 ≤ x47 then (some h) else (zlet ((20 * v3) + v5 : Int32) fun x49 => (gR h v0 12 14).bind fun r50 => (aI h r50 x49).bind fun x51 => if x51 = 1 then ((gR h v0 12 16).bind fun r53 => (aI h r53 x49).bind fun x54 => zif (zob h v0 12) <| (f_X12_worth N v0 x54 h).bind fun q56 => if q56.1 = 0 then (f_X12_says_L182 N v0 v3 n (v5 + 1) q56.2) else ((gR q56.2 v0 12 15).bind fun r58 => (aI q56.2 r58 x49).bind fun x59 => (pF q56.2 v0 12 46 (.int x59)).bind fun h60 => (pF h60 v0 12 47 (.int v5)).bind fun h61 => f_X12_says_L182 N v0 v3 n (v5 + 1) h61)) else (f_X12_says_L182 N v0 v3 n (v5 + 1) h)))
set_option maxRecDepth 100000 in
set_option maxHeartbeats 4000000 in
theorem s_X12_says_L38 {d mc ms N : Nat} {vv : Option Value} {hh : zH} {v0 : Nat} {v3 : Int32} (hd0 : 3 ≤ d) : ∀ (n : Nat) (v4 : Int32) (v5 : Int32) (h : zH) (m : zH), f_X12_says_L38 N v0 v3 n v4 v5 h = some m → (zW yX12_says cX12_says 7 none d mc ms 95 [(0, .ref v0), (3, .int v3)] [] m vv hh) → zW yX12_says cX12_says 7 none d mc ms 38 [(0, .ref v0), (3, .int v3), (4, .int v4), (5, .int v5)] [] h vv hh := by
  intro n
  induction n with
  | zero =>
    intro v4 v5 h m H
    cases H
  | succ n ih =>
    intro v4 v5 h m H KE
    unfold f_X12_says_L38 at H
    refine z_iload (pc := 38) 3 dX12_says_38 rfl ?_
    refine z_aload_n (pc := 40) 0 dX12_says_40 rfl rfl ?_
    obtain ⟨r9, er9, H⟩ := zbind H
    refine z_getR (pc := 41) dX12_says_41 fd_X12_85 er9 ?_
    refine z_iload_n (pc := 44) 1 dX12_says_44 rfl rfl ?_
    obtain ⟨x10, ex10, H⟩ := zbind H
    refine z_iaload (pc := 45) dX12_says_45 ex10 ?_
    refine z_icmp_ge (pc := 46) 95 dX12_says_46 (by decide) (fun c11 => ?_) (fun c11 => ?_)
    · rw [if_pos c11] at H
      cases H
      exact z_sub [0, 1] rfl (KE)
    · rw [if_neg c11] at H
      refine z_bipush (pc := 49) (x := 20) dX12_says_49 zc_bipush_20 ?_
      refine z_iload_n (pc := 51) 1 dX12_says_51 rfl rfl ?_
      refine z_imul (pc := 52) dX12_says_52 ?_
      refine z_iload (pc := 53) 3 dX12_says_53 rfl ?_
      refine z_iadd (pc := 55) dX12_says_55 ?_
      obtain ⟨x12, ex12, H⟩ := zletE H
      refine z_nmI ex12 ?_
      refine z_istore (pc := 56) (lv' := [(6, .int x12), (0, .ref v0), (3, .int v3), (4, .int v4), (5, .int v5)]) dX12_says_56 (by decide) rfl ?_
      refine z_aload_n (pc := 58) 1 dX12_says_58 rfl rfl ?_
      obtain ⟨r13, er13, H⟩ := zbind H
      refine z_getR (pc := 59) dX12_says_59 fd_X12_88 er13 ?_
      refine z_iload (pc := 62) 0 dX12_says_62 rfl ?_
      obtain ⟨x14, ex14, H⟩ := zbind H
      refine z_iaload (pc := 64) dX12_says_64 ex14 ?_
      refine z_if_ne (pc := 65) 89 dX12_says_65 (by decide) (fun c15 => ?_) (fun c15 => ?_)
      · rw [if_neg c15] at H
        refine z_iinc (pc := 89) (x' := v5 + 1) (lv' := [(5, .int (v5 + 1)), (6, .int x12), (0, .ref v0), (3, .int v3), (4, .int v4)]) 4 dX12_says_89 rfl (by rfl) (by decide) rfl ?_
        refine z_goto (pc := 92) 38 dX12_says_92 (by decide) ?_
        exact z_sub [2, 3, 4, 0] rfl (ih v4 (v5 + 1) h _ H KE)
      · rw [if_pos c15] at H
        refine z_aload_n (pc := 68) 1 dX12_says_68 rfl rfl ?_
        obtain ⟨r16, er16, H⟩ := zbind H
        refine z_getR (pc := 69) dX12_says_69 fd_X12_109 er16 ?_
        refine z_iload (pc := 72) 3 dX12_says_72 rfl ?_
        refine z_aload_n (pc := 74) 1 dX12_says_74 rfl rfl ?_
        refine z_aload_n (pc := 75) 1 dX12_says_75 rfl rfl ?_
        obtain ⟨r17, er17, H⟩ := zbind H
        refine z_getR (pc := 76) dX12_says_76 fd_X12_94 er17 ?_
        refine z_iload (pc := 79) 0 dX12_says_79 rfl ?_
        obtain ⟨x18, ex18, H⟩ := zbind H
        refine z_iaload (pc := 81) dX12_says_81 ex18 ?_
        obtain ⟨z19, H⟩ := zifE H
        obtain ⟨q20, eq20, H⟩ := zbind H
        refine z_callV (pc := 82) (mc := mc) (ms := ms) (d' := 1) (mc' := 0) (ms' := 0) (rest := [.int v4, .ref r16]) [.int x18] dX12_says_82 md_X12_worth ml_X12_414 im_X12_worth se_X12_worth rfl z19 rfl rfl (Nat.le_of_ble_eq_true rfl) (by omega) (k_X12_worth eq20) ?_
        obtain ⟨h21, eh21, H⟩ := zbind H
        refine z_iastore (pc := 85) dX12_says_85 eh21 ?_
        refine z_iinc (pc := 86) (x' := v4 + 1) (lv' := [(4, .int (v4 + 1)), (6, .int x12), (0, .ref v0), (3, .int v3), (5, .int v5)]) 3 dX12_says_86 rfl (by rfl) (by decide) rfl ?_
        refine z_iinc (pc := 89) (x' := v5 + 1) (lv' := [(5, .int (v5 + 1)), (4, .int (v4 + 1)), (6, .int x12), (0, .ref v0), (3, .int v3)]) 4 dX12_says_89 rfl (by rfl) (by decide) rfl ?_
        refine z_goto (pc := 92) 38 dX12_says_92 (by decide) ?_
        exact z_sub [3, 4, 1, 0] rfl (ih (v4 + 1) (v5 + 1) h21 _ H KE)
set_option maxRecDepth 100000 in
set_option maxHeartbeats 4000000 in
theorem s_X12_says_L98 {d mc ms N : Nat} {vv : Option Value} {hh : zH} {v0 : Nat} {v3 : Int32} (hd0 : 3 ≤ d) : ∀ (n : Nat) (v5 : Int32) (h : zH) (m : zH), f_X12_says_L98 N v0 v3 n v5 h = some m → (zW yX12_says cX12_says 7 none d mc ms 168 [(0, .ref v0), (3, .int v3)] [] m vv hh) → zW yX12_says cX12_says 7 none d mc ms 98 [(0, .ref v0), (3, .int v3), (5, .int v5)] [] h vv hh := by
  intro n
  induction n with
  | zero =>
    intro v5 h m H
    cases H
  | succ n ih =>
    intro v5 h m H KE
    unfold f_X12_says_L98 at H
    refine z_iload (pc := 98) 2 dX12_says_98 rfl ?_
    refine z_aload_n (pc := 100) 0 dX12_says_100 rfl rfl ?_
    obtain ⟨r23, er23, H⟩ := zbind H
    refine z_getR (pc := 101) dX12_says_101 fd_X12_85 er23 ?_
    refine z_iload_n (pc := 104) 1 dX12_says_104 rfl rfl ?_
    obtain ⟨x24, ex24, H⟩ := zbind H
    refine z_iaload (pc := 105) dX12_says_105 ex24 ?_
    refine z_icmp_ge (pc := 106) 168 dX12_says_106 (by decide) (fun c25 => ?_) (fun c25 => ?_)
    · rw [if_pos c25] at H
      cases H
      exact z_sub [0, 1] rfl (KE)
    · rw [if_neg c25] at H
      refine z_bipush (pc := 109) (x := 20) dX12_says_109 zc_bipush_20 ?_
      refine z_iload_n (pc := 111) 1 dX12_says_111 rfl rfl ?_
      refine z_imul (pc := 112) dX12_says_112 ?_
      refine z_iload (pc := 113) 2 dX12_says_113 rfl ?_
      refine z_iadd (pc := 115) dX12_says_115 ?_
      obtain ⟨x26, ex26, H⟩ := zletE H
      refine z_nmI ex26 ?_
      refine z_istore (pc := 116) (lv' := [(6, .int x26), (0, .ref v0), (3, .int v3), (5, .int v5)]) dX12_says_116 (by decide) rfl ?_
      refine z_aload_n (pc := 118) 1 dX12_says_118 rfl rfl ?_
      obtain ⟨r27, er27, H⟩ := zbind H
      refine z_getR (pc := 119) dX12_says_119 fd_X12_88 er27 ?_
      refine z_iload (pc := 122) 0 dX12_says_122 rfl ?_
      obtain ⟨x28, ex28, H⟩ := zbind H
      refine z_iaload (pc := 124) dX12_says_124 ex28 ?_
      refine z_bipush (pc := 125) (x := 19) dX12_says_125 zc_bipush_19 ?_
      refine z_icmp_ne (pc := 127) 162 dX12_says_127 (by decide) (fun c29 => ?_) (fun c29 => ?_)
      · rw [if_neg c29] at H
        refine z_iinc (pc := 162) (x' := v5 + 1) (lv' := [(5, .int (v5 + 1)), (6, .int x26), (0, .ref v0), (3, .int v3)]) 3 dX12_says_162 rfl (by rfl) (by decide) rfl ?_
        refine z_goto (pc := 165) 98 dX12_says_165 (by decide) ?_
        exact z_sub [2, 3, 0] rfl (ih (v5 + 1) h _ H KE)
      · rw [if_pos c29] at H
        refine z_aload_n (pc := 130) 1 dX12_says_130 rfl rfl ?_
        obtain ⟨x30, ex30, H⟩ := zbind H
        refine z_getI (pc := 131) dX12_says_131 fd_X12_405 ex30 ?_
        refine z_if_ne (pc := 134) 162 dX12_says_134 (by decide) (fun c31 => ?_) (fun c31 => ?_)
        · rw [if_neg c31] at H
          refine z_iinc (pc := 162) (x' := v5 + 1) (lv' := [(5, .int (v5 + 1)), (6, .int x26), (0, .ref v0), (3, .int v3)]) 3 dX12_says_162 rfl (by rfl) (by decide) rfl ?_
          refine z_goto (pc := 165) 98 dX12_says_165 (by decide) ?_
          exact z_sub [2, 3, 0] rfl (ih (v5 + 1) h _ H KE)
        · rw [if_pos c31] at H
          refine z_aload_n (pc := 137) 1 dX12_says_137 rfl rfl ?_
          refine z_aload_n (pc := 138) 1 dX12_says_138 rfl rfl ?_
          obtain ⟨r32, er32, H⟩ := zbind H
          refine z_getR (pc := 139) dX12_says_139 fd_X12_94 er32 ?_
          refine z_iload (pc := 142) 0 dX12_says_142 rfl ?_
          obtain ⟨x33, ex33, H⟩ := zbind H
          refine z_iaload (pc := 144) dX12_says_144 ex33 ?_
          obtain ⟨z34, H⟩ := zifE H
          obtain ⟨q35, eq35, H⟩ := zbind H
          refine z_callV (pc := 145) (mc := mc) (ms := ms) (d' := 1) (mc' := 0) (ms' := 0) (rest := []) [.int x33] dX12_says_145 md_X12_worth ml_X12_414 im_X12_worth se_X12_worth rfl z34 rfl rfl (Nat.le_of_ble_eq_true rfl) (by omega) (k_X12_worth eq35) ?_
          refine z_if_eq (pc := 148) 162 dX12_says_148 (by decide) (fun c36 => ?_) (fun c36 => ?_)
          · rw [if_pos c36] at H
            refine z_iinc (pc := 162) (x' := v5 + 1) (lv' := [(5, .int (v5 + 1)), (6, .int x26), (0, .ref v0), (3, .int v3)]) 3 dX12_says_162 rfl (by rfl) (by decide) rfl ?_
            refine z_goto (pc := 165) 98 dX12_says_165 (by decide) ?_
            exact z_sub [2, 3, 0] rfl (ih (v5 + 1) q35.2 _ H KE)
          · rw [if_neg c36] at H
            refine z_aload_n (pc := 151) 1 dX12_says_151 rfl rfl ?_
            refine z_aload_n (pc := 152) 1 dX12_says_152 rfl rfl ?_
            obtain ⟨r37, er37, H⟩ := zbind H
            refine z_getR (pc := 153) dX12_says_153 fd_X12_91 er37 ?_
            refine z_iload (pc := 156) 0 dX12_says_156 rfl ?_
            obtain ⟨x38, ex38, H⟩ := zbind H
            refine z_iaload (pc := 158) dX12_says_158 ex38 ?_
            obtain ⟨h39, eh39, H⟩ := zbind H
            refine z_put (pc := 159) dX12_says_159 fd_X12_405 rfl rfl eh39 ?_
            refine z_iinc (pc := 162) (x' := v5 + 1) (lv' := [(5, .int (v5 + 1)), (6, .int x26), (0, .ref v0), (3, .int v3)]) 3 dX12_says_162 rfl (by rfl) (by decide) rfl ?_
            refine z_goto (pc := 165) 98 dX12_says_165 (by decide) ?_
            exact z_sub [2, 3, 0] rfl (ih (v5 + 1) h39 _ H KE)
set_option maxRecDepth 100000 in
set_option maxHeartbeats 4000000 in
theorem s_X12_says_L182 {d mc ms N : Nat} {vv : Option Value} {hh : zH} {v0 : Nat} {v3 : Int32} (hd0 : 3 ≤ d) : ∀ (n : Nat) (v5 : Int32) (h : zH) (m : zH), f_X12_says_L182 N v0 v3 n v5 h = some m → (zW yX12_says cX12_says 7 none d mc ms 257 [] [] m vv hh) → zW yX12_says cX12_says 7 none d mc ms 182 [(0, .ref v0), (3, .int v3), (5, .int v5)] [] h vv hh := by
  intro n
  induction n with
  | zero =>
    intro v5 h m H
    cases H
  | succ n ih =>
    intro v5 h m H KE
    unfold f_X12_says_L182 at H
    refine z_iload (pc := 182) 2 dX12_says_182 rfl ?_
    refine z_aload_n (pc := 184) 0 dX12_says_184 rfl rfl ?_
    obtain ⟨r44, er44, H⟩ := zbind H
    refine z_getR (pc := 185) dX12_says_185 fd_X12_85 er44 ?_
    refine z_iload_n (pc := 188) 1 dX12_says_188 rfl rfl ?_
    obtain ⟨x45, ex45, H⟩ := zbind H
    refine z_iaload (pc := 189) dX12_says_189 ex45 ?_
    refine z_icmp_ge (pc := 190) 257 dX12_says_190 (by decide) (fun c46 => ?_) (fun c46 => ?_)
    · rw [if_pos c46] at H
      cases H
      exact z_sub [] rfl (KE)
    · rw [if_neg c46] at H
      refine z_aload_n (pc := 193) 0 dX12_says_193 rfl rfl ?_
      obtain ⟨x47, ex47, H⟩ := zbind H
      refine z_getI (pc := 194) dX12_says_194 fd_X12_402 ex47 ?_
      refine z_if_ge (pc := 197) 257 dX12_says_197 (by decide) (fun c48 => ?_) (fun c48 => ?_)
      · rw [if_pos c48] at H
        cases H
        exact z_sub [] rfl (KE)
      · rw [if_neg c48] at H
        refine z_bipush (pc := 200) (x := 20) dX12_says_200 zc_bipush_20 ?_
        refine z_iload_n (pc := 202) 1 dX12_says_202 rfl rfl ?_
        refine z_imul (pc := 203) dX12_says_203 ?_
        refine z_iload (pc := 204) 2 dX12_says_204 rfl ?_
        refine z_iadd (pc := 206) dX12_says_206 ?_
        obtain ⟨x49, ex49, H⟩ := zletE H
        refine z_nmI ex49 ?_
        refine z_istore (pc := 207) (lv' := [(6, .int x49), (0, .ref v0), (3, .int v3), (5, .int v5)]) dX12_says_207 (by decide) rfl ?_
        refine z_aload_n (pc := 209) 1 dX12_says_209 rfl rfl ?_
        obtain ⟨r50, er50, H⟩ := zbind H
        refine z_getR (pc := 210) dX12_says_210 fd_X12_88 er50 ?_
        refine z_iload (pc := 213) 0 dX12_says_213 rfl ?_
        obtain ⟨x51, ex51, H⟩ := zbind H
        refine z_iaload (pc := 215) dX12_says_215 ex51 ?_
        refine z_iconst (pc := 216) (x := 1) dX12_says_216 zc_iconst_1 ?_
        refine z_icmp_ne (pc := 217) 251 dX12_says_217 (by decide) (fun c52 => ?_) (fun c52 => ?_)
        · rw [if_neg c52] at H
          refine z_iinc (pc := 251) (x' := v5 + 1) (lv' := [(5, .int (v5 + 1)), (6, .int x49), (0, .ref v0), (3, .int v3)]) 3 dX12_says_251 rfl (by rfl) (by decide) rfl ?_
          refine z_goto (pc := 254) 182 dX12_says_254 (by decide) ?_
          exact z_sub [2, 3, 0] rfl (ih (v5 + 1) h _ H KE)
        · rw [if_pos c52] at H
          refine z_aload_n (pc := 220) 1 dX12_says_220 rfl rfl ?_
          refine z_aload_n (pc := 221) 1 dX12_says_221 rfl rfl ?_
          obtain ⟨r53, er53, H⟩ := zbind H
          refine z_getR (pc := 222) dX12_says_222 fd_X12_94 er53 ?_
          refine z_iload (pc := 225) 0 dX12_says_225 rfl ?_
          obtain ⟨x54, ex54, H⟩ := zbind H
          refine z_iaload (pc := 227) dX12_says_227 ex54 ?_
          obtain ⟨z55, H⟩ := zifE H
          obtain ⟨q56, eq56, H⟩ := zbind H
          refine z_callV (pc := 228) (mc := mc) (ms := ms) (d' := 1) (mc' := 0) (ms' := 0) (rest := []) [.int x54] dX12_says_228 md_X12_worth ml_X12_414 im_X12_worth se_X12_worth rfl z55 rfl rfl (Nat.le_of_ble_eq_true rfl) (by omega) (k_X12_worth eq56) ?_
          refine z_if_eq (pc := 231) 251 dX12_says_231 (by decide) (fun c57 => ?_) (fun c57 => ?_)
          · rw [if_pos c57] at H
            refine z_iinc (pc := 251) (x' := v5 + 1) (lv' := [(5, .int (v5 + 1)), (6, .int x49), (0, .ref v0), (3, .int v3)]) 3 dX12_says_251 rfl (by rfl) (by decide) rfl ?_
            refine z_goto (pc := 254) 182 dX12_says_254 (by decide) ?_
            exact z_sub [2, 3, 0] rfl (ih (v5 + 1) q56.2 _ H KE)
          · rw [if_neg c57] at H
            refine z_aload_n (pc := 234) 1 dX12_says_234 rfl rfl ?_
            refine z_aload_n (pc := 235) 1 dX12_says_235 rfl rfl ?_
            obtain ⟨r58, er58, H⟩ := zbind H
            refine z_getR (pc := 236) dX12_says_236 fd_X12_91 er58 ?_
            refine z_iload (pc := 239) 0 dX12_says_239 rfl ?_
            obtain ⟨x59, ex59, H⟩ := zbind H
            refine z_iaload (pc := 241) dX12_says_241 ex59 ?_
            obtain ⟨h60, eh60, H⟩ := zbind H
            refine z_put (pc := 242) dX12_says_242 fd_X12_399 rfl rfl eh60 ?_
            refine z_aload_n (pc := 245) 1 dX12_says_245 rfl rfl ?_
            refine z_iload (pc := 246) 3 dX12_says_246 rfl ?_
            obtain ⟨h61, eh61, H⟩ := zbind H
            refine z_put (pc := 248) dX12_says_248 fd_X12_402 rfl rfl eh61 ?_
            refine z_iinc (pc := 251) (x' := v5 + 1) (lv' := [(5, .int (v5 + 1)), (6, .int x49), (0, .ref v0), (3, .int v3)]) 3 dX12_says_251 rfl (by rfl) (by decide) rfl ?_
            refine z_goto (pc := 254) 182 dX12_says_254 (by decide) ?_
            exact z_sub [2, 3, 0] rfl (ih (v5 + 1) h61 _ H KE)
def f_X12_says (N : Nat) (v0 : Nat) (v1 : Int32) (v2 : Int32) (h : zH) : Option (zH) := (pF h v0 12 46 (.int 0)).bind fun h1 => (pF h1 v0 12 47 (.int (-1))).bind fun h2 => (pF h2 v0 12 48 (.int 0)).bind fun h3 => zif (zob h3 v0 12) <| (f_X12_lawIn N v0 v2 h3).bind fun q5 => if 0 ≤ q5 then (zif (zob h3 v0 12) <| (f_X12_knows N v0 v1 v2 h3).bind fun h8 => (f_X12_says_L38 N v0 q5 N 0 0 h8).bind fun m22 => (f_X12_says_L98 N v0 q5 N 0 m22).bind fun m40 => (gR m40 v0 12 22).bind fun r41 => (gI m40 v0 12 48).bind fun x42 => (sI m40 r41 9 x42).bind fun h43 => (f_X12_says_L182 N v0 q5 N 0 h43).bind fun m62 => some m62) else (some h3)
set_option maxRecDepth 100000 in
set_option maxHeartbeats 4000000 in
theorem k_X12_says {N : Nat} {v0 : Nat} {v1 : Int32} {v2 : Int32} {h : zH} {r : zH} (H : f_X12_says N v0 v1 v2 h = some r) : zOk 3 0 0 yX12_says cX12_says 7 none [.ref v0, .int v1, .int v2] h none r := by
  refine zOk.of (by decide) (Nat.le_of_ble_eq_true rfl) ?_
  unfold f_X12_says at H
  refine z_aload_n (pc := 0) 0 dX12_says_0 rfl rfl ?_
  refine z_iconst (pc := 1) (x := 0) dX12_says_1 zc_iconst_0 ?_
  obtain ⟨h1, eh1, H⟩ := zbind H
  refine z_put (pc := 2) dX12_says_2 fd_X12_399 rfl rfl eh1 ?_
  refine z_aload_n (pc := 5) 0 dX12_says_5 rfl rfl ?_
  refine z_iconst (pc := 6) (x := (-1)) dX12_says_6 zc_iconst_m1 ?_
  obtain ⟨h2, eh2, H⟩ := zbind H
  refine z_put (pc := 7) dX12_says_7 fd_X12_402 rfl rfl eh2 ?_
  refine z_aload_n (pc := 10) 0 dX12_says_10 rfl rfl ?_
  refine z_iconst (pc := 11) (x := 0) dX12_says_11 zc_iconst_0 ?_
  obtain ⟨h3, eh3, H⟩ := zbind H
  refine z_put (pc := 12) dX12_says_12 fd_X12_405 rfl rfl eh3 ?_
  refine z_aload_n (pc := 15) 0 dX12_says_15 rfl rfl ?_
  refine z_iload_n (pc := 16) 2 dX12_says_16 rfl rfl ?_
  obtain ⟨z4, H⟩ := zifE H
  obtain ⟨q5, eq5, H⟩ := zbind H
  refine z_callV (pc := 17) (mc := 0) (ms := 0) (d' := 1) (mc' := 0) (ms' := 0) (rest := []) [.int v2] dX12_says_17 md_X12_lawIn ml_X12_408 im_X12_lawIn se_X12_lawIn rfl z4 rfl rfl (Nat.le_of_ble_eq_true rfl) (by omega) (k_X12_lawIn eq5) ?_
  refine z_istore_n (pc := 20) (lv' := [(3, .int q5), (0, .ref v0), (1, .int v1), (2, .int v2)]) dX12_says_20 rfl (by decide) rfl ?_
  refine z_iload_n (pc := 21) 0 dX12_says_21 rfl rfl ?_
  refine z_if_ge (pc := 22) 26 dX12_says_22 (by decide) (fun c6 => ?_) (fun c6 => ?_)
  · rw [if_pos c6] at H
    refine z_aload_n (pc := 26) 1 dX12_says_26 rfl rfl ?_
    refine z_iload_n (pc := 27) 2 dX12_says_27 rfl rfl ?_
    refine z_iload_n (pc := 28) 3 dX12_says_28 rfl rfl ?_
    obtain ⟨z7, H⟩ := zifE H
    obtain ⟨h8, eh8, H⟩ := zbind H
    refine z_callV (pc := 29) (mc := 0) (ms := 0) (d' := 2) (mc' := 0) (ms' := 0) (rest := []) [.int v1, .int v2] dX12_says_29 md_X12_knows ml_X12_411 im_X12_knows se_X12_knows rfl z7 rfl rfl (Nat.le_of_ble_eq_true rfl) (by omega) (k_X12_knows eh8) ?_
    refine z_iconst (pc := 32) (x := 0) dX12_says_32 zc_iconst_0 ?_
    refine z_istore (pc := 33) (lv' := [(4, .int 0), (3, .int q5), (0, .ref v0), (1, .int v1), (2, .int v2)]) dX12_says_33 (by decide) rfl ?_
    refine z_iconst (pc := 35) (x := 0) dX12_says_35 zc_iconst_0 ?_
    refine z_istore (pc := 36) (lv' := [(5, .int 0), (4, .int 0), (3, .int q5), (0, .ref v0), (1, .int v1), (2, .int v2)]) dX12_says_36 (by decide) rfl ?_
    obtain ⟨m22, em22, H⟩ := zbind H
    refine z_sub [3, 2, 1, 0] rfl (s_X12_says_L38 (by omega) N 0 0 h8 _ em22 ?_)
    refine z_iconst (pc := 95) (x := 0) dX12_says_95 zc_iconst_0 ?_
    refine z_istore (pc := 96) (lv' := [(5, .int 0), (0, .ref v0), (3, .int q5)]) dX12_says_96 (by decide) rfl ?_
    obtain ⟨m40, em40, H⟩ := zbind H
    refine z_sub [1, 2, 0] rfl (s_X12_says_L98 (by omega) N 0 m22 _ em40 ?_)
    refine z_aload_n (pc := 168) 0 dX12_says_168 rfl rfl ?_
    obtain ⟨r41, er41, H⟩ := zbind H
    refine z_getR (pc := 169) dX12_says_169 fd_X12_106 er41 ?_
    refine z_bipush (pc := 172) (x := 9) dX12_says_172 zc_bipush_9 ?_
    refine z_aload_n (pc := 174) 0 dX12_says_174 rfl rfl ?_
    obtain ⟨x42, ex42, H⟩ := zbind H
    refine z_getI (pc := 175) dX12_says_175 fd_X12_405 ex42 ?_
    obtain ⟨h43, eh43, H⟩ := zbind H
    refine z_iastore (pc := 178) dX12_says_178 eh43 ?_
    refine z_iconst (pc := 179) (x := 0) dX12_says_179 zc_iconst_0 ?_
    refine z_istore (pc := 180) (lv' := [(5, .int 0), (0, .ref v0), (3, .int q5)]) dX12_says_180 (by decide) rfl ?_
    obtain ⟨m62, em62, H⟩ := zbind H
    refine z_sub [1, 2, 0] rfl (s_X12_says_L182 (by omega) N 0 h43 _ em62 ?_)
    cases H
    exact z_return rfl dX12_says_257
  · rw [if_neg c6] at H
    cases H
    exact z_return rfl dX12_says_25

theorem md_X12_says : zMd yX12_says cX12_says 7 2 none := ⟨zmw (zmt_7 _ (List.mem_of_getElem? (i := 231) rfl)) rfl, zmem 127 (by decide +kernel) rfl, by decide, by decide, by decide +kernel, by decide⟩
theorem ml_X12_417 : Cond.methodLink RX12 417 yX12_says ∈ zB := zmem 1779 (by decide +kernel) rfl
theorem im_X12_says : Cond.instanceMethod yX12_says ∈ zB := zmem 1781 (by decide +kernel) rfl
theorem se_X12_says : Cond.selects yX12_says.cls yX12_says yX12_says ∈ zB := zmem 89 (by decide +kernel) rfl
def f_X12_whose (N : Nat) (v0 : Nat) (v1 : Int32) (v2 : Int32) (v3 : Int32) (h : zH) : Option (Int32 × zH) := (pF h v0 12 0 (.int 0)).bind fun h1 => zif (zob h1 v0 12) <| (f_X12_isMeeting N v0 v1 h1).bind fun q3 => if q3 = 0 then (some ((-1), h1)) else ((f_X12_isYear N v2 h1).bind fun q5 => if q5 = 0 then (some ((-1), h1)) else (if (p_X12_within v3 0 3) = 0 then (some ((-1), h1)) else (zif (zob h1 v0 12) <| (f_X12_says N v0 v1 v2 h1).bind fun h9 => if v3 = 0 then ((gI h9 v0 12 46).bind fun x17 => some (x17, h9)) else (if v3 = 1 then ((gI h9 v0 12 47).bind fun x16 => some (x16, h9)) else (if v3 = 2 then ((gI h9 v0 12 48).bind fun x15 => some (x15, h9)) else (zif (zob h9 v0 12) <| (f_X12_lawIn N v0 v2 h9).bind fun q14 => some (q14, h9)))))))
set_option maxRecDepth 100000 in
set_option maxHeartbeats 4000000 in
theorem k_X12_whose {N : Nat} {v0 : Nat} {v1 : Int32} {v2 : Int32} {v3 : Int32} {h : zH} {r : Int32 × zH} (H : f_X12_whose N v0 v1 v2 v3 h = some r) : zOk 4 0 0 yX12_whose cX12_whose 4 (some .int) [.ref v0, .int v1, .int v2, .int v3] h (some (.int r.1)) r.2 := by
  refine zOk.of (by decide) (Nat.le_of_ble_eq_true rfl) ?_
  unfold f_X12_whose at H
  refine z_aload_n (pc := 0) 0 dX12_whose_0 rfl rfl ?_
  refine z_iconst (pc := 1) (x := 0) dX12_whose_1 zc_iconst_0 ?_
  obtain ⟨h1, eh1, H⟩ := zbind H
  refine z_put (pc := 2) dX12_whose_2 fd_X12_1 rfl rfl eh1 ?_
  refine z_aload_n (pc := 5) 0 dX12_whose_5 rfl rfl ?_
  refine z_iload_n (pc := 6) 1 dX12_whose_6 rfl rfl ?_
  obtain ⟨z2, H⟩ := zifE H
  obtain ⟨q3, eq3, H⟩ := zbind H
  refine z_callV (pc := 7) (mc := 0) (ms := 0) (d' := 0) (mc' := 0) (ms' := 0) (rest := []) [.int v1] dX12_whose_7 md_X12_isMeeting ml_X12_362 im_X12_isMeeting se_X12_isMeeting rfl z2 rfl rfl (Nat.le_of_ble_eq_true rfl) (by omega) (k_X12_isMeeting eq3) ?_
  refine z_if_eq (pc := 10) 29 dX12_whose_10 (by decide) (fun c4 => ?_) (fun c4 => ?_)
  · rw [if_pos c4] at H
    refine z_iconst (pc := 29) (x := (-1)) dX12_whose_29 zc_iconst_m1 ?_
    cases H
    exact z_ireturn rfl dX12_whose_30
  · rw [if_neg c4] at H
    refine z_iload_n (pc := 13) 2 dX12_whose_13 rfl rfl ?_
    obtain ⟨q5, eq5, H⟩ := zbind H
    refine z_callS (pc := 14) (mc := 0) (ms := 0) (d' := 1) (mc' := 0) (ms' := 0) (rest := []) [.int v2] dX12_whose_14 md_X12_isYear ml_X12_356 sm_X12_isYear rfl rfl (Nat.le_of_ble_eq_true rfl) (by omega) (k_X12_isYear eq5) ?_
    refine z_if_eq (pc := 17) 29 dX12_whose_17 (by decide) (fun c6 => ?_) (fun c6 => ?_)
    · rw [if_pos c6] at H
      refine z_iconst (pc := 29) (x := (-1)) dX12_whose_29 zc_iconst_m1 ?_
      cases H
      exact z_ireturn rfl dX12_whose_30
    · rw [if_neg c6] at H
      refine z_iload_n (pc := 20) 3 dX12_whose_20 rfl rfl ?_
      refine z_iconst (pc := 21) (x := 0) dX12_whose_21 zc_iconst_0 ?_
      refine z_iconst (pc := 22) (x := 3) dX12_whose_22 zc_iconst_3 ?_
      refine z_callS (pc := 23) (mc := 0) (ms := 0) (d' := 0) (mc' := 0) (ms' := 0) (rest := []) [.int v3, .int 0, .int 3] dX12_whose_23 md_X12_within ml_X12_352 sm_X12_within rfl rfl (Nat.le_of_ble_eq_true rfl) (by omega) (k_X12_within v3 0 3 h1 _ rfl) ?_
      refine z_if_ne (pc := 26) 31 dX12_whose_26 (by decide) (fun c7 => ?_) (fun c7 => ?_)
      · rw [if_neg c7] at H
        refine z_aload_n (pc := 31) 0 dX12_whose_31 rfl rfl ?_
        refine z_iload_n (pc := 32) 1 dX12_whose_32 rfl rfl ?_
        refine z_iload_n (pc := 33) 2 dX12_whose_33 rfl rfl ?_
        obtain ⟨z8, H⟩ := zifE H
        obtain ⟨h9, eh9, H⟩ := zbind H
        refine z_callV (pc := 34) (mc := 0) (ms := 0) (d' := 3) (mc' := 0) (ms' := 0) (rest := []) [.int v1, .int v2] dX12_whose_34 md_X12_says ml_X12_417 im_X12_says se_X12_says rfl z8 rfl rfl (Nat.le_of_ble_eq_true rfl) (by omega) (k_X12_says eh9) ?_
        refine z_iload_n (pc := 37) 3 dX12_whose_37 rfl rfl ?_
        refine z_if_ne (pc := 38) 48 dX12_whose_38 (by decide) (fun c10 => ?_) (fun c10 => ?_)
        · rw [if_neg c10] at H
          refine z_iload_n (pc := 48) 3 dX12_whose_48 rfl rfl ?_
          refine z_iconst (pc := 49) (x := 1) dX12_whose_49 zc_iconst_1 ?_
          refine z_icmp_ne (pc := 50) 60 dX12_whose_50 (by decide) (fun c11 => ?_) (fun c11 => ?_)
          · rw [if_neg c11] at H
            refine z_iload_n (pc := 60) 3 dX12_whose_60 rfl rfl ?_
            refine z_iconst (pc := 61) (x := 2) dX12_whose_61 zc_iconst_2 ?_
            refine z_icmp_ne (pc := 62) 72 dX12_whose_62 (by decide) (fun c12 => ?_) (fun c12 => ?_)
            · rw [if_neg c12] at H
              refine z_aload_n (pc := 72) 0 dX12_whose_72 rfl rfl ?_
              refine z_iload_n (pc := 73) 2 dX12_whose_73 rfl rfl ?_
              obtain ⟨z13, H⟩ := zifE H
              obtain ⟨q14, eq14, H⟩ := zbind H
              refine z_callV (pc := 74) (mc := 0) (ms := 0) (d' := 1) (mc' := 0) (ms' := 0) (rest := []) [.int v2] dX12_whose_74 md_X12_lawIn ml_X12_408 im_X12_lawIn se_X12_lawIn rfl z13 rfl rfl (Nat.le_of_ble_eq_true rfl) (by omega) (k_X12_lawIn eq14) ?_
              cases H
              exact z_ireturn rfl dX12_whose_77
            · rw [if_pos c12] at H
              refine z_aload_n (pc := 65) 0 dX12_whose_65 rfl rfl ?_
              obtain ⟨x15, ex15, H⟩ := zbind H
              refine z_getI (pc := 66) dX12_whose_66 fd_X12_405 ex15 ?_
              refine z_goto (pc := 69) 77 dX12_whose_69 (by decide) ?_
              cases H
              exact z_ireturn rfl dX12_whose_77
          · rw [if_pos c11] at H
            refine z_aload_n (pc := 53) 0 dX12_whose_53 rfl rfl ?_
            obtain ⟨x16, ex16, H⟩ := zbind H
            refine z_getI (pc := 54) dX12_whose_54 fd_X12_402 ex16 ?_
            refine z_goto (pc := 57) 77 dX12_whose_57 (by decide) ?_
            cases H
            exact z_ireturn rfl dX12_whose_77
        · rw [if_pos c10] at H
          refine z_aload_n (pc := 41) 0 dX12_whose_41 rfl rfl ?_
          obtain ⟨x17, ex17, H⟩ := zbind H
          refine z_getI (pc := 42) dX12_whose_42 fd_X12_399 ex17 ?_
          refine z_goto (pc := 45) 77 dX12_whose_45 (by decide) ?_
          cases H
          exact z_ireturn rfl dX12_whose_77
      · rw [if_pos c7] at H
        refine z_iconst (pc := 29) (x := (-1)) dX12_whose_29 zc_iconst_m1 ?_
        cases H
        exact z_ireturn rfl dX12_whose_30

def f_X12_changes_L36 (N : Nat) (v0 : Nat) (v1 : Int32) : Nat → Int32 → Int32 → Int32 → zH → Option ((zH) ⊕ (Int32 × zH))
  | 0, _, _, _, _ => none
  | n + 1, v3, v4, v5, h => if 31 ≤ v5 then (some (.inl h)) else (zif (zob h v0 12) <| (f_X12_says N v0 v1 v5 h).bind fun h11 => (gI h11 v0 12 46).bind fun x12 => if x12 = v4 then ((gI h11 v0 12 46).bind fun x14 => f_X12_changes_L36 N v0 v1 n v3 x14 (v5 + 1) h11) else (if v3 = 0 then (some (.inr (v5, h11))) else ((gI h11 v0 12 46).bind fun x16 => f_X12_changes_L36 N v0 v1 n (v3 + (-1)) x16 (v5 + 1) h11)))
set_option maxRecDepth 100000 in
set_option maxHeartbeats 4000000 in
theorem s_X12_changes_L36 {d mc ms N : Nat} {vv : Option Value} {hh : zH} {v0 : Nat} {v1 : Int32} (hd0 : 4 ≤ d) : ∀ (n : Nat) (v3 : Int32) (v4 : Int32) (v5 : Int32) (h : zH) (m : (zH) ⊕ (Int32 × zH)), f_X12_changes_L36 N v0 v1 n v3 v4 v5 h = some m → (∀ s, m = .inl s → zW yX12_changes cX12_changes 6 (some .int) d mc ms 81 [] [] s vv hh) → (∀ r, m = .inr r → vv = (some (.int r.1)) ∧ hh = r.2) → zW yX12_changes cX12_changes 6 (some .int) d mc ms 36 [(0, .ref v0), (1, .int v1), (3, .int v3), (4, .int v4), (5, .int v5)] [] h vv hh := by
  intro n
  induction n with
  | zero =>
    intro v3 v4 v5 h m H
    cases H
  | succ n ih =>
    intro v3 v4 v5 h m H KE KR
    unfold f_X12_changes_L36 at H
    refine z_iload (pc := 36) 4 dX12_changes_36 rfl ?_
    refine z_bipush (pc := 38) (x := 31) dX12_changes_38 zc_bipush_31 ?_
    refine z_icmp_ge (pc := 40) 81 dX12_changes_40 (by decide) (fun c9 => ?_) (fun c9 => ?_)
    · rw [if_pos c9] at H
      cases H
      exact z_sub [] rfl (KE _ rfl)
    · rw [if_neg c9] at H
      refine z_aload_n (pc := 43) 0 dX12_changes_43 rfl rfl ?_
      refine z_iload_n (pc := 44) 1 dX12_changes_44 rfl rfl ?_
      refine z_iload (pc := 45) 4 dX12_changes_45 rfl ?_
      obtain ⟨z10, H⟩ := zifE H
      obtain ⟨h11, eh11, H⟩ := zbind H
      refine z_callV (pc := 47) (mc := mc) (ms := ms) (d' := 3) (mc' := 0) (ms' := 0) (rest := []) [.int v1, .int v5] dX12_changes_47 md_X12_says ml_X12_417 im_X12_says se_X12_says rfl z10 rfl rfl (Nat.le_of_ble_eq_true rfl) (by omega) (k_X12_says eh11) ?_
      refine z_aload_n (pc := 50) 0 dX12_changes_50 rfl rfl ?_
      obtain ⟨x12, ex12, H⟩ := zbind H
      refine z_getI (pc := 51) dX12_changes_51 fd_X12_399 ex12 ?_
      refine z_iload (pc := 54) 3 dX12_changes_54 rfl ?_
      refine z_icmp_eq (pc := 56) 69 dX12_changes_56 (by decide) (fun c13 => ?_) (fun c13 => ?_)
      · rw [if_pos c13] at H
        refine z_aload_n (pc := 69) 0 dX12_changes_69 rfl rfl ?_
        obtain ⟨x14, ex14, H⟩ := zbind H
        refine z_getI (pc := 70) dX12_changes_70 fd_X12_399 ex14 ?_
        refine z_istore (pc := 73) (lv' := [(4, .int x14), (0, .ref v0), (1, .int v1), (3, .int v3), (5, .int v5)]) dX12_changes_73 (by decide) rfl ?_
        refine z_iinc (pc := 75) (x' := v5 + 1) (lv' := [(5, .int (v5 + 1)), (4, .int x14), (0, .ref v0), (1, .int v1), (3, .int v3)]) 4 dX12_changes_75 rfl (by rfl) (by decide) rfl ?_
        refine z_goto (pc := 78) 36 dX12_changes_78 (by decide) ?_
        exact z_sub [2, 3, 4, 1, 0] rfl (ih v3 x14 (v5 + 1) h11 _ H KE KR)
      · rw [if_neg c13] at H
        refine z_iload_n (pc := 59) 2 dX12_changes_59 rfl rfl ?_
        refine z_if_ne (pc := 60) 66 dX12_changes_60 (by decide) (fun c15 => ?_) (fun c15 => ?_)
        · rw [if_neg c15] at H
          refine z_iinc (pc := 66) (x' := v3 + (-1)) (lv' := [(3, .int (v3 + (-1))), (0, .ref v0), (1, .int v1), (4, .int v4), (5, .int v5)]) 2 dX12_changes_66 rfl (by rfl) (by decide) rfl ?_
          refine z_aload_n (pc := 69) 1 dX12_changes_69 rfl rfl ?_
          obtain ⟨x16, ex16, H⟩ := zbind H
          refine z_getI (pc := 70) dX12_changes_70 fd_X12_399 ex16 ?_
          refine z_istore (pc := 73) (lv' := [(4, .int x16), (3, .int (v3 + (-1))), (0, .ref v0), (1, .int v1), (5, .int v5)]) dX12_changes_73 (by decide) rfl ?_
          refine z_iinc (pc := 75) (x' := v5 + 1) (lv' := [(5, .int (v5 + 1)), (4, .int x16), (3, .int (v3 + (-1))), (0, .ref v0), (1, .int v1)]) 4 dX12_changes_75 rfl (by rfl) (by decide) rfl ?_
          refine z_goto (pc := 78) 36 dX12_changes_78 (by decide) ?_
          exact z_sub [3, 4, 2, 1, 0] rfl (ih (v3 + (-1)) x16 (v5 + 1) h11 _ H KE KR)
        · rw [if_pos c15] at H
          refine z_iload (pc := 63) 4 dX12_changes_63 rfl ?_
          cases H
          obtain ⟨e8, e9⟩ := KR _ rfl
          subst e8
          subst e9
          exact z_ireturn rfl dX12_changes_65
def f_X12_changes (N : Nat) (v0 : Nat) (v1 : Int32) (v2 : Int32) (h : zH) : Option (Int32 × zH) := (pF h v0 12 0 (.int 0)).bind fun h1 => zif (zob h1 v0 12) <| (f_X12_isMeeting N v0 v1 h1).bind fun q3 => if q3 = 0 then (some ((-1), h1)) else (if 0 ≤ v2 then (zif (zob h1 v0 12) <| (f_X12_says N v0 v1 0 h1).bind fun h7 => (gI h7 v0 12 46).bind fun x8 => (f_X12_changes_L36 N v0 v1 N v2 x8 1 h7).bind fun m17 => zsum m17 fun s18 => some ((-1), s18)) else (some ((-1), h1)))
set_option maxRecDepth 100000 in
set_option maxHeartbeats 4000000 in
theorem k_X12_changes {N : Nat} {v0 : Nat} {v1 : Int32} {v2 : Int32} {h : zH} {r : Int32 × zH} (H : f_X12_changes N v0 v1 v2 h = some r) : zOk 4 0 0 yX12_changes cX12_changes 6 (some .int) [.ref v0, .int v1, .int v2] h (some (.int r.1)) r.2 := by
  refine zOk.of (by decide) (Nat.le_of_ble_eq_true rfl) ?_
  unfold f_X12_changes at H
  refine z_aload_n (pc := 0) 0 dX12_changes_0 rfl rfl ?_
  refine z_iconst (pc := 1) (x := 0) dX12_changes_1 zc_iconst_0 ?_
  obtain ⟨h1, eh1, H⟩ := zbind H
  refine z_put (pc := 2) dX12_changes_2 fd_X12_1 rfl rfl eh1 ?_
  refine z_aload_n (pc := 5) 0 dX12_changes_5 rfl rfl ?_
  refine z_iload_n (pc := 6) 1 dX12_changes_6 rfl rfl ?_
  obtain ⟨z2, H⟩ := zifE H
  obtain ⟨q3, eq3, H⟩ := zbind H
  refine z_callV (pc := 7) (mc := 0) (ms := 0) (d' := 0) (mc' := 0) (ms' := 0) (rest := []) [.int v1] dX12_changes_7 md_X12_isMeeting ml_X12_362 im_X12_isMeeting se_X12_isMeeting rfl z2 rfl rfl (Nat.le_of_ble_eq_true rfl) (by omega) (k_X12_isMeeting eq3) ?_
  refine z_if_eq (pc := 10) 17 dX12_changes_10 (by decide) (fun c4 => ?_) (fun c4 => ?_)
  · rw [if_pos c4] at H
    refine z_iconst (pc := 17) (x := (-1)) dX12_changes_17 zc_iconst_m1 ?_
    cases H
    exact z_ireturn rfl dX12_changes_18
  · rw [if_neg c4] at H
    refine z_iload_n (pc := 13) 2 dX12_changes_13 rfl rfl ?_
    refine z_if_ge (pc := 14) 19 dX12_changes_14 (by decide) (fun c5 => ?_) (fun c5 => ?_)
    · rw [if_pos c5] at H
      refine z_iload_n (pc := 19) 2 dX12_changes_19 rfl rfl ?_
      refine z_istore_n (pc := 20) (lv' := [(3, .int v2), (0, .ref v0), (1, .int v1), (2, .int v2)]) dX12_changes_20 rfl (by decide) rfl ?_
      refine z_aload_n (pc := 21) 1 dX12_changes_21 rfl rfl ?_
      refine z_iload_n (pc := 22) 2 dX12_changes_22 rfl rfl ?_
      refine z_iconst (pc := 23) (x := 0) dX12_changes_23 zc_iconst_0 ?_
      obtain ⟨z6, H⟩ := zifE H
      obtain ⟨h7, eh7, H⟩ := zbind H
      refine z_callV (pc := 24) (mc := 0) (ms := 0) (d' := 3) (mc' := 0) (ms' := 0) (rest := []) [.int v1, .int 0] dX12_changes_24 md_X12_says ml_X12_417 im_X12_says se_X12_says rfl z6 rfl rfl (Nat.le_of_ble_eq_true rfl) (by omega) (k_X12_says eh7) ?_
      refine z_aload_n (pc := 27) 1 dX12_changes_27 rfl rfl ?_
      obtain ⟨x8, ex8, H⟩ := zbind H
      refine z_getI (pc := 28) dX12_changes_28 fd_X12_399 ex8 ?_
      refine z_istore (pc := 31) (lv' := [(4, .int x8), (3, .int v2), (0, .ref v0), (1, .int v1), (2, .int v2)]) dX12_changes_31 (by decide) rfl ?_
      refine z_iconst (pc := 33) (x := 1) dX12_changes_33 zc_iconst_1 ?_
      refine z_istore (pc := 34) (lv' := [(5, .int 1), (4, .int x8), (3, .int v2), (0, .ref v0), (1, .int v1), (2, .int v2)]) dX12_changes_34 (by decide) rfl ?_
      obtain ⟨m17, em17, H⟩ := zbind H
      refine z_sub [3, 4, 2, 1, 0] rfl (s_X12_changes_L36 (by omega) N v2 x8 1 h7 _ em17 ?_ ?_)
      · intro s18 e9
        subst e9
        have H := zsumL H
        refine z_iconst (pc := 81) (x := (-1)) dX12_changes_81 zc_iconst_m1 ?_
        cases H
        exact z_ireturn rfl dX12_changes_82
      · intro r e9
        subst e9
        have H := zsumR H
        cases H
        exact ⟨rfl, rfl⟩
    · rw [if_neg c5] at H
      refine z_iconst (pc := 17) (x := (-1)) dX12_changes_17 zc_iconst_m1 ?_
      cases H
      exact z_ireturn rfl dX12_changes_18

theorem fd_X12_420 : zFd RX12 420 12 49 (.int) false "WhoseStreetModel" := zFd.of cl_12 (by decide) (zmem 1419 (by decide +kernel) rfl) rfl rfl rfl
def f_X12_ruling (N : Nat) (v0 : Nat) (v1 : Int32) (v2 : Int32) (h : zH) : Option (Int32 × zH) := (pF h v0 12 0 (.int 0)).bind fun h1 => zif (zob h1 v0 12) <| (f_X12_isMeeting N v0 v1 h1).bind fun q3 => if q3 = 0 then (some (0, h1)) else ((gI h1 v0 12 49).bind fun x5 => if x5 = 80 then (some (0, h1)) else ((gR h1 v0 12 50).bind fun r7 => (gI h1 v0 12 49).bind fun x8 => (sI h1 r7 x8 v1).bind fun h9 => (gR h9 v0 12 51).bind fun r10 => (gI h9 v0 12 49).bind fun x11 => (sZ h9 r10 x11 v2).bind fun h12 => (gR h12 v0 12 52).bind fun r13 => (gI h12 v0 12 49).bind fun x14 => (gI h12 v0 12 25).bind fun x15 => (sI h12 r13 x14 x15).bind fun h16 => (gI h16 v0 12 49).bind fun x17 => (pF h16 v0 12 49 (.int (x17 + 1))).bind fun h18 => some (1, h18)))
set_option maxRecDepth 100000 in
set_option maxHeartbeats 4000000 in
theorem k_X12_ruling {N : Nat} {v0 : Nat} {v1 : Int32} {v2 : Int32} {h : zH} {r : Int32 × zH} (H : f_X12_ruling N v0 v1 v2 h = some r) : zOk 1 0 0 yX12_ruling cX12_ruling 3 (some .boolean) [.ref v0, .int v1, .int v2] h (some (.int r.1)) r.2 := by
  refine zOk.of (by decide) (Nat.le_of_ble_eq_true rfl) ?_
  unfold f_X12_ruling at H
  refine z_aload_n (pc := 0) 0 dX12_ruling_0 rfl rfl ?_
  refine z_iconst (pc := 1) (x := 0) dX12_ruling_1 zc_iconst_0 ?_
  obtain ⟨h1, eh1, H⟩ := zbind H
  refine z_put (pc := 2) dX12_ruling_2 fd_X12_1 rfl rfl eh1 ?_
  refine z_aload_n (pc := 5) 0 dX12_ruling_5 rfl rfl ?_
  refine z_iload_n (pc := 6) 1 dX12_ruling_6 rfl rfl ?_
  obtain ⟨z2, H⟩ := zifE H
  obtain ⟨q3, eq3, H⟩ := zbind H
  refine z_callV (pc := 7) (mc := 0) (ms := 0) (d' := 0) (mc' := 0) (ms' := 0) (rest := []) [.int v1] dX12_ruling_7 md_X12_isMeeting ml_X12_362 im_X12_isMeeting se_X12_isMeeting rfl z2 rfl rfl (Nat.le_of_ble_eq_true rfl) (by omega) (k_X12_isMeeting eq3) ?_
  refine z_if_eq (pc := 10) 22 dX12_ruling_10 (by decide) (fun c4 => ?_) (fun c4 => ?_)
  · rw [if_pos c4] at H
    refine z_iconst (pc := 22) (x := 0) dX12_ruling_22 zc_iconst_0 ?_
    cases H
    exact z_zreturn rfl dX12_ruling_23 (by decide)
  · rw [if_neg c4] at H
    refine z_aload_n (pc := 13) 0 dX12_ruling_13 rfl rfl ?_
    obtain ⟨x5, ex5, H⟩ := zbind H
    refine z_getI (pc := 14) dX12_ruling_14 fd_X12_420 ex5 ?_
    refine z_bipush (pc := 17) (x := 80) dX12_ruling_17 zc_bipush_80 ?_
    refine z_icmp_ne (pc := 19) 24 dX12_ruling_19 (by decide) (fun c6 => ?_) (fun c6 => ?_)
    · rw [if_neg c6] at H
      refine z_aload_n (pc := 24) 0 dX12_ruling_24 rfl rfl ?_
      obtain ⟨r7, er7, H⟩ := zbind H
      refine z_getR (pc := 25) dX12_ruling_25 fd_X12_157 er7 ?_
      refine z_aload_n (pc := 28) 0 dX12_ruling_28 rfl rfl ?_
      obtain ⟨x8, ex8, H⟩ := zbind H
      refine z_getI (pc := 29) dX12_ruling_29 fd_X12_420 ex8 ?_
      refine z_iload_n (pc := 32) 1 dX12_ruling_32 rfl rfl ?_
      obtain ⟨h9, eh9, H⟩ := zbind H
      refine z_iastore (pc := 33) dX12_ruling_33 eh9 ?_
      refine z_aload_n (pc := 34) 0 dX12_ruling_34 rfl rfl ?_
      obtain ⟨r10, er10, H⟩ := zbind H
      refine z_getR (pc := 35) dX12_ruling_35 fd_X12_160 er10 ?_
      refine z_aload_n (pc := 38) 0 dX12_ruling_38 rfl rfl ?_
      obtain ⟨x11, ex11, H⟩ := zbind H
      refine z_getI (pc := 39) dX12_ruling_39 fd_X12_420 ex11 ?_
      refine z_iload_n (pc := 42) 2 dX12_ruling_42 rfl rfl ?_
      obtain ⟨h12, eh12, H⟩ := zbind H
      refine z_zastore (pc := 43) dX12_ruling_43 eh12 ?_
      refine z_aload_n (pc := 44) 0 dX12_ruling_44 rfl rfl ?_
      obtain ⟨r13, er13, H⟩ := zbind H
      refine z_getR (pc := 45) dX12_ruling_45 fd_X12_164 er13 ?_
      refine z_aload_n (pc := 48) 0 dX12_ruling_48 rfl rfl ?_
      obtain ⟨x14, ex14, H⟩ := zbind H
      refine z_getI (pc := 49) dX12_ruling_49 fd_X12_420 ex14 ?_
      refine z_aload_n (pc := 52) 0 dX12_ruling_52 rfl rfl ?_
      obtain ⟨x15, ex15, H⟩ := zbind H
      refine z_getI (pc := 53) dX12_ruling_53 fd_X12_296 ex15 ?_
      obtain ⟨h16, eh16, H⟩ := zbind H
      refine z_iastore (pc := 56) dX12_ruling_56 eh16 ?_
      refine z_aload_n (pc := 57) 0 dX12_ruling_57 rfl rfl ?_
      refine z_dup (pc := 58) dX12_ruling_58 rfl ?_
      obtain ⟨x17, ex17, H⟩ := zbind H
      refine z_getI (pc := 59) dX12_ruling_59 fd_X12_420 ex17 ?_
      refine z_iconst (pc := 62) (x := 1) dX12_ruling_62 zc_iconst_1 ?_
      refine z_iadd (pc := 63) dX12_ruling_63 ?_
      obtain ⟨h18, eh18, H⟩ := zbind H
      refine z_put (pc := 64) dX12_ruling_64 fd_X12_420 rfl rfl eh18 ?_
      refine z_iconst (pc := 67) (x := 1) dX12_ruling_67 zc_iconst_1 ?_
      cases H
      exact z_zreturn rfl dX12_ruling_68 (by decide)
    · rw [if_pos c6] at H
      refine z_iconst (pc := 22) (x := 0) dX12_ruling_22 zc_iconst_0 ?_
      cases H
      exact z_zreturn rfl dX12_ruling_23 (by decide)

def f_X12_has (N : Nat) (v0 : Int32) (v1 : Int32) (h : zH) : Option (Int32) := (if 8 ≤ v1 then (some 0) else (some 1) : Option (Int32)).bind fun m1 => if ((v0 >>> ((v1 - v1 / 8 * 8) &&& 31)) &&& 1) = m1 then (some 1) else (some 0)
set_option maxRecDepth 100000 in
set_option maxHeartbeats 4000000 in
theorem k_X12_has {N : Nat} {v0 : Int32} {v1 : Int32} {h : zH} {r : Int32} (H : f_X12_has N v0 v1 h = some r) : zOk 0 0 0 yX12_has cX12_has 2 (some .boolean) [.int v0, .int v1] h (some (.int r)) h := by
  refine zOk.of (by decide) (Nat.le_of_ble_eq_true rfl) ?_
  unfold f_X12_has at H
  refine z_iload_n (pc := 0) 0 dX12_has_0 rfl rfl ?_
  refine z_iload_n (pc := 1) 1 dX12_has_1 rfl rfl ?_
  refine z_bipush (pc := 2) (x := 8) dX12_has_2 zc_bipush_8 ?_
  refine z_irem (pc := 4) dX12_has_4 (by decide) ?_
  refine z_ishr (pc := 5) dX12_has_5 ?_
  refine z_iconst (pc := 6) (x := 1) dX12_has_6 zc_iconst_1 ?_
  refine z_iand (pc := 7) dX12_has_7 ?_
  refine z_iload_n (pc := 8) 1 dX12_has_8 rfl rfl ?_
  refine z_bipush (pc := 9) (x := 8) dX12_has_9 zc_bipush_8 ?_
  obtain ⟨m1, em1, H⟩ := zbind H
  have Jm1 : zW yX12_has cX12_has 2 (some .boolean) 0 0 0 19 [] [.int m1, .int ((v0 >>> ((v1 - v1 / 8 * 8) &&& 31)) &&& 1)] h (some (.int r)) h := by
    refine z_icmp_ne (pc := 19) 26 dX12_has_19 (by decide) (fun c3 => ?_) (fun c3 => ?_)
    · rw [if_neg c3] at H
      refine z_iconst (pc := 26) (x := 0) dX12_has_26 zc_iconst_0 ?_
      cases H
      exact z_zreturn rfl dX12_has_27 (by decide)
    · rw [if_pos c3] at H
      refine z_iconst (pc := 22) (x := 1) dX12_has_22 zc_iconst_1 ?_
      refine z_goto (pc := 23) 27 dX12_has_23 (by decide) ?_
      cases H
      exact z_zreturn rfl dX12_has_27 (by decide)
  refine z_icmp_ge (pc := 11) 18 dX12_has_11 (by decide) (fun c2 => ?_) (fun c2 => ?_)
  · rw [if_pos c2] at em1
    refine z_iconst (pc := 18) (x := 0) dX12_has_18 zc_iconst_0 ?_
    cases em1
    exact z_sub [] rfl Jm1
  · rw [if_neg c2] at em1
    refine z_iconst (pc := 14) (x := 1) dX12_has_14 zc_iconst_1 ?_
    refine z_goto (pc := 15) 19 dX12_has_15 (by decide) ?_
    cases em1
    exact z_sub [] rfl Jm1

theorem md_X12_has : zMd yX12_has cX12_has 2 2 (some .boolean) := ⟨zmw (zmt_8 _ (List.mem_of_getElem? (i := 37) rfl)) rfl, zmem 127 (by decide +kernel) rfl, by decide, by decide, by decide +kernel, by decide⟩
theorem ml_X12_423 : Cond.methodLink RX12 423 yX12_has ∈ zB := zmem 1826 (by decide +kernel) rfl
theorem sm_X12_has : Cond.static yX12_has ∈ zB := zmem 1827 (by decide +kernel) rfl
def f_X12_isSo (N : Nat) (v0 : Nat) (v1 : Int32) (v2 : Int32) (h : zH) : Option (Int32) := (gR h v0 12 54).bind fun r1 => (aI h r1 v1).bind fun x2 => (f_X12_has N v2 x2 h).bind fun q3 => if q3 = 0 then (some 0) else ((gR h v0 12 55).bind fun r5 => (aI h r5 v1).bind fun x6 => (f_X12_has N v2 x6 h).bind fun q7 => if q7 = 0 then (some 0) else (some 1))
set_option maxRecDepth 100000 in
set_option maxHeartbeats 4000000 in
theorem k_X12_isSo {N : Nat} {v0 : Nat} {v1 : Int32} {v2 : Int32} {h : zH} {r : Int32} (H : f_X12_isSo N v0 v1 v2 h = some r) : zOk 1 0 0 yX12_isSo cX12_isSo 3 (some .boolean) [.ref v0, .int v1, .int v2] h (some (.int r)) h := by
  refine zOk.of (by decide) (Nat.le_of_ble_eq_true rfl) ?_
  unfold f_X12_isSo at H
  refine z_iload_n (pc := 0) 2 dX12_isSo_0 rfl rfl ?_
  refine z_aload_n (pc := 1) 0 dX12_isSo_1 rfl rfl ?_
  obtain ⟨r1, er1, H⟩ := zbind H
  refine z_getR (pc := 2) dX12_isSo_2 fd_X12_170 er1 ?_
  refine z_iload_n (pc := 5) 1 dX12_isSo_5 rfl rfl ?_
  obtain ⟨x2, ex2, H⟩ := zbind H
  refine z_iaload (pc := 6) dX12_isSo_6 ex2 ?_
  obtain ⟨q3, eq3, H⟩ := zbind H
  refine z_callS (pc := 7) (mc := 0) (ms := 0) (d' := 0) (mc' := 0) (ms' := 0) (rest := []) [.int v2, .int x2] dX12_isSo_7 md_X12_has ml_X12_423 sm_X12_has rfl rfl (Nat.le_of_ble_eq_true rfl) (by omega) (k_X12_has eq3) ?_
  refine z_if_eq (pc := 10) 30 dX12_isSo_10 (by decide) (fun c4 => ?_) (fun c4 => ?_)
  · rw [if_pos c4] at H
    refine z_iconst (pc := 30) (x := 0) dX12_isSo_30 zc_iconst_0 ?_
    cases H
    exact z_zreturn rfl dX12_isSo_31 (by decide)
  · rw [if_neg c4] at H
    refine z_iload_n (pc := 13) 2 dX12_isSo_13 rfl rfl ?_
    refine z_aload_n (pc := 14) 0 dX12_isSo_14 rfl rfl ?_
    obtain ⟨r5, er5, H⟩ := zbind H
    refine z_getR (pc := 15) dX12_isSo_15 fd_X12_173 er5 ?_
    refine z_iload_n (pc := 18) 1 dX12_isSo_18 rfl rfl ?_
    obtain ⟨x6, ex6, H⟩ := zbind H
    refine z_iaload (pc := 19) dX12_isSo_19 ex6 ?_
    obtain ⟨q7, eq7, H⟩ := zbind H
    refine z_callS (pc := 20) (mc := 0) (ms := 0) (d' := 0) (mc' := 0) (ms' := 0) (rest := []) [.int v2, .int x6] dX12_isSo_20 md_X12_has ml_X12_423 sm_X12_has rfl rfl (Nat.le_of_ble_eq_true rfl) (by omega) (k_X12_has eq7) ?_
    refine z_if_eq (pc := 23) 30 dX12_isSo_23 (by decide) (fun c8 => ?_) (fun c8 => ?_)
    · rw [if_pos c8] at H
      refine z_iconst (pc := 30) (x := 0) dX12_isSo_30 zc_iconst_0 ?_
      cases H
      exact z_zreturn rfl dX12_isSo_31 (by decide)
    · rw [if_neg c8] at H
      refine z_iconst (pc := 26) (x := 1) dX12_isSo_26 zc_iconst_1 ?_
      refine z_goto (pc := 27) 31 dX12_isSo_27 (by decide) ?_
      cases H
      exact z_zreturn rfl dX12_isSo_31 (by decide)

def f_X12_findSigns_L2 (N : Nat) (v0 : Nat) : Nat → Int32 → zH → Option (zH)
  | 0, _, _ => none
  | n + 1, v1, h => (gI h v0 12 27).bind fun x1 => if x1 ≤ v1 then (some h) else ((gR h v0 12 53).bind fun r3 => zif (zob h v0 12) <| (f_X12_signsOf N v0 v1 h).bind fun q5 => (sI q5.2 r3 v1 q5.1).bind fun h6 => f_X12_findSigns_L2 N v0 n (v1 + 1) h6)
def f_X12_findSigns_L39 (N : Nat) (v0 : Nat) (v2 : Int32) : Nat → Int32 → Int32 → zH → Option (Int32 × zH)
  | 0, _, _, _ => none
  | n + 1, v1, v3, h => if 16 ≤ v3 then (some (v1, h)) else ((if v2 = v3 then (some (.inl v3)) else (if (v2 - v2 / 8 * 8) = (v3 - v3 / 8 * 8) then ((f_X12_findSigns_L39 N v0 v2 n v1 (v3 + 1) h).map .inr) else (some (.inl v3))) : Option ((Int32) ⊕ (Int32 × zH))).bind fun m10 => zsum m10 fun s11 => (gR h v0 12 54).bind fun r15 => (sI h r15 v1 v2).bind fun h16 => (gR h16 v0 12 55).bind fun r17 => (sI h16 r17 v1 s11).bind fun h18 => f_X12_findSigns_L39 N v0 v2 n (v1 + 1) (s11 + 1) h18)
def f_X12_findSigns_L31 (N : Nat) (v0 : Nat) : Nat → Int32 → Int32 → zH → Option (zH)
  | 0, _, _, _ => none
  | n + 1, v1, v2, h => if 16 ≤ v2 then (some h) else ((f_X12_findSigns_L39 N v0 v2 N v1 v2 h).bind fun m19 => f_X12_findSigns_L31 N v0 n m19.1 (v2 + 1) m19.2)
set_option maxRecDepth 100000 in
set_option maxHeartbeats 4000000 in
theorem s_X12_findSigns_L2 {d mc ms N : Nat} {vv : Option Value} {hh : zH} {v0 : Nat} (hd0 : 3 ≤ d) : ∀ (n : Nat) (v1 : Int32) (h : zH) (m : zH), f_X12_findSigns_L2 N v0 n v1 h = some m → (zW yX12_findSigns cX12_findSigns 4 none d mc ms 27 [(0, .ref v0)] [] m vv hh) → zW yX12_findSigns cX12_findSigns 4 none d mc ms 2 [(0, .ref v0), (1, .int v1)] [] h vv hh := by
  intro n
  induction n with
  | zero =>
    intro v1 h m H
    cases H
  | succ n ih =>
    intro v1 h m H KE
    unfold f_X12_findSigns_L2 at H
    refine z_iload_n (pc := 2) 1 dX12_findSigns_2 rfl rfl ?_
    refine z_aload_n (pc := 3) 0 dX12_findSigns_3 rfl rfl ?_
    obtain ⟨x1, ex1, H⟩ := zbind H
    refine z_getI (pc := 4) dX12_findSigns_4 fd_X12_359 ex1 ?_
    refine z_icmp_ge (pc := 7) 27 dX12_findSigns_7 (by decide) (fun c2 => ?_) (fun c2 => ?_)
    · rw [if_pos c2] at H
      cases H
      exact z_sub [0] rfl (KE)
    · rw [if_neg c2] at H
      refine z_aload_n (pc := 10) 0 dX12_findSigns_10 rfl rfl ?_
      obtain ⟨r3, er3, H⟩ := zbind H
      refine z_getR (pc := 11) dX12_findSigns_11 fd_X12_167 er3 ?_
      refine z_iload_n (pc := 14) 1 dX12_findSigns_14 rfl rfl ?_
      refine z_aload_n (pc := 15) 0 dX12_findSigns_15 rfl rfl ?_
      refine z_iload_n (pc := 16) 1 dX12_findSigns_16 rfl rfl ?_
      obtain ⟨z4, H⟩ := zifE H
      obtain ⟨q5, eq5, H⟩ := zbind H
      refine z_callV (pc := 17) (mc := mc) (ms := ms) (d' := 2) (mc' := 0) (ms' := 0) (rest := [.int v1, .ref r3]) [.int v1] dX12_findSigns_17 md_X12_signsOf ml_X12_393 im_X12_signsOf se_X12_signsOf rfl z4 rfl rfl (Nat.le_of_ble_eq_true rfl) (by omega) (k_X12_signsOf eq5) ?_
      obtain ⟨h6, eh6, H⟩ := zbind H
      refine z_iastore (pc := 20) dX12_findSigns_20 eh6 ?_
      refine z_iinc (pc := 21) (x' := v1 + 1) (lv' := [(1, .int (v1 + 1)), (0, .ref v0)]) 1 dX12_findSigns_21 rfl (by rfl) (by decide) rfl ?_
      refine z_goto (pc := 24) 2 dX12_findSigns_24 (by decide) ?_
      exact z_sub [1, 0] rfl (ih (v1 + 1) h6 _ H KE)
set_option maxRecDepth 100000 in
set_option maxHeartbeats 4000000 in
theorem s_X12_findSigns_L39 {d mc ms N : Nat} {vv : Option Value} {hh : zH} {v0 : Nat} {v2 : Int32} (hd0 : 3 ≤ d) : ∀ (n : Nat) (v1 : Int32) (v3 : Int32) (h : zH) (m : Int32 × zH), f_X12_findSigns_L39 N v0 v2 n v1 v3 h = some m → (zW yX12_findSigns cX12_findSigns 4 none d mc ms 84 [(0, .ref v0), (1, .int m.1), (2, .int v2)] [] m.2 vv hh) → zW yX12_findSigns cX12_findSigns 4 none d mc ms 39 [(0, .ref v0), (1, .int v1), (2, .int v2), (3, .int v3)] [] h vv hh := by
  intro n
  induction n with
  | zero =>
    intro v1 v3 h m H
    cases H
  | succ n ih =>
    intro v1 v3 h m H KE
    unfold f_X12_findSigns_L39 at H
    refine z_iload_n (pc := 39) 3 dX12_findSigns_39 rfl rfl ?_
    refine z_bipush (pc := 40) (x := 16) dX12_findSigns_40 zc_bipush_16 ?_
    refine z_icmp_ge (pc := 42) 84 dX12_findSigns_42 (by decide) (fun c9 => ?_) (fun c9 => ?_)
    · rw [if_pos c9] at H
      cases H
      exact z_sub [0, 1, 2] rfl (KE)
    · rw [if_neg c9] at H
      refine z_iload_n (pc := 45) 2 dX12_findSigns_45 rfl rfl ?_
      refine z_iload_n (pc := 46) 3 dX12_findSigns_46 rfl rfl ?_
      obtain ⟨m10, em10, H⟩ := zbind H
      have Jm10 : ∀ s11, m10 = .inl s11 → zW yX12_findSigns cX12_findSigns 4 none d mc ms 61 [(0, .ref v0), (1, .int v1), (2, .int v2), (3, .int s11)] [] h vv hh := by
        intro s11 e9
        subst e9
        have H := zsumL H
        refine z_aload_n (pc := 61) 0 dX12_findSigns_61 rfl rfl ?_
        obtain ⟨r15, er15, H⟩ := zbind H
        refine z_getR (pc := 62) dX12_findSigns_62 fd_X12_170 er15 ?_
        refine z_iload_n (pc := 65) 1 dX12_findSigns_65 rfl rfl ?_
        refine z_iload_n (pc := 66) 2 dX12_findSigns_66 rfl rfl ?_
        obtain ⟨h16, eh16, H⟩ := zbind H
        refine z_iastore (pc := 67) dX12_findSigns_67 eh16 ?_
        refine z_aload_n (pc := 68) 0 dX12_findSigns_68 rfl rfl ?_
        obtain ⟨r17, er17, H⟩ := zbind H
        refine z_getR (pc := 69) dX12_findSigns_69 fd_X12_173 er17 ?_
        refine z_iload_n (pc := 72) 1 dX12_findSigns_72 rfl rfl ?_
        refine z_iload_n (pc := 73) 3 dX12_findSigns_73 rfl rfl ?_
        obtain ⟨h18, eh18, H⟩ := zbind H
        refine z_iastore (pc := 74) dX12_findSigns_74 eh18 ?_
        refine z_iinc (pc := 75) (x' := v1 + 1) (lv' := [(1, .int (v1 + 1)), (0, .ref v0), (2, .int v2), (3, .int s11)]) 1 dX12_findSigns_75 rfl (by rfl) (by decide) rfl ?_
        refine z_iinc (pc := 78) (x' := s11 + 1) (lv' := [(3, .int (s11 + 1)), (1, .int (v1 + 1)), (0, .ref v0), (2, .int v2)]) 3 dX12_findSigns_78 rfl (by rfl) (by decide) rfl ?_
        refine z_goto (pc := 81) 39 dX12_findSigns_81 (by decide) ?_
        exact z_sub [2, 1, 3, 0] rfl (ih (v1 + 1) (s11 + 1) h18 _ H KE)
      refine z_icmp_eq (pc := 47) 61 dX12_findSigns_47 (by decide) (fun c12 => ?_) (fun c12 => ?_)
      · rw [if_pos c12] at em10
        cases em10
        exact z_sub [0, 1, 2, 3] rfl (Jm10 _ rfl)
      · rw [if_neg c12] at em10
        refine z_iload_n (pc := 50) 2 dX12_findSigns_50 rfl rfl ?_
        refine z_bipush (pc := 51) (x := 8) dX12_findSigns_51 zc_bipush_8 ?_
        refine z_irem (pc := 53) dX12_findSigns_53 (by decide) ?_
        refine z_iload_n (pc := 54) 3 dX12_findSigns_54 rfl rfl ?_
        refine z_bipush (pc := 55) (x := 8) dX12_findSigns_55 zc_bipush_8 ?_
        refine z_irem (pc := 57) dX12_findSigns_57 (by decide) ?_
        refine z_icmp_eq (pc := 58) 78 dX12_findSigns_58 (by decide) (fun c13 => ?_) (fun c13 => ?_)
        · rw [if_pos c13] at em10
          refine z_iinc (pc := 78) (x' := v3 + 1) (lv' := [(3, .int (v3 + 1)), (0, .ref v0), (1, .int v1), (2, .int v2)]) 3 dX12_findSigns_78 rfl (by rfl) (by decide) rfl ?_
          refine z_goto (pc := 81) 39 dX12_findSigns_81 (by decide) ?_
          obtain ⟨o14, H9, e9⟩ := zmapR em10
          subst e9
          have H9 := H9.trans (zsumR H)
          exact z_sub [1, 2, 3, 0] rfl (ih v1 (v3 + 1) h _ H9 KE)
        · rw [if_neg c13] at em10
          cases em10
          exact z_sub [0, 1, 2, 3] rfl (Jm10 _ rfl)
set_option maxRecDepth 100000 in
set_option maxHeartbeats 4000000 in
theorem s_X12_findSigns_L31 {d mc ms N : Nat} {vv : Option Value} {hh : zH} {v0 : Nat} (hd0 : 3 ≤ d) : ∀ (n : Nat) (v1 : Int32) (v2 : Int32) (h : zH) (m : zH), f_X12_findSigns_L31 N v0 n v1 v2 h = some m → (zW yX12_findSigns cX12_findSigns 4 none d mc ms 90 [] [] m vv hh) → zW yX12_findSigns cX12_findSigns 4 none d mc ms 31 [(0, .ref v0), (1, .int v1), (2, .int v2)] [] h vv hh := by
  intro n
  induction n with
  | zero =>
    intro v1 v2 h m H
    cases H
  | succ n ih =>
    intro v1 v2 h m H KE
    unfold f_X12_findSigns_L31 at H
    refine z_iload_n (pc := 31) 2 dX12_findSigns_31 rfl rfl ?_
    refine z_bipush (pc := 32) (x := 16) dX12_findSigns_32 zc_bipush_16 ?_
    refine z_icmp_ge (pc := 34) 90 dX12_findSigns_34 (by decide) (fun c8 => ?_) (fun c8 => ?_)
    · rw [if_pos c8] at H
      cases H
      exact z_sub [] rfl (KE)
    · rw [if_neg c8] at H
      refine z_iload_n (pc := 37) 2 dX12_findSigns_37 rfl rfl ?_
      refine z_istore_n (pc := 38) (lv' := [(3, .int v2), (0, .ref v0), (1, .int v1), (2, .int v2)]) dX12_findSigns_38 rfl (by decide) rfl ?_
      obtain ⟨m19, em19, H⟩ := zbind H
      refine z_sub [1, 2, 3, 0] rfl (s_X12_findSigns_L39 (by omega) N v1 v2 h _ em19 ?_)
      refine z_iinc (pc := 84) (x' := v2 + 1) (lv' := [(2, .int (v2 + 1)), (0, .ref v0), (1, .int m19.1)]) 2 dX12_findSigns_84 rfl (by rfl) (by decide) rfl ?_
      refine z_goto (pc := 87) 31 dX12_findSigns_87 (by decide) ?_
      exact z_sub [1, 2, 0] rfl (ih m19.1 (v2 + 1) m19.2 _ H KE)
def f_X12_findSigns (N : Nat) (v0 : Nat) (h : zH) : Option (zH) := (f_X12_findSigns_L2 N v0 N 0 h).bind fun m7 => (f_X12_findSigns_L31 N v0 N 0 0 m7).bind fun m20 => some m20
set_option maxRecDepth 100000 in
set_option maxHeartbeats 4000000 in
theorem k_X12_findSigns {N : Nat} {v0 : Nat} {h : zH} {r : zH} (H : f_X12_findSigns N v0 h = some r) : zOk 3 0 0 yX12_findSigns cX12_findSigns 4 none [.ref v0] h none r := by
  refine zOk.of (by decide) (Nat.le_of_ble_eq_true rfl) ?_
  unfold f_X12_findSigns at H
  refine z_iconst (pc := 0) (x := 0) dX12_findSigns_0 zc_iconst_0 ?_
  refine z_istore_n (pc := 1) (lv' := [(1, .int 0), (0, .ref v0)]) dX12_findSigns_1 rfl (by decide) rfl ?_
  obtain ⟨m7, em7, H⟩ := zbind H
  refine z_sub [1, 0] rfl (s_X12_findSigns_L2 (by omega) N 0 h _ em7 ?_)
  refine z_iconst (pc := 27) (x := 0) dX12_findSigns_27 zc_iconst_0 ?_
  refine z_istore_n (pc := 28) (lv' := [(1, .int 0), (0, .ref v0)]) dX12_findSigns_28 rfl (by decide) rfl ?_
  refine z_iconst (pc := 29) (x := 0) dX12_findSigns_29 zc_iconst_0 ?_
  refine z_istore_n (pc := 30) (lv' := [(2, .int 0), (1, .int 0), (0, .ref v0)]) dX12_findSigns_30 rfl (by decide) rfl ?_
  obtain ⟨m20, em20, H⟩ := zbind H
  refine z_sub [2, 1, 0] rfl (s_X12_findSigns_L31 (by omega) N 0 0 m7 _ em20 ?_)
  cases H
  exact z_return rfl dX12_findSigns_90

