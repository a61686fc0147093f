theorem fd_X12_445 : zFd RX12 445 12 63 (.int) false "WhoseStreetModel" := zFd.of cl_12 (by decide) (zmem 1433 (by decide +kernel) rfl) rfl rfl rfl
theorem md_X12_arePhases : zMd yX12_arePhases cX12_arePhases 6 1 (some .boolean) := ⟨zmw (zmt_8 _ (List.mem_of_getElem? (i := 68) rfl)) rfl, zmem 127 (by decide +kernel) rfl, by decide, by decide, by decide +kernel, by decide⟩
theorem ml_X12_448 : Cond.methodLink RX12 448 yX12_arePhases ∈ zB := zmem 1856 (by decide +kernel) rfl
theorem im_X12_arePhases : Cond.instanceMethod yX12_arePhases ∈ zB := zmem 1858 (by decide +kernel) rfl
theorem se_X12_arePhases : Cond.selects yX12_arePhases.cls yX12_arePhases yX12_arePhases ∈ zB := zmem 98 (by decide +kernel) rfl
theorem md_X12_roundOf : zMd yX12_roundOf cX12_roundOf 7 2 (some .int) := ⟨zmw (zmt_8 _ (List.mem_of_getElem? (i := 75) rfl)) rfl, zmem 127 (by decide +kernel) rfl, by decide, by decide, by decide +kernel, by decide⟩
theorem ml_X12_451 : Cond.methodLink RX12 451 yX12_roundOf ∈ zB := zmem 1863 (by decide +kernel) rfl
theorem im_X12_roundOf : Cond.instanceMethod yX12_roundOf ∈ zB := zmem 1865 (by decide +kernel) rfl
theorem se_X12_roundOf : Cond.selects yX12_roundOf.cls yX12_roundOf yX12_roundOf ∈ zB := zmem 99 (by decide +kernel) rfl
theorem md_X12_waitingOf : zMd yX12_waitingOf cX12_waitingOf 4 3 (some .int) := ⟨zmw (zmt_8 _ (List.mem_of_getElem? (i := 83) rfl)) rfl, zmem 127 (by decide +kernel) rfl, by decide, by decide, by decide +kernel, by decide⟩
theorem ml_X12_454 : Cond.methodLink RX12 454 yX12_waitingOf ∈ zB := zmem 1871 (by decide +kernel) rfl
theorem im_X12_waitingOf : Cond.instanceMethod yX12_waitingOf ∈ zB := zmem 1873 (by decide +kernel) rfl
theorem se_X12_waitingOf : Cond.selects yX12_waitingOf.cls yX12_waitingOf yX12_waitingOf ∈ zB := zmem 101 (by decide +kernel) rfl
theorem fd_X12_457 : zFd RX12 457 12 65 (.int) false "WhoseStreetModel" := zFd.of cl_12 (by decide) (zmem 1435 (by decide +kernel) rfl) rfl rfl rfl
theorem fd_X12_460 : zFd RX12 460 12 64 (.int) false "WhoseStreetModel" := zFd.of cl_12 (by decide) (zmem 1434 (by decide +kernel) rfl) rfl rfl rfl
def f_X12_findLights_L35 (N : Nat) (v0 : Nat) (v2 : Int32) (v3 : Int32) (h : zH) : Nat → Int32 → Int32 → Option (Int32)
  | 0, _, _ => none
  | n + 1, v4, v5 => if 4 ≤ v5 then (some v4) else ((gR h v0 12 57).bind fun r9 => (aZ h r9 v5).bind fun x10 => if x10 = 0 then (zlet (v4 + 0 : Int32) fun x12 => f_X12_findLights_L35 N v0 v2 v3 h n x12 (v5 + 1)) else (zif (zob h v0 12) <| (f_X12_waitingOf N v0 v2 v3 v5 h).bind fun q14 => zlet (v4 + q14 : Int32) fun x15 => f_X12_findLights_L35 N v0 v2 v3 h n x15 (v5 + 1)))
def f_X12_findLights_L7 (N : Nat) (v0 : Nat) (v1 : Int32) : Nat → Int32 → zH → Option (zH)
  | 0, _, _ => none
  | n + 1, v2, h => if 256 ≤ v2 then (some h) else (zif (zob h v0 12) <| (f_X12_arePhases N v0 v2 h).bind fun q4 => if q4 = 0 then (f_X12_findLights_L7 N v0 v1 n (v2 + 1) h) else (zif (zob h v0 12) <| (f_X12_roundOf N v0 v2 v1 h).bind fun q7 => (f_X12_findLights_L35 N v0 v2 q7.1 q7.2 N 0 0).bind fun m16 => (gI q7.2 v0 12 63).bind fun x17 => (if x17 < 0 then (some 1) else ((gI q7.2 v0 12 65).bind fun x20 => if m16 < x20 then (some 1) else ((gI q7.2 v0 12 65).bind fun x22 => if m16 = x22 then ((gI q7.2 v0 12 64).bind fun x24 => if x24 ≤ q7.1 then (some 0) else (some 1)) else (some 0))) : Option (Int32)).bind fun m18 => if 120 < q7.1 then (f_X12_findLights_L7 N v0 v1 n (v2 + 1) q7.2) else (if m18 = 0 then (f_X12_findLights_L7 N v0 v1 n (v2 + 1) q7.2) else ((pF q7.2 v0 12 63 (.int v2)).bind fun h28 => (pF h28 v0 12 64 (.int q7.1)).bind fun h29 => (pF h29 v0 12 65 (.int m16)).bind fun h30 => f_X12_findLights_L7 N v0 v1 n (v2 + 1) h30))))
set_option maxRecDepth 100000 in
set_option maxHeartbeats 4000000 in
theorem s_X12_findLights_L35 {d mc ms N : Nat} {vv : Option Value} {hh : zH} {v0 : Nat} {v2 : Int32} {v3 : Int32} {v1 : Int32} {h : zH} (hd0 : 3 ≤ d) : ∀ (n : Nat) (v4 : Int32) (v5 : Int32) (m : Int32), f_X12_findLights_L35 N v0 v2 v3 h n v4 v5 = some m → (zW yX12_findLights cX12_findLights 6 none d mc ms 74 [(0, .ref v0), (1, .int v1), (2, .int v2), (3, .int v3), (4, .int m)] [] h vv hh) → zW yX12_findLights cX12_findLights 6 none d mc ms 35 [(0, .ref v0), (1, .int v1), (2, .int v2), (3, .int v3), (4, .int v4), (5, .int v5)] [] h vv hh := by
  intro n
  induction n with
  | zero =>
    intro v4 v5 m H
    cases H
  | succ n ih =>
    intro v4 v5 m H KE
    unfold f_X12_findLights_L35 at H
    refine z_iload (pc := 35) 5 dX12_findLights_35 rfl ?_
    refine z_iconst (pc := 37) (x := 4) dX12_findLights_37 zc_iconst_4 ?_
    refine z_icmp_ge (pc := 38) 74 dX12_findLights_38 (by decide) (fun c8 => ?_) (fun c8 => ?_)
    · rw [if_pos c8] at H
      cases H
      exact z_sub [0, 1, 2, 3, 4] rfl (KE)
    · rw [if_neg c8] at H
      refine z_iload (pc := 41) 4 dX12_findLights_41 rfl ?_
      refine z_aload_n (pc := 43) 0 dX12_findLights_43 rfl rfl ?_
      obtain ⟨r9, er9, H⟩ := zbind H
      refine z_getR (pc := 44) dX12_findLights_44 fd_X12_179 er9 ?_
      refine z_iload (pc := 47) 5 dX12_findLights_47 rfl ?_
      obtain ⟨x10, ex10, H⟩ := zbind H
      refine z_zaload (pc := 49) dX12_findLights_49 ex10 ?_
      refine z_if_eq (pc := 50) 64 dX12_findLights_50 (by decide) (fun c11 => ?_) (fun c11 => ?_)
      · rw [if_pos c11] at H
        refine z_iconst (pc := 64) (x := 0) dX12_findLights_64 zc_iconst_0 ?_
        refine z_iadd (pc := 65) dX12_findLights_65 ?_
        obtain ⟨x12, ex12, H⟩ := zletE H
        refine z_nmI ex12 ?_
        refine z_istore (pc := 66) (lv' := [(4, .int x12), (0, .ref v0), (1, .int v1), (2, .int v2), (3, .int v3), (5, .int v5)]) dX12_findLights_66 (by decide) rfl ?_
        refine z_iinc (pc := 68) (x' := v5 + 1) (lv' := [(5, .int (v5 + 1)), (4, .int x12), (0, .ref v0), (1, .int v1), (2, .int v2), (3, .int v3)]) 5 dX12_findLights_68 rfl (by rfl) (by decide) rfl ?_
        refine z_goto (pc := 71) 35 dX12_findLights_71 (by decide) ?_
        exact z_sub [2, 3, 4, 5, 1, 0] rfl (ih x12 (v5 + 1) _ H KE)
      · rw [if_neg c11] at H
        refine z_aload_n (pc := 53) 0 dX12_findLights_53 rfl rfl ?_
        refine z_iload_n (pc := 54) 2 dX12_findLights_54 rfl rfl ?_
        refine z_iload_n (pc := 55) 3 dX12_findLights_55 rfl rfl ?_
        refine z_iload (pc := 56) 5 dX12_findLights_56 rfl ?_
        obtain ⟨z13, H⟩ := zifE H
        obtain ⟨q14, eq14, H⟩ := zbind H
        refine z_callV (pc := 58) (mc := mc) (ms := ms) (d' := 1) (mc' := 0) (ms' := 0) (rest := [.int v4]) [.int v2, .int v3, .int v5] dX12_findLights_58 md_X12_waitingOf ml_X12_454 im_X12_waitingOf se_X12_waitingOf rfl z13 rfl rfl (Nat.le_of_ble_eq_true rfl) (by omega) (k_X12_waitingOf eq14) ?_
        refine z_goto (pc := 61) 65 dX12_findLights_61 (by decide) ?_
        refine z_iadd (pc := 65) dX12_findLights_65 ?_
        obtain ⟨x15, ex15, H⟩ := zletE H
        refine z_nmI ex15 ?_
        refine z_istore (pc := 66) (lv' := [(4, .int x15), (0, .ref v0), (1, .int v1), (2, .int v2), (3, .int v3), (5, .int v5)]) dX12_findLights_66 (by decide) rfl ?_
        refine z_iinc (pc := 68) (x' := v5 + 1) (lv' := [(5, .int (v5 + 1)), (4, .int x15), (0, .ref v0), (1, .int v1), (2, .int v2), (3, .int v3)]) 5 dX12_findLights_68 rfl (by rfl) (by decide) rfl ?_
        refine z_goto (pc := 71) 35 dX12_findLights_71 (by decide) ?_
        exact z_sub [2, 3, 4, 5, 1, 0] rfl (ih x15 (v5 + 1) _ H KE)
set_option maxRecDepth 100000 in
set_option maxHeartbeats 4000000 in
theorem s_X12_findLights_L7 {d mc ms N : Nat} {vv : Option Value} {hh : zH} {v0 : Nat} {v1 : Int32} (hd0 : 3 ≤ d) : ∀ (n : Nat) (v2 : Int32) (h : zH) (m : zH), f_X12_findLights_L7 N v0 v1 n v2 h = some m → (zW yX12_findLights cX12_findLights 6 none d mc ms 147 [] [] m vv hh) → zW yX12_findLights cX12_findLights 6 none d mc ms 7 [(0, .ref v0), (1, .int v1), (2, .int v2)] [] h vv hh := by
  intro n
  induction n with
  | zero =>
    intro v2 h m H
    cases H
  | succ n ih =>
    intro v2 h m H KE
    unfold f_X12_findLights_L7 at H
    refine z_iload_n (pc := 7) 2 dX12_findLights_7 rfl rfl ?_
    refine z_sipush (pc := 8) (x := 256) dX12_findLights_8 zc_sipush_256 ?_
    refine z_icmp_ge (pc := 11) 147 dX12_findLights_11 (by decide) (fun c2 => ?_) (fun c2 => ?_)
    · rw [if_pos c2] at H
      cases H
      exact z_sub [] rfl (KE)
    · rw [if_neg c2] at H
      refine z_aload_n (pc := 14) 0 dX12_findLights_14 rfl rfl ?_
      refine z_iload_n (pc := 15) 2 dX12_findLights_15 rfl rfl ?_
      obtain ⟨z3, H⟩ := zifE H
      obtain ⟨q4, eq4, H⟩ := zbind H
      refine z_callV (pc := 16) (mc := mc) (ms := ms) (d' := 1) (mc' := 0) (ms' := 0) (rest := []) [.int v2] dX12_findLights_16 md_X12_arePhases ml_X12_448 im_X12_arePhases se_X12_arePhases rfl z3 rfl rfl (Nat.le_of_ble_eq_true rfl) (by omega) (k_X12_arePhases eq4) ?_
      refine z_if_eq (pc := 19) 141 dX12_findLights_19 (by decide) (fun c5 => ?_) (fun c5 => ?_)
      · rw [if_pos c5] at H
        refine z_iinc (pc := 141) (x' := v2 + 1) (lv' := [(2, .int (v2 + 1)), (0, .ref v0), (1, .int v1)]) 2 dX12_findLights_141 rfl (by rfl) (by decide) rfl ?_
        refine z_goto (pc := 144) 7 dX12_findLights_144 (by decide) ?_
        exact z_sub [1, 2, 0] rfl (ih (v2 + 1) h _ H KE)
      · rw [if_neg c5] at H
        refine z_aload_n (pc := 22) 0 dX12_findLights_22 rfl rfl ?_
        refine z_iload_n (pc := 23) 2 dX12_findLights_23 rfl rfl ?_
        refine z_iload_n (pc := 24) 1 dX12_findLights_24 rfl rfl ?_
        obtain ⟨z6, H⟩ := zifE H
        obtain ⟨q7, eq7, H⟩ := zbind H
        refine z_callV (pc := 25) (mc := mc) (ms := ms) (d' := 2) (mc' := 0) (ms' := 0) (rest := []) [.int v2, .int v1] dX12_findLights_25 md_X12_roundOf ml_X12_451 im_X12_roundOf se_X12_roundOf rfl z6 rfl rfl (Nat.le_of_ble_eq_true rfl) (by omega) (k_X12_roundOf eq7) ?_
        refine z_istore_n (pc := 28) (lv' := [(3, .int q7.1), (0, .ref v0), (1, .int v1), (2, .int v2)]) dX12_findLights_28 rfl (by decide) rfl ?_
        refine z_iconst (pc := 29) (x := 0) dX12_findLights_29 zc_iconst_0 ?_
        refine z_istore (pc := 30) (lv' := [(4, .int 0), (3, .int q7.1), (0, .ref v0), (1, .int v1), (2, .int v2)]) dX12_findLights_30 (by decide) rfl ?_
        refine z_iconst (pc := 32) (x := 0) dX12_findLights_32 zc_iconst_0 ?_
        refine z_istore (pc := 33) (lv' := [(5, .int 0), (4, .int 0), (3, .int q7.1), (0, .ref v0), (1, .int v1), (2, .int v2)]) dX12_findLights_33 (by decide) rfl ?_
        obtain ⟨m16, em16, H⟩ := zbind H
        refine z_sub [3, 4, 5, 2, 1, 0] rfl (s_X12_findLights_L35 (by omega) N 0 0 _ em16 ?_)
        refine z_aload_n (pc := 74) 0 dX12_findLights_74 rfl rfl ?_
        obtain ⟨x17, ex17, H⟩ := zbind H
        refine z_getI (pc := 75) dX12_findLights_75 fd_X12_445 ex17 ?_
        obtain ⟨m18, em18, H⟩ := zbind H
        have Jm18 : zW yX12_findLights cX12_findLights 6 none d mc ms 112 [(0, .ref v0), (1, .int v1), (2, .int v2), (3, .int q7.1), (4, .int m16)] [.int m18] q7.2 vv hh := by
          refine z_istore (pc := 112) (lv' := [(5, .int m18), (0, .ref v0), (1, .int v1), (2, .int v2), (3, .int q7.1), (4, .int m16)]) dX12_findLights_112 (by decide) rfl ?_
          refine z_iload_n (pc := 114) 4 dX12_findLights_114 rfl rfl ?_
          refine z_bipush (pc := 115) (x := 120) dX12_findLights_115 zc_bipush_120 ?_
          refine z_icmp_gt (pc := 117) 141 dX12_findLights_117 (by decide) (fun c26 => ?_) (fun c26 => ?_)
          · rw [if_pos c26] at H
            refine z_iinc (pc := 141) (x' := v2 + 1) (lv' := [(2, .int (v2 + 1)), (5, .int m18), (0, .ref v0), (1, .int v1), (3, .int q7.1), (4, .int m16)]) 3 dX12_findLights_141 rfl (by rfl) (by decide) rfl ?_
            refine z_goto (pc := 144) 7 dX12_findLights_144 (by decide) ?_
            exact z_sub [2, 3, 0] rfl (ih (v2 + 1) q7.2 _ H KE)
          · rw [if_neg c26] at H
            refine z_iload (pc := 120) 0 dX12_findLights_120 rfl ?_
            refine z_if_eq (pc := 122) 141 dX12_findLights_122 (by decide) (fun c27 => ?_) (fun c27 => ?_)
            · rw [if_pos c27] at H
              refine z_iinc (pc := 141) (x' := v2 + 1) (lv' := [(2, .int (v2 + 1)), (5, .int m18), (0, .ref v0), (1, .int v1), (3, .int q7.1), (4, .int m16)]) 3 dX12_findLights_141 rfl (by rfl) (by decide) rfl ?_
              refine z_goto (pc := 144) 7 dX12_findLights_144 (by decide) ?_
              exact z_sub [2, 3, 0] rfl (ih (v2 + 1) q7.2 _ H KE)
            · rw [if_neg c27] at H
              refine z_aload_n (pc := 125) 1 dX12_findLights_125 rfl rfl ?_
              refine z_iload_n (pc := 126) 3 dX12_findLights_126 rfl rfl ?_
              obtain ⟨h28, eh28, H⟩ := zbind H
              refine z_put (pc := 127) dX12_findLights_127 fd_X12_445 rfl rfl eh28 ?_
              refine z_aload_n (pc := 130) 1 dX12_findLights_130 rfl rfl ?_
              refine z_iload_n (pc := 131) 4 dX12_findLights_131 rfl rfl ?_
              obtain ⟨h29, eh29, H⟩ := zbind H
              refine z_put (pc := 132) dX12_findLights_132 fd_X12_460 rfl rfl eh29 ?_
              refine z_aload_n (pc := 135) 1 dX12_findLights_135 rfl rfl ?_
              refine z_iload (pc := 136) 5 dX12_findLights_136 rfl ?_
              obtain ⟨h30, eh30, H⟩ := zbind H
              refine z_put (pc := 138) dX12_findLights_138 fd_X12_457 rfl rfl eh30 ?_
              refine z_iinc (pc := 141) (x' := v2 + 1) (lv' := [(2, .int (v2 + 1)), (5, .int m18), (0, .ref v0), (1, .int v1), (3, .int q7.1), (4, .int m16)]) 3 dX12_findLights_141 rfl (by rfl) (by decide) rfl ?_
              refine z_goto (pc := 144) 7 dX12_findLights_144 (by decide) ?_
              exact z_sub [2, 3, 0] rfl (ih (v2 + 1) h30 _ H KE)
        refine z_if_lt (pc := 78) 107 dX12_findLights_78 (by decide) (fun c19 => ?_) (fun c19 => ?_)
        · rw [if_pos c19] at em18
          refine z_iconst (pc := 107) (x := 1) dX12_findLights_107 zc_iconst_1 ?_
          refine z_goto (pc := 108) 112 dX12_findLights_108 (by decide) ?_
          cases em18
          exact z_sub [0, 1, 2, 3, 4] rfl Jm18
        · rw [if_neg c19] at em18
          refine z_iload (pc := 81) 4 dX12_findLights_81 rfl ?_
          refine z_aload_n (pc := 83) 0 dX12_findLights_83 rfl rfl ?_
          obtain ⟨x20, ex20, em18⟩ := zbind em18
          refine z_getI (pc := 84) dX12_findLights_84 fd_X12_457 ex20 ?_
          refine z_icmp_lt (pc := 87) 107 dX12_findLights_87 (by decide) (fun c21 => ?_) (fun c21 => ?_)
          · rw [if_pos c21] at em18
            refine z_iconst (pc := 107) (x := 1) dX12_findLights_107 zc_iconst_1 ?_
            refine z_goto (pc := 108) 112 dX12_findLights_108 (by decide) ?_
            cases em18
            exact z_sub [0, 1, 2, 3, 4] rfl Jm18
          · rw [if_neg c21] at em18
            refine z_iload (pc := 90) 4 dX12_findLights_90 rfl ?_
            refine z_aload_n (pc := 92) 0 dX12_findLights_92 rfl rfl ?_
            obtain ⟨x22, ex22, em18⟩ := zbind em18
            refine z_getI (pc := 93) dX12_findLights_93 fd_X12_457 ex22 ?_
            refine z_icmp_ne (pc := 96) 111 dX12_findLights_96 (by decide) (fun c23 => ?_) (fun c23 => ?_)
            · rw [if_neg c23] at em18
              refine z_iconst (pc := 111) (x := 0) dX12_findLights_111 zc_iconst_0 ?_
              cases em18
              exact z_sub [0, 1, 2, 3, 4] rfl Jm18
            · rw [if_pos c23] at em18
              refine z_iload_n (pc := 99) 3 dX12_findLights_99 rfl rfl ?_
              refine z_aload_n (pc := 100) 0 dX12_findLights_100 rfl rfl ?_
              obtain ⟨x24, ex24, em18⟩ := zbind em18
              refine z_getI (pc := 101) dX12_findLights_101 fd_X12_460 ex24 ?_
              refine z_icmp_ge (pc := 104) 111 dX12_findLights_104 (by decide) (fun c25 => ?_) (fun c25 => ?_)
              · rw [if_pos c25] at em18
                refine z_iconst (pc := 111) (x := 0) dX12_findLights_111 zc_iconst_0 ?_
                cases em18
                exact z_sub [0, 1, 2, 3, 4] rfl Jm18
              · rw [if_neg c25] at em18
                refine z_iconst (pc := 107) (x := 1) dX12_findLights_107 zc_iconst_1 ?_
                refine z_goto (pc := 108) 112 dX12_findLights_108 (by decide) ?_
                cases em18
                exact z_sub [0, 1, 2, 3, 4] rfl Jm18
def f_X12_findLights (N : Nat) (v0 : Nat) (v1 : Int32) (h : zH) : Option (zH) := (pF h v0 12 63 (.int (-1))).bind fun h1 => (f_X12_findLights_L7 N v0 v1 N 0 h1).bind fun m31 => some m31
set_option maxRecDepth 100000 in
set_option maxHeartbeats 4000000 in
theorem k_X12_findLights {N : Nat} {v0 : Nat} {v1 : Int32} {h : zH} {r : zH} (H : f_X12_findLights N v0 v1 h = some r) : zOk 3 0 0 yX12_findLights cX12_findLights 6 none [.ref v0, .int v1] h none r := by
  refine zOk.of (by decide) (Nat.le_of_ble_eq_true rfl) ?_
  unfold f_X12_findLights at H
  refine z_aload_n (pc := 0) 0 dX12_findLights_0 rfl rfl ?_
  refine z_iconst (pc := 1) (x := (-1)) dX12_findLights_1 zc_iconst_m1 ?_
  obtain ⟨h1, eh1, H⟩ := zbind H
  refine z_put (pc := 2) dX12_findLights_2 fd_X12_445 rfl rfl eh1 ?_
  refine z_iconst (pc := 5) (x := 0) dX12_findLights_5 zc_iconst_0 ?_
  refine z_istore_n (pc := 6) (lv' := [(2, .int 0), (0, .ref v0), (1, .int v1)]) dX12_findLights_6 rfl (by decide) rfl ?_
  obtain ⟨m31, em31, H⟩ := zbind H
  refine z_sub [1, 2, 0] rfl (s_X12_findLights_L7 (by omega) N 0 h1 _ em31 ?_)
  cases H
  exact z_return rfl dX12_findLights_147

theorem md_X12_findLights : zMd yX12_findLights cX12_findLights 6 1 none := ⟨zmw (zmt_8 _ (List.mem_of_getElem? (i := 64) rfl)) rfl, zmem 127 (by decide +kernel) rfl, by decide, by decide, by decide +kernel, by decide⟩
theorem ml_X12_463 : Cond.methodLink RX12 463 yX12_findLights ∈ zB := zmem 1852 (by decide +kernel) rfl
theorem im_X12_findLights : Cond.instanceMethod yX12_findLights ∈ zB := zmem 1854 (by decide +kernel) rfl
theorem se_X12_findLights : Cond.selects yX12_findLights.cls yX12_findLights yX12_findLights ∈ zB := zmem 97 (by decide +kernel) rfl
def f_X12_lights (N : Nat) (v0 : Nat) (v1 : Int32) (v2 : Int32) (h : zH) : Option (Int32 × zH) := (pF h v0 12 0 (.int 0)).bind fun h1 => if (p_X12_within v1 0 9) = 0 then (some ((-1), h1)) else (if (p_X12_within v2 0 9) = 0 then (some ((-1), h1)) else ((if 4 ≤ v2 then (if v2 ≤ 5 then (some (-1)) else (some (v2 - 6))) else (some v2) : Option (Int32)).bind fun m4 => zif (zob h1 v0 12) <| (f_X12_findLights N v0 v1 h1).bind fun h8 => (gI h8 v0 12 63).bind fun x9 => if x9 < 0 then (some ((-1), h8)) else ((if m4 < 0 then (some (.inl ())) else ((gR h8 v0 12 57).bind fun r14 => (aZ h8 r14 m4).bind fun x15 => if x15 = 0 then ((some ((-1), h8)).map .inr) else (some (.inl ()))) : Option ((Unit) ⊕ (Int32 × zH))).bind fun m11 => zsum m11 fun s12 => if 4 ≤ v2 then (if 6 ≤ v2 then ((gI h8 v0 12 63).bind fun x20 => zif (zob h8 v0 12) <| (f_X12_roundOf N v0 x20 v1 h8).bind fun q22 => (gI q22.2 v0 12 63).bind fun x23 => zif (zob q22.2 v0 12) <| (f_X12_waitingOf N v0 x23 q22.1 m4 q22.2).bind fun q25 => some (q25, q22.2)) else (if v2 = 4 then ((gI h8 v0 12 64).bind fun x28 => some (x28, h8)) else ((gI h8 v0 12 65).bind fun x27 => some (x27, h8)))) else ((gI h8 v0 12 63).bind fun x29 => some (p_X12_phaseOf x29 m4, h8)))))
set_option maxRecDepth 100000 in
set_option maxHeartbeats 4000000 in
theorem k_X12_lights {N : Nat} {v0 : Nat} {v1 : Int32} {v2 : Int32} {h : zH} {r : Int32 × zH} (H : f_X12_lights N v0 v1 v2 h = some r) : zOk 4 0 0 yX12_lights cX12_lights 5 (some .int) [.ref v0, .int v1, .int v2] h (some (.int r.1)) r.2 := by
  refine zOk.of (by decide) (Nat.le_of_ble_eq_true rfl) ?_
  unfold f_X12_lights at H
  refine z_aload_n (pc := 0) 0 dX12_lights_0 rfl rfl ?_
  refine z_iconst (pc := 1) (x := 0) dX12_lights_1 zc_iconst_0 ?_
  obtain ⟨h1, eh1, H⟩ := zbind H
  refine z_put (pc := 2) dX12_lights_2 fd_X12_1 rfl rfl eh1 ?_
  refine z_iload_n (pc := 5) 1 dX12_lights_5 rfl rfl ?_
  refine z_iconst (pc := 6) (x := 0) dX12_lights_6 zc_iconst_0 ?_
  refine z_bipush (pc := 7) (x := 9) dX12_lights_7 zc_bipush_9 ?_
  refine z_callS (pc := 9) (mc := 0) (ms := 0) (d' := 0) (mc' := 0) (ms' := 0) (rest := []) [.int v1, .int 0, .int 9] dX12_lights_9 md_X12_within ml_X12_352 sm_X12_within rfl rfl (Nat.le_of_ble_eq_true rfl) (by omega) (k_X12_within v1 0 9 h1 _ rfl) ?_
  refine z_if_eq (pc := 12) 25 dX12_lights_12 (by decide) (fun c2 => ?_) (fun c2 => ?_)
  · rw [if_pos c2] at H
    refine z_iconst (pc := 25) (x := (-1)) dX12_lights_25 zc_iconst_m1 ?_
    cases H
    exact z_ireturn rfl dX12_lights_26
  · rw [if_neg c2] at H
    refine z_iload_n (pc := 15) 2 dX12_lights_15 rfl rfl ?_
    refine z_iconst (pc := 16) (x := 0) dX12_lights_16 zc_iconst_0 ?_
    refine z_bipush (pc := 17) (x := 9) dX12_lights_17 zc_bipush_9 ?_
    refine z_callS (pc := 19) (mc := 0) (ms := 0) (d' := 0) (mc' := 0) (ms' := 0) (rest := []) [.int v2, .int 0, .int 9] dX12_lights_19 md_X12_within ml_X12_352 sm_X12_within rfl rfl (Nat.le_of_ble_eq_true rfl) (by omega) (k_X12_within v2 0 9 h1 _ rfl) ?_
    refine z_if_ne (pc := 22) 27 dX12_lights_22 (by decide) (fun c3 => ?_) (fun c3 => ?_)
    · rw [if_neg c3] at H
      refine z_iload_n (pc := 27) 2 dX12_lights_27 rfl rfl ?_
      refine z_iconst (pc := 28) (x := 4) dX12_lights_28 zc_iconst_4 ?_
      obtain ⟨m4, em4, H⟩ := zbind H
      have Jm4 : zW yX12_lights cX12_lights 5 (some .int) 4 0 0 49 [(0, .ref v0), (1, .int v1), (2, .int v2)] [.int m4] h1 (some (.int r.1)) r.2 := by
        refine z_istore_n (pc := 49) (lv' := [(3, .int m4), (0, .ref v0), (1, .int v1), (2, .int v2)]) dX12_lights_49 rfl (by decide) rfl ?_
        refine z_aload_n (pc := 50) 1 dX12_lights_50 rfl rfl ?_
        refine z_iload_n (pc := 51) 2 dX12_lights_51 rfl rfl ?_
        obtain ⟨z7, H⟩ := zifE H
        obtain ⟨h8, eh8, H⟩ := zbind H
        refine z_callV (pc := 52) (mc := 0) (ms := 0) (d' := 3) (mc' := 0) (ms' := 0) (rest := []) [.int v1] dX12_lights_52 md_X12_findLights ml_X12_463 im_X12_findLights se_X12_findLights rfl z7 rfl rfl (Nat.le_of_ble_eq_true rfl) (by omega) (k_X12_findLights eh8) ?_
        refine z_aload_n (pc := 55) 1 dX12_lights_55 rfl rfl ?_
        obtain ⟨x9, ex9, H⟩ := zbind H
        refine z_getI (pc := 56) dX12_lights_56 fd_X12_445 ex9 ?_
        refine z_if_lt (pc := 59) 75 dX12_lights_59 (by decide) (fun c10 => ?_) (fun c10 => ?_)
        · rw [if_pos c10] at H
          refine z_iconst (pc := 75) (x := (-1)) dX12_lights_75 zc_iconst_m1 ?_
          cases H
          exact z_ireturn rfl dX12_lights_76
        · rw [if_neg c10] at H
          refine z_iload_n (pc := 62) 0 dX12_lights_62 rfl rfl ?_
          obtain ⟨m11, em11, H⟩ := zbind H
          have Jm11 : ∀ s12, m11 = .inl s12 → zW yX12_lights cX12_lights 5 (some .int) 4 0 0 77 [(0, .ref v0), (1, .int v1), (2, .int v2), (3, .int m4)] [] h8 (some (.int r.1)) r.2 := by
            intro s12 e9
            subst e9
            have H := zsumL H
            refine z_iload_n (pc := 77) 2 dX12_lights_77 rfl rfl ?_
            refine z_iconst (pc := 78) (x := 4) dX12_lights_78 zc_iconst_4 ?_
            refine z_icmp_ge (pc := 79) 91 dX12_lights_79 (by decide) (fun c18 => ?_) (fun c18 => ?_)
            · rw [if_pos c18] at H
              refine z_iload_n (pc := 91) 2 dX12_lights_91 rfl rfl ?_
              refine z_bipush (pc := 92) (x := 6) dX12_lights_92 zc_bipush_6 ?_
              refine z_icmp_ge (pc := 94) 114 dX12_lights_94 (by decide) (fun c19 => ?_) (fun c19 => ?_)
              · rw [if_pos c19] at H
                refine z_aload_n (pc := 114) 0 dX12_lights_114 rfl rfl ?_
                refine z_aload_n (pc := 115) 0 dX12_lights_115 rfl rfl ?_
                obtain ⟨x20, ex20, H⟩ := zbind H
                refine z_getI (pc := 116) dX12_lights_116 fd_X12_445 ex20 ?_
                refine z_iload_n (pc := 119) 1 dX12_lights_119 rfl rfl ?_
                obtain ⟨z21, H⟩ := zifE H
                obtain ⟨q22, eq22, H⟩ := zbind H
                refine z_callV (pc := 120) (mc := 0) (ms := 0) (d' := 2) (mc' := 0) (ms' := 0) (rest := []) [.int x20, .int v1] dX12_lights_120 md_X12_roundOf ml_X12_451 im_X12_roundOf se_X12_roundOf rfl z21 rfl rfl (Nat.le_of_ble_eq_true rfl) (by omega) (k_X12_roundOf eq22) ?_
                refine z_istore (pc := 123) (lv' := [(4, .int q22.1), (0, .ref v0), (1, .int v1), (2, .int v2), (3, .int m4)]) dX12_lights_123 (by decide) rfl ?_
                refine z_aload_n (pc := 125) 1 dX12_lights_125 rfl rfl ?_
                refine z_aload_n (pc := 126) 1 dX12_lights_126 rfl rfl ?_
                obtain ⟨x23, ex23, H⟩ := zbind H
                refine z_getI (pc := 127) dX12_lights_127 fd_X12_445 ex23 ?_
                refine z_iload (pc := 130) 0 dX12_lights_130 rfl ?_
                refine z_iload_n (pc := 132) 4 dX12_lights_132 rfl rfl ?_
                obtain ⟨z24, H⟩ := zifE H
                obtain ⟨q25, eq25, H⟩ := zbind H
                refine z_callV (pc := 133) (mc := 0) (ms := 0) (d' := 1) (mc' := 0) (ms' := 0) (rest := []) [.int x23, .int q22.1, .int m4] dX12_lights_133 md_X12_waitingOf ml_X12_454 im_X12_waitingOf se_X12_waitingOf rfl z24 rfl rfl (Nat.le_of_ble_eq_true rfl) (by omega) (k_X12_waitingOf eq25) ?_
                cases H
                exact z_ireturn rfl dX12_lights_136
              · rw [if_neg c19] at H
                refine z_iload_n (pc := 97) 2 dX12_lights_97 rfl rfl ?_
                refine z_iconst (pc := 98) (x := 4) dX12_lights_98 zc_iconst_4 ?_
                refine z_icmp_ne (pc := 99) 109 dX12_lights_99 (by decide) (fun c26 => ?_) (fun c26 => ?_)
                · rw [if_neg c26] at H
                  refine z_aload_n (pc := 109) 0 dX12_lights_109 rfl rfl ?_
                  obtain ⟨x27, ex27, H⟩ := zbind H
                  refine z_getI (pc := 110) dX12_lights_110 fd_X12_457 ex27 ?_
                  cases H
                  exact z_ireturn rfl dX12_lights_113
                · rw [if_pos c26] at H
                  refine z_aload_n (pc := 102) 0 dX12_lights_102 rfl rfl ?_
                  obtain ⟨x28, ex28, H⟩ := zbind H
                  refine z_getI (pc := 103) dX12_lights_103 fd_X12_460 ex28 ?_
                  refine z_goto (pc := 106) 113 dX12_lights_106 (by decide) ?_
                  cases H
                  exact z_ireturn rfl dX12_lights_113
            · rw [if_neg c18] at H
              refine z_aload_n (pc := 82) 0 dX12_lights_82 rfl rfl ?_
              obtain ⟨x29, ex29, H⟩ := zbind H
              refine z_getI (pc := 83) dX12_lights_83 fd_X12_445 ex29 ?_
              refine z_iload_n (pc := 86) 3 dX12_lights_86 rfl rfl ?_
              refine z_callS (pc := 87) (mc := 0) (ms := 0) (d' := 0) (mc' := 0) (ms' := 0) (rest := []) [.int x29, .int m4] dX12_lights_87 md_X12_phaseOf ml_X12_439 sm_X12_phaseOf rfl rfl (Nat.le_of_ble_eq_true rfl) (by omega) (k_X12_phaseOf x29 m4 h8 _ rfl) ?_
              cases H
              exact z_ireturn rfl dX12_lights_90
          refine z_if_lt (pc := 63) 77 dX12_lights_63 (by decide) (fun c13 => ?_) (fun c13 => ?_)
          · rw [if_pos c13] at em11
            cases em11
            exact z_sub [1, 2, 3, 0] rfl (Jm11 _ rfl)
          · rw [if_neg c13] at em11
            refine z_aload_n (pc := 66) 1 dX12_lights_66 rfl rfl ?_
            obtain ⟨r14, er14, em11⟩ := zbind em11
            refine z_getR (pc := 67) dX12_lights_67 fd_X12_179 er14 ?_
            refine z_iload_n (pc := 70) 0 dX12_lights_70 rfl rfl ?_
            obtain ⟨x15, ex15, em11⟩ := zbind em11
            refine z_zaload (pc := 71) dX12_lights_71 ex15 ?_
            refine z_if_ne (pc := 72) 77 dX12_lights_72 (by decide) (fun c16 => ?_) (fun c16 => ?_)
            · rw [if_neg c16] at em11
              cases em11
              exact z_sub [1, 2, 3, 0] rfl (Jm11 _ rfl)
            · rw [if_pos c16] at em11
              refine z_iconst (pc := 75) (x := (-1)) dX12_lights_75 zc_iconst_m1 ?_
              obtain ⟨o17, H9, e9⟩ := zmapR em11
              subst e9
              have H9 := H9.trans (zsumR H)
              cases H9
              exact z_ireturn rfl dX12_lights_76
      refine z_icmp_ge (pc := 29) 36 dX12_lights_29 (by decide) (fun c5 => ?_) (fun c5 => ?_)
      · rw [if_pos c5] at em4
        refine z_iload_n (pc := 36) 2 dX12_lights_36 rfl rfl ?_
        refine z_iconst (pc := 37) (x := 5) dX12_lights_37 zc_iconst_5 ?_
        refine z_icmp_le (pc := 38) 48 dX12_lights_38 (by decide) (fun c6 => ?_) (fun c6 => ?_)
        · rw [if_pos c6] at em4
          refine z_iconst (pc := 48) (x := (-1)) dX12_lights_48 zc_iconst_m1 ?_
          cases em4
          exact z_sub [0, 1, 2] rfl Jm4
        · rw [if_neg c6] at em4
          refine z_iload_n (pc := 41) 2 dX12_lights_41 rfl rfl ?_
          refine z_bipush (pc := 42) (x := 6) dX12_lights_42 zc_bipush_6 ?_
          refine z_isub (pc := 44) dX12_lights_44 ?_
          refine z_goto (pc := 45) 49 dX12_lights_45 (by decide) ?_
          cases em4
          exact z_sub [0, 1, 2] rfl Jm4
      · rw [if_neg c5] at em4
        refine z_iload_n (pc := 32) 2 dX12_lights_32 rfl rfl ?_
        refine z_goto (pc := 33) 49 dX12_lights_33 (by decide) ?_
        cases em4
        exact z_sub [0, 1, 2] rfl Jm4
    · rw [if_pos c3] at H
      refine z_iconst (pc := 25) (x := (-1)) dX12_lights_25 zc_iconst_m1 ?_
      cases H
      exact z_ireturn rfl dX12_lights_26

theorem fd_X12_466 : zFd RX12 466 12 67 (.int) false "WhoseStreetModel" := zFd.of cl_12 (by decide) (zmem 1437 (by decide +kernel) rfl) rfl rfl rfl
def f_X12_voters_L39 (N : Nat) (v0 : Nat) : Nat → Int32 → zH → Option (zH)
  | 0, _, _ => none
  | n + 1, v2, h => if 9 ≤ v2 then (some h) else ((gR h v0 12 69).bind fun r9 => (gI h v0 12 67).bind fun x10 => (sI h r9 ((9 * x10) + v2) 0).bind fun h11 => f_X12_voters_L39 N v0 n (v2 + 1) h11)
set_option maxRecDepth 100000 in
set_option maxHeartbeats 4000000 in
theorem s_X12_voters_L39 {d mc ms N : Nat} {vv : Option Value} {hh : zH} {v0 : Nat} (hd0 : 1 ≤ d) : ∀ (n : Nat) (v2 : Int32) (h : zH) (m : zH), f_X12_voters_L39 N v0 n v2 h = some m → (zW yX12_voters cX12_voters 3 (some .int) d mc ms 66 [(0, .ref v0)] [] m vv hh) → zW yX12_voters cX12_voters 3 (some .int) d mc ms 39 [(0, .ref v0), (2, .int v2)] [] h vv hh := by
  intro n
  induction n with
  | zero =>
    intro v2 h m H
    cases H
  | succ n ih =>
    intro v2 h m H KE
    unfold f_X12_voters_L39 at H
    refine z_iload_n (pc := 39) 1 dX12_voters_39 rfl rfl ?_
    refine z_bipush (pc := 40) (x := 9) dX12_voters_40 zc_bipush_9 ?_
    refine z_icmp_ge (pc := 42) 66 dX12_voters_42 (by decide) (fun c8 => ?_) (fun c8 => ?_)
    · rw [if_pos c8] at H
      cases H
      exact z_sub [0] rfl (KE)
    · rw [if_neg c8] at H
      refine z_aload_n (pc := 45) 0 dX12_voters_45 rfl rfl ?_
      obtain ⟨r9, er9, H⟩ := zbind H
      refine z_getR (pc := 46) dX12_voters_46 fd_X12_203 er9 ?_
      refine z_bipush (pc := 49) (x := 9) dX12_voters_49 zc_bipush_9 ?_
      refine z_aload_n (pc := 51) 0 dX12_voters_51 rfl rfl ?_
      obtain ⟨x10, ex10, H⟩ := zbind H
      refine z_getI (pc := 52) dX12_voters_52 fd_X12_466 ex10 ?_
      refine z_imul (pc := 55) dX12_voters_55 ?_
      refine z_iload_n (pc := 56) 1 dX12_voters_56 rfl rfl ?_
      refine z_iadd (pc := 57) dX12_voters_57 ?_
      refine z_iconst (pc := 58) (x := 0) dX12_voters_58 zc_iconst_0 ?_
      obtain ⟨h11, eh11, H⟩ := zbind H
      refine z_iastore (pc := 59) dX12_voters_59 eh11 ?_
      refine z_iinc (pc := 60) (x' := v2 + 1) (lv' := [(2, .int (v2 + 1)), (0, .ref v0)]) 1 dX12_voters_60 rfl (by rfl) (by decide) rfl ?_
      refine z_goto (pc := 63) 39 dX12_voters_63 (by decide) ?_
      exact z_sub [1, 0] rfl (ih (v2 + 1) h11 _ H KE)
def f_X12_voters (N : Nat) (v0 : Nat) (v1 : Int32) (h : zH) : Option (Int32 × zH) := (pF h v0 12 0 (.int 0)).bind fun h1 => if (p_X12_within v1 1 9999) = 0 then (some ((-1), h1)) else ((gI h1 v0 12 67).bind fun x3 => if x3 = 8 then (some ((-1), h1)) else ((gR h1 v0 12 68).bind fun r5 => (gI h1 v0 12 67).bind fun x6 => (sI h1 r5 x6 v1).bind fun h7 => (f_X12_voters_L39 N v0 N 0 h7).bind fun m12 => (gI m12 v0 12 67).bind fun x13 => (pF m12 v0 12 67 (.int (x13 + 1))).bind fun h14 => (gI h14 v0 12 67).bind fun x15 => some (x15 - 1, h14)))
set_option maxRecDepth 100000 in
set_option maxHeartbeats 4000000 in
theorem k_X12_voters {N : Nat} {v0 : Nat} {v1 : Int32} {h : zH} {r : Int32 × zH} (H : f_X12_voters N v0 v1 h = some r) : zOk 1 0 0 yX12_voters cX12_voters 3 (some .int) [.ref v0, .int v1] h (some (.int r.1)) r.2 := by
  refine zOk.of (by decide) (Nat.le_of_ble_eq_true rfl) ?_
  unfold f_X12_voters at H
  refine z_aload_n (pc := 0) 0 dX12_voters_0 rfl rfl ?_
  refine z_iconst (pc := 1) (x := 0) dX12_voters_1 zc_iconst_0 ?_
  obtain ⟨h1, eh1, H⟩ := zbind H
  refine z_put (pc := 2) dX12_voters_2 fd_X12_1 rfl rfl eh1 ?_
  refine z_iload_n (pc := 5) 1 dX12_voters_5 rfl rfl ?_
  refine z_iconst (pc := 6) (x := 1) dX12_voters_6 zc_iconst_1 ?_
  refine z_sipush (pc := 7) (x := 9999) dX12_voters_7 zc_sipush_9999 ?_
  refine z_callS (pc := 10) (mc := 0) (ms := 0) (d' := 0) (mc' := 0) (ms' := 0) (rest := []) [.int v1, .int 1, .int 9999] dX12_voters_10 md_X12_within ml_X12_352 sm_X12_within rfl rfl (Nat.le_of_ble_eq_true rfl) (by omega) (k_X12_within v1 1 9999 h1 _ rfl) ?_
  refine z_if_eq (pc := 13) 25 dX12_voters_13 (by decide) (fun c2 => ?_) (fun c2 => ?_)
  · rw [if_pos c2] at H
    refine z_iconst (pc := 25) (x := (-1)) dX12_voters_25 zc_iconst_m1 ?_
    cases H
    exact z_ireturn rfl dX12_voters_26
  · rw [if_neg c2] at H
    refine z_aload_n (pc := 16) 0 dX12_voters_16 rfl rfl ?_
    obtain ⟨x3, ex3, H⟩ := zbind H
    refine z_getI (pc := 17) dX12_voters_17 fd_X12_466 ex3 ?_
    refine z_bipush (pc := 20) (x := 8) dX12_voters_20 zc_bipush_8 ?_
    refine z_icmp_ne (pc := 22) 27 dX12_voters_22 (by decide) (fun c4 => ?_) (fun c4 => ?_)
    · rw [if_neg c4] at H
      refine z_aload_n (pc := 27) 0 dX12_voters_27 rfl rfl ?_
      obtain ⟨r5, er5, H⟩ := zbind H
      refine z_getR (pc := 28) dX12_voters_28 fd_X12_200 er5 ?_
      refine z_aload_n (pc := 31) 0 dX12_voters_31 rfl rfl ?_
      obtain ⟨x6, ex6, H⟩ := zbind H
      refine z_getI (pc := 32) dX12_voters_32 fd_X12_466 ex6 ?_
      refine z_iload_n (pc := 35) 1 dX12_voters_35 rfl rfl ?_
      obtain ⟨h7, eh7, H⟩ := zbind H
      refine z_iastore (pc := 36) dX12_voters_36 eh7 ?_
      refine z_iconst (pc := 37) (x := 0) dX12_voters_37 zc_iconst_0 ?_
      refine z_istore_n (pc := 38) (lv' := [(2, .int 0), (0, .ref v0), (1, .int v1)]) dX12_voters_38 rfl (by decide) rfl ?_
      obtain ⟨m12, em12, H⟩ := zbind H
      refine z_sub [1, 0] rfl (s_X12_voters_L39 (by omega) N 0 h7 _ em12 ?_)
      refine z_aload_n (pc := 66) 0 dX12_voters_66 rfl rfl ?_
      refine z_dup (pc := 67) dX12_voters_67 rfl ?_
      obtain ⟨x13, ex13, H⟩ := zbind H
      refine z_getI (pc := 68) dX12_voters_68 fd_X12_466 ex13 ?_
      refine z_iconst (pc := 71) (x := 1) dX12_voters_71 zc_iconst_1 ?_
      refine z_iadd (pc := 72) dX12_voters_72 ?_
      obtain ⟨h14, eh14, H⟩ := zbind H
      refine z_put (pc := 73) dX12_voters_73 fd_X12_466 rfl rfl eh14 ?_
      refine z_aload_n (pc := 76) 0 dX12_voters_76 rfl rfl ?_
      obtain ⟨x15, ex15, H⟩ := zbind H
      refine z_getI (pc := 77) dX12_voters_77 fd_X12_466 ex15 ?_
      refine z_iconst (pc := 80) (x := 1) dX12_voters_80 zc_iconst_1 ?_
      refine z_isub (pc := 81) dX12_voters_81 ?_
      cases H
      exact z_ireturn rfl dX12_voters_82
    · rw [if_pos c4] at H
      refine z_iconst (pc := 25) (x := (-1)) dX12_voters_25 zc_iconst_m1 ?_
      cases H
      exact z_ireturn rfl dX12_voters_26

def f_X12_leans (N : Nat) (v0 : Nat) (v1 : Int32) (v2 : Int32) (v3 : Int32) (h : zH) : Option (Int32 × zH) := (pF h v0 12 0 (.int 0)).bind fun h1 => (gI h1 v0 12 67).bind fun x2 => if (p_X12_within v1 0 (x2 - 1)) = 0 then (some (0, h1)) else (if (p_X12_within v2 0 8) = 0 then (some (0, h1)) else (if (p_X12_within v3 (-99) 99) = 0 then (some (0, h1)) else ((gR h1 v0 12 69).bind fun r6 => (sI h1 r6 ((9 * v1) + v2) v3).bind fun h7 => some (1, h7))))
set_option maxRecDepth 100000 in
set_option maxHeartbeats 4000000 in
theorem k_X12_leans {N : Nat} {v0 : Nat} {v1 : Int32} {v2 : Int32} {v3 : Int32} {h : zH} {r : Int32 × zH} (H : f_X12_leans N v0 v1 v2 v3 h = some r) : zOk 1 0 0 yX12_leans cX12_leans 4 (some .boolean) [.ref v0, .int v1, .int v2, .int v3] h (some (.int r.1)) r.2 := by
  refine zOk.of (by decide) (Nat.le_of_ble_eq_true rfl) ?_
  unfold f_X12_leans at H
  refine z_aload_n (pc := 0) 0 dX12_leans_0 rfl rfl ?_
  refine z_iconst (pc := 1) (x := 0) dX12_leans_1 zc_iconst_0 ?_
  obtain ⟨h1, eh1, H⟩ := zbind H
  refine z_put (pc := 2) dX12_leans_2 fd_X12_1 rfl rfl eh1 ?_
  refine z_iload_n (pc := 5) 1 dX12_leans_5 rfl rfl ?_
  refine z_iconst (pc := 6) (x := 0) dX12_leans_6 zc_iconst_0 ?_
  refine z_aload_n (pc := 7) 0 dX12_leans_7 rfl rfl ?_
  obtain ⟨x2, ex2, H⟩ := zbind H
  refine z_getI (pc := 8) dX12_leans_8 fd_X12_466 ex2 ?_
  refine z_iconst (pc := 11) (x := 1) dX12_leans_11 zc_iconst_1 ?_
  refine z_isub (pc := 12) dX12_leans_12 ?_
  refine z_callS (pc := 13) (mc := 0) (ms := 0) (d' := 0) (mc' := 0) (ms' := 0) (rest := []) [.int v1, .int 0, .int (x2 - 1)] dX12_leans_13 md_X12_within ml_X12_352 sm_X12_within rfl rfl (Nat.le_of_ble_eq_true rfl) (by omega) (k_X12_within v1 0 (x2 - 1) h1 _ rfl) ?_
  refine z_if_eq (pc := 16) 40 dX12_leans_16 (by decide) (fun c3 => ?_) (fun c3 => ?_)
  · rw [if_pos c3] at H
    refine z_iconst (pc := 40) (x := 0) dX12_leans_40 zc_iconst_0 ?_
    cases H
    exact z_zreturn rfl dX12_leans_41 (by decide)
  · rw [if_neg c3] at H
    refine z_iload_n (pc := 19) 2 dX12_leans_19 rfl rfl ?_
    refine z_iconst (pc := 20) (x := 0) dX12_leans_20 zc_iconst_0 ?_
    refine z_bipush (pc := 21) (x := 8) dX12_leans_21 zc_bipush_8 ?_
    refine z_callS (pc := 23) (mc := 0) (ms := 0) (d' := 0) (mc' := 0) (ms' := 0) (rest := []) [.int v2, .int 0, .int 8] dX12_leans_23 md_X12_within ml_X12_352 sm_X12_within rfl rfl (Nat.le_of_ble_eq_true rfl) (by omega) (k_X12_within v2 0 8 h1 _ rfl) ?_
    refine z_if_eq (pc := 26) 40 dX12_leans_26 (by decide) (fun c4 => ?_) (fun c4 => ?_)
    · rw [if_pos c4] at H
      refine z_iconst (pc := 40) (x := 0) dX12_leans_40 zc_iconst_0 ?_
      cases H
      exact z_zreturn rfl dX12_leans_41 (by decide)
    · rw [if_neg c4] at H
      refine z_iload_n (pc := 29) 3 dX12_leans_29 rfl rfl ?_
      refine z_bipush (pc := 30) (x := (-99)) dX12_leans_30 zc_bipush_m99 ?_
      refine z_bipush (pc := 32) (x := 99) dX12_leans_32 zc_bipush_99 ?_
      refine z_callS (pc := 34) (mc := 0) (ms := 0) (d' := 0) (mc' := 0) (ms' := 0) (rest := []) [.int v3, .int (-99), .int 99] dX12_leans_34 md_X12_within ml_X12_352 sm_X12_within rfl rfl (Nat.le_of_ble_eq_true rfl) (by omega) (k_X12_within v3 (-99) 99 h1 _ rfl) ?_
      refine z_if_ne (pc := 37) 42 dX12_leans_37 (by decide) (fun c5 => ?_) (fun c5 => ?_)
      · rw [if_neg c5] at H
        refine z_aload_n (pc := 42) 0 dX12_leans_42 rfl rfl ?_
        obtain ⟨r6, er6, H⟩ := zbind H
        refine z_getR (pc := 43) dX12_leans_43 fd_X12_203 er6 ?_
        refine z_bipush (pc := 46) (x := 9) dX12_leans_46 zc_bipush_9 ?_
        refine z_iload_n (pc := 48) 1 dX12_leans_48 rfl rfl ?_
        refine z_imul (pc := 49) dX12_leans_49 ?_
        refine z_iload_n (pc := 50) 2 dX12_leans_50 rfl rfl ?_
        refine z_iadd (pc := 51) dX12_leans_51 ?_
        refine z_iload_n (pc := 52) 3 dX12_leans_52 rfl rfl ?_
        obtain ⟨h7, eh7, H⟩ := zbind H
        refine z_iastore (pc := 53) dX12_leans_53 eh7 ?_
        refine z_iconst (pc := 54) (x := 1) dX12_leans_54 zc_iconst_1 ?_
        cases H
        exact z_zreturn rfl dX12_leans_55 (by decide)
      · rw [if_pos c5] at H
        refine z_iconst (pc := 40) (x := 0) dX12_leans_40 zc_iconst_0 ?_
        cases H
        exact z_zreturn rfl dX12_leans_41 (by decide)

def f_X12_votes_L20 (N : Nat) (v0 : Nat) (v1 : Int32) (v4 : Int32) (h : zH) : Nat → Int32 → Int32 → Option (Int32)
  | 0, _, _ => none
  | n + 1, v5, v6 => if 9 ≤ v6 then (some v5) else (if ((v1 >>> (v6 &&& 31)) &&& 1) = 1 then ((gR h v0 12 69).bind fun r6 => (aI h r6 ((9 * v4) + v6)).bind fun x7 => zlet (v5 + x7 : Int32) fun x8 => f_X12_votes_L20 N v0 v1 v4 h n x8 (v6 + 1)) else (zlet (v5 + 0 : Int32) fun x5 => f_X12_votes_L20 N v0 v1 v4 h n x5 (v6 + 1)))
def f_X12_votes_L5 (N : Nat) (v0 : Nat) (v1 : Int32) (v2 : Int32) (h : zH) : Nat → Int32 → Int32 → Option (Int32)
  | 0, _, _ => none
  | n + 1, v3, v4 => (gI h v0 12 67).bind fun x1 => if x1 ≤ v4 then (some v3) else ((f_X12_votes_L20 N v0 v1 v4 h N 0 0).bind fun m9 => (if m9 < 0 then (some 0) else (some 1) : Option (Int32)).bind fun m10 => if m10 = v2 then ((gR h v0 12 68).bind fun r14 => (aI h r14 v4).bind fun x15 => zlet (v3 + x15 : Int32) fun x16 => f_X12_votes_L5 N v0 v1 v2 h n x16 (v4 + 1)) else (zlet (v3 + 0 : Int32) fun x13 => f_X12_votes_L5 N v0 v1 v2 h n x13 (v4 + 1)))
set_option maxRecDepth 100000 in
set_option maxHeartbeats 4000000 in
theorem s_X12_votes_L20 {d mc ms N : Nat} {vv : Option Value} {hh : zH} {v0 : Nat} {v1 : Int32} {v4 : Int32} {v2 : Int32} {v3 : Int32} {h : zH} (hd0 : 0 ≤ d) : ∀ (n : Nat) (v5 : Int32) (v6 : Int32) (m : Int32), f_X12_votes_L20 N v0 v1 v4 h n v5 v6 = some m → (zW yX12_votes cX12_votes 7 (some .int) d mc ms 65 [(0, .ref v0), (1, .int v1), (2, .int v2), (3, .int v3), (4, .int v4), (5, .int m)] [] h vv hh) → zW yX12_votes cX12_votes 7 (some .int) d mc ms 20 [(0, .ref v0), (1, .int v1), (2, .int v2), (3, .int v3), (4, .int v4), (5, .int v5), (6, .int v6)] [] h vv hh := by
  intro n
  induction n with
  | zero =>
    intro v5 v6 m H
    cases H
  | succ n ih =>
    intro v5 v6 m H KE
    unfold f_X12_votes_L20 at H
    refine z_iload (pc := 20) 6 dX12_votes_20 rfl ?_
    refine z_bipush (pc := 22) (x := 9) dX12_votes_22 zc_bipush_9 ?_
    refine z_icmp_ge (pc := 24) 65 dX12_votes_24 (by decide) (fun c3 => ?_) (fun c3 => ?_)
    · rw [if_pos c3] at H
      cases H
      exact z_sub [0, 1, 2, 3, 4, 5] rfl (KE)
    · rw [if_neg c3] at H
      refine z_iload (pc := 27) 5 dX12_votes_27 rfl ?_
      refine z_iload_n (pc := 29) 1 dX12_votes_29 rfl rfl ?_
      refine z_iload (pc := 30) 6 dX12_votes_30 rfl ?_
      refine z_ishr (pc := 32) dX12_votes_32 ?_
      refine z_iconst (pc := 33) (x := 1) dX12_votes_33 zc_iconst_1 ?_
      refine z_iand (pc := 34) dX12_votes_34 ?_
      refine z_iconst (pc := 35) (x := 1) dX12_votes_35 zc_iconst_1 ?_
      refine z_icmp_ne (pc := 36) 55 dX12_votes_36 (by decide) (fun c4 => ?_) (fun c4 => ?_)
      · rw [if_neg c4] at H
        refine z_iconst (pc := 55) (x := 0) dX12_votes_55 zc_iconst_0 ?_
        refine z_iadd (pc := 56) dX12_votes_56 ?_
        obtain ⟨x5, ex5, H⟩ := zletE H
        refine z_nmI ex5 ?_
        refine z_istore (pc := 57) (lv' := [(5, .int x5), (0, .ref v0), (1, .int v1), (2, .int v2), (3, .int v3), (4, .int v4), (6, .int v6)]) dX12_votes_57 (by decide) rfl ?_
        refine z_iinc (pc := 59) (x' := v6 + 1) (lv' := [(6, .int (v6 + 1)), (5, .int x5), (0, .ref v0), (1, .int v1), (2, .int v2), (3, .int v3), (4, .int v4)]) 6 dX12_votes_59 rfl (by rfl) (by decide) rfl ?_
        refine z_goto (pc := 62) 20 dX12_votes_62 (by decide) ?_
        exact z_sub [2, 3, 4, 5, 6, 1, 0] rfl (ih x5 (v6 + 1) _ H KE)
      · rw [if_pos c4] at H
        refine z_aload_n (pc := 39) 0 dX12_votes_39 rfl rfl ?_
        obtain ⟨r6, er6, H⟩ := zbind H
        refine z_getR (pc := 40) dX12_votes_40 fd_X12_203 er6 ?_
        refine z_bipush (pc := 43) (x := 9) dX12_votes_43 zc_bipush_9 ?_
        refine z_iload (pc := 45) 4 dX12_votes_45 rfl ?_
        refine z_imul (pc := 47) dX12_votes_47 ?_
        refine z_iload (pc := 48) 6 dX12_votes_48 rfl ?_
        refine z_iadd (pc := 50) dX12_votes_50 ?_
        obtain ⟨x7, ex7, H⟩ := zbind H
        refine z_iaload (pc := 51) dX12_votes_51 ex7 ?_
        refine z_goto (pc := 52) 56 dX12_votes_52 (by decide) ?_
        refine z_iadd (pc := 56) dX12_votes_56 ?_
        obtain ⟨x8, ex8, H⟩ := zletE H
        refine z_nmI ex8 ?_
        refine z_istore (pc := 57) (lv' := [(5, .int x8), (0, .ref v0), (1, .int v1), (2, .int v2), (3, .int v3), (4, .int v4), (6, .int v6)]) dX12_votes_57 (by decide) rfl ?_
        refine z_iinc (pc := 59) (x' := v6 + 1) (lv' := [(6, .int (v6 + 1)), (5, .int x8), (0, .ref v0), (1, .int v1), (2, .int v2), (3, .int v3), (4, .int v4)]) 6 dX12_votes_59 rfl (by rfl) (by decide) rfl ?_
        refine z_goto (pc := 62) 20 dX12_votes_62 (by decide) ?_
        exact z_sub [2, 3, 4, 5, 6, 1, 0] rfl (ih x8 (v6 + 1) _ H KE)
set_option maxRecDepth 100000 in
set_option maxHeartbeats 4000000 in
theorem s_X12_votes_L5 {d mc ms N : Nat} {vv : Option Value} {hh : zH} {v0 : Nat} {v1 : Int32} {v2 : Int32} {h : zH} (hd0 : 0 ≤ d) : ∀ (n : Nat) (v3 : Int32) (v4 : Int32) (m : Int32), f_X12_votes_L5 N v0 v1 v2 h n v3 v4 = some m → (zW yX12_votes cX12_votes 7 (some .int) d mc ms 99 [(3, .int m)] [] h vv hh) → zW yX12_votes cX12_votes 7 (some .int) d mc ms 5 [(0, .ref v0), (1, .int v1), (2, .int v2), (3, .int v3), (4, .int v4)] [] h vv hh := by
  intro n
  induction n with
  | zero =>
    intro v3 v4 m H
    cases H
  | succ n ih =>
    intro v3 v4 m H KE
    unfold f_X12_votes_L5 at H
    refine z_iload (pc := 5) 4 dX12_votes_5 rfl ?_
    refine z_aload_n (pc := 7) 0 dX12_votes_7 rfl rfl ?_
    obtain ⟨x1, ex1, H⟩ := zbind H
    refine z_getI (pc := 8) dX12_votes_8 fd_X12_466 ex1 ?_
    refine z_icmp_ge (pc := 11) 99 dX12_votes_11 (by decide) (fun c2 => ?_) (fun c2 => ?_)
    · rw [if_pos c2] at H
      cases H
      exact z_sub [3] rfl (KE)
    · rw [if_neg c2] at H
      refine z_iconst (pc := 14) (x := 0) dX12_votes_14 zc_iconst_0 ?_
      refine z_istore (pc := 15) (lv' := [(5, .int 0), (0, .ref v0), (1, .int v1), (2, .int v2), (3, .int v3), (4, .int v4)]) dX12_votes_15 (by decide) rfl ?_
      refine z_iconst (pc := 17) (x := 0) dX12_votes_17 zc_iconst_0 ?_
      refine z_istore (pc := 18) (lv' := [(6, .int 0), (5, .int 0), (0, .ref v0), (1, .int v1), (2, .int v2), (3, .int v3), (4, .int v4)]) dX12_votes_18 (by decide) rfl ?_
      obtain ⟨m9, em9, H⟩ := zbind H
      refine z_sub [2, 3, 4, 5, 6, 1, 0] rfl (s_X12_votes_L20 (by omega) N 0 0 _ em9 ?_)
      refine z_iload_n (pc := 65) 3 dX12_votes_65 rfl rfl ?_
      refine z_iload (pc := 66) 5 dX12_votes_66 rfl ?_
      obtain ⟨m10, em10, H⟩ := zbind H
      have Jm10 : zW yX12_votes cX12_votes 7 (some .int) d mc ms 76 [(0, .ref v0), (1, .int v1), (2, .int v2), (4, .int v4)] [.int m10, .int v3] h vv hh := by
        refine z_iload_n (pc := 76) 2 dX12_votes_76 rfl rfl ?_
        refine z_icmp_ne (pc := 77) 90 dX12_votes_77 (by decide) (fun c12 => ?_) (fun c12 => ?_)
        · rw [if_neg c12] at H
          refine z_iconst (pc := 90) (x := 0) dX12_votes_90 zc_iconst_0 ?_
          refine z_iadd (pc := 91) dX12_votes_91 ?_
          obtain ⟨x13, ex13, H⟩ := zletE H
          refine z_nmI ex13 ?_
          refine z_istore_n (pc := 92) (lv' := [(3, .int x13), (0, .ref v0), (1, .int v1), (2, .int v2), (4, .int v4)]) dX12_votes_92 rfl (by decide) rfl ?_
          refine z_iinc (pc := 93) (x' := v4 + 1) (lv' := [(4, .int (v4 + 1)), (3, .int x13), (0, .ref v0), (1, .int v1), (2, .int v2)]) 4 dX12_votes_93 rfl (by rfl) (by decide) rfl ?_
          refine z_goto (pc := 96) 5 dX12_votes_96 (by decide) ?_
          exact z_sub [2, 3, 4, 1, 0] rfl (ih x13 (v4 + 1) _ H KE)
        · rw [if_pos c12] at H
          refine z_aload_n (pc := 80) 0 dX12_votes_80 rfl rfl ?_
          obtain ⟨r14, er14, H⟩ := zbind H
          refine z_getR (pc := 81) dX12_votes_81 fd_X12_200 er14 ?_
          refine z_iload (pc := 84) 3 dX12_votes_84 rfl ?_
          obtain ⟨x15, ex15, H⟩ := zbind H
          refine z_iaload (pc := 86) dX12_votes_86 ex15 ?_
          refine z_goto (pc := 87) 91 dX12_votes_87 (by decide) ?_
          refine z_iadd (pc := 91) dX12_votes_91 ?_
          obtain ⟨x16, ex16, H⟩ := zletE H
          refine z_nmI ex16 ?_
          refine z_istore_n (pc := 92) (lv' := [(3, .int x16), (0, .ref v0), (1, .int v1), (2, .int v2), (4, .int v4)]) dX12_votes_92 rfl (by decide) rfl ?_
          refine z_iinc (pc := 93) (x' := v4 + 1) (lv' := [(4, .int (v4 + 1)), (3, .int x16), (0, .ref v0), (1, .int v1), (2, .int v2)]) 4 dX12_votes_93 rfl (by rfl) (by decide) rfl ?_
          refine z_goto (pc := 96) 5 dX12_votes_96 (by decide) ?_
          exact z_sub [2, 3, 4, 1, 0] rfl (ih x16 (v4 + 1) _ H KE)
      refine z_if_lt (pc := 68) 75 dX12_votes_68 (by decide) (fun c11 => ?_) (fun c11 => ?_)
      · rw [if_pos c11] at em10
        refine z_iconst (pc := 75) (x := 0) dX12_votes_75 zc_iconst_0 ?_
        cases em10
        exact z_sub [0, 1, 2, 4] rfl Jm10
      · rw [if_neg c11] at em10
        refine z_iconst (pc := 71) (x := 1) dX12_votes_71 zc_iconst_1 ?_
        refine z_goto (pc := 72) 76 dX12_votes_72 (by decide) ?_
        cases em10
        exact z_sub [0, 1, 2, 4] rfl Jm10
def f_X12_votes (N : Nat) (v0 : Nat) (v1 : Int32) (v2 : Int32) (h : zH) : Option (Int32) := (f_X12_votes_L5 N v0 v1 v2 h N 0 0).bind fun m17 => some m17
set_option maxRecDepth 100000 in
set_option maxHeartbeats 4000000 in
theorem k_X12_votes {N : Nat} {v0 : Nat} {v1 : Int32} {v2 : Int32} {h : zH} {r : Int32} (H : f_X12_votes N v0 v1 v2 h = some r) : zOk 0 0 0 yX12_votes cX12_votes 7 (some .int) [.ref v0, .int v1, .int v2] h (some (.int r)) h := by
  refine zOk.of (by decide) (Nat.le_of_ble_eq_true rfl) ?_
  unfold f_X12_votes at H
  refine z_iconst (pc := 0) (x := 0) dX12_votes_0 zc_iconst_0 ?_
  refine z_istore_n (pc := 1) (lv' := [(3, .int 0), (0, .ref v0), (1, .int v1), (2, .int v2)]) dX12_votes_1 rfl (by decide) rfl ?_
  refine z_iconst (pc := 2) (x := 0) dX12_votes_2 zc_iconst_0 ?_
  refine z_istore (pc := 3) (lv' := [(4, .int 0), (3, .int 0), (0, .ref v0), (1, .int v1), (2, .int v2)]) dX12_votes_3 (by decide) rfl ?_
  obtain ⟨m17, em17, H⟩ := zbind H
  refine z_sub [2, 3, 4, 1, 0] rfl (s_X12_votes_L5 (by omega) N 0 0 _ em17 ?_)
  refine z_iload_n (pc := 99) 0 dX12_votes_99 rfl rfl ?_
  cases H
  exact z_ireturn rfl dX12_votes_100

theorem md_X12_votes : zMd yX12_votes cX12_votes 7 2 (some .int) := ⟨zmw (zmt_8 _ (List.mem_of_getElem? (i := 106) rfl)) rfl, zmem 127 (by decide +kernel) rfl, by decide, by decide, by decide +kernel, by decide⟩
theorem ml_X12_469 : Cond.methodLink RX12 469 yX12_votes ∈ zB := zmem 1894 (by decide +kernel) rfl
theorem im_X12_votes : Cond.instanceMethod yX12_votes ∈ zB := zmem 1896 (by decide +kernel) rfl
theorem se_X12_votes : Cond.selects yX12_votes.cls yX12_votes yX12_votes ∈ zB := zmem 103 (by decide +kernel) rfl
def f_X12_isPassed (N : Nat) (v0 : Nat) (v1 : Int32) (h : zH) : Option (Int32) := zif (zob h v0 12) <| (f_X12_votes N v0 v1 1 h).bind fun q2 => zif (zob h v0 12) <| (f_X12_votes N v0 v1 0 h).bind fun q4 => if q2 ≤ q4 then (some 0) else (some 1)
set_option maxRecDepth 100000 in
set_option maxHeartbeats 4000000 in
theorem k_X12_isPassed {N : Nat} {v0 : Nat} {v1 : Int32} {h : zH} {r : Int32} (H : f_X12_isPassed N v0 v1 h = some r) : zOk 1 0 0 yX12_isPassed cX12_isPassed 2 (some .boolean) [.ref v0, .int v1] h (some (.int r)) h := by
  refine zOk.of (by decide) (Nat.le_of_ble_eq_true rfl) ?_
  unfold f_X12_isPassed at H
  refine z_aload_n (pc := 0) 0 dX12_isPassed_0 rfl rfl ?_
  refine z_iload_n (pc := 1) 1 dX12_isPassed_1 rfl rfl ?_
  refine z_iconst (pc := 2) (x := 1) dX12_isPassed_2 zc_iconst_1 ?_
  obtain ⟨z1, H⟩ := zifE H
  obtain ⟨q2, eq2, H⟩ := zbind H
  refine z_callV (pc := 3) (mc := 0) (ms := 0) (d' := 0) (mc' := 0) (ms' := 0) (rest := []) [.int v1, .int 1] dX12_isPassed_3 md_X12_votes ml_X12_469 im_X12_votes se_X12_votes rfl z1 rfl rfl (Nat.le_of_ble_eq_true rfl) (by omega) (k_X12_votes eq2) ?_
  refine z_aload_n (pc := 6) 0 dX12_isPassed_6 rfl rfl ?_
  refine z_iload_n (pc := 7) 1 dX12_isPassed_7 rfl rfl ?_
  refine z_iconst (pc := 8) (x := 0) dX12_isPassed_8 zc_iconst_0 ?_
  obtain ⟨z3, H⟩ := zifE H
  obtain ⟨q4, eq4, H⟩ := zbind H
  refine z_callV (pc := 9) (mc := 0) (ms := 0) (d' := 0) (mc' := 0) (ms' := 0) (rest := [.int q2]) [.int v1, .int 0] dX12_isPassed_9 md_X12_votes ml_X12_469 im_X12_votes se_X12_votes rfl z3 rfl rfl (Nat.le_of_ble_eq_true rfl) (by omega) (k_X12_votes eq4) ?_
  refine z_icmp_le (pc := 12) 19 dX12_isPassed_12 (by decide) (fun c5 => ?_) (fun c5 => ?_)
  · rw [if_pos c5] at H
    refine z_iconst (pc := 19) (x := 0) dX12_isPassed_19 zc_iconst_0 ?_
    cases H
    exact z_zreturn rfl dX12_isPassed_20 (by decide)
  · rw [if_neg c5] at H
    refine z_iconst (pc := 15) (x := 1) dX12_isPassed_15 zc_iconst_1 ?_
    refine z_goto (pc := 16) 20 dX12_isPassed_16 (by decide) ?_
    cases H
    exact z_zreturn rfl dX12_isPassed_20 (by decide)

def f_X12_isClauses (N : Nat) (v0 : Int32) (h : zH) : Option (Int32) := rZ0 (p_X12_within v0 0 511)
set_option maxRecDepth 100000 in
set_option maxHeartbeats 4000000 in
theorem k_X12_isClauses {N : Nat} {v0 : Int32} {h : zH} {r : Int32} (H : f_X12_isClauses N v0 h = some r) : zOk 1 0 0 yX12_isClauses cX12_isClauses 1 (some .boolean) [.int v0] h (some (.int r)) h := by
  refine zOk.of (by decide) (Nat.le_of_ble_eq_true rfl) ?_
  unfold f_X12_isClauses at H
  refine z_iload_n (pc := 0) 0 dX12_isClauses_0 rfl rfl ?_
  refine z_iconst (pc := 1) (x := 0) dX12_isClauses_1 zc_iconst_0 ?_
  refine z_sipush (pc := 2) (x := 511) dX12_isClauses_2 zc_sipush_511 ?_
  refine z_callS (pc := 5) (mc := 0) (ms := 0) (d' := 0) (mc' := 0) (ms' := 0) (rest := []) [.int v0, .int 0, .int 511] dX12_isClauses_5 md_X12_within ml_X12_352 sm_X12_within rfl rfl (Nat.le_of_ble_eq_true rfl) (by omega) (k_X12_within v0 0 511 h _ rfl) ?_
  obtain ⟨z9, H⟩ := rZ0E H
  cases H
  exact z_zreturn rfl dX12_isClauses_8 z9

theorem md_X12_isClauses : zMd yX12_isClauses cX12_isClauses 1 1 (some .boolean) := ⟨zmw (zmt_8 _ (List.mem_of_getElem? (i := 98) rfl)) rfl, zmem 127 (by decide +kernel) rfl, by decide, by decide, by decide +kernel, by decide⟩
theorem ml_X12_473 : Cond.methodLink RX12 473 yX12_isClauses ∈ zB := zmem 1887 (by decide +kernel) rfl
theorem sm_X12_isClauses : Cond.static yX12_isClauses ∈ zB := zmem 1888 (by decide +kernel) rfl
theorem md_X12_isPassed : zMd yX12_isPassed cX12_isPassed 2 1 (some .boolean) := ⟨zmw (zmt_8 _ (List.mem_of_getElem? (i := 102) rfl)) rfl, zmem 127 (by decide +kernel) rfl, by decide, by decide, by decide +kernel, by decide⟩
theorem ml_X12_476 : Cond.methodLink RX12 476 yX12_isPassed ∈ zB := zmem 1890 (by decide +kernel) rfl
theorem im_X12_isPassed : Cond.instanceMethod yX12_isPassed ∈ zB := zmem 1892 (by decide +kernel) rfl
theorem se_X12_isPassed : Cond.selects yX12_isPassed.cls yX12_isPassed yX12_isPassed ∈ zB := zmem 102 (by decide +kernel) rfl
def f_X12_passes (N : Nat) (v0 : Nat) (v1 : Int32) (h : zH) : Option (Int32 × zH) := (pF h v0 12 0 (.int 0)).bind fun h1 => (f_X12_isClauses N v1 h1).bind fun q2 => if q2 = 0 then (some ((-1), h1)) else (zif (zob h1 v0 12) <| (f_X12_isPassed N v0 v1 h1).bind fun q5 => if q5 = 0 then (some (0, h1)) else (some (1, h1)))
set_option maxRecDepth 100000 in
set_option maxHeartbeats 4000000 in
theorem k_X12_passes {N : Nat} {v0 : Nat} {v1 : Int32} {h : zH} {r : Int32 × zH} (H : f_X12_passes N v0 v1 h = some r) : zOk 2 0 0 yX12_passes cX12_passes 2 (some .int) [.ref v0, .int v1] h (some (.int r.1)) r.2 := by
  refine zOk.of (by decide) (Nat.le_of_ble_eq_true rfl) ?_
  unfold f_X12_passes at H
  refine z_aload_n (pc := 0) 0 dX12_passes_0 rfl rfl ?_
  refine z_iconst (pc := 1) (x := 0) dX12_passes_1 zc_iconst_0 ?_
  obtain ⟨h1, eh1, H⟩ := zbind H
  refine z_put (pc := 2) dX12_passes_2 fd_X12_1 rfl rfl eh1 ?_
  refine z_iload_n (pc := 5) 1 dX12_passes_5 rfl rfl ?_
  obtain ⟨q2, eq2, H⟩ := zbind H
  refine z_callS (pc := 6) (mc := 0) (ms := 0) (d' := 1) (mc' := 0) (ms' := 0) (rest := []) [.int v1] dX12_passes_6 md_X12_isClauses ml_X12_473 sm_X12_isClauses rfl rfl (Nat.le_of_ble_eq_true rfl) (by omega) (k_X12_isClauses eq2) ?_
  refine z_if_ne (pc := 9) 16 dX12_passes_9 (by decide) (fun c3 => ?_) (fun c3 => ?_)
  · rw [if_neg c3] at H
    refine z_aload_n (pc := 16) 0 dX12_passes_16 rfl rfl ?_
    refine z_iload_n (pc := 17) 1 dX12_passes_17 rfl rfl ?_
    obtain ⟨z4, H⟩ := zifE H
    obtain ⟨q5, eq5, H⟩ := zbind H
    refine z_callV (pc := 18) (mc := 0) (ms := 0) (d' := 1) (mc' := 0) (ms' := 0) (rest := []) [.int v1] dX12_passes_18 md_X12_isPassed ml_X12_476 im_X12_isPassed se_X12_isPassed rfl z4 rfl rfl (Nat.le_of_ble_eq_true rfl) (by omega) (k_X12_isPassed eq5) ?_
    refine z_if_eq (pc := 21) 28 dX12_passes_21 (by decide) (fun c6 => ?_) (fun c6 => ?_)
    · rw [if_pos c6] at H
      refine z_iconst (pc := 28) (x := 0) dX12_passes_28 zc_iconst_0 ?_
      cases H
      exact z_ireturn rfl dX12_passes_29
    · rw [if_neg c6] at H
      refine z_iconst (pc := 24) (x := 1) dX12_passes_24 zc_iconst_1 ?_
      refine z_goto (pc := 25) 29 dX12_passes_25 (by decide) ?_
      cases H
      exact z_ireturn rfl dX12_passes_29
  · rw [if_pos c3] at H
    refine z_iconst (pc := 12) (x := (-1)) dX12_passes_12 zc_iconst_m1 ?_
    refine z_goto (pc := 13) 29 dX12_passes_13 (by decide) ?_
    cases H
    exact z_ireturn rfl dX12_passes_29

def f_X12_bits_L4 (N : Nat) (v0 : Int32) (h : zH) : Nat → Int32 → Int32 → Option (Int32)
  | 0, _, _ => none
  | n + 1, v1, v2 => if 9 ≤ v2 then (some v1) else (zlet (v1 + ((v0 >>> (v2 &&& 31)) &&& 1) : Int32) fun x2 => f_X12_bits_L4 N v0 h n x2 (v2 + 1))
set_option maxRecDepth 100000 in
set_option maxHeartbeats 4000000 in
theorem s_X12_bits_L4 {d mc ms N : Nat} {vv : Option Value} {hh : zH} {v0 : Int32} {h : zH} (hd0 : 0 ≤ d) : ∀ (n : Nat) (v1 : Int32) (v2 : Int32) (m : Int32), f_X12_bits_L4 N v0 h n v1 v2 = some m → (zW yX12_bits cX12_bits 3 (some .int) d mc ms 24 [(1, .int m)] [] h vv hh) → zW yX12_bits cX12_bits 3 (some .int) d mc ms 4 [(0, .int v0), (1, .int v1), (2, .int v2)] [] h vv hh := by
  intro n
  induction n with
  | zero =>
    intro v1 v2 m H
    cases H
  | succ n ih =>
    intro v1 v2 m H KE
    unfold f_X12_bits_L4 at H
    refine z_iload_n (pc := 4) 2 dX12_bits_4 rfl rfl ?_
    refine z_bipush (pc := 5) (x := 9) dX12_bits_5 zc_bipush_9 ?_
    refine z_icmp_ge (pc := 7) 24 dX12_bits_7 (by decide) (fun c1 => ?_) (fun c1 => ?_)
    · rw [if_pos c1] at H
      cases H
      exact z_sub [1] rfl (KE)
    · rw [if_neg c1] at H
      refine z_iload_n (pc := 10) 1 dX12_bits_10 rfl rfl ?_
      refine z_iload_n (pc := 11) 0 dX12_bits_11 rfl rfl ?_
      refine z_iload_n (pc := 12) 2 dX12_bits_12 rfl rfl ?_
      refine z_ishr (pc := 13) dX12_bits_13 ?_
      refine z_iconst (pc := 14) (x := 1) dX12_bits_14 zc_iconst_1 ?_
      refine z_iand (pc := 15) dX12_bits_15 ?_
      refine z_iadd (pc := 16) dX12_bits_16 ?_
      obtain ⟨x2, ex2, H⟩ := zletE H
      refine z_nmI ex2 ?_
      refine z_istore_n (pc := 17) (lv' := [(1, .int x2), (0, .int v0), (2, .int v2)]) dX12_bits_17 rfl (by decide) rfl ?_
      refine z_iinc (pc := 18) (x' := v2 + 1) (lv' := [(2, .int (v2 + 1)), (1, .int x2), (0, .int v0)]) 2 dX12_bits_18 rfl (by rfl) (by decide) rfl ?_
      refine z_goto (pc := 21) 4 dX12_bits_21 (by decide) ?_
      exact z_sub [2, 1, 0] rfl (ih x2 (v2 + 1) _ H KE)
def f_X12_bits (N : Nat) (v0 : Int32) (h : zH) : Option (Int32) := (f_X12_bits_L4 N v0 h N 0 0).bind fun m3 => some m3
set_option maxRecDepth 100000 in
set_option maxHeartbeats 4000000 in
theorem k_X12_bits {N : Nat} {v0 : Int32} {h : zH} {r : Int32} (H : f_X12_bits N v0 h = some r) : zOk 0 0 0 yX12_bits cX12_bits 3 (some .int) [.int v0] h (some (.int r)) h := by
  refine zOk.of (by decide) (Nat.le_of_ble_eq_true rfl) ?_
  unfold f_X12_bits at H
  refine z_iconst (pc := 0) (x := 0) dX12_bits_0 zc_iconst_0 ?_
  refine z_istore_n (pc := 1) (lv' := [(1, .int 0), (0, .int v0)]) dX12_bits_1 rfl (by decide) rfl ?_
  refine z_iconst (pc := 2) (x := 0) dX12_bits_2 zc_iconst_0 ?_
  refine z_istore_n (pc := 3) (lv' := [(2, .int 0), (1, .int 0), (0, .int v0)]) dX12_bits_3 rfl (by decide) rfl ?_
  obtain ⟨m3, em3, H⟩ := zbind H
  refine z_sub [2, 1, 0] rfl (s_X12_bits_L4 (by omega) N 0 0 _ em3 ?_)
  refine z_iload_n (pc := 24) 0 dX12_bits_24 rfl rfl ?_
  cases H
  exact z_ireturn rfl dX12_bits_25

theorem md_X12_bits : zMd yX12_bits cX12_bits 3 1 (some .int) := ⟨zmw (zmt_8 _ (List.mem_of_getElem? (i := 113) rfl)) rfl, zmem 127 (by decide +kernel) rfl, by decide, by decide, by decide +kernel, by decide⟩
theorem ml_X12_479 : Cond.methodLink RX12 479 yX12_bits ∈ zB := zmem 1902 (by decide +kernel) rfl
theorem sm_X12_bits : Cond.static yX12_bits ∈ zB := zmem 1903 (by decide +kernel) rfl
def f_X12_most_L18 (N : Nat) (v0 : Nat) (v1 : Int32) (h : zH) : Nat → Int32 → Int32 → Option (Int32)
  | 0, _, _ => none
  | n + 1, v2, v3 => if v1 < v3 then (some v2) else (if (v3 &&& (v1 ^^^ (-1))) = 0 then (zif (zob h v0 12) <| (f_X12_isPassed N v0 v3 h).bind fun q7 => if q7 = 0 then (f_X12_most_L18 N v0 v1 h n v2 (v3 + 1)) else ((if v2 < 0 then (some 1) else ((f_X12_bits N v3 h).bind fun q11 => (f_X12_bits N v2 h).bind fun q12 => if q11 ≤ q12 then (some 0) else (some 1)) : Option (Int32)).bind fun m9 => (if v2 < 0 then (some 0) else ((f_X12_bits N v3 h).bind fun q16 => (f_X12_bits N v2 h).bind fun q17 => if q16 = q17 then (some 1) else (some 0)) : Option (Int32)).bind fun m14 => if m9 = 0 then (if m14 = 0 then (f_X12_most_L18 N v0 v1 h n v2 (v3 + 1)) else (zif (zob h v0 12) <| (f_X12_votes N v0 v3 1 h).bind fun q22 => zif (zob h v0 12) <| (f_X12_votes N v0 v2 1 h).bind fun q24 => if q22 < q24 then (f_X12_most_L18 N v0 v1 h n v2 (v3 + 1)) else (f_X12_most_L18 N v0 v1 h n v3 (v3 + 1)))) else (f_X12_most_L18 N v0 v1 h n v3 (v3 + 1)))) else (f_X12_most_L18 N v0 v1 h n v2 (v3 + 1)))
set_option maxRecDepth 100000 in
set_option maxHeartbeats 4000000 in
theorem s_X12_most_L18 {d mc ms N : Nat} {vv : Option Value} {hh : zH} {v0 : Nat} {v1 : Int32} {h : zH} (hd0 : 2 ≤ d) : ∀ (n : Nat) (v2 : Int32) (v3 : Int32) (m : Int32), f_X12_most_L18 N v0 v1 h n v2 v3 = some m → (zW yX12_most cX12_most 6 (some .int) d mc ms 120 [(2, .int m)] [] h vv hh) → zW yX12_most cX12_most 6 (some .int) d mc ms 18 [(0, .ref v0), (1, .int v1), (2, .int v2), (3, .int v3)] [] h vv hh := by
  intro n
  induction n with
  | zero =>
    intro v2 v3 m H
    cases H
  | succ n ih =>
    intro v2 v3 m H KE
    unfold f_X12_most_L18 at H
    refine z_iload_n (pc := 18) 3 dX12_most_18 rfl rfl ?_
    refine z_iload_n (pc := 19) 1 dX12_most_19 rfl rfl ?_
    refine z_icmp_gt (pc := 20) 120 dX12_most_20 (by decide) (fun c4 => ?_) (fun c4 => ?_)
    · rw [if_pos c4] at H
      cases H
      exact z_sub [2] rfl (KE)
    · rw [if_neg c4] at H
      refine z_iload_n (pc := 23) 3 dX12_most_23 rfl rfl ?_
      refine z_iload_n (pc := 24) 1 dX12_most_24 rfl rfl ?_
      refine z_iconst (pc := 25) (x := (-1)) dX12_most_25 zc_iconst_m1 ?_
      refine z_ixor (pc := 26) dX12_most_26 ?_
      refine z_iand (pc := 27) dX12_most_27 ?_
      refine z_if_ne (pc := 28) 114 dX12_most_28 (by decide) (fun c5 => ?_) (fun c5 => ?_)
      · rw [if_neg c5] at H
        refine z_iinc (pc := 114) (x' := v3 + 1) (lv' := [(3, .int (v3 + 1)), (0, .ref v0), (1, .int v1), (2, .int v2)]) 3 dX12_most_114 rfl (by rfl) (by decide) rfl ?_
        refine z_goto (pc := 117) 18 dX12_most_117 (by decide) ?_
        exact z_sub [1, 2, 3, 0] rfl (ih v2 (v3 + 1) _ H KE)
      · rw [if_pos c5] at H
        refine z_aload_n (pc := 31) 0 dX12_most_31 rfl rfl ?_
        refine z_iload_n (pc := 32) 3 dX12_most_32 rfl rfl ?_
        obtain ⟨z6, H⟩ := zifE H
        obtain ⟨q7, eq7, H⟩ := zbind H
        refine z_callV (pc := 33) (mc := mc) (ms := ms) (d' := 1) (mc' := 0) (ms' := 0) (rest := []) [.int v3] dX12_most_33 md_X12_isPassed ml_X12_476 im_X12_isPassed se_X12_isPassed rfl z6 rfl rfl (Nat.le_of_ble_eq_true rfl) (by omega) (k_X12_isPassed eq7) ?_
        refine z_if_eq (pc := 36) 114 dX12_most_36 (by decide) (fun c8 => ?_) (fun c8 => ?_)
        · rw [if_pos c8] at H
          refine z_iinc (pc := 114) (x' := v3 + 1) (lv' := [(3, .int (v3 + 1)), (0, .ref v0), (1, .int v1), (2, .int v2)]) 3 dX12_most_114 rfl (by rfl) (by decide) rfl ?_
          refine z_goto (pc := 117) 18 dX12_most_117 (by decide) ?_
          exact z_sub [1, 2, 3, 0] rfl (ih v2 (v3 + 1) _ H KE)
        · rw [if_neg c8] at H
          refine z_iload_n (pc := 39) 2 dX12_most_39 rfl rfl ?_
          obtain ⟨m9, em9, H⟩ := zbind H
          have Jm9 : zW yX12_most cX12_most 6 (some .int) d mc ms 59 [(0, .ref v0), (1, .int v1), (2, .int v2), (3, .int v3)] [.int m9] h vv hh := by
            refine z_istore (pc := 59) (lv' := [(4, .int m9), (0, .ref v0), (1, .int v1), (2, .int v2), (3, .int v3)]) dX12_most_59 (by decide) rfl ?_
            refine z_iload_n (pc := 61) 3 dX12_most_61 rfl rfl ?_
            obtain ⟨m14, em14, H⟩ := zbind H
            have Jm14 : zW yX12_most cX12_most 6 (some .int) d mc ms 81 [(0, .ref v0), (1, .int v1), (2, .int v2), (3, .int v3), (4, .int m9)] [.int m14] h vv hh := by
              refine z_istore (pc := 81) (lv' := [(5, .int m14), (0, .ref v0), (1, .int v1), (2, .int v2), (3, .int v3), (4, .int m9)]) dX12_most_81 (by decide) rfl ?_
              refine z_iload (pc := 83) 5 dX12_most_83 rfl ?_
              refine z_if_ne (pc := 85) 108 dX12_most_85 (by decide) (fun c19 => ?_) (fun c19 => ?_)
              · rw [if_neg c19] at H
                refine z_iload_n (pc := 108) 4 dX12_most_108 rfl rfl ?_
                refine z_goto (pc := 109) 113 dX12_most_109 (by decide) ?_
                refine z_istore_n (pc := 113) (lv' := [(2, .int v3), (5, .int m14), (0, .ref v0), (1, .int v1), (3, .int v3), (4, .int m9)]) dX12_most_113 rfl (by decide) rfl ?_
                refine z_iinc (pc := 114) (x' := v3 + 1) (lv' := [(3, .int (v3 + 1)), (2, .int v3), (5, .int m14), (0, .ref v0), (1, .int v1), (4, .int m9)]) 4 dX12_most_114 rfl (by rfl) (by decide) rfl ?_
                refine z_goto (pc := 117) 18 dX12_most_117 (by decide) ?_
                exact z_sub [3, 4, 1, 0] rfl (ih v3 (v3 + 1) _ H KE)
              · rw [if_pos c19] at H
                refine z_iload (pc := 88) 0 dX12_most_88 rfl ?_
                refine z_if_eq (pc := 90) 112 dX12_most_90 (by decide) (fun c20 => ?_) (fun c20 => ?_)
                · rw [if_pos c20] at H
                  refine z_iload_n (pc := 112) 3 dX12_most_112 rfl rfl ?_
                  refine z_istore_n (pc := 113) (lv' := [(2, .int v2), (5, .int m14), (0, .ref v0), (1, .int v1), (3, .int v3), (4, .int m9)]) dX12_most_113 rfl (by decide) rfl ?_
                  refine z_iinc (pc := 114) (x' := v3 + 1) (lv' := [(3, .int (v3 + 1)), (2, .int v2), (5, .int m14), (0, .ref v0), (1, .int v1), (4, .int m9)]) 4 dX12_most_114 rfl (by rfl) (by decide) rfl ?_
                  refine z_goto (pc := 117) 18 dX12_most_117 (by decide) ?_
                  exact z_sub [3, 4, 1, 0] rfl (ih v2 (v3 + 1) _ H KE)
                · rw [if_neg c20] at H
                  refine z_aload_n (pc := 93) 1 dX12_most_93 rfl rfl ?_
                  refine z_iload_n (pc := 94) 4 dX12_most_94 rfl rfl ?_
                  refine z_iconst (pc := 95) (x := 1) dX12_most_95 zc_iconst_1 ?_
                  obtain ⟨z21, H⟩ := zifE H
                  obtain ⟨q22, eq22, H⟩ := zbind H
                  refine z_callV (pc := 96) (mc := mc) (ms := ms) (d' := 0) (mc' := 0) (ms' := 0) (rest := []) [.int v3, .int 1] dX12_most_96 md_X12_votes ml_X12_469 im_X12_votes se_X12_votes rfl z21 rfl rfl (Nat.le_of_ble_eq_true rfl) (by omega) (k_X12_votes eq22) ?_
                  refine z_aload_n (pc := 99) 1 dX12_most_99 rfl rfl ?_
                  refine z_iload_n (pc := 100) 3 dX12_most_100 rfl rfl ?_
                  refine z_iconst (pc := 101) (x := 1) dX12_most_101 zc_iconst_1 ?_
                  obtain ⟨z23, H⟩ := zifE H
                  obtain ⟨q24, eq24, H⟩ := zbind H
                  refine z_callV (pc := 102) (mc := mc) (ms := ms) (d' := 0) (mc' := 0) (ms' := 0) (rest := [.int q22]) [.int v2, .int 1] dX12_most_102 md_X12_votes ml_X12_469 im_X12_votes se_X12_votes rfl z23 rfl rfl (Nat.le_of_ble_eq_true rfl) (by omega) (k_X12_votes eq24) ?_
                  refine z_icmp_lt (pc := 105) 112 dX12_most_105 (by decide) (fun c25 => ?_) (fun c25 => ?_)
                  · rw [if_pos c25] at H
                    refine z_iload_n (pc := 112) 3 dX12_most_112 rfl rfl ?_
                    refine z_istore_n (pc := 113) (lv' := [(2, .int v2), (5, .int m14), (0, .ref v0), (1, .int v1), (3, .int v3), (4, .int m9)]) dX12_most_113 rfl (by decide) rfl ?_
                    refine z_iinc (pc := 114) (x' := v3 + 1) (lv' := [(3, .int (v3 + 1)), (2, .int v2), (5, .int m14), (0, .ref v0), (1, .int v1), (4, .int m9)]) 4 dX12_most_114 rfl (by rfl) (by decide) rfl ?_
                    refine z_goto (pc := 117) 18 dX12_most_117 (by decide) ?_
                    exact z_sub [3, 4, 1, 0] rfl (ih v2 (v3 + 1) _ H KE)
                  · rw [if_neg c25] at H
                    refine z_iload_n (pc := 108) 4 dX12_most_108 rfl rfl ?_
                    refine z_goto (pc := 109) 113 dX12_most_109 (by decide) ?_
                    refine z_istore_n (pc := 113) (lv' := [(2, .int v3), (5, .int m14), (0, .ref v0), (1, .int v1), (3, .int v3), (4, .int m9)]) dX12_most_113 rfl (by decide) rfl ?_
                    refine z_iinc (pc := 114) (x' := v3 + 1) (lv' := [(3, .int (v3 + 1)), (2, .int v3), (5, .int m14), (0, .ref v0), (1, .int v1), (4, .int m9)]) 4 dX12_most_114 rfl (by rfl) (by decide) rfl ?_
                    refine z_goto (pc := 117) 18 dX12_most_117 (by decide) ?_
                    exact z_sub [3, 4, 1, 0] rfl (ih v3 (v3 + 1) _ H KE)
            refine z_if_lt (pc := 62) 80 dX12_most_62 (by decide) (fun c15 => ?_) (fun c15 => ?_)
            · rw [if_pos c15] at em14
              refine z_iconst (pc := 80) (x := 0) dX12_most_80 zc_iconst_0 ?_
              cases em14
              exact z_sub [1, 2, 3, 4, 0] rfl Jm14
            · rw [if_neg c15] at em14
              refine z_iload_n (pc := 65) 4 dX12_most_65 rfl rfl ?_
              obtain ⟨q16, eq16, em14⟩ := zbind em14
              refine z_callS (pc := 66) (mc := mc) (ms := ms) (d' := 0) (mc' := 0) (ms' := 0) (rest := []) [.int v3] dX12_most_66 md_X12_bits ml_X12_479 sm_X12_bits rfl rfl (Nat.le_of_ble_eq_true rfl) (by omega) (k_X12_bits eq16) ?_
              refine z_iload_n (pc := 69) 3 dX12_most_69 rfl rfl ?_
              obtain ⟨q17, eq17, em14⟩ := zbind em14
              refine z_callS (pc := 70) (mc := mc) (ms := ms) (d' := 0) (mc' := 0) (ms' := 0) (rest := [.int q16]) [.int v2] dX12_most_70 md_X12_bits ml_X12_479 sm_X12_bits rfl rfl (Nat.le_of_ble_eq_true rfl) (by omega) (k_X12_bits eq17) ?_
              refine z_icmp_ne (pc := 73) 80 dX12_most_73 (by decide) (fun c18 => ?_) (fun c18 => ?_)
              · rw [if_neg c18] at em14
                refine z_iconst (pc := 80) (x := 0) dX12_most_80 zc_iconst_0 ?_
                cases em14
                exact z_sub [1, 2, 3, 4, 0] rfl Jm14
              · rw [if_pos c18] at em14
                refine z_iconst (pc := 76) (x := 1) dX12_most_76 zc_iconst_1 ?_
                refine z_goto (pc := 77) 81 dX12_most_77 (by decide) ?_
                cases em14
                exact z_sub [1, 2, 3, 4, 0] rfl Jm14
          refine z_if_lt (pc := 40) 54 dX12_most_40 (by decide) (fun c10 => ?_) (fun c10 => ?_)
          · rw [if_pos c10] at em9
            refine z_iconst (pc := 54) (x := 1) dX12_most_54 zc_iconst_1 ?_
            refine z_goto (pc := 55) 59 dX12_most_55 (by decide) ?_
            cases em9
            exact z_sub [0, 1, 2, 3] rfl Jm9
          · rw [if_neg c10] at em9
            refine z_iload_n (pc := 43) 3 dX12_most_43 rfl rfl ?_
            obtain ⟨q11, eq11, em9⟩ := zbind em9
            refine z_callS (pc := 44) (mc := mc) (ms := ms) (d' := 0) (mc' := 0) (ms' := 0) (rest := []) [.int v3] dX12_most_44 md_X12_bits ml_X12_479 sm_X12_bits rfl rfl (Nat.le_of_ble_eq_true rfl) (by omega) (k_X12_bits eq11) ?_
            refine z_iload_n (pc := 47) 2 dX12_most_47 rfl rfl ?_
            obtain ⟨q12, eq12, em9⟩ := zbind em9
            refine z_callS (pc := 48) (mc := mc) (ms := ms) (d' := 0) (mc' := 0) (ms' := 0) (rest := [.int q11]) [.int v2] dX12_most_48 md_X12_bits ml_X12_479 sm_X12_bits rfl rfl (Nat.le_of_ble_eq_true rfl) (by omega) (k_X12_bits eq12) ?_
            refine z_icmp_le (pc := 51) 58 dX12_most_51 (by decide) (fun c13 => ?_) (fun c13 => ?_)
            · rw [if_pos c13] at em9
              refine z_iconst (pc := 58) (x := 0) dX12_most_58 zc_iconst_0 ?_
              cases em9
              exact z_sub [0, 1, 2, 3] rfl Jm9
            · rw [if_neg c13] at em9
              refine z_iconst (pc := 54) (x := 1) dX12_most_54 zc_iconst_1 ?_
              refine z_goto (pc := 55) 59 dX12_most_55 (by decide) ?_
              cases em9
              exact z_sub [0, 1, 2, 3] rfl Jm9
def f_X12_most (N : Nat) (v0 : Nat) (v1 : Int32) (h : zH) : Option (Int32 × zH) := (pF h v0 12 0 (.int 0)).bind fun h1 => (f_X12_isClauses N v1 h1).bind fun q2 => if q2 = 0 then (some ((-1), h1)) else ((f_X12_most_L18 N v0 v1 h1 N (-1) 0).bind fun m26 => some (m26, h1))
set_option maxRecDepth 100000 in
set_option maxHeartbeats 4000000 in
theorem k_X12_most {N : Nat} {v0 : Nat} {v1 : Int32} {h : zH} {r : Int32 × zH} (H : f_X12_most N v0 v1 h = some r) : zOk 2 0 0 yX12_most cX12_most 6 (some .int) [.ref v0, .int v1] h (some (.int r.1)) r.2 := by
  refine zOk.of (by decide) (Nat.le_of_ble_eq_true rfl) ?_
  unfold f_X12_most at H
  refine z_aload_n (pc := 0) 0 dX12_most_0 rfl rfl ?_
  refine z_iconst (pc := 1) (x := 0) dX12_most_1 zc_iconst_0 ?_
  obtain ⟨h1, eh1, H⟩ := zbind H
  refine z_put (pc := 2) dX12_most_2 fd_X12_1 rfl rfl eh1 ?_
  refine z_iload_n (pc := 5) 1 dX12_most_5 rfl rfl ?_
  obtain ⟨q2, eq2, H⟩ := zbind H
  refine z_callS (pc := 6) (mc := 0) (ms := 0) (d' := 1) (mc' := 0) (ms' := 0) (rest := []) [.int v1] dX12_most_6 md_X12_isClauses ml_X12_473 sm_X12_isClauses rfl rfl (Nat.le_of_ble_eq_true rfl) (by omega) (k_X12_isClauses eq2) ?_
  refine z_if_ne (pc := 9) 14 dX12_most_9 (by decide) (fun c3 => ?_) (fun c3 => ?_)
  · rw [if_neg c3] at H
    refine z_iconst (pc := 14) (x := (-1)) dX12_most_14 zc_iconst_m1 ?_
    refine z_istore_n (pc := 15) (lv' := [(2, .int (-1)), (0, .ref v0), (1, .int v1)]) dX12_most_15 rfl (by decide) rfl ?_
    refine z_iconst (pc := 16) (x := 0) dX12_most_16 zc_iconst_0 ?_
    refine z_istore_n (pc := 17) (lv' := [(3, .int 0), (2, .int (-1)), (0, .ref v0), (1, .int v1)]) dX12_most_17 rfl (by decide) rfl ?_
    obtain ⟨m26, em26, H⟩ := zbind H
    refine z_sub [2, 3, 1, 0] rfl (s_X12_most_L18 (by omega) N (-1) 0 _ em26 ?_)
    refine z_iload_n (pc := 120) 0 dX12_most_120 rfl rfl ?_
    cases H
    exact z_ireturn rfl dX12_most_121
  · rw [if_pos c3] at H
    refine z_iconst (pc := 12) (x := (-1)) dX12_most_12 zc_iconst_m1 ?_
    cases H
    exact z_ireturn rfl dX12_most_13

theorem ki_X12_482 : Cond.constant RX12 482 99999 ∈ zB := zmem 1909 (by decide +kernel) rfl
def f_X12_counted (N : Nat) (v0 : Nat) (v1 : Int32) (v2 : Int32) (v3 : Int32) (v4 : Int32) (h : zH) : Option (Int32 × zH) := (pF h v0 12 0 (.int 0)).bind fun h1 => if (p_X12_within v1 0 7) = 0 then (some (0, h1)) else ((f_X12_isYear N v2 h1).bind fun q3 => if q3 = 0 then (some (0, h1)) else ((if v3 = (-1) then (some (.inl ())) else (if (p_X12_within v3 0 9999) = 0 then ((some (0, h1)).map .inr) else (if (p_X12_within v4 0 99999) = 0 then ((some (0, h1)).map .inr) else (some (.inl ())))) : Option ((Unit) ⊕ (Int32 × zH))).bind fun m5 => zsum m5 fun s6 => (gR h1 v0 12 70).bind fun r12 => (sI h1 r12 ((31 * v1) + v2) v3).bind fun h13 => (gR h13 v0 12 71).bind fun r14 => if v3 = (-1) then ((sI h13 r14 ((31 * v1) + v2) 0).bind fun h17 => some (1, h17)) else ((sI h13 r14 ((31 * v1) + v2) v4).bind fun h16 => some (1, h16))))
set_option maxRecDepth 100000 in
set_option maxHeartbeats 4000000 in
theorem k_X12_counted {N : Nat} {v0 : Nat} {v1 : Int32} {v2 : Int32} {v3 : Int32} {v4 : Int32} {h : zH} {r : Int32 × zH} (H : f_X12_counted N v0 v1 v2 v3 v4 h = some r) : zOk 2 0 0 yX12_counted cX12_counted 5 (some .boolean) [.ref v0, .int v1, .int v2, .int v3, .int v4] h (some (.int r.1)) r.2 := by
  refine zOk.of (by decide) (Nat.le_of_ble_eq_true rfl) ?_
  unfold f_X12_counted at H
  refine z_aload_n (pc := 0) 0 dX12_counted_0 rfl rfl ?_
  refine z_iconst (pc := 1) (x := 0) dX12_counted_1 zc_iconst_0 ?_
  obtain ⟨h1, eh1, H⟩ := zbind H
  refine z_put (pc := 2) dX12_counted_2 fd_X12_1 rfl rfl eh1 ?_
  refine z_iload_n (pc := 5) 1 dX12_counted_5 rfl rfl ?_
  refine z_iconst (pc := 6) (x := 0) dX12_counted_6 zc_iconst_0 ?_
  refine z_bipush (pc := 7) (x := 7) dX12_counted_7 zc_bipush_7 ?_
  refine z_callS (pc := 9) (mc := 0) (ms := 0) (d' := 0) (mc' := 0) (ms' := 0) (rest := []) [.int v1, .int 0, .int 7] dX12_counted_9 md_X12_within ml_X12_352 sm_X12_within rfl rfl (Nat.le_of_ble_eq_true rfl) (by omega) (k_X12_within v1 0 7 h1 _ rfl) ?_
  refine z_if_eq (pc := 12) 50 dX12_counted_12 (by decide) (fun c2 => ?_) (fun c2 => ?_)
  · rw [if_pos c2] at H
    refine z_iconst (pc := 50) (x := 0) dX12_counted_50 zc_iconst_0 ?_
    cases H
    exact z_zreturn rfl dX12_counted_51 (by decide)
  · rw [if_neg c2] at H
    refine z_iload_n (pc := 15) 2 dX12_counted_15 rfl rfl ?_
    obtain ⟨q3, eq3, H⟩ := zbind H
    refine z_callS (pc := 16) (mc := 0) (ms := 0) (d' := 1) (mc' := 0) (ms' := 0) (rest := []) [.int v2] dX12_counted_16 md_X12_isYear ml_X12_356 sm_X12_isYear rfl rfl (Nat.le_of_ble_eq_true rfl) (by omega) (k_X12_isYear eq3) ?_
    refine z_if_eq (pc := 19) 50 dX12_counted_19 (by decide) (fun c4 => ?_) (fun c4 => ?_)
    · rw [if_pos c4] at H
      refine z_iconst (pc := 50) (x := 0) dX12_counted_50 zc_iconst_0 ?_
      cases H
      exact z_zreturn rfl dX12_counted_51 (by decide)
    · rw [if_neg c4] at H
      refine z_iload_n (pc := 22) 3 dX12_counted_22 rfl rfl ?_
      refine z_iconst (pc := 23) (x := (-1)) dX12_counted_23 zc_iconst_m1 ?_
      obtain ⟨m5, em5, H⟩ := zbind H
      have Jm5 : ∀ s6, m5 = .inl s6 → zW yX12_counted cX12_counted 5 (some .boolean) 2 0 0 52 [(0, .ref v0), (1, .int v1), (2, .int v2), (3, .int v3), (4, .int v4)] [] h1 (some (.int r.1)) r.2 := by
        intro s6 e9
        subst e9
        have H := zsumL H
        refine z_aload_n (pc := 52) 0 dX12_counted_52 rfl rfl ?_
        obtain ⟨r12, er12, H⟩ := zbind H
        refine z_getR (pc := 53) dX12_counted_53 fd_X12_206 er12 ?_
        refine z_bipush (pc := 56) (x := 31) dX12_counted_56 zc_bipush_31 ?_
        refine z_iload_n (pc := 58) 1 dX12_counted_58 rfl rfl ?_
        refine z_imul (pc := 59) dX12_counted_59 ?_
        refine z_iload_n (pc := 60) 2 dX12_counted_60 rfl rfl ?_
        refine z_iadd (pc := 61) dX12_counted_61 ?_
        refine z_iload_n (pc := 62) 3 dX12_counted_62 rfl rfl ?_
        obtain ⟨h13, eh13, H⟩ := zbind H
        refine z_iastore (pc := 63) dX12_counted_63 eh13 ?_
        refine z_aload_n (pc := 64) 0 dX12_counted_64 rfl rfl ?_
        obtain ⟨r14, er14, H⟩ := zbind H
        refine z_getR (pc := 65) dX12_counted_65 fd_X12_209 er14 ?_
        refine z_bipush (pc := 68) (x := 31) dX12_counted_68 zc_bipush_31 ?_
        refine z_iload_n (pc := 70) 1 dX12_counted_70 rfl rfl ?_
        refine z_imul (pc := 71) dX12_counted_71 ?_
        refine z_iload_n (pc := 72) 2 dX12_counted_72 rfl rfl ?_
        refine z_iadd (pc := 73) dX12_counted_73 ?_
        refine z_iload_n (pc := 74) 3 dX12_counted_74 rfl rfl ?_
        refine z_iconst (pc := 75) (x := (-1)) dX12_counted_75 zc_iconst_m1 ?_
        refine z_icmp_ne (pc := 76) 83 dX12_counted_76 (by decide) (fun c15 => ?_) (fun c15 => ?_)
        · rw [if_neg c15] at H
          refine z_iload (pc := 83) 4 dX12_counted_83 rfl ?_
          obtain ⟨h16, eh16, H⟩ := zbind H
          refine z_iastore (pc := 85) dX12_counted_85 eh16 ?_
          refine z_iconst (pc := 86) (x := 1) dX12_counted_86 zc_iconst_1 ?_
          cases H
          exact z_zreturn rfl dX12_counted_87 (by decide)
        · rw [if_pos c15] at H
          refine z_iconst (pc := 79) (x := 0) dX12_counted_79 zc_iconst_0 ?_
          refine z_goto (pc := 80) 85 dX12_counted_80 (by decide) ?_
          obtain ⟨h17, eh17, H⟩ := zbind H
          refine z_iastore (pc := 85) dX12_counted_85 eh17 ?_
          refine z_iconst (pc := 86) (x := 1) dX12_counted_86 zc_iconst_1 ?_
          cases H
          exact z_zreturn rfl dX12_counted_87 (by decide)
      refine z_icmp_eq (pc := 24) 52 dX12_counted_24 (by decide) (fun c7 => ?_) (fun c7 => ?_)
      · rw [if_pos c7] at em5
        cases em5
        exact z_sub [0, 1, 2, 3, 4] rfl (Jm5 _ rfl)
      · rw [if_neg c7] at em5
        refine z_iload_n (pc := 27) 3 dX12_counted_27 rfl rfl ?_
        refine z_iconst (pc := 28) (x := 0) dX12_counted_28 zc_iconst_0 ?_
        refine z_sipush (pc := 29) (x := 9999) dX12_counted_29 zc_sipush_9999 ?_
        refine z_callS (pc := 32) (mc := 0) (ms := 0) (d' := 0) (mc' := 0) (ms' := 0) (rest := []) [.int v3, .int 0, .int 9999] dX12_counted_32 md_X12_within ml_X12_352 sm_X12_within rfl rfl (Nat.le_of_ble_eq_true rfl) (by omega) (k_X12_within v3 0 9999 h1 _ rfl) ?_
        refine z_if_eq (pc := 35) 50 dX12_counted_35 (by decide) (fun c8 => ?_) (fun c8 => ?_)
        · rw [if_pos c8] at em5
          refine z_iconst (pc := 50) (x := 0) dX12_counted_50 zc_iconst_0 ?_
          obtain ⟨o9, H9, e9⟩ := zmapR em5
          subst e9
          have H9 := H9.trans (zsumR H)
          cases H9
          exact z_zreturn rfl dX12_counted_51 (by decide)
        · rw [if_neg c8] at em5
          refine z_iload (pc := 38) 4 dX12_counted_38 rfl ?_
          refine z_iconst (pc := 40) (x := 0) dX12_counted_40 zc_iconst_0 ?_
          refine z_ldcw (pc := 41) (x := 99999) dX12_counted_41 ki_X12_482 ?_
          refine z_callS (pc := 44) (mc := 0) (ms := 0) (d' := 0) (mc' := 0) (ms' := 0) (rest := []) [.int v4, .int 0, .int 99999] dX12_counted_44 md_X12_within ml_X12_352 sm_X12_within rfl rfl (Nat.le_of_ble_eq_true rfl) (by omega) (k_X12_within v4 0 99999 h1 _ rfl) ?_
          refine z_if_ne (pc := 47) 52 dX12_counted_47 (by decide) (fun c10 => ?_) (fun c10 => ?_)
          · rw [if_neg c10] at em5
            cases em5
            exact z_sub [0, 1, 2, 3, 4] rfl (Jm5 _ rfl)
          · rw [if_pos c10] at em5
            refine z_iconst (pc := 50) (x := 0) dX12_counted_50 zc_iconst_0 ?_
            obtain ⟨o11, H9, e9⟩ := zmapR em5
            subst e9
            have H9 := H9.trans (zsumR H)
            cases H9
            exact z_zreturn rfl dX12_counted_51 (by decide)

def f_X12_fell (N : Nat) (v0 : Nat) (v1 : Int32) (v2 : Int32) (v3 : Int32) (h : zH) : Option (Int32 × zH) := (pF h v0 12 0 (.int 0)).bind fun h1 => if (p_X12_within v1 0 7) = 0 then (some ((-1), h1)) else ((f_X12_isYear N v2 h1).bind fun q3 => if q3 = 0 then (some ((-1), h1)) else ((f_X12_isYear N v3 h1).bind fun q5 => if q5 = 0 then (some ((-1), h1)) else (if v2 < v3 then (zlet ((31 * v1) + v2 : Int32) fun x8 => zlet ((31 * v1) + v3 : Int32) fun x9 => (gR h1 v0 12 70).bind fun r10 => (aI h1 r10 x8).bind fun x11 => if x11 < 0 then (some ((-1), h1)) else ((gR h1 v0 12 70).bind fun r13 => (aI h1 r13 x9).bind fun x14 => if 0 ≤ x14 then ((gR h1 v0 12 70).bind fun r16 => (aI h1 r16 x9).bind fun x17 => (gR h1 v0 12 70).bind fun r18 => (aI h1 r18 x8).bind fun x19 => if x17 < x19 then ((gR h1 v0 12 70).bind fun r21 => (aI h1 r21 x9).bind fun x22 => (gR h1 v0 12 71).bind fun r23 => (aI h1 r23 x8).bind fun x24 => (gR h1 v0 12 70).bind fun r25 => (aI h1 r25 x8).bind fun x26 => (gR h1 v0 12 71).bind fun r27 => (aI h1 r27 x9).bind fun x28 => if (lg_cmp ((x22.toInt64) * (x24.toInt64)) ((x26.toInt64) * (x28.toInt64))) < 0 then (some (2, h1)) else (some (1, h1))) else (some (0, h1))) else (some ((-1), h1)))) else (some ((-1), h1)))))
set_option maxRecDepth 100000 in
set_option maxHeartbeats 4000000 in
theorem k_X12_fell {N : Nat} {v0 : Nat} {v1 : Int32} {v2 : Int32} {v3 : Int32} {h : zH} {r : Int32 × zH} (H : f_X12_fell N v0 v1 v2 v3 h = some r) : zOk 2 0 0 yX12_fell cX12_fell 6 (some .int) [.ref v0, .int v1, .int v2, .int v3] h (some (.int r.1)) r.2 := by
  refine zOk.of (by decide) (Nat.le_of_ble_eq_true rfl) ?_
  unfold f_X12_fell at H
  refine z_aload_n (pc := 0) 0 dX12_fell_0 rfl rfl ?_
  refine z_iconst (pc := 1) (x := 0) dX12_fell_1 zc_iconst_0 ?_
  obtain ⟨h1, eh1, H⟩ := zbind H
  refine z_put (pc := 2) dX12_fell_2 fd_X12_1 rfl rfl eh1 ?_
  refine z_iload_n (pc := 5) 1 dX12_fell_5 rfl rfl ?_
  refine z_iconst (pc := 6) (x := 0) dX12_fell_6 zc_iconst_0 ?_
  refine z_bipush (pc := 7) (x := 7) dX12_fell_7 zc_bipush_7 ?_
  refine z_callS (pc := 9) (mc := 0) (ms := 0) (d' := 0) (mc' := 0) (ms' := 0) (rest := []) [.int v1, .int 0, .int 7] dX12_fell_9 md_X12_within ml_X12_352 sm_X12_within rfl rfl (Nat.le_of_ble_eq_true rfl) (by omega) (k_X12_within v1 0 7 h1 _ rfl) ?_
  refine z_if_eq (pc := 12) 34 dX12_fell_12 (by decide) (fun c2 => ?_) (fun c2 => ?_)
  · rw [if_pos c2] at H
    refine z_iconst (pc := 34) (x := (-1)) dX12_fell_34 zc_iconst_m1 ?_
    cases H
    exact z_ireturn rfl dX12_fell_35
  · rw [if_neg c2] at H
    refine z_iload_n (pc := 15) 2 dX12_fell_15 rfl rfl ?_
    obtain ⟨q3, eq3, H⟩ := zbind H
    refine z_callS (pc := 16) (mc := 0) (ms := 0) (d' := 1) (mc' := 0) (ms' := 0) (rest := []) [.int v2] dX12_fell_16 md_X12_isYear ml_X12_356 sm_X12_isYear rfl rfl (Nat.le_of_ble_eq_true rfl) (by omega) (k_X12_isYear eq3) ?_
    refine z_if_eq (pc := 19) 34 dX12_fell_19 (by decide) (fun c4 => ?_) (fun c4 => ?_)
    · rw [if_pos c4] at H
      refine z_iconst (pc := 34) (x := (-1)) dX12_fell_34 zc_iconst_m1 ?_
      cases H
      exact z_ireturn rfl dX12_fell_35
    · rw [if_neg c4] at H
      refine z_iload_n (pc := 22) 3 dX12_fell_22 rfl rfl ?_
      obtain ⟨q5, eq5, H⟩ := zbind H
      refine z_callS (pc := 23) (mc := 0) (ms := 0) (d' := 1) (mc' := 0) (ms' := 0) (rest := []) [.int v3] dX12_fell_23 md_X12_isYear ml_X12_356 sm_X12_isYear rfl rfl (Nat.le_of_ble_eq_true rfl) (by omega) (k_X12_isYear eq5) ?_
      refine z_if_eq (pc := 26) 34 dX12_fell_26 (by decide) (fun c6 => ?_) (fun c6 => ?_)
      · rw [if_pos c6] at H
        refine z_iconst (pc := 34) (x := (-1)) dX12_fell_34 zc_iconst_m1 ?_
        cases H
        exact z_ireturn rfl dX12_fell_35
      · rw [if_neg c6] at H
        refine z_iload_n (pc := 29) 2 dX12_fell_29 rfl rfl ?_
        refine z_iload_n (pc := 30) 3 dX12_fell_30 rfl rfl ?_
        refine z_icmp_lt (pc := 31) 36 dX12_fell_31 (by decide) (fun c7 => ?_) (fun c7 => ?_)
        · rw [if_pos c7] at H
          refine z_bipush (pc := 36) (x := 31) dX12_fell_36 zc_bipush_31 ?_
          refine z_iload_n (pc := 38) 1 dX12_fell_38 rfl rfl ?_
          refine z_imul (pc := 39) dX12_fell_39 ?_
          refine z_iload_n (pc := 40) 2 dX12_fell_40 rfl rfl ?_
          refine z_iadd (pc := 41) dX12_fell_41 ?_
          obtain ⟨x8, ex8, H⟩ := zletE H
          refine z_nmI ex8 ?_
          refine z_istore (pc := 42) (lv' := [(4, .int x8), (0, .ref v0), (1, .int v1), (2, .int v2), (3, .int v3)]) dX12_fell_42 (by decide) rfl ?_
          refine z_bipush (pc := 44) (x := 31) dX12_fell_44 zc_bipush_31 ?_
          refine z_iload_n (pc := 46) 2 dX12_fell_46 rfl rfl ?_
          refine z_imul (pc := 47) dX12_fell_47 ?_
          refine z_iload_n (pc := 48) 4 dX12_fell_48 rfl rfl ?_
          refine z_iadd (pc := 49) dX12_fell_49 ?_
          obtain ⟨x9, ex9, H⟩ := zletE H
          refine z_nmI ex9 ?_
          refine z_istore (pc := 50) (lv' := [(5, .int x9), (4, .int x8), (0, .ref v0), (1, .int v1), (2, .int v2), (3, .int v3)]) dX12_fell_50 (by decide) rfl ?_
          refine z_aload_n (pc := 52) 2 dX12_fell_52 rfl rfl ?_
          obtain ⟨r10, er10, H⟩ := zbind H
          refine z_getR (pc := 53) dX12_fell_53 fd_X12_206 er10 ?_
          refine z_iload (pc := 56) 1 dX12_fell_56 rfl ?_
          obtain ⟨x11, ex11, H⟩ := zbind H
          refine z_iaload (pc := 58) dX12_fell_58 ex11 ?_
          refine z_if_lt (pc := 59) 72 dX12_fell_59 (by decide) (fun c12 => ?_) (fun c12 => ?_)
          · rw [if_pos c12] at H
            refine z_iconst (pc := 72) (x := (-1)) dX12_fell_72 zc_iconst_m1 ?_
            cases H
            exact z_ireturn rfl dX12_fell_73
          · rw [if_neg c12] at H
            refine z_aload_n (pc := 62) 2 dX12_fell_62 rfl rfl ?_
            obtain ⟨r13, er13, H⟩ := zbind H
            refine z_getR (pc := 63) dX12_fell_63 fd_X12_206 er13 ?_
            refine z_iload (pc := 66) 0 dX12_fell_66 rfl ?_
            obtain ⟨x14, ex14, H⟩ := zbind H
            refine z_iaload (pc := 68) dX12_fell_68 ex14 ?_
            refine z_if_ge (pc := 69) 74 dX12_fell_69 (by decide) (fun c15 => ?_) (fun c15 => ?_)
            · rw [if_pos c15] at H
              refine z_aload_n (pc := 74) 2 dX12_fell_74 rfl rfl ?_
              obtain ⟨r16, er16, H⟩ := zbind H
              refine z_getR (pc := 75) dX12_fell_75 fd_X12_206 er16 ?_
              refine z_iload (pc := 78) 0 dX12_fell_78 rfl ?_
              obtain ⟨x17, ex17, H⟩ := zbind H
              refine z_iaload (pc := 80) dX12_fell_80 ex17 ?_
              refine z_aload_n (pc := 81) 2 dX12_fell_81 rfl rfl ?_
              obtain ⟨r18, er18, H⟩ := zbind H
              refine z_getR (pc := 82) dX12_fell_82 fd_X12_206 er18 ?_
              refine z_iload (pc := 85) 1 dX12_fell_85 rfl ?_
              obtain ⟨x19, ex19, H⟩ := zbind H
              refine z_iaload (pc := 87) dX12_fell_87 ex19 ?_
              refine z_icmp_lt (pc := 88) 95 dX12_fell_88 (by decide) (fun c20 => ?_) (fun c20 => ?_)
              · rw [if_pos c20] at H
                refine z_aload_n (pc := 95) 2 dX12_fell_95 rfl rfl ?_
                obtain ⟨r21, er21, H⟩ := zbind H
                refine z_getR (pc := 96) dX12_fell_96 fd_X12_206 er21 ?_
                refine z_iload (pc := 99) 0 dX12_fell_99 rfl ?_
                obtain ⟨x22, ex22, H⟩ := zbind H
                refine z_iaload (pc := 101) dX12_fell_101 ex22 ?_
                refine z_i2l (pc := 102) dX12_fell_102 ?_
                refine z_aload_n (pc := 103) 2 dX12_fell_103 rfl rfl ?_
                obtain ⟨r23, er23, H⟩ := zbind H
                refine z_getR (pc := 104) dX12_fell_104 fd_X12_209 er23 ?_
                refine z_iload (pc := 107) 1 dX12_fell_107 rfl ?_
                obtain ⟨x24, ex24, H⟩ := zbind H
                refine z_iaload (pc := 109) dX12_fell_109 ex24 ?_
                refine z_i2l (pc := 110) dX12_fell_110 ?_
                refine z_lmul (pc := 111) dX12_fell_111 ?_
                refine z_aload_n (pc := 112) 2 dX12_fell_112 rfl rfl ?_
                obtain ⟨r25, er25, H⟩ := zbind H
                refine z_getR (pc := 113) dX12_fell_113 fd_X12_206 er25 ?_
                refine z_iload (pc := 116) 1 dX12_fell_116 rfl ?_
                obtain ⟨x26, ex26, H⟩ := zbind H
                refine z_iaload (pc := 118) dX12_fell_118 ex26 ?_
                refine z_i2l (pc := 119) dX12_fell_119 ?_
                refine z_aload_n (pc := 120) 2 dX12_fell_120 rfl rfl ?_
                obtain ⟨r27, er27, H⟩ := zbind H
                refine z_getR (pc := 121) dX12_fell_121 fd_X12_209 er27 ?_
                refine z_iload (pc := 124) 0 dX12_fell_124 rfl ?_
                obtain ⟨x28, ex28, H⟩ := zbind H
                refine z_iaload (pc := 126) dX12_fell_126 ex28 ?_
                refine z_i2l (pc := 127) dX12_fell_127 ?_
                refine z_lmul (pc := 128) dX12_fell_128 ?_
                refine z_lcmp (pc := 129) dX12_fell_129 ?_
                refine z_if_lt (pc := 130) 137 dX12_fell_130 (by decide) (fun c29 => ?_) (fun c29 => ?_)
                · rw [if_pos c29] at H
                  refine z_iconst (pc := 137) (x := 2) dX12_fell_137 zc_iconst_2 ?_
                  cases H
                  exact z_ireturn rfl dX12_fell_138
                · rw [if_neg c29] at H
                  refine z_iconst (pc := 133) (x := 1) dX12_fell_133 zc_iconst_1 ?_
                  refine z_goto (pc := 134) 138 dX12_fell_134 (by decide) ?_
                  cases H
                  exact z_ireturn rfl dX12_fell_138
              · rw [if_neg c20] at H
                refine z_iconst (pc := 91) (x := 0) dX12_fell_91 zc_iconst_0 ?_
                refine z_goto (pc := 92) 138 dX12_fell_92 (by decide) ?_
                cases H
                exact z_ireturn rfl dX12_fell_138
            · rw [if_neg c15] at H
              refine z_iconst (pc := 72) (x := (-1)) dX12_fell_72 zc_iconst_m1 ?_
              cases H
              exact z_ireturn rfl dX12_fell_73
        · rw [if_neg c7] at H
          refine z_iconst (pc := 34) (x := (-1)) dX12_fell_34 zc_iconst_m1 ?_
          cases H
          exact z_ireturn rfl dX12_fell_35

def f_X12_isPlace (N : Nat) (v0 : Int32) (h : zH) : Option (Int32) := rZ0 (p_X12_within v0 0 7)
set_option maxRecDepth 100000 in
set_option maxHeartbeats 4000000 in
theorem k_X12_isPlace {N : Nat} {v0 : Int32} {h : zH} {r : Int32} (H : f_X12_isPlace N v0 h = some r) : zOk 1 0 0 yX12_isPlace cX12_isPlace 1 (some .boolean) [.int v0] h (some (.int r)) h := by
  refine zOk.of (by decide) (Nat.le_of_ble_eq_true rfl) ?_
  unfold f_X12_isPlace at H
  refine z_iload_n (pc := 0) 0 dX12_isPlace_0 rfl rfl ?_
  refine z_iconst (pc := 1) (x := 0) dX12_isPlace_1 zc_iconst_0 ?_
  refine z_bipush (pc := 2) (x := 7) dX12_isPlace_2 zc_bipush_7 ?_
  refine z_callS (pc := 4) (mc := 0) (ms := 0) (d' := 0) (mc' := 0) (ms' := 0) (rest := []) [.int v0, .int 0, .int 7] dX12_isPlace_4 md_X12_within ml_X12_352 sm_X12_within rfl rfl (Nat.le_of_ble_eq_true rfl) (by omega) (k_X12_within v0 0 7 h _ rfl) ?_
  obtain ⟨z9, H⟩ := rZ0E H
  cases H
  exact z_zreturn rfl dX12_isPlace_7 z9

