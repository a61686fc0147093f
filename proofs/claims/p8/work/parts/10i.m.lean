theorem ml_X11_223 : Cond.methodLink RX11 223 yX11_up ∈ zB := zmem 1035 (by decide +kernel) rfl
theorem ml_X11_226 : Cond.methodLink RX11 226 Lib.Math.max.name ∈ zB := zmem 1036 (by decide +kernel) rfl
theorem md_X2_tell : zMd yX2_tell cX2_tell 4 3 none := ⟨zmw (zmt_4 _ (List.mem_of_getElem? (i := 209) rfl)) rfl, zmem 122 (by decide +kernel) rfl, by decide, by decide, by decide +kernel, by decide⟩
theorem ml_X11_231 : Cond.methodLink RX11 231 yX2_tell ∈ zB := zmem 1037 (by decide +kernel) rfl
theorem im_X2_tell : Cond.instanceMethod yX2_tell ∈ zB := zmem 1038 (by decide +kernel) rfl
theorem se_X2_tell : Cond.selects yX2_tell.cls yX2_tell yX2_tell ∈ zB := zmem 1039 (by decide +kernel) rfl
def f_X11_stream (N : Nat) (v0 : Nat) (v1 : Int32) (v2 : Int32) (v3 : Int32) (v4 : Int32) (v5 : Int32) (h : zH) : Option (Int32 × zH) := (if v2 = 0 then (some 1) else (some 0) : Option (Int32)).bind fun m1 => (if (p_X11_within v2 1 99) = 0 then (some 0) else (if (p_X11_within v3 1 60) = 0 then (some 0) else (some 1)) : Option (Int32)).bind fun m3 => if (p_X11_within v1 0 3) = 0 then (some (0, h)) else ((if m1 = 0 then (if m3 = 0 then ((some (0, h)).map .inr) else (some (.inl ()))) else (some (.inl ())) : Option ((Unit) ⊕ (Int32 × zH))).bind fun m7 => zsum m7 fun s8 => if (p_X11_within v4 1 60) = 0 then (some (0, h)) else (if (p_X11_within v5 0 999) = 0 then (some (0, h)) else ((gR h v0 11 6).bind fun r14 => (if m1 = 0 then ((f_X11_up N (v2 * 10) v3 h).bind fun q17 => some (if v4 < q17 then q17 else v4, h)) else (some (v4, h)) : Option (Int32 × zH)).bind fun m15 => zif (zob m15.2 r14 2) <| (f_X2_tell N r14 v1 m15.1 v5 m15.2).bind fun h19 => some (1, h19))))
set_option maxRecDepth 100000 in
set_option maxHeartbeats 4000000 in
theorem k_X11_stream {N : Nat} {v0 : Nat} {v1 : Int32} {v2 : Int32} {v3 : Int32} {v4 : Int32} {v5 : Int32} {h : zH} {r : Int32 × zH} (H : f_X11_stream N v0 v1 v2 v3 v4 v5 h = some r) : zOk 2 0 0 yX11_stream cX11_stream 8 (some .boolean) [.ref v0, .int v1, .int v2, .int v3, .int v4, .int v5] h (some (.int r.1)) r.2 := by
  refine zOk.of (by decide) (Nat.le_of_ble_eq_true rfl) ?_
  unfold f_X11_stream at H
  refine z_iload_n (pc := 0) 2 dX11_stream_0 rfl rfl ?_
  obtain ⟨m1, em1, H⟩ := zbind H
  have Jm1 : zW yX11_stream cX11_stream 8 (some .boolean) 2 0 0 9 [(0, .ref v0), (1, .int v1), (2, .int v2), (3, .int v3), (4, .int v4), (5, .int v5)] [.int m1] h (some (.int r.1)) r.2 := by
    refine z_istore (pc := 9) (lv' := [(6, .int m1), (0, .ref v0), (1, .int v1), (2, .int v2), (3, .int v3), (4, .int v4), (5, .int v5)]) dX11_stream_9 (by decide) rfl ?_
    refine z_iload_n (pc := 11) 3 dX11_stream_11 rfl rfl ?_
    refine z_iconst (pc := 12) (x := 1) dX11_stream_12 zc_iconst_1 ?_
    refine z_bipush (pc := 13) (x := 99) dX11_stream_13 zc_bipush_99 ?_
    refine z_callS (pc := 15) (mc := 0) (ms := 0) (d' := 0) (mc' := 0) (ms' := 0) (rest := []) [.int v2, .int 1, .int 99] dX11_stream_15 md_X11_within ml_X11_82 sm_X11_within rfl rfl (Nat.le_of_ble_eq_true rfl) (by omega) (k_X11_within v2 1 99 h _ rfl) ?_
    obtain ⟨m3, em3, H⟩ := zbind H
    have Jm3 : zW yX11_stream cX11_stream 8 (some .boolean) 2 0 0 36 [(0, .ref v0), (1, .int v1), (2, .int v2), (3, .int v3), (4, .int v4), (5, .int v5), (6, .int m1)] [.int m3] h (some (.int r.1)) r.2 := by
      refine z_istore (pc := 36) (lv' := [(7, .int m3), (0, .ref v0), (1, .int v1), (2, .int v2), (3, .int v3), (4, .int v4), (5, .int v5), (6, .int m1)]) dX11_stream_36 (by decide) rfl ?_
      refine z_iload_n (pc := 38) 2 dX11_stream_38 rfl rfl ?_
      refine z_iconst (pc := 39) (x := 0) dX11_stream_39 zc_iconst_0 ?_
      refine z_iconst (pc := 40) (x := 3) dX11_stream_40 zc_iconst_3 ?_
      refine z_callS (pc := 41) (mc := 0) (ms := 0) (d' := 0) (mc' := 0) (ms' := 0) (rest := []) [.int v1, .int 0, .int 3] dX11_stream_41 md_X11_within ml_X11_82 sm_X11_within rfl rfl (Nat.le_of_ble_eq_true rfl) (by omega) (k_X11_within v1 0 3 h _ rfl) ?_
      refine z_if_eq (pc := 44) 80 dX11_stream_44 (by decide) (fun c6 => ?_) (fun c6 => ?_)
      · rw [if_pos c6] at H
        refine z_iconst (pc := 80) (x := 0) dX11_stream_80 zc_iconst_0 ?_
        cases H
        exact z_zreturn rfl dX11_stream_81 (by decide)
      · rw [if_neg c6] at H
        refine z_iload (pc := 47) 7 dX11_stream_47 rfl ?_
        obtain ⟨m7, em7, H⟩ := zbind H
        have Jm7 : ∀ s8, m7 = .inl s8 → zW yX11_stream cX11_stream 8 (some .boolean) 2 0 0 57 [(0, .ref v0), (1, .int v1), (2, .int v2), (3, .int v3), (4, .int v4), (5, .int v5), (6, .int m1)] [] h (some (.int r.1)) r.2 := by
          intro s8 e9
          subst e9
          have H := zsumL H
          refine z_iload (pc := 57) 4 dX11_stream_57 rfl ?_
          refine z_iconst (pc := 59) (x := 1) dX11_stream_59 zc_iconst_1 ?_
          refine z_bipush (pc := 60) (x := 60) dX11_stream_60 zc_bipush_60 ?_
          refine z_callS (pc := 62) (mc := 0) (ms := 0) (d' := 0) (mc' := 0) (ms' := 0) (rest := []) [.int v4, .int 1, .int 60] dX11_stream_62 md_X11_within ml_X11_82 sm_X11_within rfl rfl (Nat.le_of_ble_eq_true rfl) (by omega) (k_X11_within v4 1 60 h _ rfl) ?_
          refine z_if_eq (pc := 65) 80 dX11_stream_65 (by decide) (fun c12 => ?_) (fun c12 => ?_)
          · rw [if_pos c12] at H
            refine z_iconst (pc := 80) (x := 0) dX11_stream_80 zc_iconst_0 ?_
            cases H
            exact z_zreturn rfl dX11_stream_81 (by decide)
          · rw [if_neg c12] at H
            refine z_iload (pc := 68) 5 dX11_stream_68 rfl ?_
            refine z_iconst (pc := 70) (x := 0) dX11_stream_70 zc_iconst_0 ?_
            refine z_sipush (pc := 71) (x := 999) dX11_stream_71 zc_sipush_999 ?_
            refine z_callS (pc := 74) (mc := 0) (ms := 0) (d' := 0) (mc' := 0) (ms' := 0) (rest := []) [.int v5, .int 0, .int 999] dX11_stream_74 md_X11_within ml_X11_82 sm_X11_within rfl rfl (Nat.le_of_ble_eq_true rfl) (by omega) (k_X11_within v5 0 999 h _ rfl) ?_
            refine z_if_ne (pc := 77) 82 dX11_stream_77 (by decide) (fun c13 => ?_) (fun c13 => ?_)
            · rw [if_neg c13] at H
              refine z_aload_n (pc := 82) 0 dX11_stream_82 rfl rfl ?_
              obtain ⟨r14, er14, H⟩ := zbind H
              refine z_getR (pc := 83) dX11_stream_83 fd_X11_53 er14 ?_
              refine z_iload_n (pc := 86) 1 dX11_stream_86 rfl rfl ?_
              refine z_iload (pc := 87) 6 dX11_stream_87 rfl ?_
              obtain ⟨m15, em15, H⟩ := zbind H
              have Jm15 : zW yX11_stream cX11_stream 8 (some .boolean) 2 0 0 110 [(5, .int v5)] [.int m15.1, .int v1, .ref r14] m15.2 (some (.int r.1)) r.2 := by
                refine z_iload (pc := 110) 0 dX11_stream_110 rfl ?_
                obtain ⟨z18, H⟩ := zifE H
                obtain ⟨h19, eh19, H⟩ := zbind H
                refine z_callV (pc := 112) (mc := 0) (ms := 0) (d' := 1) (mc' := 0) (ms' := 0) (rest := []) [.int v1, .int m15.1, .int v5] dX11_stream_112 md_X2_tell ml_X11_231 im_X2_tell se_X2_tell rfl z18 rfl rfl (Nat.le_of_ble_eq_true rfl) (by omega) (k_X2_tell eh19) ?_
                refine z_iconst (pc := 115) (x := 1) dX11_stream_115 zc_iconst_1 ?_
                cases H
                exact z_zreturn rfl dX11_stream_116 (by decide)
              refine z_if_eq (pc := 89) 97 dX11_stream_89 (by decide) (fun c16 => ?_) (fun c16 => ?_)
              · rw [if_pos c16] at em15
                refine z_iload (pc := 97) 4 dX11_stream_97 rfl ?_
                refine z_iload_n (pc := 99) 2 dX11_stream_99 rfl rfl ?_
                refine z_bipush (pc := 100) (x := 10) dX11_stream_100 zc_bipush_10 ?_
                refine z_imul (pc := 102) dX11_stream_102 ?_
                refine z_iload_n (pc := 103) 3 dX11_stream_103 rfl rfl ?_
                obtain ⟨q17, eq17, em15⟩ := zbind em15
                refine z_callS (pc := 104) (mc := 0) (ms := 0) (d' := 0) (mc' := 0) (ms' := 0) (rest := [.int v4, .int v1, .ref r14]) [.int (v2 * 10), .int v3] dX11_stream_104 md_X11_up ml_X11_223 sm_X11_up rfl rfl (Nat.le_of_ble_eq_true rfl) (by omega) (k_X11_up eq17) ?_
                refine z_mmax (pc := 107) dX11_stream_107 ml_X11_226 mx_1 mx_2 mx_3 (by omega) (Nat.le_of_ble_eq_true rfl) ?_
                cases em15
                exact z_sub [5] rfl Jm15
              · rw [if_neg c16] at em15
                refine z_iload (pc := 92) 4 dX11_stream_92 rfl ?_
                refine z_goto (pc := 94) 110 dX11_stream_94 (by decide) ?_
                cases em15
                exact z_sub [5] rfl Jm15
            · rw [if_pos c13] at H
              refine z_iconst (pc := 80) (x := 0) dX11_stream_80 zc_iconst_0 ?_
              cases H
              exact z_zreturn rfl dX11_stream_81 (by decide)
        refine z_if_ne (pc := 49) 57 dX11_stream_49 (by decide) (fun c9 => ?_) (fun c9 => ?_)
        · rw [if_neg c9] at em7
          cases em7
          exact z_sub [1, 2, 3, 4, 5, 6, 7] rfl (Jm7 _ rfl)
        · rw [if_pos c9] at em7
          refine z_iload (pc := 52) 0 dX11_stream_52 rfl ?_
          refine z_if_eq (pc := 54) 80 dX11_stream_54 (by decide) (fun c10 => ?_) (fun c10 => ?_)
          · rw [if_pos c10] at em7
            refine z_iconst (pc := 80) (x := 0) dX11_stream_80 zc_iconst_0 ?_
            obtain ⟨o11, H9, e9⟩ := zmapR em7
            subst e9
            have H9 := H9.trans (zsumR H)
            cases H9
            exact z_zreturn rfl dX11_stream_81 (by decide)
          · rw [if_neg c10] at em7
            cases em7
            exact z_sub [1, 2, 3, 4, 5, 6, 7] rfl (Jm7 _ rfl)
    refine z_if_eq (pc := 18) 35 dX11_stream_18 (by decide) (fun c4 => ?_) (fun c4 => ?_)
    · rw [if_pos c4] at em3
      refine z_iconst (pc := 35) (x := 0) dX11_stream_35 zc_iconst_0 ?_
      cases em3
      exact z_sub [1, 2, 3, 4, 5, 6, 0] rfl Jm3
    · rw [if_neg c4] at em3
      refine z_iload_n (pc := 21) 4 dX11_stream_21 rfl rfl ?_
      refine z_iconst (pc := 22) (x := 1) dX11_stream_22 zc_iconst_1 ?_
      refine z_bipush (pc := 23) (x := 60) dX11_stream_23 zc_bipush_60 ?_
      refine z_callS (pc := 25) (mc := 0) (ms := 0) (d' := 0) (mc' := 0) (ms' := 0) (rest := []) [.int v3, .int 1, .int 60] dX11_stream_25 md_X11_within ml_X11_82 sm_X11_within rfl rfl (Nat.le_of_ble_eq_true rfl) (by omega) (k_X11_within v3 1 60 h _ rfl) ?_
      refine z_if_eq (pc := 28) 35 dX11_stream_28 (by decide) (fun c5 => ?_) (fun c5 => ?_)
      · rw [if_pos c5] at em3
        refine z_iconst (pc := 35) (x := 0) dX11_stream_35 zc_iconst_0 ?_
        cases em3
        exact z_sub [1, 2, 3, 4, 5, 6, 0] rfl Jm3
      · rw [if_neg c5] at em3
        refine z_iconst (pc := 31) (x := 1) dX11_stream_31 zc_iconst_1 ?_
        refine z_goto (pc := 32) 36 dX11_stream_32 (by decide) ?_
        cases em3
        exact z_sub [1, 2, 3, 4, 5, 6, 0] rfl Jm3
  refine z_if_ne (pc := 1) 8 dX11_stream_1 (by decide) (fun c2 => ?_) (fun c2 => ?_)
  · rw [if_neg c2] at em1
    refine z_iconst (pc := 8) (x := 0) dX11_stream_8 zc_iconst_0 ?_
    cases em1
    exact z_sub [0, 1, 2, 3, 4, 5] rfl Jm1
  · rw [if_pos c2] at em1
    refine z_iconst (pc := 4) (x := 1) dX11_stream_4 zc_iconst_1 ?_
    refine z_goto (pc := 5) 9 dX11_stream_5 (by decide) ?_
    cases em1
    exact z_sub [0, 1, 2, 3, 4, 5] rfl Jm1

theorem md_X2_pair : zMd yX2_pair cX2_pair 4 3 none := ⟨zmw (zmt_4 _ (List.mem_of_getElem? (i := 220) rfl)) rfl, zmem 122 (by decide +kernel) rfl, by decide, by decide, by decide +kernel, by decide⟩
theorem ml_X11_235 : Cond.methodLink RX11 235 yX2_pair ∈ zB := zmem 1048 (by decide +kernel) rfl
theorem im_X2_pair : Cond.instanceMethod yX2_pair ∈ zB := zmem 1049 (by decide +kernel) rfl
theorem se_X2_pair : Cond.selects yX2_pair.cls yX2_pair yX2_pair ∈ zB := zmem 1050 (by decide +kernel) rfl
def f_X11_together (N : Nat) (v0 : Nat) (v1 : Int32) (v2 : Int32) (v3 : Int32) (h : zH) : Option (Int32 × zH) := if (p_X11_within v1 0 3) = 0 then (some (0, h)) else (if (p_X11_within v2 0 3) = 0 then (some (0, h)) else (if v1 = v2 then (some (0, h)) else ((gR h v0 11 6).bind fun r4 => zif (zob h r4 2) <| (f_X2_pair N r4 v1 v2 v3 h).bind fun h6 => (gR h6 v0 11 6).bind fun r7 => zif (zob h6 r7 2) <| (f_X2_pair N r7 v2 v1 v3 h6).bind fun h9 => some (1, h9))))
set_option maxRecDepth 100000 in
set_option maxHeartbeats 4000000 in
theorem k_X11_together {N : Nat} {v0 : Nat} {v1 : Int32} {v2 : Int32} {v3 : Int32} {h : zH} {r : Int32 × zH} (H : f_X11_together N v0 v1 v2 v3 h = some r) : zOk 2 0 0 yX11_together cX11_together 4 (some .boolean) [.ref v0, .int v1, .int v2, .int v3] h (some (.int r.1)) r.2 := by
  refine zOk.of (by decide) (Nat.le_of_ble_eq_true rfl) ?_
  unfold f_X11_together at H
  refine z_iload_n (pc := 0) 1 dX11_together_0 rfl rfl ?_
  refine z_iconst (pc := 1) (x := 0) dX11_together_1 zc_iconst_0 ?_
  refine z_iconst (pc := 2) (x := 3) dX11_together_2 zc_iconst_3 ?_
  refine z_callS (pc := 3) (mc := 0) (ms := 0) (d' := 0) (mc' := 0) (ms' := 0) (rest := []) [.int v1, .int 0, .int 3] dX11_together_3 md_X11_within ml_X11_82 sm_X11_within rfl rfl (Nat.le_of_ble_eq_true rfl) (by omega) (k_X11_within v1 0 3 h _ rfl) ?_
  refine z_if_eq (pc := 6) 23 dX11_together_6 (by decide) (fun c1 => ?_) (fun c1 => ?_)
  · rw [if_pos c1] at H
    refine z_iconst (pc := 23) (x := 0) dX11_together_23 zc_iconst_0 ?_
    cases H
    exact z_zreturn rfl dX11_together_24 (by decide)
  · rw [if_neg c1] at H
    refine z_iload_n (pc := 9) 2 dX11_together_9 rfl rfl ?_
    refine z_iconst (pc := 10) (x := 0) dX11_together_10 zc_iconst_0 ?_
    refine z_iconst (pc := 11) (x := 3) dX11_together_11 zc_iconst_3 ?_
    refine z_callS (pc := 12) (mc := 0) (ms := 0) (d' := 0) (mc' := 0) (ms' := 0) (rest := []) [.int v2, .int 0, .int 3] dX11_together_12 md_X11_within ml_X11_82 sm_X11_within rfl rfl (Nat.le_of_ble_eq_true rfl) (by omega) (k_X11_within v2 0 3 h _ rfl) ?_
    refine z_if_eq (pc := 15) 23 dX11_together_15 (by decide) (fun c2 => ?_) (fun c2 => ?_)
    · rw [if_pos c2] at H
      refine z_iconst (pc := 23) (x := 0) dX11_together_23 zc_iconst_0 ?_
      cases H
      exact z_zreturn rfl dX11_together_24 (by decide)
    · rw [if_neg c2] at H
      refine z_iload_n (pc := 18) 1 dX11_together_18 rfl rfl ?_
      refine z_iload_n (pc := 19) 2 dX11_together_19 rfl rfl ?_
      refine z_icmp_ne (pc := 20) 25 dX11_together_20 (by decide) (fun c3 => ?_) (fun c3 => ?_)
      · rw [if_neg c3] at H
        refine z_aload_n (pc := 25) 0 dX11_together_25 rfl rfl ?_
        obtain ⟨r4, er4, H⟩ := zbind H
        refine z_getR (pc := 26) dX11_together_26 fd_X11_53 er4 ?_
        refine z_iload_n (pc := 29) 1 dX11_together_29 rfl rfl ?_
        refine z_iload_n (pc := 30) 2 dX11_together_30 rfl rfl ?_
        refine z_iload_n (pc := 31) 3 dX11_together_31 rfl rfl ?_
        obtain ⟨z5, H⟩ := zifE H
        obtain ⟨h6, eh6, H⟩ := zbind H
        refine z_callV (pc := 32) (mc := 0) (ms := 0) (d' := 1) (mc' := 0) (ms' := 0) (rest := []) [.int v1, .int v2, .int v3] dX11_together_32 md_X2_pair ml_X11_235 im_X2_pair se_X2_pair rfl z5 rfl rfl (Nat.le_of_ble_eq_true rfl) (by omega) (k_X2_pair eh6) ?_
        refine z_aload_n (pc := 35) 0 dX11_together_35 rfl rfl ?_
        obtain ⟨r7, er7, H⟩ := zbind H
        refine z_getR (pc := 36) dX11_together_36 fd_X11_53 er7 ?_
        refine z_iload_n (pc := 39) 2 dX11_together_39 rfl rfl ?_
        refine z_iload_n (pc := 40) 1 dX11_together_40 rfl rfl ?_
        refine z_iload_n (pc := 41) 3 dX11_together_41 rfl rfl ?_
        obtain ⟨z8, H⟩ := zifE H
        obtain ⟨h9, eh9, H⟩ := zbind H
        refine z_callV (pc := 42) (mc := 0) (ms := 0) (d' := 1) (mc' := 0) (ms' := 0) (rest := []) [.int v2, .int v1, .int v3] dX11_together_42 md_X2_pair ml_X11_235 im_X2_pair se_X2_pair rfl z8 rfl rfl (Nat.le_of_ble_eq_true rfl) (by omega) (k_X2_pair eh9) ?_
        refine z_iconst (pc := 45) (x := 1) dX11_together_45 zc_iconst_1 ?_
        cases H
        exact z_zreturn rfl dX11_together_46 (by decide)
      · rw [if_pos c3] at H
        refine z_iconst (pc := 23) (x := 0) dX11_together_23 zc_iconst_0 ?_
        cases H
        exact z_zreturn rfl dX11_together_24 (by decide)

theorem md_X2_findBest : zMd yX2_findBest cX2_findBest 3 1 (some .boolean) := ⟨zmw (zmt_4 _ (List.mem_of_getElem? (i := 228) rfl)) rfl, zmem 122 (by decide +kernel) rfl, by decide, by decide, by decide +kernel, by decide⟩
theorem ml_X11_239 : Cond.methodLink RX11 239 yX2_findBest ∈ zB := zmem 1056 (by decide +kernel) rfl
theorem im_X2_findBest : Cond.instanceMethod yX2_findBest ∈ zB := zmem 1057 (by decide +kernel) rfl
theorem se_X2_findBest : Cond.selects yX2_findBest.cls yX2_findBest yX2_findBest ∈ zB := zmem 1058 (by decide +kernel) rfl
theorem ml_X11_249 : Cond.methodLink RX11 249 yX2_isTold ∈ zB := zmem 1092 (by decide +kernel) rfl
theorem md_X2_bestWaitingOf : zMd yX2_bestWaitingOf cX2_bestWaitingOf 3 2 (some .int) := ⟨zmw (zmt_5 _ (List.mem_of_getElem? (i := 29) rfl)) rfl, zmem 122 (by decide +kernel) rfl, by decide, by decide, by decide +kernel, by decide⟩
theorem ml_X11_256 : Cond.methodLink RX11 256 yX2_bestWaitingOf ∈ zB := zmem 1097 (by decide +kernel) rfl
theorem im_X2_bestWaitingOf : Cond.instanceMethod yX2_bestWaitingOf ∈ zB := zmem 1098 (by decide +kernel) rfl
theorem se_X2_bestWaitingOf : Cond.selects yX2_bestWaitingOf.cls yX2_bestWaitingOf yX2_bestWaitingOf ∈ zB := zmem 1099 (by decide +kernel) rfl
theorem md_X2_bestPhaseOf : zMd yX2_bestPhaseOf cX2_bestPhaseOf 2 1 (some .int) := ⟨zmw (zmt_5 _ (List.mem_of_getElem? (i := 25) rfl)) rfl, zmem 122 (by decide +kernel) rfl, by decide, by decide, by decide +kernel, by decide⟩
theorem ml_X11_252 : Cond.methodLink RX11 252 yX2_bestPhaseOf ∈ zB := zmem 1093 (by decide +kernel) rfl
theorem im_X2_bestPhaseOf : Cond.instanceMethod yX2_bestPhaseOf ∈ zB := zmem 1094 (by decide +kernel) rfl
theorem se_X2_bestPhaseOf : Cond.selects yX2_bestPhaseOf.cls yX2_bestPhaseOf yX2_bestPhaseOf ∈ zB := zmem 1095 (by decide +kernel) rfl
theorem fd_X11_246 : zFd RX11 246 2 7 (.int) false "WhoseStreet$Corner" := zFd.of cl_2 (by decide) (zmem 398 (by decide +kernel) rfl) rfl rfl rfl
theorem fd_X11_243 : zFd RX11 243 2 6 (.int) false "WhoseStreet$Corner" := zFd.of cl_2 (by decide) (zmem 396 (by decide +kernel) rfl) rfl rfl rfl
def f_X11_lights (N : Nat) (v0 : Nat) (v1 : Int32) (v2 : Int32) (h : zH) : Option (Int32 × zH) := if (p_X11_within v1 0 9) = 0 then (some ((-1), h)) else (if (p_X11_within v2 0 9) = 0 then (some ((-1), h)) else ((gR h v0 11 6).bind fun r3 => zif (zob h r3 2) <| (f_X2_findBest N r3 v1 h).bind fun q5 => if q5.1 = 0 then (some ((-1), q5.2)) else (if v2 = 4 then ((gR q5.2 v0 11 6).bind fun r24 => (gI q5.2 r24 2 6).bind fun x25 => some (x25, q5.2)) else (if v2 = 5 then ((gR q5.2 v0 11 6).bind fun r22 => (gI q5.2 r22 2 7).bind fun x23 => some (x23, q5.2)) else ((if 4 ≤ v2 then (some (v2 - 6)) else (some v2) : Option (Int32)).bind fun m9 => (gR q5.2 v0 11 6).bind fun r11 => zif (zob q5.2 r11 2) <| (f_X2_isTold N r11 m9 q5.2).bind fun q13 => if q13 = 0 then (some ((-1), q5.2)) else (if 4 ≤ v2 then ((gR q5.2 v0 11 6).bind fun r16 => zif (zob q5.2 r16 2) <| (f_X2_bestWaitingOf N r16 m9 v1 q5.2).bind fun q18 => some (q18.1, q18.2)) else ((gR q5.2 v0 11 6).bind fun r19 => zif (zob q5.2 r19 2) <| (f_X2_bestPhaseOf N r19 m9 q5.2).bind fun q21 => some (q21, q5.2))))))))
set_option maxRecDepth 100000 in
set_option maxHeartbeats 4000000 in
theorem k_X11_lights {N : Nat} {v0 : Nat} {v1 : Int32} {v2 : Int32} {h : zH} {r : Int32 × zH} (H : f_X11_lights N v0 v1 v2 h = some r) : zOk 5 0 0 yX11_lights cX11_lights 4 (some .int) [.ref v0, .int v1, .int v2] h (some (.int r.1)) r.2 := by
  refine zOk.of (by decide) (Nat.le_of_ble_eq_true rfl) ?_
  unfold f_X11_lights at H
  refine z_iload_n (pc := 0) 1 dX11_lights_0 rfl rfl ?_
  refine z_iconst (pc := 1) (x := 0) dX11_lights_1 zc_iconst_0 ?_
  refine z_bipush (pc := 2) (x := 9) dX11_lights_2 zc_bipush_9 ?_
  refine z_callS (pc := 4) (mc := 0) (ms := 0) (d' := 0) (mc' := 0) (ms' := 0) (rest := []) [.int v1, .int 0, .int 9] dX11_lights_4 md_X11_within ml_X11_82 sm_X11_within rfl rfl (Nat.le_of_ble_eq_true rfl) (by omega) (k_X11_within v1 0 9 h _ rfl) ?_
  refine z_if_eq (pc := 7) 31 dX11_lights_7 (by decide) (fun c1 => ?_) (fun c1 => ?_)
  · rw [if_pos c1] at H
    refine z_iconst (pc := 31) (x := (-1)) dX11_lights_31 zc_iconst_m1 ?_
    cases H
    exact z_ireturn rfl dX11_lights_32
  · rw [if_neg c1] at H
    refine z_iload_n (pc := 10) 2 dX11_lights_10 rfl rfl ?_
    refine z_iconst (pc := 11) (x := 0) dX11_lights_11 zc_iconst_0 ?_
    refine z_bipush (pc := 12) (x := 9) dX11_lights_12 zc_bipush_9 ?_
    refine z_callS (pc := 14) (mc := 0) (ms := 0) (d' := 0) (mc' := 0) (ms' := 0) (rest := []) [.int v2, .int 0, .int 9] dX11_lights_14 md_X11_within ml_X11_82 sm_X11_within rfl rfl (Nat.le_of_ble_eq_true rfl) (by omega) (k_X11_within v2 0 9 h _ rfl) ?_
    refine z_if_eq (pc := 17) 31 dX11_lights_17 (by decide) (fun c2 => ?_) (fun c2 => ?_)
    · rw [if_pos c2] at H
      refine z_iconst (pc := 31) (x := (-1)) dX11_lights_31 zc_iconst_m1 ?_
      cases H
      exact z_ireturn rfl dX11_lights_32
    · rw [if_neg c2] at H
      refine z_aload_n (pc := 20) 0 dX11_lights_20 rfl rfl ?_
      obtain ⟨r3, er3, H⟩ := zbind H
      refine z_getR (pc := 21) dX11_lights_21 fd_X11_53 er3 ?_
      refine z_iload_n (pc := 24) 1 dX11_lights_24 rfl rfl ?_
      obtain ⟨z4, H⟩ := zifE H
      obtain ⟨q5, eq5, H⟩ := zbind H
      refine z_callV (pc := 25) (mc := 0) (ms := 0) (d' := 4) (mc' := 0) (ms' := 0) (rest := []) [.int v1] dX11_lights_25 md_X2_findBest ml_X11_239 im_X2_findBest se_X2_findBest rfl z4 rfl rfl (Nat.le_of_ble_eq_true rfl) (by omega) (k_X2_findBest eq5) ?_
      refine z_if_ne (pc := 28) 33 dX11_lights_28 (by decide) (fun c6 => ?_) (fun c6 => ?_)
      · rw [if_neg c6] at H
        refine z_iload_n (pc := 33) 2 dX11_lights_33 rfl rfl ?_
        refine z_iconst (pc := 34) (x := 4) dX11_lights_34 zc_iconst_4 ?_
        refine z_icmp_ne (pc := 35) 46 dX11_lights_35 (by decide) (fun c7 => ?_) (fun c7 => ?_)
        · rw [if_neg c7] at H
          refine z_iload_n (pc := 46) 2 dX11_lights_46 rfl rfl ?_
          refine z_iconst (pc := 47) (x := 5) dX11_lights_47 zc_iconst_5 ?_
          refine z_icmp_ne (pc := 48) 59 dX11_lights_48 (by decide) (fun c8 => ?_) (fun c8 => ?_)
          · rw [if_neg c8] at H
            refine z_iload_n (pc := 59) 2 dX11_lights_59 rfl rfl ?_
            refine z_iconst (pc := 60) (x := 4) dX11_lights_60 zc_iconst_4 ?_
            obtain ⟨m9, em9, H⟩ := zbind H
            have Jm9 : zW yX11_lights cX11_lights 4 (some .int) 5 0 0 72 [(0, .ref v0), (1, .int v1), (2, .int v2)] [.int m9] q5.2 (some (.int r.1)) r.2 := by
              refine z_istore_n (pc := 72) (lv' := [(3, .int m9), (0, .ref v0), (1, .int v1), (2, .int v2)]) dX11_lights_72 rfl (by decide) rfl ?_
              refine z_aload_n (pc := 73) 1 dX11_lights_73 rfl rfl ?_
              obtain ⟨r11, er11, H⟩ := zbind H
              refine z_getR (pc := 74) dX11_lights_74 fd_X11_53 er11 ?_
              refine z_iload_n (pc := 77) 0 dX11_lights_77 rfl rfl ?_
              obtain ⟨z12, H⟩ := zifE H
              obtain ⟨q13, eq13, H⟩ := zbind H
              refine z_callV (pc := 78) (mc := 0) (ms := 0) (d' := 1) (mc' := 0) (ms' := 0) (rest := []) [.int m9] dX11_lights_78 md_X2_isTold ml_X11_249 im_X2_isTold se_X2_isTold rfl z12 rfl rfl (Nat.le_of_ble_eq_true rfl) (by omega) (k_X2_isTold eq13) ?_
              refine z_if_ne (pc := 81) 86 dX11_lights_81 (by decide) (fun c14 => ?_) (fun c14 => ?_)
              · rw [if_neg c14] at H
                refine z_iload_n (pc := 86) 3 dX11_lights_86 rfl rfl ?_
                refine z_iconst (pc := 87) (x := 4) dX11_lights_87 zc_iconst_4 ?_
                refine z_icmp_ge (pc := 88) 102 dX11_lights_88 (by decide) (fun c15 => ?_) (fun c15 => ?_)
                · rw [if_pos c15] at H
                  refine z_aload_n (pc := 102) 1 dX11_lights_102 rfl rfl ?_
                  obtain ⟨r16, er16, H⟩ := zbind H
                  refine z_getR (pc := 103) dX11_lights_103 fd_X11_53 er16 ?_
                  refine z_iload_n (pc := 106) 0 dX11_lights_106 rfl rfl ?_
                  refine z_iload_n (pc := 107) 2 dX11_lights_107 rfl rfl ?_
                  obtain ⟨z17, H⟩ := zifE H
                  obtain ⟨q18, eq18, H⟩ := zbind H
                  refine z_callV (pc := 108) (mc := 0) (ms := 0) (d' := 4) (mc' := 0) (ms' := 0) (rest := []) [.int m9, .int v1] dX11_lights_108 md_X2_bestWaitingOf ml_X11_256 im_X2_bestWaitingOf se_X2_bestWaitingOf rfl z17 rfl rfl (Nat.le_of_ble_eq_true rfl) (by omega) (k_X2_bestWaitingOf eq18) ?_
                  cases H
                  exact z_ireturn rfl dX11_lights_111
                · rw [if_neg c15] at H
                  refine z_aload_n (pc := 91) 1 dX11_lights_91 rfl rfl ?_
                  obtain ⟨r19, er19, H⟩ := zbind H
                  refine z_getR (pc := 92) dX11_lights_92 fd_X11_53 er19 ?_
                  refine z_iload_n (pc := 95) 0 dX11_lights_95 rfl rfl ?_
                  obtain ⟨z20, H⟩ := zifE H
                  obtain ⟨q21, eq21, H⟩ := zbind H
                  refine z_callV (pc := 96) (mc := 0) (ms := 0) (d' := 1) (mc' := 0) (ms' := 0) (rest := []) [.int m9] dX11_lights_96 md_X2_bestPhaseOf ml_X11_252 im_X2_bestPhaseOf se_X2_bestPhaseOf rfl z20 rfl rfl (Nat.le_of_ble_eq_true rfl) (by omega) (k_X2_bestPhaseOf eq21) ?_
                  refine z_goto (pc := 99) 111 dX11_lights_99 (by decide) ?_
                  cases H
                  exact z_ireturn rfl dX11_lights_111
              · rw [if_pos c14] at H
                refine z_iconst (pc := 84) (x := (-1)) dX11_lights_84 zc_iconst_m1 ?_
                cases H
                exact z_ireturn rfl dX11_lights_85
            refine z_icmp_ge (pc := 61) 68 dX11_lights_61 (by decide) (fun c10 => ?_) (fun c10 => ?_)
            · rw [if_pos c10] at em9
              refine z_iload_n (pc := 68) 2 dX11_lights_68 rfl rfl ?_
              refine z_bipush (pc := 69) (x := 6) dX11_lights_69 zc_bipush_6 ?_
              refine z_isub (pc := 71) dX11_lights_71 ?_
              cases em9
              exact z_sub [0, 1, 2] rfl Jm9
            · rw [if_neg c10] at em9
              refine z_iload_n (pc := 64) 2 dX11_lights_64 rfl rfl ?_
              refine z_goto (pc := 65) 72 dX11_lights_65 (by decide) ?_
              cases em9
              exact z_sub [0, 1, 2] rfl Jm9
          · rw [if_pos c8] at H
            refine z_aload_n (pc := 51) 0 dX11_lights_51 rfl rfl ?_
            obtain ⟨r22, er22, H⟩ := zbind H
            refine z_getR (pc := 52) dX11_lights_52 fd_X11_53 er22 ?_
            obtain ⟨x23, ex23, H⟩ := zbind H
            refine z_getI (pc := 55) dX11_lights_55 fd_X11_246 ex23 ?_
            cases H
            exact z_ireturn rfl dX11_lights_58
        · rw [if_pos c7] at H
          refine z_aload_n (pc := 38) 0 dX11_lights_38 rfl rfl ?_
          obtain ⟨r24, er24, H⟩ := zbind H
          refine z_getR (pc := 39) dX11_lights_39 fd_X11_53 er24 ?_
          obtain ⟨x25, ex25, H⟩ := zbind H
          refine z_getI (pc := 42) dX11_lights_42 fd_X11_243 ex25 ?_
          cases H
          exact z_ireturn rfl dX11_lights_45
      · rw [if_pos c6] at H
        refine z_iconst (pc := 31) (x := (-1)) dX11_lights_31 zc_iconst_m1 ?_
        cases H
        exact z_ireturn rfl dX11_lights_32

theorem zc_sipush_9999 : (Int16.ofInt (9999)).toInt32 = (9999 : Int32) := by decide
theorem md_X3_add : zMd yX3_add cX3_add 2 1 (some .int) := ⟨zmw (zmt_5 _ (List.mem_of_getElem? (i := 37) rfl)) rfl, zmem 123 (by decide +kernel) rfl, by decide, by decide, by decide +kernel, by decide⟩
theorem ml_X11_259 : Cond.methodLink RX11 259 yX3_add ∈ zB := zmem 1105 (by decide +kernel) rfl
theorem im_X3_add : Cond.instanceMethod yX3_add ∈ zB := zmem 1106 (by decide +kernel) rfl
theorem se_X3_add : Cond.selects yX3_add.cls yX3_add yX3_add ∈ zB := zmem 1107 (by decide +kernel) rfl
def f_X11_voters (N : Nat) (v0 : Nat) (v1 : Int32) (h : zH) : Option (Int32 × zH) := if (p_X11_within v1 1 9999) = 0 then (some ((-1), h)) else ((gR h v0 11 7).bind fun r2 => zif (zob h r2 3) <| (f_X3_add N r2 v1 h).bind fun q4 => some (q4.1, q4.2))
set_option maxRecDepth 100000 in
set_option maxHeartbeats 4000000 in
theorem k_X11_voters {N : Nat} {v0 : Nat} {v1 : Int32} {h : zH} {r : Int32 × zH} (H : f_X11_voters N v0 v1 h = some r) : zOk 1 0 0 yX11_voters cX11_voters 2 (some .int) [.ref v0, .int v1] h (some (.int r.1)) r.2 := by
  refine zOk.of (by decide) (Nat.le_of_ble_eq_true rfl) ?_
  unfold f_X11_voters at H
  refine z_iload_n (pc := 0) 1 dX11_voters_0 rfl rfl ?_
  refine z_iconst (pc := 1) (x := 1) dX11_voters_1 zc_iconst_1 ?_
  refine z_sipush (pc := 2) (x := 9999) dX11_voters_2 zc_sipush_9999 ?_
  refine z_callS (pc := 5) (mc := 0) (ms := 0) (d' := 0) (mc' := 0) (ms' := 0) (rest := []) [.int v1, .int 1, .int 9999] dX11_voters_5 md_X11_within ml_X11_82 sm_X11_within rfl rfl (Nat.le_of_ble_eq_true rfl) (by omega) (k_X11_within v1 1 9999 h _ rfl) ?_
  refine z_if_eq (pc := 8) 22 dX11_voters_8 (by decide) (fun c1 => ?_) (fun c1 => ?_)
  · rw [if_pos c1] at H
    refine z_iconst (pc := 22) (x := (-1)) dX11_voters_22 zc_iconst_m1 ?_
    cases H
    exact z_ireturn rfl dX11_voters_23
  · rw [if_neg c1] at H
    refine z_aload_n (pc := 11) 0 dX11_voters_11 rfl rfl ?_
    obtain ⟨r2, er2, H⟩ := zbind H
    refine z_getR (pc := 12) dX11_voters_12 fd_X11_60 er2 ?_
    refine z_iload_n (pc := 15) 1 dX11_voters_15 rfl rfl ?_
    obtain ⟨z3, H⟩ := zifE H
    obtain ⟨q4, eq4, H⟩ := zbind H
    refine z_callV (pc := 16) (mc := 0) (ms := 0) (d' := 0) (mc' := 0) (ms' := 0) (rest := []) [.int v1] dX11_voters_16 md_X3_add ml_X11_259 im_X3_add se_X3_add rfl z3 rfl rfl (Nat.le_of_ble_eq_true rfl) (by omega) (k_X3_add eq4) ?_
    refine z_goto (pc := 19) 23 dX11_voters_19 (by decide) ?_
    cases H
    exact z_ireturn rfl dX11_voters_23

theorem zc_bipush_m99 : (Int8.ofInt (-99)).toInt32 = (-99 : Int32) := by decide
theorem fd_X11_261 : zFd RX11 261 3 6 (.int) false "WhoseStreet$House" := zFd.of cl_3 (by decide) (zmem 429 (by decide +kernel) rfl) rfl rfl rfl
theorem md_X3_lean : zMd yX3_lean cX3_lean 4 3 none := ⟨zmw (zmt_5 _ (List.mem_of_getElem? (i := 45) rfl)) rfl, zmem 123 (by decide +kernel) rfl, by decide, by decide, by decide +kernel, by decide⟩
theorem ml_X11_264 : Cond.methodLink RX11 264 yX3_lean ∈ zB := zmem 1113 (by decide +kernel) rfl
theorem im_X3_lean : Cond.instanceMethod yX3_lean ∈ zB := zmem 1114 (by decide +kernel) rfl
theorem se_X3_lean : Cond.selects yX3_lean.cls yX3_lean yX3_lean ∈ zB := zmem 1115 (by decide +kernel) rfl
def f_X11_leans (N : Nat) (v0 : Nat) (v1 : Int32) (v2 : Int32) (v3 : Int32) (h : zH) : Option (Int32 × zH) := (gR h v0 11 7).bind fun r1 => (gI h r1 3 6).bind fun x2 => if (p_X11_within v1 0 (x2 - 1)) = 0 then (some (0, h)) else (if (p_X11_within v2 0 8) = 0 then (some (0, h)) else (if (p_X11_within v3 (-99) 99) = 0 then (some (0, h)) else ((gR h v0 11 7).bind fun r6 => zif (zob h r6 3) <| (f_X3_lean N r6 v1 v2 v3 h).bind fun h8 => some (1, h8))))
set_option maxRecDepth 100000 in
set_option maxHeartbeats 4000000 in
theorem k_X11_leans {N : Nat} {v0 : Nat} {v1 : Int32} {v2 : Int32} {v3 : Int32} {h : zH} {r : Int32 × zH} (H : f_X11_leans N v0 v1 v2 v3 h = some r) : zOk 2 0 0 yX11_leans cX11_leans 4 (some .boolean) [.ref v0, .int v1, .int v2, .int v3] h (some (.int r.1)) r.2 := by
  refine zOk.of (by decide) (Nat.le_of_ble_eq_true rfl) ?_
  unfold f_X11_leans at H
  refine z_iload_n (pc := 0) 1 dX11_leans_0 rfl rfl ?_
  refine z_iconst (pc := 1) (x := 0) dX11_leans_1 zc_iconst_0 ?_
  refine z_aload_n (pc := 2) 0 dX11_leans_2 rfl rfl ?_
  obtain ⟨r1, er1, H⟩ := zbind H
  refine z_getR (pc := 3) dX11_leans_3 fd_X11_60 er1 ?_
  obtain ⟨x2, ex2, H⟩ := zbind H
  refine z_getI (pc := 6) dX11_leans_6 fd_X11_261 ex2 ?_
  refine z_iconst (pc := 9) (x := 1) dX11_leans_9 zc_iconst_1 ?_
  refine z_isub (pc := 10) dX11_leans_10 ?_
  refine z_callS (pc := 11) (mc := 0) (ms := 0) (d' := 0) (mc' := 0) (ms' := 0) (rest := []) [.int v1, .int 0, .int (x2 - 1)] dX11_leans_11 md_X11_within ml_X11_82 sm_X11_within rfl rfl (Nat.le_of_ble_eq_true rfl) (by omega) (k_X11_within v1 0 (x2 - 1) h _ rfl) ?_
  refine z_if_eq (pc := 14) 38 dX11_leans_14 (by decide) (fun c3 => ?_) (fun c3 => ?_)
  · rw [if_pos c3] at H
    refine z_iconst (pc := 38) (x := 0) dX11_leans_38 zc_iconst_0 ?_
    cases H
    exact z_zreturn rfl dX11_leans_39 (by decide)
  · rw [if_neg c3] at H
    refine z_iload_n (pc := 17) 2 dX11_leans_17 rfl rfl ?_
    refine z_iconst (pc := 18) (x := 0) dX11_leans_18 zc_iconst_0 ?_
    refine z_bipush (pc := 19) (x := 8) dX11_leans_19 zc_bipush_8 ?_
    refine z_callS (pc := 21) (mc := 0) (ms := 0) (d' := 0) (mc' := 0) (ms' := 0) (rest := []) [.int v2, .int 0, .int 8] dX11_leans_21 md_X11_within ml_X11_82 sm_X11_within rfl rfl (Nat.le_of_ble_eq_true rfl) (by omega) (k_X11_within v2 0 8 h _ rfl) ?_
    refine z_if_eq (pc := 24) 38 dX11_leans_24 (by decide) (fun c4 => ?_) (fun c4 => ?_)
    · rw [if_pos c4] at H
      refine z_iconst (pc := 38) (x := 0) dX11_leans_38 zc_iconst_0 ?_
      cases H
      exact z_zreturn rfl dX11_leans_39 (by decide)
    · rw [if_neg c4] at H
      refine z_iload_n (pc := 27) 3 dX11_leans_27 rfl rfl ?_
      refine z_bipush (pc := 28) (x := (-99)) dX11_leans_28 zc_bipush_m99 ?_
      refine z_bipush (pc := 30) (x := 99) dX11_leans_30 zc_bipush_99 ?_
      refine z_callS (pc := 32) (mc := 0) (ms := 0) (d' := 0) (mc' := 0) (ms' := 0) (rest := []) [.int v3, .int (-99), .int 99] dX11_leans_32 md_X11_within ml_X11_82 sm_X11_within rfl rfl (Nat.le_of_ble_eq_true rfl) (by omega) (k_X11_within v3 (-99) 99 h _ rfl) ?_
      refine z_if_ne (pc := 35) 40 dX11_leans_35 (by decide) (fun c5 => ?_) (fun c5 => ?_)
      · rw [if_neg c5] at H
        refine z_aload_n (pc := 40) 0 dX11_leans_40 rfl rfl ?_
        obtain ⟨r6, er6, H⟩ := zbind H
        refine z_getR (pc := 41) dX11_leans_41 fd_X11_60 er6 ?_
        refine z_iload_n (pc := 44) 1 dX11_leans_44 rfl rfl ?_
        refine z_iload_n (pc := 45) 2 dX11_leans_45 rfl rfl ?_
        refine z_iload_n (pc := 46) 3 dX11_leans_46 rfl rfl ?_
        obtain ⟨z7, H⟩ := zifE H
        obtain ⟨h8, eh8, H⟩ := zbind H
        refine z_callV (pc := 47) (mc := 0) (ms := 0) (d' := 1) (mc' := 0) (ms' := 0) (rest := []) [.int v1, .int v2, .int v3] dX11_leans_47 md_X3_lean ml_X11_264 im_X3_lean se_X3_lean rfl z7 rfl rfl (Nat.le_of_ble_eq_true rfl) (by omega) (k_X3_lean eh8) ?_
        refine z_iconst (pc := 50) (x := 1) dX11_leans_50 zc_iconst_1 ?_
        cases H
        exact z_zreturn rfl dX11_leans_51 (by decide)
      · rw [if_pos c5] at H
        refine z_iconst (pc := 38) (x := 0) dX11_leans_38 zc_iconst_0 ?_
        cases H
        exact z_zreturn rfl dX11_leans_39 (by decide)

theorem md_X3_isCarried : zMd yX3_isCarried cX3_isCarried 2 1 (some .boolean) := ⟨zmw (zmt_5 _ (List.mem_of_getElem? (i := 54) rfl)) rfl, zmem 123 (by decide +kernel) rfl, by decide, by decide, by decide +kernel, by decide⟩
theorem ml_X11_267 : Cond.methodLink RX11 267 yX3_isCarried ∈ zB := zmem 1122 (by decide +kernel) rfl
theorem im_X3_isCarried : Cond.instanceMethod yX3_isCarried ∈ zB := zmem 1123 (by decide +kernel) rfl
theorem se_X3_isCarried : Cond.selects yX3_isCarried.cls yX3_isCarried yX3_isCarried ∈ zB := zmem 1124 (by decide +kernel) rfl
def f_X11_passes (N : Nat) (v0 : Nat) (v1 : Int32) (h : zH) : Option (Int32 × zH) := if (p_X11_within v1 0 511) = 0 then (some ((-1), h)) else ((gR h v0 11 7).bind fun r2 => zif (zob h r2 3) <| (f_X3_isCarried N r2 v1 h).bind fun q4 => if q4.1 = 0 then (some (0, q4.2)) else (some (1, q4.2)))
set_option maxRecDepth 100000 in
set_option maxHeartbeats 4000000 in
theorem k_X11_passes {N : Nat} {v0 : Nat} {v1 : Int32} {h : zH} {r : Int32 × zH} (H : f_X11_passes N v0 v1 h = some r) : zOk 4 0 0 yX11_passes cX11_passes 2 (some .int) [.ref v0, .int v1] h (some (.int r.1)) r.2 := by
  refine zOk.of (by decide) (Nat.le_of_ble_eq_true rfl) ?_
  unfold f_X11_passes at H
  refine z_iload_n (pc := 0) 1 dX11_passes_0 rfl rfl ?_
  refine z_iconst (pc := 1) (x := 0) dX11_passes_1 zc_iconst_0 ?_
  refine z_sipush (pc := 2) (x := 511) dX11_passes_2 zc_sipush_511 ?_
  refine z_callS (pc := 5) (mc := 0) (ms := 0) (d' := 0) (mc' := 0) (ms' := 0) (rest := []) [.int v1, .int 0, .int 511] dX11_passes_5 md_X11_within ml_X11_82 sm_X11_within rfl rfl (Nat.le_of_ble_eq_true rfl) (by omega) (k_X11_within v1 0 511 h _ rfl) ?_
  refine z_if_ne (pc := 8) 13 dX11_passes_8 (by decide) (fun c1 => ?_) (fun c1 => ?_)
  · rw [if_neg c1] at H
    refine z_aload_n (pc := 13) 0 dX11_passes_13 rfl rfl ?_
    obtain ⟨r2, er2, H⟩ := zbind H
    refine z_getR (pc := 14) dX11_passes_14 fd_X11_60 er2 ?_
    refine z_iload_n (pc := 17) 1 dX11_passes_17 rfl rfl ?_
    obtain ⟨z3, H⟩ := zifE H
    obtain ⟨q4, eq4, H⟩ := zbind H
    refine z_callV (pc := 18) (mc := 0) (ms := 0) (d' := 3) (mc' := 0) (ms' := 0) (rest := []) [.int v1] dX11_passes_18 md_X3_isCarried ml_X11_267 im_X3_isCarried se_X3_isCarried rfl z3 rfl rfl (Nat.le_of_ble_eq_true rfl) (by omega) (k_X3_isCarried eq4) ?_
    refine z_if_eq (pc := 21) 28 dX11_passes_21 (by decide) (fun c5 => ?_) (fun c5 => ?_)
    · rw [if_pos c5] at H
      refine z_iconst (pc := 28) (x := 0) dX11_passes_28 zc_iconst_0 ?_
      cases H
      exact z_ireturn rfl dX11_passes_29
    · rw [if_neg c5] at H
      refine z_iconst (pc := 24) (x := 1) dX11_passes_24 zc_iconst_1 ?_
      refine z_goto (pc := 25) 29 dX11_passes_25 (by decide) ?_
      cases H
      exact z_ireturn rfl dX11_passes_29
  · rw [if_pos c1] at H
    refine z_iconst (pc := 11) (x := (-1)) dX11_passes_11 zc_iconst_m1 ?_
    cases H
    exact z_ireturn rfl dX11_passes_12

theorem md_X3_mostLeft : zMd yX3_mostLeft cX3_mostLeft 8 1 (some .int) := ⟨zmw (zmt_5 _ (List.mem_of_getElem? (i := 79) rfl)) rfl, zmem 123 (by decide +kernel) rfl, by decide, by decide, by decide +kernel, by decide⟩
theorem ml_X11_270 : Cond.methodLink RX11 270 yX3_mostLeft ∈ zB := zmem 1147 (by decide +kernel) rfl
theorem im_X3_mostLeft : Cond.instanceMethod yX3_mostLeft ∈ zB := zmem 1148 (by decide +kernel) rfl
theorem se_X3_mostLeft : Cond.selects yX3_mostLeft.cls yX3_mostLeft yX3_mostLeft ∈ zB := zmem 1149 (by decide +kernel) rfl
def f_X11_most (N : Nat) (v0 : Nat) (v1 : Int32) (h : zH) : Option (Int32 × zH) := if (p_X11_within v1 0 511) = 0 then (some ((-1), h)) else ((gR h v0 11 7).bind fun r2 => zif (zob h r2 3) <| (f_X3_mostLeft N r2 v1 h).bind fun q4 => some (q4.1, q4.2))
set_option maxRecDepth 100000 in
set_option maxHeartbeats 4000000 in
theorem k_X11_most {N : Nat} {v0 : Nat} {v1 : Int32} {h : zH} {r : Int32 × zH} (H : f_X11_most N v0 v1 h = some r) : zOk 4 0 0 yX11_most cX11_most 2 (some .int) [.ref v0, .int v1] h (some (.int r.1)) r.2 := by
  refine zOk.of (by decide) (Nat.le_of_ble_eq_true rfl) ?_
  unfold f_X11_most at H
  refine z_iload_n (pc := 0) 1 dX11_most_0 rfl rfl ?_
  refine z_iconst (pc := 1) (x := 0) dX11_most_1 zc_iconst_0 ?_
  refine z_sipush (pc := 2) (x := 511) dX11_most_2 zc_sipush_511 ?_
  refine z_callS (pc := 5) (mc := 0) (ms := 0) (d' := 0) (mc' := 0) (ms' := 0) (rest := []) [.int v1, .int 0, .int 511] dX11_most_5 md_X11_within ml_X11_82 sm_X11_within rfl rfl (Nat.le_of_ble_eq_true rfl) (by omega) (k_X11_within v1 0 511 h _ rfl) ?_
  refine z_if_eq (pc := 8) 22 dX11_most_8 (by decide) (fun c1 => ?_) (fun c1 => ?_)
  · rw [if_pos c1] at H
    refine z_iconst (pc := 22) (x := (-1)) dX11_most_22 zc_iconst_m1 ?_
    cases H
    exact z_ireturn rfl dX11_most_23
  · rw [if_neg c1] at H
    refine z_aload_n (pc := 11) 0 dX11_most_11 rfl rfl ?_
    obtain ⟨r2, er2, H⟩ := zbind H
    refine z_getR (pc := 12) dX11_most_12 fd_X11_60 er2 ?_
    refine z_iload_n (pc := 15) 1 dX11_most_15 rfl rfl ?_
    obtain ⟨z3, H⟩ := zifE H
    obtain ⟨q4, eq4, H⟩ := zbind H
    refine z_callV (pc := 16) (mc := 0) (ms := 0) (d' := 3) (mc' := 0) (ms' := 0) (rest := []) [.int v1] dX11_most_16 md_X3_mostLeft ml_X11_270 im_X3_mostLeft se_X3_mostLeft rfl z3 rfl rfl (Nat.le_of_ble_eq_true rfl) (by omega) (k_X3_mostLeft eq4) ?_
    refine z_goto (pc := 19) 23 dX11_most_19 (by decide) ?_
    cases H
    exact z_ireturn rfl dX11_most_23

theorem ki_X11_273 : Cond.constant RX11 273 99999 ∈ zB := zmem 1161 (by decide +kernel) rfl
theorem md_X5_write : zMd yX5_write cX5_write 6 4 none := ⟨zmw (zmt_5 _ (List.mem_of_getElem? (i := 94) rfl)) rfl, zmem 124 (by decide +kernel) rfl, by decide, by decide, by decide +kernel, by decide⟩
theorem ml_X11_274 : Cond.methodLink RX11 274 yX5_write ∈ zB := zmem 1162 (by decide +kernel) rfl
theorem im_X5_write : Cond.instanceMethod yX5_write ∈ zB := zmem 1163 (by decide +kernel) rfl
theorem se_X5_write : Cond.selects yX5_write.cls yX5_write yX5_write ∈ zB := zmem 1164 (by decide +kernel) rfl
def f_X11_counted (N : Nat) (v0 : Nat) (v1 : Int32) (v2 : Int32) (v3 : Int32) (v4 : Int32) (h : zH) : Option (Int32 × zH) := (if v3 = (-1) then (some 1) else (if (p_X11_within v3 0 9999) = 0 then (some 0) else (if (p_X11_within v4 0 99999) = 0 then (some 0) else (some 1))) : Option (Int32)).bind fun m1 => if (p_X11_within v1 0 7) = 0 then (some (0, h)) else (if (p_X11_within v2 0 30) = 0 then (some (0, h)) else (if m1 = 0 then (some (0, h)) else ((gR h v0 11 8).bind fun r8 => zif (zob h r8 5) <| (f_X5_write N r8 v1 v2 v3 v4 h).bind fun h10 => some (1, h10))))
set_option maxRecDepth 100000 in
set_option maxHeartbeats 4000000 in
theorem k_X11_counted {N : Nat} {v0 : Nat} {v1 : Int32} {v2 : Int32} {v3 : Int32} {v4 : Int32} {h : zH} {r : Int32 × zH} (H : f_X11_counted N v0 v1 v2 v3 v4 h = some r) : zOk 1 0 0 yX11_counted cX11_counted 6 (some .boolean) [.ref v0, .int v1, .int v2, .int v3, .int v4] h (some (.int r.1)) r.2 := by
  refine zOk.of (by decide) (Nat.le_of_ble_eq_true rfl) ?_
  unfold f_X11_counted at H
  refine z_iload_n (pc := 0) 3 dX11_counted_0 rfl rfl ?_
  refine z_iconst (pc := 1) (x := (-1)) dX11_counted_1 zc_iconst_m1 ?_
  obtain ⟨m1, em1, H⟩ := zbind H
  have Jm1 : zW yX11_counted cX11_counted 6 (some .boolean) 1 0 0 33 [(0, .ref v0), (1, .int v1), (2, .int v2), (3, .int v3), (4, .int v4)] [.int m1] h (some (.int r.1)) r.2 := by
    refine z_istore (pc := 33) (lv' := [(5, .int m1), (0, .ref v0), (1, .int v1), (2, .int v2), (3, .int v3), (4, .int v4)]) dX11_counted_33 (by decide) rfl ?_
    refine z_iload_n (pc := 35) 2 dX11_counted_35 rfl rfl ?_
    refine z_iconst (pc := 36) (x := 0) dX11_counted_36 zc_iconst_0 ?_
    refine z_bipush (pc := 37) (x := 7) dX11_counted_37 zc_bipush_7 ?_
    refine z_callS (pc := 39) (mc := 0) (ms := 0) (d' := 0) (mc' := 0) (ms' := 0) (rest := []) [.int v1, .int 0, .int 7] dX11_counted_39 md_X11_within ml_X11_82 sm_X11_within rfl rfl (Nat.le_of_ble_eq_true rfl) (by omega) (k_X11_within v1 0 7 h _ rfl) ?_
    refine z_if_eq (pc := 42) 60 dX11_counted_42 (by decide) (fun c5 => ?_) (fun c5 => ?_)
    · rw [if_pos c5] at H
      refine z_iconst (pc := 60) (x := 0) dX11_counted_60 zc_iconst_0 ?_
      cases H
      exact z_zreturn rfl dX11_counted_61 (by decide)
    · rw [if_neg c5] at H
      refine z_iload_n (pc := 45) 3 dX11_counted_45 rfl rfl ?_
      refine z_iconst (pc := 46) (x := 0) dX11_counted_46 zc_iconst_0 ?_
      refine z_bipush (pc := 47) (x := 30) dX11_counted_47 zc_bipush_30 ?_
      refine z_callS (pc := 49) (mc := 0) (ms := 0) (d' := 0) (mc' := 0) (ms' := 0) (rest := []) [.int v2, .int 0, .int 30] dX11_counted_49 md_X11_within ml_X11_82 sm_X11_within rfl rfl (Nat.le_of_ble_eq_true rfl) (by omega) (k_X11_within v2 0 30 h _ rfl) ?_
      refine z_if_eq (pc := 52) 60 dX11_counted_52 (by decide) (fun c6 => ?_) (fun c6 => ?_)
      · rw [if_pos c6] at H
        refine z_iconst (pc := 60) (x := 0) dX11_counted_60 zc_iconst_0 ?_
        cases H
        exact z_zreturn rfl dX11_counted_61 (by decide)
      · rw [if_neg c6] at H
        refine z_iload (pc := 55) 0 dX11_counted_55 rfl ?_
        refine z_if_ne (pc := 57) 62 dX11_counted_57 (by decide) (fun c7 => ?_) (fun c7 => ?_)
        · rw [if_neg c7] at H
          refine z_aload_n (pc := 62) 1 dX11_counted_62 rfl rfl ?_
          obtain ⟨r8, er8, H⟩ := zbind H
          refine z_getR (pc := 63) dX11_counted_63 fd_X11_67 er8 ?_
          refine z_iload_n (pc := 66) 2 dX11_counted_66 rfl rfl ?_
          refine z_iload_n (pc := 67) 3 dX11_counted_67 rfl rfl ?_
          refine z_iload_n (pc := 68) 4 dX11_counted_68 rfl rfl ?_
          refine z_iload (pc := 69) 5 dX11_counted_69 rfl ?_
          obtain ⟨z9, H⟩ := zifE H
          obtain ⟨h10, eh10, H⟩ := zbind H
          refine z_callV (pc := 71) (mc := 0) (ms := 0) (d' := 0) (mc' := 0) (ms' := 0) (rest := []) [.int v1, .int v2, .int v3, .int v4] dX11_counted_71 md_X5_write ml_X11_274 im_X5_write se_X5_write rfl z9 rfl rfl (Nat.le_of_ble_eq_true rfl) (by omega) (k_X5_write eh10) ?_
          refine z_iconst (pc := 74) (x := 1) dX11_counted_74 zc_iconst_1 ?_
          cases H
          exact z_zreturn rfl dX11_counted_75 (by decide)
        · rw [if_pos c7] at H
          refine z_iconst (pc := 60) (x := 0) dX11_counted_60 zc_iconst_0 ?_
          cases H
          exact z_zreturn rfl dX11_counted_61 (by decide)
  refine z_icmp_eq (pc := 2) 28 dX11_counted_2 (by decide) (fun c2 => ?_) (fun c2 => ?_)
  · rw [if_pos c2] at em1
    refine z_iconst (pc := 28) (x := 1) dX11_counted_28 zc_iconst_1 ?_
    refine z_goto (pc := 29) 33 dX11_counted_29 (by decide) ?_
    cases em1
    exact z_sub [0, 1, 2, 3, 4] rfl Jm1
  · rw [if_neg c2] at em1
    refine z_iload_n (pc := 5) 3 dX11_counted_5 rfl rfl ?_
    refine z_iconst (pc := 6) (x := 0) dX11_counted_6 zc_iconst_0 ?_
    refine z_sipush (pc := 7) (x := 9999) dX11_counted_7 zc_sipush_9999 ?_
    refine z_callS (pc := 10) (mc := 0) (ms := 0) (d' := 0) (mc' := 0) (ms' := 0) (rest := []) [.int v3, .int 0, .int 9999] dX11_counted_10 md_X11_within ml_X11_82 sm_X11_within rfl rfl (Nat.le_of_ble_eq_true rfl) (by omega) (k_X11_within v3 0 9999 h _ rfl) ?_
    refine z_if_eq (pc := 13) 32 dX11_counted_13 (by decide) (fun c3 => ?_) (fun c3 => ?_)
    · rw [if_pos c3] at em1
      refine z_iconst (pc := 32) (x := 0) dX11_counted_32 zc_iconst_0 ?_
      cases em1
      exact z_sub [0, 1, 2, 3, 4] rfl Jm1
    · rw [if_neg c3] at em1
      refine z_iload (pc := 16) 4 dX11_counted_16 rfl ?_
      refine z_iconst (pc := 18) (x := 0) dX11_counted_18 zc_iconst_0 ?_
      refine z_ldcw (pc := 19) (x := 99999) dX11_counted_19 ki_X11_273 ?_
      refine z_callS (pc := 22) (mc := 0) (ms := 0) (d' := 0) (mc' := 0) (ms' := 0) (rest := []) [.int v4, .int 0, .int 99999] dX11_counted_22 md_X11_within ml_X11_82 sm_X11_within rfl rfl (Nat.le_of_ble_eq_true rfl) (by omega) (k_X11_within v4 0 99999 h _ rfl) ?_
      refine z_if_eq (pc := 25) 32 dX11_counted_25 (by decide) (fun c4 => ?_) (fun c4 => ?_)
      · rw [if_pos c4] at em1
        refine z_iconst (pc := 32) (x := 0) dX11_counted_32 zc_iconst_0 ?_
        cases em1
        exact z_sub [0, 1, 2, 3, 4] rfl Jm1
      · rw [if_neg c4] at em1
        refine z_iconst (pc := 28) (x := 1) dX11_counted_28 zc_iconst_1 ?_
        refine z_goto (pc := 29) 33 dX11_counted_29 (by decide) ?_
        cases em1
        exact z_sub [0, 1, 2, 3, 4] rfl Jm1

theorem md_X5_compare : zMd yX5_compare cX5_compare 6 3 (some .int) := ⟨zmw (zmt_5 _ (List.mem_of_getElem? (i := 102) rfl)) rfl, zmem 124 (by decide +kernel) rfl, by decide, by decide, by decide +kernel, by decide⟩
theorem ml_X11_278 : Cond.methodLink RX11 278 yX5_compare ∈ zB := zmem 1170 (by decide +kernel) rfl
theorem im_X5_compare : Cond.instanceMethod yX5_compare ∈ zB := zmem 1171 (by decide +kernel) rfl
theorem se_X5_compare : Cond.selects yX5_compare.cls yX5_compare yX5_compare ∈ zB := zmem 1172 (by decide +kernel) rfl
def f_X11_fell (N : Nat) (v0 : Nat) (v1 : Int32) (v2 : Int32) (v3 : Int32) (h : zH) : Option (Int32) := if (p_X11_within v1 0 7) = 0 then (some (-1)) else (if (p_X11_within v2 0 30) = 0 then (some (-1)) else (if (p_X11_within v3 0 30) = 0 then (some (-1)) else (if v2 < v3 then ((gR h v0 11 8).bind fun r5 => zif (zob h r5 5) <| (f_X5_compare N r5 v1 v2 v3 h).bind fun q7 => some q7) else (some (-1)))))
set_option maxRecDepth 100000 in
set_option maxHeartbeats 4000000 in
theorem k_X11_fell {N : Nat} {v0 : Nat} {v1 : Int32} {v2 : Int32} {v3 : Int32} {h : zH} {r : Int32} (H : f_X11_fell N v0 v1 v2 v3 h = some r) : zOk 2 0 0 yX11_fell cX11_fell 4 (some .int) [.ref v0, .int v1, .int v2, .int v3] h (some (.int r)) h := by
  refine zOk.of (by decide) (Nat.le_of_ble_eq_true rfl) ?_
  unfold f_X11_fell at H
  refine z_iload_n (pc := 0) 1 dX11_fell_0 rfl rfl ?_
  refine z_iconst (pc := 1) (x := 0) dX11_fell_1 zc_iconst_0 ?_
  refine z_bipush (pc := 2) (x := 7) dX11_fell_2 zc_bipush_7 ?_
  refine z_callS (pc := 4) (mc := 0) (ms := 0) (d' := 0) (mc' := 0) (ms' := 0) (rest := []) [.int v1, .int 0, .int 7] dX11_fell_4 md_X11_within ml_X11_82 sm_X11_within rfl rfl (Nat.le_of_ble_eq_true rfl) (by omega) (k_X11_within v1 0 7 h _ rfl) ?_
  refine z_if_eq (pc := 7) 35 dX11_fell_7 (by decide) (fun c1 => ?_) (fun c1 => ?_)
  · rw [if_pos c1] at H
    refine z_iconst (pc := 35) (x := (-1)) dX11_fell_35 zc_iconst_m1 ?_
    cases H
    exact z_ireturn rfl dX11_fell_36
  · rw [if_neg c1] at H
    refine z_iload_n (pc := 10) 2 dX11_fell_10 rfl rfl ?_
    refine z_iconst (pc := 11) (x := 0) dX11_fell_11 zc_iconst_0 ?_
    refine z_bipush (pc := 12) (x := 30) dX11_fell_12 zc_bipush_30 ?_
    refine z_callS (pc := 14) (mc := 0) (ms := 0) (d' := 0) (mc' := 0) (ms' := 0) (rest := []) [.int v2, .int 0, .int 30] dX11_fell_14 md_X11_within ml_X11_82 sm_X11_within rfl rfl (Nat.le_of_ble_eq_true rfl) (by omega) (k_X11_within v2 0 30 h _ rfl) ?_
    refine z_if_eq (pc := 17) 35 dX11_fell_17 (by decide) (fun c2 => ?_) (fun c2 => ?_)
    · rw [if_pos c2] at H
      refine z_iconst (pc := 35) (x := (-1)) dX11_fell_35 zc_iconst_m1 ?_
      cases H
      exact z_ireturn rfl dX11_fell_36
    · rw [if_neg c2] at H
      refine z_iload_n (pc := 20) 3 dX11_fell_20 rfl rfl ?_
      refine z_iconst (pc := 21) (x := 0) dX11_fell_21 zc_iconst_0 ?_
      refine z_bipush (pc := 22) (x := 30) dX11_fell_22 zc_bipush_30 ?_
      refine z_callS (pc := 24) (mc := 0) (ms := 0) (d' := 0) (mc' := 0) (ms' := 0) (rest := []) [.int v3, .int 0, .int 30] dX11_fell_24 md_X11_within ml_X11_82 sm_X11_within rfl rfl (Nat.le_of_ble_eq_true rfl) (by omega) (k_X11_within v3 0 30 h _ rfl) ?_
      refine z_if_eq (pc := 27) 35 dX11_fell_27 (by decide) (fun c3 => ?_) (fun c3 => ?_)
      · rw [if_pos c3] at H
        refine z_iconst (pc := 35) (x := (-1)) dX11_fell_35 zc_iconst_m1 ?_
        cases H
        exact z_ireturn rfl dX11_fell_36
      · rw [if_neg c3] at H
        refine z_iload_n (pc := 30) 2 dX11_fell_30 rfl rfl ?_
        refine z_iload_n (pc := 31) 3 dX11_fell_31 rfl rfl ?_
        refine z_icmp_lt (pc := 32) 37 dX11_fell_32 (by decide) (fun c4 => ?_) (fun c4 => ?_)
        · rw [if_pos c4] at H
          refine z_aload_n (pc := 37) 0 dX11_fell_37 rfl rfl ?_
          obtain ⟨r5, er5, H⟩ := zbind H
          refine z_getR (pc := 38) dX11_fell_38 fd_X11_67 er5 ?_
          refine z_iload_n (pc := 41) 1 dX11_fell_41 rfl rfl ?_
          refine z_iload_n (pc := 42) 2 dX11_fell_42 rfl rfl ?_
          refine z_iload_n (pc := 43) 3 dX11_fell_43 rfl rfl ?_
          obtain ⟨z6, H⟩ := zifE H
          obtain ⟨q7, eq7, H⟩ := zbind H
          refine z_callV (pc := 44) (mc := 0) (ms := 0) (d' := 1) (mc' := 0) (ms' := 0) (rest := []) [.int v1, .int v2, .int v3] dX11_fell_44 md_X5_compare ml_X11_278 im_X5_compare se_X5_compare rfl z6 rfl rfl (Nat.le_of_ble_eq_true rfl) (by omega) (k_X5_compare eq7) ?_
          cases H
          exact z_ireturn rfl dX11_fell_47
        · rw [if_neg c4] at H
          refine z_iconst (pc := 35) (x := (-1)) dX11_fell_35 zc_iconst_m1 ?_
          cases H
          exact z_ireturn rfl dX11_fell_36

theorem md_X10_lay : zMd yX10_lay cX10_lay 4 3 none := ⟨zmw (zmt_5 _ (List.mem_of_getElem? (i := 111) rfl)) rfl, zmem 126 (by decide +kernel) rfl, by decide, by decide, by decide +kernel, by decide⟩
theorem ml_X11_282 : Cond.methodLink RX11 282 yX10_lay ∈ zB := zmem 1179 (by decide +kernel) rfl
theorem im_X10_lay : Cond.instanceMethod yX10_lay ∈ zB := zmem 1180 (by decide +kernel) rfl
theorem se_X10_lay : Cond.selects yX10_lay.cls yX10_lay yX10_lay ∈ zB := zmem 1181 (by decide +kernel) rfl
theorem md_X10_tellHurt : zMd yX10_tellHurt cX10_tellHurt 5 4 none := ⟨zmw (zmt_5 _ (List.mem_of_getElem? (i := 116) rfl)) rfl, zmem 126 (by decide +kernel) rfl, by decide, by decide, by decide +kernel, by decide⟩
theorem ml_X11_285 : Cond.methodLink RX11 285 yX10_tellHurt ∈ zB := zmem 1184 (by decide +kernel) rfl
theorem im_X10_tellHurt : Cond.instanceMethod yX10_tellHurt ∈ zB := zmem 1185 (by decide +kernel) rfl
theorem se_X10_tellHurt : Cond.selects yX10_tellHurt.cls yX10_tellHurt yX10_tellHurt ∈ zB := zmem 1186 (by decide +kernel) rfl
def f_X11_street (N : Nat) (v0 : Nat) (v1 : Int32) (v2 : Int32) (v3 : Int32) (v4 : Int32) (v5 : Int32) (v6 : Int32) (h : zH) : Option (Int32 × zH) := (if (p_X11_within v2 0 7) = 0 then (some 0) else (if (p_X11_within v3 0 7) = 0 then (some 0) else (if v2 = v3 then (some 0) else (some 1))) : Option (Int32)).bind fun m1 => (if (p_X11_within v4 0 999) = 0 then (some 0) else (if (p_X11_within v5 0 999) = 0 then (some 0) else (if (p_X11_within v6 0 999) = 0 then (some 0) else (some 1))) : Option (Int32)).bind fun m5 => if (p_X11_within v1 0 7) = 0 then (some (0, h)) else (if m1 = 0 then (some (0, h)) else (if m5 = 0 then (some (0, h)) else ((gR h v0 11 9).bind fun r12 => zif (zob h r12 10) <| (f_X10_lay N r12 v1 v2 v3 h).bind fun h14 => (gR h14 v0 11 9).bind fun r15 => zif (zob h14 r15 10) <| (f_X10_tellHurt N r15 v1 v4 v5 v6 h14).bind fun h17 => some (1, h17))))
set_option maxRecDepth 100000 in
set_option maxHeartbeats 4000000 in
theorem k_X11_street {N : Nat} {v0 : Nat} {v1 : Int32} {v2 : Int32} {v3 : Int32} {v4 : Int32} {v5 : Int32} {v6 : Int32} {h : zH} {r : Int32 × zH} (H : f_X11_street N v0 v1 v2 v3 v4 v5 v6 h = some r) : zOk 2 0 0 yX11_street cX11_street 9 (some .boolean) [.ref v0, .int v1, .int v2, .int v3, .int v4, .int v5, .int v6] h (some (.int r.1)) r.2 := by
  refine zOk.of (by decide) (Nat.le_of_ble_eq_true rfl) ?_
  unfold f_X11_street at H
  refine z_iload_n (pc := 0) 2 dX11_street_0 rfl rfl ?_
  refine z_iconst (pc := 1) (x := 0) dX11_street_1 zc_iconst_0 ?_
  refine z_bipush (pc := 2) (x := 7) dX11_street_2 zc_bipush_7 ?_
  refine z_callS (pc := 4) (mc := 0) (ms := 0) (d' := 0) (mc' := 0) (ms' := 0) (rest := []) [.int v2, .int 0, .int 7] dX11_street_4 md_X11_within ml_X11_82 sm_X11_within rfl rfl (Nat.le_of_ble_eq_true rfl) (by omega) (k_X11_within v2 0 7 h _ rfl) ?_
  obtain ⟨m1, em1, H⟩ := zbind H
  have Jm1 : zW yX11_street cX11_street 9 (some .boolean) 2 0 0 30 [(0, .ref v0), (1, .int v1), (2, .int v2), (3, .int v3), (4, .int v4), (5, .int v5), (6, .int v6)] [.int m1] h (some (.int r.1)) r.2 := by
    refine z_istore (pc := 30) (lv' := [(7, .int m1), (0, .ref v0), (1, .int v1), (2, .int v2), (3, .int v3), (4, .int v4), (5, .int v5), (6, .int v6)]) dX11_street_30 (by decide) rfl ?_
    refine z_iload (pc := 32) 5 dX11_street_32 rfl ?_
    refine z_iconst (pc := 34) (x := 0) dX11_street_34 zc_iconst_0 ?_
    refine z_sipush (pc := 35) (x := 999) dX11_street_35 zc_sipush_999 ?_
    refine z_callS (pc := 38) (mc := 0) (ms := 0) (d' := 0) (mc' := 0) (ms' := 0) (rest := []) [.int v4, .int 0, .int 999] dX11_street_38 md_X11_within ml_X11_82 sm_X11_within rfl rfl (Nat.le_of_ble_eq_true rfl) (by omega) (k_X11_within v4 0 999 h _ rfl) ?_
    obtain ⟨m5, em5, H⟩ := zbind H
    have Jm5 : zW yX11_street cX11_street 9 (some .boolean) 2 0 0 73 [(0, .ref v0), (1, .int v1), (2, .int v2), (3, .int v3), (4, .int v4), (5, .int v5), (6, .int v6), (7, .int m1)] [.int m5] h (some (.int r.1)) r.2 := by
      refine z_istore (pc := 73) (lv' := [(8, .int m5), (0, .ref v0), (1, .int v1), (2, .int v2), (3, .int v3), (4, .int v4), (5, .int v5), (6, .int v6), (7, .int m1)]) dX11_street_73 (by decide) rfl ?_
      refine z_iload_n (pc := 75) 2 dX11_street_75 rfl rfl ?_
      refine z_iconst (pc := 76) (x := 0) dX11_street_76 zc_iconst_0 ?_
      refine z_bipush (pc := 77) (x := 7) dX11_street_77 zc_bipush_7 ?_
      refine z_callS (pc := 79) (mc := 0) (ms := 0) (d' := 0) (mc' := 0) (ms' := 0) (rest := []) [.int v1, .int 0, .int 7] dX11_street_79 md_X11_within ml_X11_82 sm_X11_within rfl rfl (Nat.le_of_ble_eq_true rfl) (by omega) (k_X11_within v1 0 7 h _ rfl) ?_
      refine z_if_eq (pc := 82) 95 dX11_street_82 (by decide) (fun c9 => ?_) (fun c9 => ?_)
      · rw [if_pos c9] at H
        refine z_iconst (pc := 95) (x := 0) dX11_street_95 zc_iconst_0 ?_
        cases H
        exact z_zreturn rfl dX11_street_96 (by decide)
      · rw [if_neg c9] at H
        refine z_iload (pc := 85) 8 dX11_street_85 rfl ?_
        refine z_if_eq (pc := 87) 95 dX11_street_87 (by decide) (fun c10 => ?_) (fun c10 => ?_)
        · rw [if_pos c10] at H
          refine z_iconst (pc := 95) (x := 0) dX11_street_95 zc_iconst_0 ?_
          cases H
          exact z_zreturn rfl dX11_street_96 (by decide)
        · rw [if_neg c10] at H
          refine z_iload (pc := 90) 0 dX11_street_90 rfl ?_
          refine z_if_ne (pc := 92) 97 dX11_street_92 (by decide) (fun c11 => ?_) (fun c11 => ?_)
          · rw [if_neg c11] at H
            refine z_aload_n (pc := 97) 1 dX11_street_97 rfl rfl ?_
            obtain ⟨r12, er12, H⟩ := zbind H
            refine z_getR (pc := 98) dX11_street_98 fd_X11_74 er12 ?_
            refine z_iload_n (pc := 101) 2 dX11_street_101 rfl rfl ?_
            refine z_iload_n (pc := 102) 3 dX11_street_102 rfl rfl ?_
            refine z_iload_n (pc := 103) 4 dX11_street_103 rfl rfl ?_
            obtain ⟨z13, H⟩ := zifE H
            obtain ⟨h14, eh14, H⟩ := zbind H
            refine z_callV (pc := 104) (mc := 0) (ms := 0) (d' := 1) (mc' := 0) (ms' := 0) (rest := []) [.int v1, .int v2, .int v3] dX11_street_104 md_X10_lay ml_X11_282 im_X10_lay se_X10_lay rfl z13 rfl rfl (Nat.le_of_ble_eq_true rfl) (by omega) (k_X10_lay eh14) ?_
            refine z_aload_n (pc := 107) 1 dX11_street_107 rfl rfl ?_
            obtain ⟨r15, er15, H⟩ := zbind H
            refine z_getR (pc := 108) dX11_street_108 fd_X11_74 er15 ?_
            refine z_iload_n (pc := 111) 2 dX11_street_111 rfl rfl ?_
            refine z_iload (pc := 112) 5 dX11_street_112 rfl ?_
            refine z_iload (pc := 114) 6 dX11_street_114 rfl ?_
            refine z_iload (pc := 116) 7 dX11_street_116 rfl ?_
            obtain ⟨z16, H⟩ := zifE H
            obtain ⟨h17, eh17, H⟩ := zbind H
            refine z_callV (pc := 118) (mc := 0) (ms := 0) (d' := 1) (mc' := 0) (ms' := 0) (rest := []) [.int v1, .int v4, .int v5, .int v6] dX11_street_118 md_X10_tellHurt ml_X11_285 im_X10_tellHurt se_X10_tellHurt rfl z16 rfl rfl (Nat.le_of_ble_eq_true rfl) (by omega) (k_X10_tellHurt eh17) ?_
            refine z_iconst (pc := 121) (x := 1) dX11_street_121 zc_iconst_1 ?_
            cases H
            exact z_zreturn rfl dX11_street_122 (by decide)
          · rw [if_pos c11] at H
            refine z_iconst (pc := 95) (x := 0) dX11_street_95 zc_iconst_0 ?_
            cases H
            exact z_zreturn rfl dX11_street_96 (by decide)
    refine z_if_eq (pc := 41) 72 dX11_street_41 (by decide) (fun c6 => ?_) (fun c6 => ?_)
    · rw [if_pos c6] at em5
      refine z_iconst (pc := 72) (x := 0) dX11_street_72 zc_iconst_0 ?_
      cases em5
      exact z_sub [1, 2, 3, 4, 5, 6, 7, 0] rfl Jm5
    · rw [if_neg c6] at em5
      refine z_iload (pc := 44) 6 dX11_street_44 rfl ?_
      refine z_iconst (pc := 46) (x := 0) dX11_street_46 zc_iconst_0 ?_
      refine z_sipush (pc := 47) (x := 999) dX11_street_47 zc_sipush_999 ?_
      refine z_callS (pc := 50) (mc := 0) (ms := 0) (d' := 0) (mc' := 0) (ms' := 0) (rest := []) [.int v5, .int 0, .int 999] dX11_street_50 md_X11_within ml_X11_82 sm_X11_within rfl rfl (Nat.le_of_ble_eq_true rfl) (by omega) (k_X11_within v5 0 999 h _ rfl) ?_
      refine z_if_eq (pc := 53) 72 dX11_street_53 (by decide) (fun c7 => ?_) (fun c7 => ?_)
      · rw [if_pos c7] at em5
        refine z_iconst (pc := 72) (x := 0) dX11_street_72 zc_iconst_0 ?_
        cases em5
        exact z_sub [1, 2, 3, 4, 5, 6, 7, 0] rfl Jm5
      · rw [if_neg c7] at em5
        refine z_iload (pc := 56) 7 dX11_street_56 rfl ?_
        refine z_iconst (pc := 58) (x := 0) dX11_street_58 zc_iconst_0 ?_
        refine z_sipush (pc := 59) (x := 999) dX11_street_59 zc_sipush_999 ?_
        refine z_callS (pc := 62) (mc := 0) (ms := 0) (d' := 0) (mc' := 0) (ms' := 0) (rest := []) [.int v6, .int 0, .int 999] dX11_street_62 md_X11_within ml_X11_82 sm_X11_within rfl rfl (Nat.le_of_ble_eq_true rfl) (by omega) (k_X11_within v6 0 999 h _ rfl) ?_
        refine z_if_eq (pc := 65) 72 dX11_street_65 (by decide) (fun c8 => ?_) (fun c8 => ?_)
        · rw [if_pos c8] at em5
          refine z_iconst (pc := 72) (x := 0) dX11_street_72 zc_iconst_0 ?_
          cases em5
          exact z_sub [1, 2, 3, 4, 5, 6, 7, 0] rfl Jm5
        · rw [if_neg c8] at em5
          refine z_iconst (pc := 68) (x := 1) dX11_street_68 zc_iconst_1 ?_
          refine z_goto (pc := 69) 73 dX11_street_69 (by decide) ?_
          cases em5
          exact z_sub [1, 2, 3, 4, 5, 6, 7, 0] rfl Jm5
  refine z_if_eq (pc := 7) 29 dX11_street_7 (by decide) (fun c2 => ?_) (fun c2 => ?_)
  · rw [if_pos c2] at em1
    refine z_iconst (pc := 29) (x := 0) dX11_street_29 zc_iconst_0 ?_
    cases em1
    exact z_sub [0, 1, 2, 3, 4, 5, 6] rfl Jm1
  · rw [if_neg c2] at em1
    refine z_iload_n (pc := 10) 3 dX11_street_10 rfl rfl ?_
    refine z_iconst (pc := 11) (x := 0) dX11_street_11 zc_iconst_0 ?_
    refine z_bipush (pc := 12) (x := 7) dX11_street_12 zc_bipush_7 ?_
    refine z_callS (pc := 14) (mc := 0) (ms := 0) (d' := 0) (mc' := 0) (ms' := 0) (rest := []) [.int v3, .int 0, .int 7] dX11_street_14 md_X11_within ml_X11_82 sm_X11_within rfl rfl (Nat.le_of_ble_eq_true rfl) (by omega) (k_X11_within v3 0 7 h _ rfl) ?_
    refine z_if_eq (pc := 17) 29 dX11_street_17 (by decide) (fun c3 => ?_) (fun c3 => ?_)
    · rw [if_pos c3] at em1
      refine z_iconst (pc := 29) (x := 0) dX11_street_29 zc_iconst_0 ?_
      cases em1
      exact z_sub [0, 1, 2, 3, 4, 5, 6] rfl Jm1
    · rw [if_neg c3] at em1
      refine z_iload_n (pc := 20) 2 dX11_street_20 rfl rfl ?_
      refine z_iload_n (pc := 21) 3 dX11_street_21 rfl rfl ?_
      refine z_icmp_eq (pc := 22) 29 dX11_street_22 (by decide) (fun c4 => ?_) (fun c4 => ?_)
      · rw [if_pos c4] at em1
        refine z_iconst (pc := 29) (x := 0) dX11_street_29 zc_iconst_0 ?_
        cases em1
        exact z_sub [0, 1, 2, 3, 4, 5, 6] rfl Jm1
      · rw [if_neg c4] at em1
        refine z_iconst (pc := 25) (x := 1) dX11_street_25 zc_iconst_1 ?_
        refine z_goto (pc := 26) 30 dX11_street_26 (by decide) ?_
        cases em1
        exact z_sub [0, 1, 2, 3, 4, 5, 6] rfl Jm1

theorem md_X10_addTrip : zMd yX10_addTrip cX10_addTrip 3 2 (some .int) := ⟨zmw (zmt_5 _ (List.mem_of_getElem? (i := 124) rfl)) rfl, zmem 126 (by decide +kernel) rfl, by decide, by decide, by decide +kernel, by decide⟩
theorem ml_X11_288 : Cond.methodLink RX11 288 yX10_addTrip ∈ zB := zmem 1192 (by decide +kernel) rfl
theorem im_X10_addTrip : Cond.instanceMethod yX10_addTrip ∈ zB := zmem 1193 (by decide +kernel) rfl
theorem se_X10_addTrip : Cond.selects yX10_addTrip.cls yX10_addTrip yX10_addTrip ∈ zB := zmem 1194 (by decide +kernel) rfl
def f_X11_trip (N : Nat) (v0 : Nat) (v1 : Int32) (v2 : Int32) (h : zH) : Option (Int32 × zH) := if (p_X11_within v1 0 7) = 0 then (some ((-1), h)) else (if (p_X11_within v2 0 7) = 0 then (some ((-1), h)) else (if v1 = v2 then (some ((-1), h)) else ((gR h v0 11 9).bind fun r4 => zif (zob h r4 10) <| (f_X10_addTrip N r4 v1 v2 h).bind fun q6 => some (q6.1, q6.2))))
set_option maxRecDepth 100000 in
set_option maxHeartbeats 4000000 in
theorem k_X11_trip {N : Nat} {v0 : Nat} {v1 : Int32} {v2 : Int32} {h : zH} {r : Int32 × zH} (H : f_X11_trip N v0 v1 v2 h = some r) : zOk 1 0 0 yX11_trip cX11_trip 3 (some .int) [.ref v0, .int v1, .int v2] h (some (.int r.1)) r.2 := by
  refine zOk.of (by decide) (Nat.le_of_ble_eq_true rfl) ?_
  unfold f_X11_trip at H
  refine z_iload_n (pc := 0) 1 dX11_trip_0 rfl rfl ?_
  refine z_iconst (pc := 1) (x := 0) dX11_trip_1 zc_iconst_0 ?_
  refine z_bipush (pc := 2) (x := 7) dX11_trip_2 zc_bipush_7 ?_
  refine z_callS (pc := 4) (mc := 0) (ms := 0) (d' := 0) (mc' := 0) (ms' := 0) (rest := []) [.int v1, .int 0, .int 7] dX11_trip_4 md_X11_within ml_X11_82 sm_X11_within rfl rfl (Nat.le_of_ble_eq_true rfl) (by omega) (k_X11_within v1 0 7 h _ rfl) ?_
  refine z_if_eq (pc := 7) 37 dX11_trip_7 (by decide) (fun c1 => ?_) (fun c1 => ?_)
  · rw [if_pos c1] at H
    refine z_iconst (pc := 37) (x := (-1)) dX11_trip_37 zc_iconst_m1 ?_
    cases H
    exact z_ireturn rfl dX11_trip_38
  · rw [if_neg c1] at H
    refine z_iload_n (pc := 10) 2 dX11_trip_10 rfl rfl ?_
    refine z_iconst (pc := 11) (x := 0) dX11_trip_11 zc_iconst_0 ?_
    refine z_bipush (pc := 12) (x := 7) dX11_trip_12 zc_bipush_7 ?_
    refine z_callS (pc := 14) (mc := 0) (ms := 0) (d' := 0) (mc' := 0) (ms' := 0) (rest := []) [.int v2, .int 0, .int 7] dX11_trip_14 md_X11_within ml_X11_82 sm_X11_within rfl rfl (Nat.le_of_ble_eq_true rfl) (by omega) (k_X11_within v2 0 7 h _ rfl) ?_
    refine z_if_eq (pc := 17) 37 dX11_trip_17 (by decide) (fun c2 => ?_) (fun c2 => ?_)
    · rw [if_pos c2] at H
      refine z_iconst (pc := 37) (x := (-1)) dX11_trip_37 zc_iconst_m1 ?_
      cases H
      exact z_ireturn rfl dX11_trip_38
    · rw [if_neg c2] at H
      refine z_iload_n (pc := 20) 1 dX11_trip_20 rfl rfl ?_
      refine z_iload_n (pc := 21) 2 dX11_trip_21 rfl rfl ?_
      refine z_icmp_eq (pc := 22) 37 dX11_trip_22 (by decide) (fun c3 => ?_) (fun c3 => ?_)
      · rw [if_pos c3] at H
        refine z_iconst (pc := 37) (x := (-1)) dX11_trip_37 zc_iconst_m1 ?_
        cases H
        exact z_ireturn rfl dX11_trip_38
      · rw [if_neg c3] at H
        refine z_aload_n (pc := 25) 0 dX11_trip_25 rfl rfl ?_
        obtain ⟨r4, er4, H⟩ := zbind H
        refine z_getR (pc := 26) dX11_trip_26 fd_X11_74 er4 ?_
        refine z_iload_n (pc := 29) 1 dX11_trip_29 rfl rfl ?_
        refine z_iload_n (pc := 30) 2 dX11_trip_30 rfl rfl ?_
        obtain ⟨z5, H⟩ := zifE H
        obtain ⟨q6, eq6, H⟩ := zbind H
        refine z_callV (pc := 31) (mc := 0) (ms := 0) (d' := 0) (mc' := 0) (ms' := 0) (rest := []) [.int v1, .int v2] dX11_trip_31 md_X10_addTrip ml_X11_288 im_X10_addTrip se_X10_addTrip rfl z5 rfl rfl (Nat.le_of_ble_eq_true rfl) (by omega) (k_X10_addTrip eq6) ?_
        refine z_goto (pc := 34) 38 dX11_trip_34 (by decide) ?_
        cases H
        exact z_ireturn rfl dX11_trip_38

theorem md_X10_bestLate : zMd yX10_bestLate cX10_bestLate 4 1 (some .int) := ⟨zmw (zmt_5 _ (List.mem_of_getElem? (i := 132) rfl)) rfl, zmem 126 (by decide +kernel) rfl, by decide, by decide, by decide +kernel, by decide⟩
theorem ml_X11_291 : Cond.methodLink RX11 291 yX10_bestLate ∈ zB := zmem 1200 (by decide +kernel) rfl
theorem im_X10_bestLate : Cond.instanceMethod yX10_bestLate ∈ zB := zmem 1201 (by decide +kernel) rfl
theorem se_X10_bestLate : Cond.selects yX10_bestLate.cls yX10_bestLate yX10_bestLate ∈ zB := zmem 1202 (by decide +kernel) rfl
theorem md_X10_doneWith : zMd yX10_doneWith cX10_doneWith 5 2 (some .int) := ⟨zmw (zmt_5 _ (List.mem_of_getElem? (i := 174) rfl)) rfl, zmem 126 (by decide +kernel) rfl, by decide, by decide, by decide +kernel, by decide⟩
theorem ml_X11_297 : Cond.methodLink RX11 297 yX10_doneWith ∈ zB := zmem 1242 (by decide +kernel) rfl
theorem im_X10_doneWith : Cond.instanceMethod yX10_doneWith ∈ zB := zmem 1243 (by decide +kernel) rfl
theorem se_X10_doneWith : Cond.selects yX10_doneWith.cls yX10_doneWith yX10_doneWith ∈ zB := zmem 1244 (by decide +kernel) rfl
theorem ml_X11_294 : Cond.methodLink RX11 294 yX10_sumWith ∈ zB := zmem 1241 (by decide +kernel) rfl
def f_X11_plan (N : Nat) (v0 : Nat) (v1 : Int32) (v2 : Int32) (h : zH) : Option (Int32 × zH) := if (p_X11_within v1 0 8) = 0 then (some ((-1), h)) else (if (p_X11_within v2 0 9) = 0 then (some ((-1), h)) else ((gR h v0 11 9).bind fun r3 => zif (zob h r3 10) <| (f_X10_bestLate N r3 v1 h).bind fun q5 => if q5.1 = (-1) then (some ((-1), q5.2)) else (if v2 = 8 then ((gR q5.2 v0 11 9).bind fun r12 => zif (zob q5.2 r12 10) <| (f_X10_sumWith N r12 q5.1 q5.2).bind fun q14 => some (q14, q5.2)) else (if v2 = 9 then (some (q5.1, q5.2)) else ((gR q5.2 v0 11 9).bind fun r9 => zif (zob q5.2 r9 10) <| (f_X10_doneWith N r9 v2 q5.1 q5.2).bind fun q11 => some (q11, q5.2))))))
set_option maxRecDepth 100000 in
set_option maxHeartbeats 4000000 in
theorem k_X11_plan {N : Nat} {v0 : Nat} {v1 : Int32} {v2 : Int32} {h : zH} {r : Int32 × zH} (H : f_X11_plan N v0 v1 v2 h = some r) : zOk 14 0 0 yX11_plan cX11_plan 4 (some .int) [.ref v0, .int v1, .int v2] h (some (.int r.1)) r.2 := by
  refine zOk.of (by decide) (Nat.le_of_ble_eq_true rfl) ?_
  unfold f_X11_plan at H
  refine z_iload_n (pc := 0) 1 dX11_plan_0 rfl rfl ?_
  refine z_iconst (pc := 1) (x := 0) dX11_plan_1 zc_iconst_0 ?_
  refine z_bipush (pc := 2) (x := 8) dX11_plan_2 zc_bipush_8 ?_
  refine z_callS (pc := 4) (mc := 0) (ms := 0) (d' := 0) (mc' := 0) (ms' := 0) (rest := []) [.int v1, .int 0, .int 8] dX11_plan_4 md_X11_within ml_X11_82 sm_X11_within rfl rfl (Nat.le_of_ble_eq_true rfl) (by omega) (k_X11_within v1 0 8 h _ rfl) ?_
  refine z_if_eq (pc := 7) 20 dX11_plan_7 (by decide) (fun c1 => ?_) (fun c1 => ?_)
  · rw [if_pos c1] at H
    refine z_iconst (pc := 20) (x := (-1)) dX11_plan_20 zc_iconst_m1 ?_
    cases H
    exact z_ireturn rfl dX11_plan_21
  · rw [if_neg c1] at H
    refine z_iload_n (pc := 10) 2 dX11_plan_10 rfl rfl ?_
    refine z_iconst (pc := 11) (x := 0) dX11_plan_11 zc_iconst_0 ?_
    refine z_bipush (pc := 12) (x := 9) dX11_plan_12 zc_bipush_9 ?_
    refine z_callS (pc := 14) (mc := 0) (ms := 0) (d' := 0) (mc' := 0) (ms' := 0) (rest := []) [.int v2, .int 0, .int 9] dX11_plan_14 md_X11_within ml_X11_82 sm_X11_within rfl rfl (Nat.le_of_ble_eq_true rfl) (by omega) (k_X11_within v2 0 9 h _ rfl) ?_
    refine z_if_ne (pc := 17) 22 dX11_plan_17 (by decide) (fun c2 => ?_) (fun c2 => ?_)
    · rw [if_neg c2] at H
      refine z_aload_n (pc := 22) 0 dX11_plan_22 rfl rfl ?_
      obtain ⟨r3, er3, H⟩ := zbind H
      refine z_getR (pc := 23) dX11_plan_23 fd_X11_74 er3 ?_
      refine z_iload_n (pc := 26) 1 dX11_plan_26 rfl rfl ?_
      obtain ⟨z4, H⟩ := zifE H
      obtain ⟨q5, eq5, H⟩ := zbind H
      refine z_callV (pc := 27) (mc := 0) (ms := 0) (d' := 13) (mc' := 0) (ms' := 0) (rest := []) [.int v1] dX11_plan_27 md_X10_bestLate ml_X11_291 im_X10_bestLate se_X10_bestLate rfl z4 rfl rfl (Nat.le_of_ble_eq_true rfl) (by omega) (k_X10_bestLate eq5) ?_
      refine z_istore_n (pc := 30) (lv' := [(3, .int q5.1), (0, .ref v0), (1, .int v1), (2, .int v2)]) dX11_plan_30 rfl (by decide) rfl ?_
      refine z_iload_n (pc := 31) 0 dX11_plan_31 rfl rfl ?_
      refine z_iconst (pc := 32) (x := (-1)) dX11_plan_32 zc_iconst_m1 ?_
      refine z_icmp_ne (pc := 33) 38 dX11_plan_33 (by decide) (fun c6 => ?_) (fun c6 => ?_)
      · rw [if_neg c6] at H
        refine z_iload_n (pc := 38) 3 dX11_plan_38 rfl rfl ?_
        refine z_bipush (pc := 39) (x := 8) dX11_plan_39 zc_bipush_8 ?_
        refine z_icmp_ne (pc := 41) 53 dX11_plan_41 (by decide) (fun c7 => ?_) (fun c7 => ?_)
        · rw [if_neg c7] at H
          refine z_iload_n (pc := 53) 3 dX11_plan_53 rfl rfl ?_
          refine z_bipush (pc := 54) (x := 9) dX11_plan_54 zc_bipush_9 ?_
          refine z_icmp_ne (pc := 56) 63 dX11_plan_56 (by decide) (fun c8 => ?_) (fun c8 => ?_)
          · rw [if_neg c8] at H
            refine z_aload_n (pc := 63) 1 dX11_plan_63 rfl rfl ?_
            obtain ⟨r9, er9, H⟩ := zbind H
            refine z_getR (pc := 64) dX11_plan_64 fd_X11_74 er9 ?_
            refine z_iload_n (pc := 67) 3 dX11_plan_67 rfl rfl ?_
            refine z_iload_n (pc := 68) 0 dX11_plan_68 rfl rfl ?_
            obtain ⟨z10, H⟩ := zifE H
            obtain ⟨q11, eq11, H⟩ := zbind H
            refine z_callV (pc := 69) (mc := 0) (ms := 0) (d' := 1) (mc' := 0) (ms' := 0) (rest := []) [.int v2, .int q5.1] dX11_plan_69 md_X10_doneWith ml_X11_297 im_X10_doneWith se_X10_doneWith rfl z10 rfl rfl (Nat.le_of_ble_eq_true rfl) (by omega) (k_X10_doneWith eq11) ?_
            cases H
            exact z_ireturn rfl dX11_plan_72
          · rw [if_pos c8] at H
            refine z_iload_n (pc := 59) 0 dX11_plan_59 rfl rfl ?_
            refine z_goto (pc := 60) 72 dX11_plan_60 (by decide) ?_
            cases H
            exact z_ireturn rfl dX11_plan_72
        · rw [if_pos c7] at H
          refine z_aload_n (pc := 44) 1 dX11_plan_44 rfl rfl ?_
          obtain ⟨r12, er12, H⟩ := zbind H
          refine z_getR (pc := 45) dX11_plan_45 fd_X11_74 er12 ?_
          refine z_iload_n (pc := 48) 0 dX11_plan_48 rfl rfl ?_
          obtain ⟨z13, H⟩ := zifE H
          obtain ⟨q14, eq14, H⟩ := zbind H
          refine z_callV (pc := 49) (mc := 0) (ms := 0) (d' := 0) (mc' := 0) (ms' := 0) (rest := []) [.int q5.1] dX11_plan_49 md_X10_sumWith ml_X11_294 im_X10_sumWith se_X10_sumWith rfl z13 rfl rfl (Nat.le_of_ble_eq_true rfl) (by omega) (k_X10_sumWith eq14) ?_
          cases H
          exact z_ireturn rfl dX11_plan_52
      · rw [if_pos c6] at H
        refine z_iconst (pc := 36) (x := (-1)) dX11_plan_36 zc_iconst_m1 ?_
        cases H
        exact z_ireturn rfl dX11_plan_37
    · rw [if_pos c2] at H
      refine z_iconst (pc := 20) (x := (-1)) dX11_plan_20 zc_iconst_m1 ?_
      cases H
      exact z_ireturn rfl dX11_plan_21

def f_X11_meetingsMet_L4 (N : Nat) (v0 : Nat) (h : zH) : Nat → Int32 → Int32 → Option (Int32)
  | 0, _, _ => none
  | n + 1, v1, v2 => (gI h v0 11 10).bind fun x1 => if x1 ≤ v2 then (some v1) else (zif (zob h v0 11) <| (f_X11_meetingOf N v0 v2 h).bind fun q4 => zopt q4 (f_X11_meetingsMet_L4 N v0 h n v1 (v2 + 1)) (fun a5 => (gI h a5 6 11).bind fun x7 => if x7 = (-1) then (f_X11_meetingsMet_L4 N v0 h n v1 (v2 + 1)) else (f_X11_meetingsMet_L4 N v0 h n (v1 + 1) (v2 + 1))))
set_option maxRecDepth 100000 in
set_option maxHeartbeats 4000000 in
theorem s_X11_meetingsMet_L4 {d mc ms N : Nat} {vv : Option Value} {hh : zH} {v0 : Nat} {h : zH} (hd0 : 1 ≤ d) : ∀ (n : Nat) (v1 : Int32) (v2 : Int32) (m : Int32), f_X11_meetingsMet_L4 N v0 h n v1 v2 = some m → (zW yX11_meetingsMet cX11_meetingsMet 4 (some .int) d mc ms 39 [(1, .int m)] [] h vv hh) → zW yX11_meetingsMet cX11_meetingsMet 4 (some .int) d mc ms 4 [(0, .ref v0), (1, .int v1), (2, .int v2)] [] h vv hh := by
  intro n
  induction n with
  | zero =>
    intro v1 v2 m H
    cases H
  | succ n ih =>
    intro v1 v2 m H KE
    unfold f_X11_meetingsMet_L4 at H
    refine z_iload_n (pc := 4) 2 dX11_meetingsMet_4 rfl rfl ?_
    refine z_aload_n (pc := 5) 0 dX11_meetingsMet_5 rfl rfl ?_
    obtain ⟨x1, ex1, H⟩ := zbind H
    refine z_getI (pc := 6) dX11_meetingsMet_6 fd_X11_89 ex1 ?_
    refine z_icmp_ge (pc := 9) 39 dX11_meetingsMet_9 (by decide) (fun c2 => ?_) (fun c2 => ?_)
    · rw [if_pos c2] at H
      cases H
      exact z_sub [1] rfl (KE)
    · rw [if_neg c2] at H
      refine z_aload_n (pc := 12) 0 dX11_meetingsMet_12 rfl rfl ?_
      refine z_iload_n (pc := 13) 2 dX11_meetingsMet_13 rfl rfl ?_
      obtain ⟨z3, H⟩ := zifE H
      obtain ⟨q4, eq4, H⟩ := zbind H
      refine z_callV (pc := 14) (mc := mc) (ms := ms) (d' := 0) (mc' := 0) (ms' := 0) (rest := []) [.int v2] dX11_meetingsMet_14 md_X11_meetingOf ml_X11_99 im_X11_meetingOf se_X11_meetingOf rfl z3 rfl rfl (Nat.le_of_ble_eq_true rfl) (by omega) (k_X11_meetingOf eq4) ?_
      refine z_astore_nQ (pc := 17) (lv' := [(3, va_rf q4), (0, .ref v0), (1, .int v1), (2, .int v2)]) dX11_meetingsMet_17 rfl (by decide) rfl ?_
      refine z_aload_nQ (pc := 18) 0 dX11_meetingsMet_18 rfl rfl ?_
      refine z_ifnull (pc := 19) 33 dX11_meetingsMet_19 (by decide) (fun c6 => ?_) (fun a5 c6 => ?_)
      · subst c6
        have H := zoptN H
        refine z_iinc (pc := 33) (x' := v2 + 1) (lv' := [(2, .int (v2 + 1)), (3, va_rf none), (0, .ref v0), (1, .int v1)]) 3 dX11_meetingsMet_33 rfl (by rfl) (by decide) rfl ?_
        refine z_goto (pc := 36) 4 dX11_meetingsMet_36 (by decide) ?_
        exact z_sub [2, 3, 0] rfl (ih v1 (v2 + 1) _ H KE)
      · subst c6
        have H := zoptS H
        refine z_sub (lv' := [(3, .ref a5), (0, .ref v0), (1, .int v1), (2, .int v2)]) [0, 1, 2, 3] rfl ?_
        refine z_aload_n (pc := 22) 0 dX11_meetingsMet_22 rfl rfl ?_
        obtain ⟨x7, ex7, H⟩ := zbind H
        refine z_getI (pc := 23) dX11_meetingsMet_23 fd_X11_115 ex7 ?_
        refine z_iconst (pc := 26) (x := (-1)) dX11_meetingsMet_26 zc_iconst_m1 ?_
        refine z_icmp_eq (pc := 27) 33 dX11_meetingsMet_27 (by decide) (fun c8 => ?_) (fun c8 => ?_)
        · rw [if_pos c8] at H
          refine z_iinc (pc := 33) (x' := v2 + 1) (lv' := [(2, .int (v2 + 1)), (3, .ref a5), (0, .ref v0), (1, .int v1)]) 3 dX11_meetingsMet_33 rfl (by rfl) (by decide) rfl ?_
          refine z_goto (pc := 36) 4 dX11_meetingsMet_36 (by decide) ?_
          exact z_sub [2, 3, 0] rfl (ih v1 (v2 + 1) _ H KE)
        · rw [if_neg c8] at H
          refine z_iinc (pc := 30) (x' := v1 + 1) (lv' := [(1, .int (v1 + 1)), (3, .ref a5), (0, .ref v0), (2, .int v2)]) 2 dX11_meetingsMet_30 rfl (by rfl) (by decide) rfl ?_
          refine z_iinc (pc := 33) (x' := v2 + 1) (lv' := [(2, .int (v2 + 1)), (1, .int (v1 + 1)), (3, .ref a5), (0, .ref v0)]) 3 dX11_meetingsMet_33 rfl (by rfl) (by decide) rfl ?_
          refine z_goto (pc := 36) 4 dX11_meetingsMet_36 (by decide) ?_
          exact z_sub [3, 1, 0] rfl (ih (v1 + 1) (v2 + 1) _ H KE)
def f_X11_meetingsMet (N : Nat) (v0 : Nat) (h : zH) : Option (Int32) := (f_X11_meetingsMet_L4 N v0 h N 0 0).bind fun m9 => some m9
set_option maxRecDepth 100000 in
set_option maxHeartbeats 4000000 in
theorem k_X11_meetingsMet {N : Nat} {v0 : Nat} {h : zH} {r : Int32} (H : f_X11_meetingsMet N v0 h = some r) : zOk 1 0 0 yX11_meetingsMet cX11_meetingsMet 4 (some .int) [.ref v0] h (some (.int r)) h := by
  refine zOk.of (by decide) (Nat.le_of_ble_eq_true rfl) ?_
  unfold f_X11_meetingsMet at H
  refine z_iconst (pc := 0) (x := 0) dX11_meetingsMet_0 zc_iconst_0 ?_
  refine z_istore_n (pc := 1) (lv' := [(1, .int 0), (0, .ref v0)]) dX11_meetingsMet_1 rfl (by decide) rfl ?_
  refine z_iconst (pc := 2) (x := 0) dX11_meetingsMet_2 zc_iconst_0 ?_
  refine z_istore_n (pc := 3) (lv' := [(2, .int 0), (1, .int 0), (0, .ref v0)]) dX11_meetingsMet_3 rfl (by decide) rfl ?_
  obtain ⟨m9, em9, H⟩ := zbind H
  refine z_sub [2, 1, 0] rfl (s_X11_meetingsMet_L4 (by omega) N 0 0 _ em9 ?_)
  refine z_iload_n (pc := 39) 0 dX11_meetingsMet_39 rfl rfl ?_
  cases H
  exact z_ireturn rfl dX11_meetingsMet_40

theorem fd_X11_300 : zFd RX11 300 1 3 (.int) false "WhoseStreet$Book" := zFd.of cl_1 (by decide) (zmem 316 (by decide +kernel) rfl) rfl rfl rfl
theorem fd_X11_303 : zFd RX11 303 0 5 (.int) false "WhoseStreet$Bench" := zFd.of cl_0 (by decide) (zmem 364 (by decide +kernel) rfl) rfl rfl rfl
theorem md_X0_toldBy : zMd yX0_toldBy cX0_toldBy 4 1 (some .int) := ⟨zmw (zmt_5 _ (List.mem_of_getElem? (i := 182) rfl)) rfl, zmem 121 (by decide +kernel) rfl, by decide, by decide, by decide +kernel, by decide⟩
theorem ml_X11_306 : Cond.methodLink RX11 306 yX0_toldBy ∈ zB := zmem 1250 (by decide +kernel) rfl
theorem im_X0_toldBy : Cond.instanceMethod yX0_toldBy ∈ zB := zmem 1251 (by decide +kernel) rfl
theorem se_X0_toldBy : Cond.selects yX0_toldBy.cls yX0_toldBy yX0_toldBy ∈ zB := zmem 1252 (by decide +kernel) rfl
theorem ml_X11_309 : Cond.methodLink RX11 309 yX2_streams ∈ zB := zmem 1254 (by decide +kernel) rfl
theorem fd_X11_312 : zFd RX11 312 10 9 (.int) false "WhoseStreet$Town" := zFd.of cl_10 (by decide) (zmem 477 (by decide +kernel) rfl) rfl rfl rfl
theorem ml_X11_315 : Cond.methodLink RX11 315 yJ6_bitCount_0f7a4 ∈ zB := zmem 1255 (by decide +kernel) rfl
theorem fd_X11_320 : zFd RX11 320 10 10 (.int) false "WhoseStreet$Town" := zFd.of cl_10 (by decide) (zmem 479 (by decide +kernel) rfl) rfl rfl rfl
theorem md_X11_meetingsMet : zMd yX11_meetingsMet cX11_meetingsMet 4 0 (some .int) := ⟨zmw (zmt_5 _ (List.mem_of_getElem? (i := 188) rfl)) rfl, zmem 112 (by decide +kernel) rfl, by decide, by decide, by decide +kernel, by decide⟩
theorem ml_X11_323 : Cond.methodLink RX11 323 yX11_meetingsMet ∈ zB := zmem 1256 (by decide +kernel) rfl
theorem im_X11_meetingsMet : Cond.instanceMethod yX11_meetingsMet ∈ zB := zmem 1258 (by decide +kernel) rfl
theorem se_X11_meetingsMet : Cond.selects yX11_meetingsMet.cls yX11_meetingsMet yX11_meetingsMet ∈ zB := zmem 58 (by decide +kernel) rfl
def f_X11_count (N : Nat) (v0 : Nat) (v1 : Int32) (h : zH) : Option (Int32) := if v1 = 0 then ((gI h v0 11 11).bind fun x2 => some x2) else (if v1 = 1 then (zif (zob h v0 11) <| (f_X11_viewNow N v0 h).bind fun q5 => some q5) else (if v1 = 2 then ((gI h v0 11 10).bind fun x7 => some x7) else (if v1 = 3 then ((gR h v0 11 4).bind fun r9 => (gI h r9 1 3).bind fun x10 => some x10) else (if v1 = 4 then ((gR h v0 11 5).bind fun r12 => (gI h r12 0 5).bind fun x13 => some x13) else (if v1 = 5 then ((gR h v0 11 5).bind fun r15 => zif (zob h v0 11) <| (f_X11_viewNow N v0 h).bind fun q17 => zif (zob h r15 0) <| (f_X0_toldBy N r15 q17 h).bind fun q19 => some q19) else (if v1 = 6 then ((gR h v0 11 2).bind fun r21 => (gI h r21 9 2).bind fun x22 => some x22) else (if v1 = 7 then ((gR h v0 11 6).bind fun r24 => zif (zob h r24 2) <| (f_X2_streams N r24 h).bind fun q26 => some q26) else (if v1 = 8 then ((gR h v0 11 7).bind fun r28 => (gI h r28 3 6).bind fun x29 => some x29) else (if v1 = 9 then ((gR h v0 11 9).bind fun r31 => (gI h r31 10 9).bind fun x32 => some (p_J6_bitCount_0f7a4 x32)) else (if v1 = 10 then ((gR h v0 11 9).bind fun r34 => (gI h r34 10 10).bind fun x35 => some x35) else (if v1 = 11 then (zif (zob h v0 11) <| (f_X11_meetingsMet N v0 h).bind fun q38 => some q38) else (some (-1)))))))))))))
set_option maxRecDepth 100000 in
set_option maxHeartbeats 4000000 in
theorem k_X11_count {N : Nat} {v0 : Nat} {v1 : Int32} {h : zH} {r : Int32} (H : f_X11_count N v0 v1 h = some r) : zOk 3 0 0 yX11_count cX11_count 2 (some .int) [.ref v0, .int v1] h (some (.int r)) h := by
  refine zOk.of (by decide) (Nat.le_of_ble_eq_true rfl) ?_
  unfold f_X11_count at H
  refine z_iload_n (pc := 0) 1 dX11_count_0 rfl rfl ?_
  by_cases c1 : v1 = 0
  · rw [if_pos c1] at H
    refine z_tswIn (pc := 1) (off := 63) 64 dX11_count_1 (by rw [c1]; decide) (by rw [c1]; decide) (by rw [c1]; decide) (by decide) ?_
    refine z_aload_n (pc := 64) 0 dX11_count_64 rfl rfl ?_
    obtain ⟨x2, ex2, H⟩ := zbind H
    refine z_getI (pc := 65) dX11_count_65 fd_X11_86 ex2 ?_
    cases H
    exact z_ireturn rfl dX11_count_68
  rw [if_neg c1] at H
  by_cases c3 : v1 = 1
  · rw [if_pos c3] at H
    refine z_tswIn (pc := 1) (off := 68) 69 dX11_count_1 (by rw [c3]; decide) (by rw [c3]; decide) (by rw [c3]; decide) (by decide) ?_
    refine z_aload_n (pc := 69) 0 dX11_count_69 rfl rfl ?_
    obtain ⟨z4, H⟩ := zifE H
    obtain ⟨q5, eq5, H⟩ := zbind H
    refine z_callV (pc := 70) (mc := 0) (ms := 0) (d' := 0) (mc' := 0) (ms' := 0) (rest := []) [] dX11_count_70 md_X11_viewNow ml_X11_189 im_X11_viewNow se_X11_viewNow rfl z4 rfl rfl (Nat.le_of_ble_eq_true rfl) (by omega) (k_X11_viewNow eq5) ?_
    cases H
    exact z_ireturn rfl dX11_count_73
  rw [if_neg c3] at H
  by_cases c6 : v1 = 2
  · rw [if_pos c6] at H
    refine z_tswIn (pc := 1) (off := 73) 74 dX11_count_1 (by rw [c6]; decide) (by rw [c6]; decide) (by rw [c6]; decide) (by decide) ?_
    refine z_aload_n (pc := 74) 0 dX11_count_74 rfl rfl ?_
    obtain ⟨x7, ex7, H⟩ := zbind H
    refine z_getI (pc := 75) dX11_count_75 fd_X11_89 ex7 ?_
    cases H
    exact z_ireturn rfl dX11_count_78
  rw [if_neg c6] at H
  by_cases c8 : v1 = 3
  · rw [if_pos c8] at H
    refine z_tswIn (pc := 1) (off := 78) 79 dX11_count_1 (by rw [c8]; decide) (by rw [c8]; decide) (by rw [c8]; decide) (by decide) ?_
    refine z_aload_n (pc := 79) 0 dX11_count_79 rfl rfl ?_
    obtain ⟨r9, er9, H⟩ := zbind H
    refine z_getR (pc := 80) dX11_count_80 fd_X11_39 er9 ?_
    obtain ⟨x10, ex10, H⟩ := zbind H
    refine z_getI (pc := 83) dX11_count_83 fd_X11_300 ex10 ?_
    cases H
    exact z_ireturn rfl dX11_count_86
  rw [if_neg c8] at H
  by_cases c11 : v1 = 4
  · rw [if_pos c11] at H
    refine z_tswIn (pc := 1) (off := 86) 87 dX11_count_1 (by rw [c11]; decide) (by rw [c11]; decide) (by rw [c11]; decide) (by decide) ?_
    refine z_aload_n (pc := 87) 0 dX11_count_87 rfl rfl ?_
    obtain ⟨r12, er12, H⟩ := zbind H
    refine z_getR (pc := 88) dX11_count_88 fd_X11_46 er12 ?_
    obtain ⟨x13, ex13, H⟩ := zbind H
    refine z_getI (pc := 91) dX11_count_91 fd_X11_303 ex13 ?_
    cases H
    exact z_ireturn rfl dX11_count_94
  rw [if_neg c11] at H
  by_cases c14 : v1 = 5
  · rw [if_pos c14] at H
    refine z_tswIn (pc := 1) (off := 94) 95 dX11_count_1 (by rw [c14]; decide) (by rw [c14]; decide) (by rw [c14]; decide) (by decide) ?_
    refine z_aload_n (pc := 95) 0 dX11_count_95 rfl rfl ?_
    obtain ⟨r15, er15, H⟩ := zbind H
    refine z_getR (pc := 96) dX11_count_96 fd_X11_46 er15 ?_
    refine z_aload_n (pc := 99) 0 dX11_count_99 rfl rfl ?_
    obtain ⟨z16, H⟩ := zifE H
    obtain ⟨q17, eq17, H⟩ := zbind H
    refine z_callV (pc := 100) (mc := 0) (ms := 0) (d' := 0) (mc' := 0) (ms' := 0) (rest := [.ref r15]) [] dX11_count_100 md_X11_viewNow ml_X11_189 im_X11_viewNow se_X11_viewNow rfl z16 rfl rfl (Nat.le_of_ble_eq_true rfl) (by omega) (k_X11_viewNow eq17) ?_
    obtain ⟨z18, H⟩ := zifE H
    obtain ⟨q19, eq19, H⟩ := zbind H
    refine z_callV (pc := 103) (mc := 0) (ms := 0) (d' := 0) (mc' := 0) (ms' := 0) (rest := []) [.int q17] dX11_count_103 md_X0_toldBy ml_X11_306 im_X0_toldBy se_X0_toldBy rfl z18 rfl rfl (Nat.le_of_ble_eq_true rfl) (by omega) (k_X0_toldBy eq19) ?_
    cases H
    exact z_ireturn rfl dX11_count_106
  rw [if_neg c14] at H
  by_cases c20 : v1 = 6
  · rw [if_pos c20] at H
    refine z_tswIn (pc := 1) (off := 106) 107 dX11_count_1 (by rw [c20]; decide) (by rw [c20]; decide) (by rw [c20]; decide) (by decide) ?_
    refine z_aload_n (pc := 107) 0 dX11_count_107 rfl rfl ?_
    obtain ⟨r21, er21, H⟩ := zbind H
    refine z_getR (pc := 108) dX11_count_108 fd_X11_25 er21 ?_
    obtain ⟨x22, ex22, H⟩ := zbind H
    refine z_getI (pc := 111) dX11_count_111 fd_X11_165 ex22 ?_
    cases H
    exact z_ireturn rfl dX11_count_114
  rw [if_neg c20] at H
  by_cases c23 : v1 = 7
  · rw [if_pos c23] at H
    refine z_tswIn (pc := 1) (off := 114) 115 dX11_count_1 (by rw [c23]; decide) (by rw [c23]; decide) (by rw [c23]; decide) (by decide) ?_
    refine z_aload_n (pc := 115) 0 dX11_count_115 rfl rfl ?_
    obtain ⟨r24, er24, H⟩ := zbind H
    refine z_getR (pc := 116) dX11_count_116 fd_X11_53 er24 ?_
    obtain ⟨z25, H⟩ := zifE H
    obtain ⟨q26, eq26, H⟩ := zbind H
    refine z_callV (pc := 119) (mc := 0) (ms := 0) (d' := 2) (mc' := 0) (ms' := 0) (rest := []) [] dX11_count_119 md_X2_streams ml_X11_309 im_X2_streams se_X2_streams rfl z25 rfl rfl (Nat.le_of_ble_eq_true rfl) (by omega) (k_X2_streams eq26) ?_
    cases H
    exact z_ireturn rfl dX11_count_122
  rw [if_neg c23] at H
  by_cases c27 : v1 = 8
  · rw [if_pos c27] at H
    refine z_tswIn (pc := 1) (off := 122) 123 dX11_count_1 (by rw [c27]; decide) (by rw [c27]; decide) (by rw [c27]; decide) (by decide) ?_
    refine z_aload_n (pc := 123) 0 dX11_count_123 rfl rfl ?_
    obtain ⟨r28, er28, H⟩ := zbind H
    refine z_getR (pc := 124) dX11_count_124 fd_X11_60 er28 ?_
    obtain ⟨x29, ex29, H⟩ := zbind H
    refine z_getI (pc := 127) dX11_count_127 fd_X11_261 ex29 ?_
    cases H
    exact z_ireturn rfl dX11_count_130
  rw [if_neg c27] at H
  by_cases c30 : v1 = 9
  · rw [if_pos c30] at H
    refine z_tswIn (pc := 1) (off := 130) 131 dX11_count_1 (by rw [c30]; decide) (by rw [c30]; decide) (by rw [c30]; decide) (by decide) ?_
    refine z_aload_n (pc := 131) 0 dX11_count_131 rfl rfl ?_
    obtain ⟨r31, er31, H⟩ := zbind H
    refine z_getR (pc := 132) dX11_count_132 fd_X11_74 er31 ?_
    obtain ⟨x32, ex32, H⟩ := zbind H
    refine z_getI (pc := 135) dX11_count_135 fd_X11_312 ex32 ?_
    refine z_callS (pc := 138) (mc := 0) (ms := 0) (d' := 0) (mc' := 0) (ms' := 0) (rest := []) [.int x32] dX11_count_138 md_J6_bitCount_0f7a4 ml_X11_315 sm_J6_bitCount_0f7a4 rfl rfl (Nat.le_of_ble_eq_true rfl) (by omega) (k_J6_bitCount_0f7a4 x32 h _ rfl) ?_
    cases H
    exact z_ireturn rfl dX11_count_141
  rw [if_neg c30] at H
  by_cases c33 : v1 = 10
  · rw [if_pos c33] at H
    refine z_tswIn (pc := 1) (off := 141) 142 dX11_count_1 (by rw [c33]; decide) (by rw [c33]; decide) (by rw [c33]; decide) (by decide) ?_
    refine z_aload_n (pc := 142) 0 dX11_count_142 rfl rfl ?_
    obtain ⟨r34, er34, H⟩ := zbind H
    refine z_getR (pc := 143) dX11_count_143 fd_X11_74 er34 ?_
    obtain ⟨x35, ex35, H⟩ := zbind H
    refine z_getI (pc := 146) dX11_count_146 fd_X11_320 ex35 ?_
    cases H
    exact z_ireturn rfl dX11_count_149
  rw [if_neg c33] at H
  by_cases c36 : v1 = 11
  · rw [if_pos c36] at H
    refine z_tswIn (pc := 1) (off := 149) 150 dX11_count_1 (by rw [c36]; decide) (by rw [c36]; decide) (by rw [c36]; decide) (by decide) ?_
    refine z_aload_n (pc := 150) 0 dX11_count_150 rfl rfl ?_
    obtain ⟨z37, H⟩ := zifE H
    obtain ⟨q38, eq38, H⟩ := zbind H
    refine z_callV (pc := 151) (mc := 0) (ms := 0) (d' := 1) (mc' := 0) (ms' := 0) (rest := []) [] dX11_count_151 md_X11_meetingsMet ml_X11_323 im_X11_meetingsMet se_X11_meetingsMet rfl z37 rfl rfl (Nat.le_of_ble_eq_true rfl) (by omega) (k_X11_meetingsMet eq38) ?_
    cases H
    exact z_ireturn rfl dX11_count_154
  rw [if_neg c36] at H
  refine z_tswOut (pc := 1) 155 dX11_count_1 (by have := lv_neT (a := 0) c1 (by decide); have := lv_neT (a := 1) c3 (by decide); have := lv_neT (a := 2) c6 (by decide); have := lv_neT (a := 3) c8 (by decide); have := lv_neT (a := 4) c11 (by decide); have := lv_neT (a := 5) c14 (by decide); have := lv_neT (a := 6) c20 (by decide); have := lv_neT (a := 7) c23 (by decide); have := lv_neT (a := 8) c27 (by decide); have := lv_neT (a := 9) c30 (by decide); have := lv_neT (a := 10) c33 (by decide); have := lv_neT (a := 11) c36 (by decide); omega) (by decide) ?_
  refine z_iconst (pc := 155) (x := (-1)) dX11_count_155 zc_iconst_m1 ?_
  cases H
  exact z_ireturn rfl dX11_count_156

theorem fd_X12_11 : zFd RX12 11 12 2 (.int) false "WhoseStreetModel" := zFd.of cl_12 (by decide) (zmem 1372 (by decide +kernel) rfl) rfl rfl rfl
theorem fd_X12_14 : zFd RX12 14 12 1 (.array .int) true "WhoseStreetModel" := zFd.of cl_12 (by decide) (zmem 1371 (by decide +kernel) rfl) rfl rfl rfl
def f_X12_lay_L3 (N : Nat) (v0 : Nat) (v1 : Int64) : Nat → Int32 → zH → Option (zH)
  | 0, _, _ => none
  | n + 1, v3, h => if v3 < 0 then (some h) else (zlet (((v1 >>> (v3.toInt64 &&& 63)).toInt32) &&& 255 : Int32) fun x2 => (if x2 = 10 then (some (.inl v3)) else (if x2 < 32 then ((f_X12_lay_L3 N v0 v1 n (v3 + (-8)) h).map .inr) else (if 126 < x2 then ((f_X12_lay_L3 N v0 v1 n (v3 + (-8)) h).map .inr) else (some (.inl v3)))) : Option ((Int32) ⊕ (zH))).bind fun m3 => zsum m3 fun s4 => (gI h v0 12 2).bind fun x10 => if 1000 ≤ x10 then (f_X12_lay_L3 N v0 v1 n (s4 + (-8)) h) else ((gR h v0 12 1).bind fun r12 => (gI h v0 12 2).bind fun x13 => (sI h r12 x13 x2).bind fun h14 => (gI h14 v0 12 2).bind fun x15 => (pF h14 v0 12 2 (.int (x15 + 1))).bind fun h16 => f_X12_lay_L3 N v0 v1 n (s4 + (-8)) h16))
set_option maxRecDepth 100000 in
set_option maxHeartbeats 4000000 in
theorem s_X12_lay_L3 {d mc ms N : Nat} {vv : Option Value} {hh : zH} {v0 : Nat} {v1 : Int64} (hd0 : 0 ≤ d) : ∀ (n : Nat) (v3 : Int32) (h : zH) (m : zH), f_X12_lay_L3 N v0 v1 n v3 h = some m → (zW yX12_lay cX12_lay 5 none d mc ms 75 [] [] m vv hh) → zW yX12_lay cX12_lay 5 none d mc ms 3 [(0, .ref v0), (1, .long v1), (3, .int v3)] [] h vv hh := by
  intro n
  induction n with
  | zero =>
    intro v3 h m H
    cases H
  | succ n ih =>
    intro v3 h m H KE
    unfold f_X12_lay_L3 at H
    refine z_iload_n (pc := 3) 2 dX12_lay_3 rfl rfl ?_
    refine z_if_lt (pc := 4) 75 dX12_lay_4 (by decide) (fun c1 => ?_) (fun c1 => ?_)
    · rw [if_pos c1] at H
      cases H
      exact z_sub [] rfl (KE)
    · rw [if_neg c1] at H
      refine z_lload_n (pc := 7) 1 dX12_lay_7 rfl rfl ?_
      refine z_iload_n (pc := 8) 2 dX12_lay_8 rfl rfl ?_
      refine z_lshr (pc := 9) dX12_lay_9 ?_
      refine z_l2i (pc := 10) dX12_lay_10 ?_
      refine z_sipush (pc := 11) (x := 255) dX12_lay_11 zc_sipush_255 ?_
      refine z_iand (pc := 14) dX12_lay_14 ?_
      obtain ⟨x2, ex2, H⟩ := zletE H
      refine z_nmI ex2 ?_
      refine z_istore (pc := 15) (lv' := [(4, .int x2), (0, .ref v0), (1, .long v1), (3, .int v3)]) dX12_lay_15 (by decide) rfl ?_
      refine z_iload (pc := 17) 0 dX12_lay_17 rfl ?_
      refine z_bipush (pc := 19) (x := 10) dX12_lay_19 zc_bipush_10 ?_
      obtain ⟨m3, em3, H⟩ := zbind H
      have Jm3 : ∀ s4, m3 = .inl s4 → zW yX12_lay cX12_lay 5 none d mc ms 38 [(0, .ref v0), (1, .long v1), (3, .int s4), (4, .int x2)] [] h vv hh := by
        intro s4 e9
        subst e9
        have H := zsumL H
        refine z_aload_n (pc := 38) 0 dX12_lay_38 rfl rfl ?_
        obtain ⟨x10, ex10, H⟩ := zbind H
        refine z_getI (pc := 39) dX12_lay_39 fd_X12_11 ex10 ?_
        refine z_sipush (pc := 42) (x := 1000) dX12_lay_42 zc_sipush_1000 ?_
        refine z_icmp_ge (pc := 45) 69 dX12_lay_45 (by decide) (fun c11 => ?_) (fun c11 => ?_)
        · rw [if_pos c11] at H
          refine z_iinc (pc := 69) (x' := s4 + (-8)) (lv' := [(3, .int (s4 + (-8))), (0, .ref v0), (1, .long v1), (4, .int x2)]) 2 dX12_lay_69 rfl (by rfl) (by decide) rfl ?_
          refine z_goto (pc := 72) 3 dX12_lay_72 (by decide) ?_
          exact z_sub [1, 2, 0] rfl (ih (s4 + (-8)) h _ H KE)
        · rw [if_neg c11] at H
          refine z_aload_n (pc := 48) 0 dX12_lay_48 rfl rfl ?_
          obtain ⟨r12, er12, H⟩ := zbind H
          refine z_getR (pc := 49) dX12_lay_49 fd_X12_14 er12 ?_
          refine z_aload_n (pc := 52) 0 dX12_lay_52 rfl rfl ?_
          obtain ⟨x13, ex13, H⟩ := zbind H
          refine z_getI (pc := 53) dX12_lay_53 fd_X12_11 ex13 ?_
          refine z_iload (pc := 56) 3 dX12_lay_56 rfl ?_
          obtain ⟨h14, eh14, H⟩ := zbind H
          refine z_iastore (pc := 58) dX12_lay_58 eh14 ?_
          refine z_aload_n (pc := 59) 0 dX12_lay_59 rfl rfl ?_
          refine z_dup (pc := 60) dX12_lay_60 rfl ?_
          obtain ⟨x15, ex15, H⟩ := zbind H
          refine z_getI (pc := 61) dX12_lay_61 fd_X12_11 ex15 ?_
          refine z_iconst (pc := 64) (x := 1) dX12_lay_64 zc_iconst_1 ?_
          refine z_iadd (pc := 65) dX12_lay_65 ?_
          obtain ⟨h16, eh16, H⟩ := zbind H
          refine z_put (pc := 66) dX12_lay_66 fd_X12_11 rfl rfl eh16 ?_
          refine z_iinc (pc := 69) (x' := s4 + (-8)) (lv' := [(3, .int (s4 + (-8))), (0, .ref v0), (1, .long v1), (4, .int x2)]) 2 dX12_lay_69 rfl (by rfl) (by decide) rfl ?_
          refine z_goto (pc := 72) 3 dX12_lay_72 (by decide) ?_
          exact z_sub [1, 2, 0] rfl (ih (s4 + (-8)) h16 _ H KE)
      refine z_icmp_eq (pc := 21) 38 dX12_lay_21 (by decide) (fun c5 => ?_) (fun c5 => ?_)
      · rw [if_pos c5] at em3
        cases em3
        exact z_sub [1, 2, 3, 0] rfl (Jm3 _ rfl)
      · rw [if_neg c5] at em3
        refine z_iload (pc := 24) 0 dX12_lay_24 rfl ?_
        refine z_bipush (pc := 26) (x := 32) dX12_lay_26 zc_bipush_32 ?_
        refine z_icmp_lt (pc := 28) 69 dX12_lay_28 (by decide) (fun c6 => ?_) (fun c6 => ?_)
        · rw [if_pos c6] at em3
          refine z_iinc (pc := 69) (x' := v3 + (-8)) (lv' := [(3, .int (v3 + (-8))), (4, .int x2), (0, .ref v0), (1, .long v1)]) 3 dX12_lay_69 rfl (by rfl) (by decide) rfl ?_
          refine z_goto (pc := 72) 3 dX12_lay_72 (by decide) ?_
          obtain ⟨o7, H9, e9⟩ := zmapR em3
          subst e9
          have H9 := H9.trans (zsumR H)
          exact z_sub [2, 3, 0] rfl (ih (v3 + (-8)) h _ H9 KE)
        · rw [if_neg c6] at em3
          refine z_iload (pc := 31) 0 dX12_lay_31 rfl ?_
          refine z_bipush (pc := 33) (x := 126) dX12_lay_33 zc_bipush_126 ?_
          refine z_icmp_gt (pc := 35) 69 dX12_lay_35 (by decide) (fun c8 => ?_) (fun c8 => ?_)
          · rw [if_pos c8] at em3
            refine z_iinc (pc := 69) (x' := v3 + (-8)) (lv' := [(3, .int (v3 + (-8))), (4, .int x2), (0, .ref v0), (1, .long v1)]) 3 dX12_lay_69 rfl (by rfl) (by decide) rfl ?_
            refine z_goto (pc := 72) 3 dX12_lay_72 (by decide) ?_
            obtain ⟨o9, H9, e9⟩ := zmapR em3
            subst e9
            have H9 := H9.trans (zsumR H)
            exact z_sub [2, 3, 0] rfl (ih (v3 + (-8)) h _ H9 KE)
          · rw [if_neg c8] at em3
            cases em3
            exact z_sub [1, 2, 3, 0] rfl (Jm3 _ rfl)
def f_X12_lay (N : Nat) (v0 : Nat) (v1 : Int64) (h : zH) : Option (zH) := (f_X12_lay_L3 N v0 v1 N 56 h).bind fun m17 => some m17
set_option maxRecDepth 100000 in
set_option maxHeartbeats 4000000 in
theorem k_X12_lay {N : Nat} {v0 : Nat} {v1 : Int64} {h : zH} {r : zH} (H : f_X12_lay N v0 v1 h = some r) : zOk 0 0 0 yX12_lay cX12_lay 5 none [.ref v0, .long v1] h none r := by
  refine zOk.of (by decide) (Nat.le_of_ble_eq_true rfl) ?_
  unfold f_X12_lay at H
  refine z_bipush (pc := 0) (x := 56) dX12_lay_0 zc_bipush_56 ?_
  refine z_istore_n (pc := 2) (lv' := [(3, .int 56), (0, .ref v0), (1, .long v1)]) dX12_lay_2 rfl (by decide) rfl ?_
  obtain ⟨m17, em17, H⟩ := zbind H
  refine z_sub [1, 2, 0] rfl (s_X12_lay_L3 (by omega) N 56 h _ em17 ?_)
  cases H
  exact z_return rfl dX12_lay_75

