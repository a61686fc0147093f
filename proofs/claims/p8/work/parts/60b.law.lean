def c_L_init (N v0 : Nat) (h : zH) : Option (Nat × Nat × Nat × zH) := zlet (znew h (.inr (11, [.null, .null, .null, .null, .null, .null, .null, .null, .null, .null, .int 0, .int 0, .int 0])) : zH) fun h1 => (f_X11_init N h.1.1 h1).bind fun h2 => zlet (znew h2 (.inr (12, [.int 0, .null, .int 0, .int 0, .null, .null, .null, .int 0, .int 0, .null, .int 0, .null, .null, .null, .null, .null, .null, .int 0, .null, .int 0, .null, .null, .null, .null, .null, .int 0, .int 0, .int 0, .null, .null, .null, .null, .null, .null, .null, .null, .null, .null, .null, .null, .null, .null, .int 0, .int 0, .int 0, .int 0, .int 0, .int 0, .int 0, .int 0, .null, .null, .null, .null, .null, .null, .null, .null, .null, .null, .null, .null, .null, .int 0, .int 0, .int 0, .null, .int 0, .null, .null, .null, .null, .null, .null, .null, .null, .int 0, .null, .null, .null])) : zH) fun h3 => (f_X12_init N h2.1.1 h3).bind fun h4 => zlet (znew h4 (zblank 1 1) : zH) fun h5 => some (h.1.1, h2.1.1, h4.1.1, h5)
set_option maxRecDepth 100000 in
set_option maxHeartbeats 4000000 in
theorem kc_L_init {N d mc ms v0 : Nat} {h : zH} {r : Nat × Nat × Nat × zH} {vv : Option Value} {hh : zH} (hd0 : 6 ≤ d) (H : c_L_init N v0 h = some r) (K : zW yL_law cL_law 7 (some .boolean) d mc ms 23 [(0, .ref v0), (1, .ref r.1), (2, .ref r.2.1), (3, .ref r.2.2.1), (4, .int 0)] [] r.2.2.2 vv hh) : zW yL_law cL_law 7 (some .boolean) d (mc + 100) (ms + 53871) 0 [(0, .ref v0)] [] h vv hh := by
  unfold c_L_init at H
  refine z_new (pc := 0) (mc := (mc + 99)) (ms := (ms + 53858)) (N := 13) [.null, .null, .null, .null, .null, .null, .null, .null, .null, .null, .int 0, .int 0, .int 0] dL_law_0 cl_11 ck_L_8 in_X11 it_X11 (by decide +kernel) ?_
  obtain ⟨h1, eh1, H⟩ := zletE H
  refine z_nmH eh1 ?_
  refine z_dup (pc := 3) dL_law_3 rfl ?_
  obtain ⟨h2, eh2, H⟩ := zbind H
  refine z_callI (pc := 4) (mc := (mc + 58)) (ms := (ms + 49181)) (d' := 5) (mc' := 41) (ms' := 4677) (rest := [.ref h.1.1]) [] dL_law_4 md_X11_init ml_L_15 im_X11_init rfl rfl rfl (Nat.le_of_ble_eq_true rfl) (by omega) (k_X11_init eh2) ?_
  refine z_astore_n (pc := 7) (lv' := [(1, .ref h.1.1), (0, .ref v0)]) dL_law_7 rfl (by decide) rfl ?_
  refine z_new (pc := 8) (mc := (mc + 57)) (ms := (ms + 49101)) (N := 80) [.int 0, .null, .int 0, .int 0, .null, .null, .null, .int 0, .int 0, .null, .int 0, .null, .null, .null, .null, .null, .null, .int 0, .null, .int 0, .null, .null, .null, .null, .null, .int 0, .int 0, .int 0, .null, .null, .null, .null, .null, .null, .null, .null, .null, .null, .null, .null, .null, .null, .int 0, .int 0, .int 0, .int 0, .int 0, .int 0, .int 0, .int 0, .null, .null, .null, .null, .null, .null, .null, .null, .null, .null, .null, .null, .null, .int 0, .int 0, .int 0, .null, .int 0, .null, .null, .null, .null, .null, .null, .null, .null, .int 0, .null, .null, .null] dL_law_8 cl_12 ck_L_16 in_X12 it_X12 (by decide +kernel) ?_
  obtain ⟨h3, eh3, H⟩ := zletE H
  refine z_nmH eh3 ?_
  refine z_dup (pc := 11) dL_law_11 rfl ?_
  obtain ⟨h4, eh4, H⟩ := zbind H
  refine z_callI (pc := 12) (mc := (mc + 1)) (ms := (ms + 1)) (d' := 1) (mc' := 56) (ms' := 49100) (rest := [.ref h2.1.1]) [] dL_law_12 md_X12_init ml_L_18 im_X12_init rfl rfl rfl (Nat.le_of_ble_eq_true rfl) (by omega) (k_X12_init eh4) ?_
  refine z_astore_n (pc := 15) (lv' := [(2, .ref h2.1.1), (1, .ref h.1.1), (0, .ref v0)]) dL_law_15 rfl (by decide) rfl ?_
  refine z_iconst (pc := 16) (x := 1) dL_law_16 zc_iconst_1 ?_
  refine z_newarray (pc := 17) (mc := mc) (ms := ms) (N := 1) 1 (by decide) dL_law_17 rfl ac_long (by decide) (by decide) (by decide) ?_
  obtain ⟨h5, eh5, H⟩ := zletE H
  refine z_nmH eh5 ?_
  refine z_astore_n (pc := 19) (lv' := [(3, .ref h4.1.1), (2, .ref h2.1.1), (1, .ref h.1.1), (0, .ref v0)]) dL_law_19 rfl (by decide) rfl ?_
  refine z_iconst (pc := 20) (x := 0) dL_law_20 zc_iconst_0 ?_
  refine z_istore (pc := 21) (lv' := [(4, .int 0), (3, .ref h4.1.1), (2, .ref h2.1.1), (1, .ref h.1.1), (0, .ref v0)]) dL_law_21 (by decide) rfl ?_
  cases H
  exact z_mono (Nat.le_refl _) (by omega) (by omega) (z_sub [4, 3, 2, 1, 0] rfl K)
def c_L_head (v0 : Nat) (v4 : Int32) (h : zH) : Option (Option Int32) := (aN h v0).bind fun x1 => if (x1 - 8) < v4 then (some none) else ((aI h v0 v4).bind fun x3 => some (some (x3 &&& 31)))
set_option maxRecDepth 100000 in
set_option maxHeartbeats 4000000 in
theorem kc_L_head {d mc ms v0 v1 v2 v3 : Nat} {v4 : Int32} {h : zH} {r : Option Int32} {vv : Option Value} {hh : zH} (H : c_L_head v0 v4 h = some r) (K0 : r = none → zW yL_law cL_law 7 (some .boolean) d mc ms 1476 [(0, .ref v0), (1, .ref v1), (2, .ref v2), (3, .ref v3), (4, .int v4)] [] h vv hh) (K1 : ∀ o, r = some o → zW yL_law cL_law 7 (some .boolean) d mc ms 40 [(0, .ref v0), (1, .ref v1), (2, .ref v2), (3, .ref v3), (4, .int v4)] [.int o] h vv hh) : zW yL_law cL_law 7 (some .boolean) d mc ms 23 [(0, .ref v0), (1, .ref v1), (2, .ref v2), (3, .ref v3), (4, .int v4)] [] h vv hh := by
  unfold c_L_head at H
  refine z_iload (pc := 23) 4 dL_law_23 rfl ?_
  refine z_aload_n (pc := 25) 0 dL_law_25 rfl rfl ?_
  obtain ⟨x1, ex1, H⟩ := zbind H
  refine z_alen (pc := 26) dL_law_26 ex1 ?_
  refine z_bipush (pc := 27) (x := 8) dL_law_27 zc_bipush_8 ?_
  refine z_isub (pc := 29) dL_law_29 ?_
  refine z_icmp_gt (pc := 30) 1476 dL_law_30 (by decide) (fun c2 => ?_) (fun c2 => ?_)
  · rw [if_pos c2] at H
    cases H
    exact z_sub [0, 1, 2, 3, 4] rfl (K0 rfl)
  · rw [if_neg c2] at H
    refine z_aload_n (pc := 33) 0 dL_law_33 rfl rfl ?_
    refine z_iload (pc := 34) 4 dL_law_34 rfl ?_
    obtain ⟨x3, ex3, H⟩ := zbind H
    refine z_iaload (pc := 36) dL_law_36 ex3 ?_
    refine z_bipush (pc := 37) (x := 31) dL_law_37 zc_bipush_31 ?_
    refine z_iand (pc := 39) dL_law_39 ?_
    cases H
    exact z_sub [0, 1, 2, 3, 4] rfl (K1 _ rfl)
theorem kc_L_step {d mc ms v0 v1 v2 v3 : Nat} {v4 : Int32} {h : zH} {vv : Option Value} {hh : zH} (K : zW yL_law cL_law 7 (some .boolean) d mc ms 23 [(0, .ref v0), (1, .ref v1), (2, .ref v2), (3, .ref v3), (4, .int (v4 + 8))] [] h vv hh) : zW yL_law cL_law 7 (some .boolean) d mc ms 1470 [(0, .ref v0), (1, .ref v1), (2, .ref v2), (3, .ref v3), (4, .int v4)] [] h vv hh := by
  refine z_iinc (pc := 1470) (x' := v4 + 8) (lv' := [(4, .int (v4 + 8)), (0, .ref v0), (1, .ref v1), (2, .ref v2), (3, .ref v3)]) 4 dL_law_1470 rfl (by rfl) (by decide) rfl ?_
  refine z_goto (pc := 1473) 23 dL_law_1473 (by decide) ?_
  exact z_sub [1, 2, 3, 4, 0] rfl K
theorem kc_L_end {d mc ms : Nat} {lv : List (Nat × Value)} {h : zH} : zW yL_law cL_law 7 (some .boolean) d mc ms 1476 lv [] h (some (.int 1)) h := by
  refine z_iconst (pc := 1476) (x := 1) dL_law_1476 (by decide) ?_
  exact z_zreturn rfl dL_law_1477 (by decide)
def zLtab : List Nat := [164, 189, 214, 315, 388, 425, 477, 624, 649, 698, 735, 788, 813, 850, 875, 948, 1013, 1050, 1075, 1124, 1149, 1174, 1235, 1284, 1371, 1408, 1445]
theorem kc_L_sw {d mc ms v0 v1 v2 v3 : Nat} {v4 o : Int32} {h : zH} {vv : Option Value} {hh : zH} (k : Nat) (hk : k < 27) (ho : o = nI k) (K : zW yL_law cL_law 7 (some .boolean) d mc ms (zLtab.getD k 0) [(0, .ref v0), (1, .ref v1), (2, .ref v2), (3, .ref v3), (4, .int v4)] [] h vv hh) : zW yL_law cL_law 7 (some .boolean) d mc ms 40 [(0, .ref v0), (1, .ref v1), (2, .ref v2), (3, .ref v3), (4, .int v4)] [.int o] h vv hh := by
  subst ho
  revert K
  match k, hk with
  | 0, _ => exact z_tswIn (pc := 40) (off := 124) 164 dL_law_40 (by decide) (by decide) (by decide) (by decide)
  | 1, _ => exact z_tswIn (pc := 40) (off := 149) 189 dL_law_40 (by decide) (by decide) (by decide) (by decide)
  | 2, _ => exact z_tswIn (pc := 40) (off := 174) 214 dL_law_40 (by decide) (by decide) (by decide) (by decide)
  | 3, _ => exact z_tswIn (pc := 40) (off := 275) 315 dL_law_40 (by decide) (by decide) (by decide) (by decide)
  | 4, _ => exact z_tswIn (pc := 40) (off := 348) 388 dL_law_40 (by decide) (by decide) (by decide) (by decide)
  | 5, _ => exact z_tswIn (pc := 40) (off := 385) 425 dL_law_40 (by decide) (by decide) (by decide) (by decide)
  | 6, _ => exact z_tswIn (pc := 40) (off := 437) 477 dL_law_40 (by decide) (by decide) (by decide) (by decide)
  | 7, _ => exact z_tswIn (pc := 40) (off := 584) 624 dL_law_40 (by decide) (by decide) (by decide) (by decide)
  | 8, _ => exact z_tswIn (pc := 40) (off := 609) 649 dL_law_40 (by decide) (by decide) (by decide) (by decide)
  | 9, _ => exact z_tswIn (pc := 40) (off := 658) 698 dL_law_40 (by decide) (by decide) (by decide) (by decide)
  | 10, _ => exact z_tswIn (pc := 40) (off := 695) 735 dL_law_40 (by decide) (by decide) (by decide) (by decide)
  | 11, _ => exact z_tswIn (pc := 40) (off := 748) 788 dL_law_40 (by decide) (by decide) (by decide) (by decide)
  | 12, _ => exact z_tswIn (pc := 40) (off := 773) 813 dL_law_40 (by decide) (by decide) (by decide) (by decide)
  | 13, _ => exact z_tswIn (pc := 40) (off := 810) 850 dL_law_40 (by decide) (by decide) (by decide) (by decide)
  | 14, _ => exact z_tswIn (pc := 40) (off := 835) 875 dL_law_40 (by decide) (by decide) (by decide) (by decide)
  | 15, _ => exact z_tswIn (pc := 40) (off := 908) 948 dL_law_40 (by decide) (by decide) (by decide) (by decide)
  | 16, _ => exact z_tswIn (pc := 40) (off := 973) 1013 dL_law_40 (by decide) (by decide) (by decide) (by decide)
  | 17, _ => exact z_tswIn (pc := 40) (off := 1010) 1050 dL_law_40 (by decide) (by decide) (by decide) (by decide)
  | 18, _ => exact z_tswIn (pc := 40) (off := 1035) 1075 dL_law_40 (by decide) (by decide) (by decide) (by decide)
  | 19, _ => exact z_tswIn (pc := 40) (off := 1084) 1124 dL_law_40 (by decide) (by decide) (by decide) (by decide)
  | 20, _ => exact z_tswIn (pc := 40) (off := 1109) 1149 dL_law_40 (by decide) (by decide) (by decide) (by decide)
  | 21, _ => exact z_tswIn (pc := 40) (off := 1134) 1174 dL_law_40 (by decide) (by decide) (by decide) (by decide)
  | 22, _ => exact z_tswIn (pc := 40) (off := 1195) 1235 dL_law_40 (by decide) (by decide) (by decide) (by decide)
  | 23, _ => exact z_tswIn (pc := 40) (off := 1244) 1284 dL_law_40 (by decide) (by decide) (by decide) (by decide)
  | 24, _ => exact z_tswIn (pc := 40) (off := 1331) 1371 dL_law_40 (by decide) (by decide) (by decide) (by decide)
  | 25, _ => exact z_tswIn (pc := 40) (off := 1368) 1408 dL_law_40 (by decide) (by decide) (by decide) (by decide)
  | 26, _ => exact z_tswIn (pc := 40) (off := 1405) 1445 dL_law_40 (by decide) (by decide) (by decide) (by decide)
  | k + 27, hk => exact absurd hk (by omega)
theorem kc_L_swD {d mc ms v0 v1 v2 v3 : Nat} {v4 o : Int32} {h : zH} {vv : Option Value} {hh : zH} (ho : 26 < o.toInt) (K : zW yL_law cL_law 7 (some .boolean) d mc ms 1470 [(0, .ref v0), (1, .ref v1), (2, .ref v2), (3, .ref v3), (4, .int v4)] [] h vv hh) : zW yL_law cL_law 7 (some .boolean) d mc ms 40 [(0, .ref v0), (1, .ref v1), (2, .ref v2), (3, .ref v3), (4, .int v4)] [.int o] h vv hh := z_tswOut (pc := 40) 1470 dL_law_40 (Or.inr ho) (by decide) K
