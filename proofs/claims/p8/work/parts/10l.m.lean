theorem md_X12_readTests : zMd yX12_readTests cX12_readTests 2 0 (some .int) := ⟨zmw (zmt_7 _ (List.mem_of_getElem? (i := 118) rfl)) rfl, zmem 127 (by decide +kernel) rfl, by decide, by decide, by decide +kernel, by decide⟩
theorem ml_X12_313 : Cond.methodLink RX12 313 yX12_readTests ∈ zB := zmem 1666 (by decide +kernel) rfl
theorem im_X12_readTests : Cond.instanceMethod yX12_readTests ∈ zB := zmem 1668 (by decide +kernel) rfl
theorem se_X12_readTests : Cond.selects yX12_readTests.cls yX12_readTests yX12_readTests ∈ zB := zmem 70 (by decide +kernel) rfl
def f_X12_readLet (N : Nat) (v0 : Nat) (v1 : Int32) (h : zH) : Option (zH) := zif (zob h v0 12) <| (f_X12_isName N v0 h).bind fun q2 => (if q2 = 0 then (zif (zob h v0 12) <| (f_X12_wrong N v0 1 h).bind fun h15 => some h15) else (zif (zob h v0 12) <| (f_X12_findName N v0 h).bind fun q6 => if q6 < 0 then ((gI h v0 12 17).bind fun x8 => if x8 = 8 then (zif (zob h v0 12) <| (f_X12_wrong N v0 5 h).bind fun h11 => some h11) else (some h)) else (zif (zob h v0 12) <| (f_X12_wrong N v0 3 h).bind fun h13 => some h13)) : Option (zH)).bind fun m3 => (gI m3 v0 12 8).bind fun x16 => if x16 ≤ 0 then ((gR m3 v0 12 6).bind fun r18 => (gI m3 v0 12 7).bind fun x19 => (aL m3 r18 x19).bind fun x20 => (gI m3 v0 12 7).bind fun x21 => (pF m3 v0 12 7 (.int (x21 + 1))).bind fun h22 => zif (zob h22 v0 12) <| (f_X12_takeSign N v0 61 h22).bind fun h24 => (gR h24 v0 12 16).bind fun r25 => zif (zob h24 v0 12) <| (f_X12_readTests N v0 h24).bind fun q27 => (sI q27.2 r25 v1 q27.1).bind fun h28 => (gI h28 v0 12 8).bind fun x29 => if x29 = 0 then ((gR h28 v0 12 18).bind fun r31 => (gI h28 v0 12 17).bind fun x32 => (sL h28 r31 x32 x20).bind fun h33 => (gI h33 v0 12 17).bind fun x34 => (pF h33 v0 12 17 (.int (x34 + 1))).bind fun h35 => some h35) else (some h28)) else (some m3)
set_option maxRecDepth 100000 in
set_option maxHeartbeats 4000000 in
theorem k_X12_readLet {N : Nat} {v0 : Nat} {v1 : Int32} {h : zH} {r : zH} (H : f_X12_readLet N v0 v1 h = some r) : zOk 47 0 0 yX12_readLet cX12_readLet 4 none [.ref v0, .int v1] h none r := by
  refine zOk.of (by decide) (Nat.le_of_ble_eq_true rfl) ?_
  unfold f_X12_readLet at H
  refine z_aload_n (pc := 0) 0 dX12_readLet_0 rfl rfl ?_
  obtain ⟨z1, H⟩ := zifE H
  obtain ⟨q2, eq2, H⟩ := zbind H
  refine z_callV (pc := 1) (mc := 0) (ms := 0) (d' := 0) (mc' := 0) (ms' := 0) (rest := []) [] dX12_readLet_1 md_X12_isName ml_X12_319 im_X12_isName se_X12_isName rfl z1 rfl rfl (Nat.le_of_ble_eq_true rfl) (by omega) (k_X12_isName eq2) ?_
  obtain ⟨m3, em3, H⟩ := zbind H
  have Jm3 : zW yX12_readLet cX12_readLet 4 none 47 0 0 44 [(0, .ref v0), (1, .int v1)] [] m3 none r := by
    refine z_aload_n (pc := 44) 0 dX12_readLet_44 rfl rfl ?_
    obtain ⟨x16, ex16, H⟩ := zbind H
    refine z_getI (pc := 45) dX12_readLet_45 fd_X12_262 ex16 ?_
    refine z_if_le (pc := 48) 52 dX12_readLet_48 (by decide) (fun c17 => ?_) (fun c17 => ?_)
    · rw [if_pos c17] at H
      refine z_aload_n (pc := 52) 0 dX12_readLet_52 rfl rfl ?_
      obtain ⟨r18, er18, H⟩ := zbind H
      refine z_getR (pc := 53) dX12_readLet_53 fd_X12_30 er18 ?_
      refine z_aload_n (pc := 56) 0 dX12_readLet_56 rfl rfl ?_
      obtain ⟨x19, ex19, H⟩ := zbind H
      refine z_getI (pc := 57) dX12_readLet_57 fd_X12_259 ex19 ?_
      obtain ⟨x20, ex20, H⟩ := zbind H
      refine z_laload (pc := 60) dX12_readLet_60 ex20 ?_
      refine z_lstore_n (pc := 61) (lv' := [(2, .long x20), (0, .ref v0), (1, .int v1)]) dX12_readLet_61 rfl (by decide) rfl ?_
      refine z_aload_n (pc := 62) 1 dX12_readLet_62 rfl rfl ?_
      refine z_dup (pc := 63) dX12_readLet_63 rfl ?_
      obtain ⟨x21, ex21, H⟩ := zbind H
      refine z_getI (pc := 64) dX12_readLet_64 fd_X12_259 ex21 ?_
      refine z_iconst (pc := 67) (x := 1) dX12_readLet_67 zc_iconst_1 ?_
      refine z_iadd (pc := 68) dX12_readLet_68 ?_
      obtain ⟨h22, eh22, H⟩ := zbind H
      refine z_put (pc := 69) dX12_readLet_69 fd_X12_259 rfl rfl eh22 ?_
      refine z_aload_n (pc := 72) 1 dX12_readLet_72 rfl rfl ?_
      refine z_bipush (pc := 73) (x := 61) dX12_readLet_73 zc_bipush_61 ?_
      obtain ⟨z23, H⟩ := zifE H
      obtain ⟨h24, eh24, H⟩ := zbind H
      refine z_callV (pc := 75) (mc := 0) (ms := 0) (d' := 1) (mc' := 0) (ms' := 0) (rest := []) [.int 61] dX12_readLet_75 md_X12_takeSign ml_X12_316 im_X12_takeSign se_X12_takeSign rfl z23 rfl rfl (Nat.le_of_ble_eq_true rfl) (by omega) (k_X12_takeSign eh24) ?_
      refine z_aload_n (pc := 78) 1 dX12_readLet_78 rfl rfl ?_
      obtain ⟨r25, er25, H⟩ := zbind H
      refine z_getR (pc := 79) dX12_readLet_79 fd_X12_94 er25 ?_
      refine z_iload_n (pc := 82) 2 dX12_readLet_82 rfl rfl ?_
      refine z_aload_n (pc := 83) 1 dX12_readLet_83 rfl rfl ?_
      obtain ⟨z26, H⟩ := zifE H
      obtain ⟨q27, eq27, H⟩ := zbind H
      refine z_callV (pc := 84) (mc := 0) (ms := 0) (d' := 46) (mc' := 0) (ms' := 0) (rest := [.int v1, .ref r25]) [] dX12_readLet_84 md_X12_readTests ml_X12_313 im_X12_readTests se_X12_readTests rfl z26 rfl rfl (Nat.le_of_ble_eq_true rfl) (by omega) (k_X12_readTests eq27) ?_
      obtain ⟨h28, eh28, H⟩ := zbind H
      refine z_iastore (pc := 87) dX12_readLet_87 eh28 ?_
      refine z_aload_n (pc := 88) 1 dX12_readLet_88 rfl rfl ?_
      obtain ⟨x29, ex29, H⟩ := zbind H
      refine z_getI (pc := 89) dX12_readLet_89 fd_X12_262 ex29 ?_
      refine z_if_ne (pc := 92) 115 dX12_readLet_92 (by decide) (fun c30 => ?_) (fun c30 => ?_)
      · rw [if_neg c30] at H
        cases H
        exact z_return rfl dX12_readLet_115
      · rw [if_pos c30] at H
        refine z_aload_n (pc := 95) 1 dX12_readLet_95 rfl rfl ?_
        obtain ⟨r31, er31, H⟩ := zbind H
        refine z_getR (pc := 96) dX12_readLet_96 fd_X12_97 er31 ?_
        refine z_aload_n (pc := 99) 1 dX12_readLet_99 rfl rfl ?_
        obtain ⟨x32, ex32, H⟩ := zbind H
        refine z_getI (pc := 100) dX12_readLet_100 fd_X12_287 ex32 ?_
        refine z_lload_n (pc := 103) 0 dX12_readLet_103 rfl rfl ?_
        obtain ⟨h33, eh33, H⟩ := zbind H
        refine z_lastore (pc := 104) dX12_readLet_104 eh33 ?_
        refine z_aload_n (pc := 105) 1 dX12_readLet_105 rfl rfl ?_
        refine z_dup (pc := 106) dX12_readLet_106 rfl ?_
        obtain ⟨x34, ex34, H⟩ := zbind H
        refine z_getI (pc := 107) dX12_readLet_107 fd_X12_287 ex34 ?_
        refine z_iconst (pc := 110) (x := 1) dX12_readLet_110 zc_iconst_1 ?_
        refine z_iadd (pc := 111) dX12_readLet_111 ?_
        obtain ⟨h35, eh35, H⟩ := zbind H
        refine z_put (pc := 112) dX12_readLet_112 fd_X12_287 rfl rfl eh35 ?_
        cases H
        exact z_return rfl dX12_readLet_115
    · rw [if_neg c17] at H
      cases H
      exact z_return rfl dX12_readLet_51
  refine z_if_ne (pc := 4) 15 dX12_readLet_4 (by decide) (fun c4 => ?_) (fun c4 => ?_)
  · rw [if_neg c4] at em3
    refine z_aload_n (pc := 15) 0 dX12_readLet_15 rfl rfl ?_
    obtain ⟨z5, em3⟩ := zifE em3
    obtain ⟨q6, eq6, em3⟩ := zbind em3
    refine z_callV (pc := 16) (mc := 0) (ms := 0) (d' := 0) (mc' := 0) (ms' := 0) (rest := []) [] dX12_readLet_16 md_X12_findName ml_X12_323 im_X12_findName se_X12_findName rfl z5 rfl rfl (Nat.le_of_ble_eq_true rfl) (by omega) (k_X12_findName eq6) ?_
    refine z_if_lt (pc := 19) 30 dX12_readLet_19 (by decide) (fun c7 => ?_) (fun c7 => ?_)
    · rw [if_pos c7] at em3
      refine z_aload_n (pc := 30) 0 dX12_readLet_30 rfl rfl ?_
      obtain ⟨x8, ex8, em3⟩ := zbind em3
      refine z_getI (pc := 31) dX12_readLet_31 fd_X12_287 ex8 ?_
      refine z_bipush (pc := 34) (x := 8) dX12_readLet_34 zc_bipush_8 ?_
      refine z_icmp_ne (pc := 36) 44 dX12_readLet_36 (by decide) (fun c9 => ?_) (fun c9 => ?_)
      · rw [if_neg c9] at em3
        cases em3
        exact z_sub [0, 1] rfl Jm3
      · rw [if_pos c9] at em3
        refine z_aload_n (pc := 39) 0 dX12_readLet_39 rfl rfl ?_
        refine z_iconst (pc := 40) (x := 5) dX12_readLet_40 zc_iconst_5 ?_
        obtain ⟨z10, em3⟩ := zifE em3
        obtain ⟨h11, eh11, em3⟩ := zbind em3
        refine z_callV (pc := 41) (mc := 0) (ms := 0) (d' := 0) (mc' := 0) (ms' := 0) (rest := []) [.int 5] dX12_readLet_41 md_X12_wrong ml_X12_268 im_X12_wrong se_X12_wrong rfl z10 rfl rfl (Nat.le_of_ble_eq_true rfl) (by omega) (k_X12_wrong eh11) ?_
        cases em3
        exact z_sub [0, 1] rfl Jm3
    · rw [if_neg c7] at em3
      refine z_aload_n (pc := 22) 0 dX12_readLet_22 rfl rfl ?_
      refine z_iconst (pc := 23) (x := 3) dX12_readLet_23 zc_iconst_3 ?_
      obtain ⟨z12, em3⟩ := zifE em3
      obtain ⟨h13, eh13, em3⟩ := zbind em3
      refine z_callV (pc := 24) (mc := 0) (ms := 0) (d' := 0) (mc' := 0) (ms' := 0) (rest := []) [.int 3] dX12_readLet_24 md_X12_wrong ml_X12_268 im_X12_wrong se_X12_wrong rfl z12 rfl rfl (Nat.le_of_ble_eq_true rfl) (by omega) (k_X12_wrong eh13) ?_
      refine z_goto (pc := 27) 44 dX12_readLet_27 (by decide) ?_
      cases em3
      exact z_sub [0, 1] rfl Jm3
  · rw [if_pos c4] at em3
    refine z_aload_n (pc := 7) 0 dX12_readLet_7 rfl rfl ?_
    refine z_iconst (pc := 8) (x := 1) dX12_readLet_8 zc_iconst_1 ?_
    obtain ⟨z14, em3⟩ := zifE em3
    obtain ⟨h15, eh15, em3⟩ := zbind em3
    refine z_callV (pc := 9) (mc := 0) (ms := 0) (d' := 0) (mc' := 0) (ms' := 0) (rest := []) [.int 1] dX12_readLet_9 md_X12_wrong ml_X12_268 im_X12_wrong se_X12_wrong rfl z14 rfl rfl (Nat.le_of_ble_eq_true rfl) (by omega) (k_X12_wrong eh15) ?_
    refine z_goto (pc := 12) 44 dX12_readLet_12 (by decide) ?_
    cases em3
    exact z_sub [0, 1] rfl Jm3

def f_X12_takeNumber (N : Nat) (v0 : Nat) (v1 : Int32) (v2 : Int32) (h : zH) : Option (Int32 × zH) := (gI h v0 12 8).bind fun x1 => (if x1 = 0 then ((gR h v0 12 4).bind fun r19 => (gI h v0 12 7).bind fun x20 => (aI h r19 x20).bind fun x21 => if x21 = 2 then ((gI h v0 12 8).bind fun x23 => if x23 = 0 then ((gR h v0 12 6).bind fun r25 => (gI h v0 12 7).bind fun x26 => (aL h r25 x26).bind fun x27 => (if (lg_cmp x27 (v1.toInt64)) < 0 then (some (.inl ())) else ((gR h v0 12 6).bind fun r31 => (gI h v0 12 7).bind fun x32 => (aL h r31 x32).bind fun x33 => if (lg_cmp x33 (v2.toInt64)) ≤ 0 then ((some h).map .inr) else (some (.inl ()))) : Option ((Unit) ⊕ (zH))).bind fun m28 => zsum m28 fun s29 => zif (zob h v0 12) <| (f_X12_wrong N v0 4 h).bind fun h37 => some h37) else (some h)) else (zif (zob h v0 12) <| (f_X12_wrong N v0 1 h).bind fun h39 => some h39)) else ((gI h v0 12 8).bind fun x4 => if x4 = 0 then ((gR h v0 12 6).bind fun r6 => (gI h v0 12 7).bind fun x7 => (aL h r6 x7).bind fun x8 => (if (lg_cmp x8 (v1.toInt64)) < 0 then (some (.inl ())) else ((gR h v0 12 6).bind fun r12 => (gI h v0 12 7).bind fun x13 => (aL h r12 x13).bind fun x14 => if (lg_cmp x14 (v2.toInt64)) ≤ 0 then ((some h).map .inr) else (some (.inl ()))) : Option ((Unit) ⊕ (zH))).bind fun m9 => zsum m9 fun s10 => zif (zob h v0 12) <| (f_X12_wrong N v0 4 h).bind fun h18 => some h18) else (some h)) : Option (zH)).bind fun m2 => (gI m2 v0 12 8).bind fun x40 => if x40 ≤ 0 then ((gI m2 v0 12 7).bind fun x42 => (pF m2 v0 12 7 (.int (x42 + 1))).bind fun h43 => (gR h43 v0 12 6).bind fun r44 => (gI h43 v0 12 7).bind fun x45 => (aL h43 r44 (x45 - 1)).bind fun x46 => some (x46.toInt32, h43)) else (some (0, m2))
set_option maxRecDepth 100000 in
set_option maxHeartbeats 4000000 in
theorem k_X12_takeNumber {N : Nat} {v0 : Nat} {v1 : Int32} {v2 : Int32} {h : zH} {r : Int32 × zH} (H : f_X12_takeNumber N v0 v1 v2 h = some r) : zOk 1 0 0 yX12_takeNumber cX12_takeNumber 3 (some .int) [.ref v0, .int v1, .int v2] h (some (.int r.1)) r.2 := by
  refine zOk.of (by decide) (Nat.le_of_ble_eq_true rfl) ?_
  unfold f_X12_takeNumber at H
  refine z_aload_n (pc := 0) 0 dX12_takeNumber_0 rfl rfl ?_
  obtain ⟨x1, ex1, H⟩ := zbind H
  refine z_getI (pc := 1) dX12_takeNumber_1 fd_X12_262 ex1 ?_
  obtain ⟨m2, em2, H⟩ := zbind H
  have Jm2 : zW yX12_takeNumber cX12_takeNumber 3 (some .int) 1 0 0 70 [(0, .ref v0)] [] m2 (some (.int r.1)) r.2 := by
    refine z_aload_n (pc := 70) 0 dX12_takeNumber_70 rfl rfl ?_
    obtain ⟨x40, ex40, H⟩ := zbind H
    refine z_getI (pc := 71) dX12_takeNumber_71 fd_X12_262 ex40 ?_
    refine z_if_le (pc := 74) 79 dX12_takeNumber_74 (by decide) (fun c41 => ?_) (fun c41 => ?_)
    · rw [if_pos c41] at H
      refine z_aload_n (pc := 79) 0 dX12_takeNumber_79 rfl rfl ?_
      refine z_dup (pc := 80) dX12_takeNumber_80 rfl ?_
      obtain ⟨x42, ex42, H⟩ := zbind H
      refine z_getI (pc := 81) dX12_takeNumber_81 fd_X12_259 ex42 ?_
      refine z_iconst (pc := 84) (x := 1) dX12_takeNumber_84 zc_iconst_1 ?_
      refine z_iadd (pc := 85) dX12_takeNumber_85 ?_
      obtain ⟨h43, eh43, H⟩ := zbind H
      refine z_put (pc := 86) dX12_takeNumber_86 fd_X12_259 rfl rfl eh43 ?_
      refine z_aload_n (pc := 89) 0 dX12_takeNumber_89 rfl rfl ?_
      obtain ⟨r44, er44, H⟩ := zbind H
      refine z_getR (pc := 90) dX12_takeNumber_90 fd_X12_30 er44 ?_
      refine z_aload_n (pc := 93) 0 dX12_takeNumber_93 rfl rfl ?_
      obtain ⟨x45, ex45, H⟩ := zbind H
      refine z_getI (pc := 94) dX12_takeNumber_94 fd_X12_259 ex45 ?_
      refine z_iconst (pc := 97) (x := 1) dX12_takeNumber_97 zc_iconst_1 ?_
      refine z_isub (pc := 98) dX12_takeNumber_98 ?_
      obtain ⟨x46, ex46, H⟩ := zbind H
      refine z_laload (pc := 99) dX12_takeNumber_99 ex46 ?_
      refine z_l2i (pc := 100) dX12_takeNumber_100 ?_
      cases H
      exact z_ireturn rfl dX12_takeNumber_101
    · rw [if_neg c41] at H
      refine z_iconst (pc := 77) (x := 0) dX12_takeNumber_77 zc_iconst_0 ?_
      cases H
      exact z_ireturn rfl dX12_takeNumber_78
  refine z_if_ne (pc := 4) 28 dX12_takeNumber_4 (by decide) (fun c3 => ?_) (fun c3 => ?_)
  · rw [if_neg c3] at em2
    refine z_aload_n (pc := 28) 0 dX12_takeNumber_28 rfl rfl ?_
    obtain ⟨x4, ex4, em2⟩ := zbind em2
    refine z_getI (pc := 29) dX12_takeNumber_29 fd_X12_262 ex4 ?_
    refine z_if_ne (pc := 32) 70 dX12_takeNumber_32 (by decide) (fun c5 => ?_) (fun c5 => ?_)
    · rw [if_neg c5] at em2
      cases em2
      exact z_sub [0] rfl Jm2
    · rw [if_pos c5] at em2
      refine z_aload_n (pc := 35) 0 dX12_takeNumber_35 rfl rfl ?_
      obtain ⟨r6, er6, em2⟩ := zbind em2
      refine z_getR (pc := 36) dX12_takeNumber_36 fd_X12_30 er6 ?_
      refine z_aload_n (pc := 39) 0 dX12_takeNumber_39 rfl rfl ?_
      obtain ⟨x7, ex7, em2⟩ := zbind em2
      refine z_getI (pc := 40) dX12_takeNumber_40 fd_X12_259 ex7 ?_
      obtain ⟨x8, ex8, em2⟩ := zbind em2
      refine z_laload (pc := 43) dX12_takeNumber_43 ex8 ?_
      refine z_iload_n (pc := 44) 1 dX12_takeNumber_44 rfl rfl ?_
      refine z_i2l (pc := 45) dX12_takeNumber_45 ?_
      refine z_lcmp (pc := 46) dX12_takeNumber_46 ?_
      obtain ⟨m9, em9, em2⟩ := zbind em2
      have Jm9 : ∀ s10, m9 = .inl s10 → zW yX12_takeNumber cX12_takeNumber 3 (some .int) 1 0 0 65 [(0, .ref v0)] [] h (some (.int r.1)) r.2 := by
        intro s10 e9
        subst e9
        have em2 := zsumL em2
        refine z_aload_n (pc := 65) 0 dX12_takeNumber_65 rfl rfl ?_
        refine z_iconst (pc := 66) (x := 4) dX12_takeNumber_66 zc_iconst_4 ?_
        obtain ⟨z17, em2⟩ := zifE em2
        obtain ⟨h18, eh18, em2⟩ := zbind em2
        refine z_callV (pc := 67) (mc := 0) (ms := 0) (d' := 0) (mc' := 0) (ms' := 0) (rest := []) [.int 4] dX12_takeNumber_67 md_X12_wrong ml_X12_268 im_X12_wrong se_X12_wrong rfl z17 rfl rfl (Nat.le_of_ble_eq_true rfl) (by omega) (k_X12_wrong eh18) ?_
        cases em2
        exact z_sub [0] rfl Jm2
      refine z_if_lt (pc := 47) 65 dX12_takeNumber_47 (by decide) (fun c11 => ?_) (fun c11 => ?_)
      · rw [if_pos c11] at em9
        cases em9
        exact z_sub [0] rfl (Jm9 _ rfl)
      · rw [if_neg c11] at em9
        refine z_aload_n (pc := 50) 0 dX12_takeNumber_50 rfl rfl ?_
        obtain ⟨r12, er12, em9⟩ := zbind em9
        refine z_getR (pc := 51) dX12_takeNumber_51 fd_X12_30 er12 ?_
        refine z_aload_n (pc := 54) 0 dX12_takeNumber_54 rfl rfl ?_
        obtain ⟨x13, ex13, em9⟩ := zbind em9
        refine z_getI (pc := 55) dX12_takeNumber_55 fd_X12_259 ex13 ?_
        obtain ⟨x14, ex14, em9⟩ := zbind em9
        refine z_laload (pc := 58) dX12_takeNumber_58 ex14 ?_
        refine z_iload_n (pc := 59) 2 dX12_takeNumber_59 rfl rfl ?_
        refine z_i2l (pc := 60) dX12_takeNumber_60 ?_
        refine z_lcmp (pc := 61) dX12_takeNumber_61 ?_
        refine z_if_le (pc := 62) 70 dX12_takeNumber_62 (by decide) (fun c15 => ?_) (fun c15 => ?_)
        · rw [if_pos c15] at em9
          obtain ⟨o16, H9, e9⟩ := zmapR em9
          subst e9
          have H9 := H9.trans (zsumR em2)
          cases H9
          exact z_sub [0] rfl Jm2
        · rw [if_neg c15] at em9
          cases em9
          exact z_sub [0] rfl (Jm9 _ rfl)
  · rw [if_pos c3] at em2
    refine z_aload_n (pc := 7) 0 dX12_takeNumber_7 rfl rfl ?_
    obtain ⟨r19, er19, em2⟩ := zbind em2
    refine z_getR (pc := 8) dX12_takeNumber_8 fd_X12_24 er19 ?_
    refine z_aload_n (pc := 11) 0 dX12_takeNumber_11 rfl rfl ?_
    obtain ⟨x20, ex20, em2⟩ := zbind em2
    refine z_getI (pc := 12) dX12_takeNumber_12 fd_X12_259 ex20 ?_
    obtain ⟨x21, ex21, em2⟩ := zbind em2
    refine z_iaload (pc := 15) dX12_takeNumber_15 ex21 ?_
    refine z_iconst (pc := 16) (x := 2) dX12_takeNumber_16 zc_iconst_2 ?_
    refine z_icmp_eq (pc := 17) 28 dX12_takeNumber_17 (by decide) (fun c22 => ?_) (fun c22 => ?_)
    · rw [if_pos c22] at em2
      refine z_aload_n (pc := 28) 0 dX12_takeNumber_28 rfl rfl ?_
      obtain ⟨x23, ex23, em2⟩ := zbind em2
      refine z_getI (pc := 29) dX12_takeNumber_29 fd_X12_262 ex23 ?_
      refine z_if_ne (pc := 32) 70 dX12_takeNumber_32 (by decide) (fun c24 => ?_) (fun c24 => ?_)
      · rw [if_neg c24] at em2
        cases em2
        exact z_sub [0] rfl Jm2
      · rw [if_pos c24] at em2
        refine z_aload_n (pc := 35) 0 dX12_takeNumber_35 rfl rfl ?_
        obtain ⟨r25, er25, em2⟩ := zbind em2
        refine z_getR (pc := 36) dX12_takeNumber_36 fd_X12_30 er25 ?_
        refine z_aload_n (pc := 39) 0 dX12_takeNumber_39 rfl rfl ?_
        obtain ⟨x26, ex26, em2⟩ := zbind em2
        refine z_getI (pc := 40) dX12_takeNumber_40 fd_X12_259 ex26 ?_
        obtain ⟨x27, ex27, em2⟩ := zbind em2
        refine z_laload (pc := 43) dX12_takeNumber_43 ex27 ?_
        refine z_iload_n (pc := 44) 1 dX12_takeNumber_44 rfl rfl ?_
        refine z_i2l (pc := 45) dX12_takeNumber_45 ?_
        refine z_lcmp (pc := 46) dX12_takeNumber_46 ?_
        obtain ⟨m28, em28, em2⟩ := zbind em2
        have Jm28 : ∀ s29, m28 = .inl s29 → zW yX12_takeNumber cX12_takeNumber 3 (some .int) 1 0 0 65 [(0, .ref v0)] [] h (some (.int r.1)) r.2 := by
          intro s29 e9
          subst e9
          have em2 := zsumL em2
          refine z_aload_n (pc := 65) 0 dX12_takeNumber_65 rfl rfl ?_
          refine z_iconst (pc := 66) (x := 4) dX12_takeNumber_66 zc_iconst_4 ?_
          obtain ⟨z36, em2⟩ := zifE em2
          obtain ⟨h37, eh37, em2⟩ := zbind em2
          refine z_callV (pc := 67) (mc := 0) (ms := 0) (d' := 0) (mc' := 0) (ms' := 0) (rest := []) [.int 4] dX12_takeNumber_67 md_X12_wrong ml_X12_268 im_X12_wrong se_X12_wrong rfl z36 rfl rfl (Nat.le_of_ble_eq_true rfl) (by omega) (k_X12_wrong eh37) ?_
          cases em2
          exact z_sub [0] rfl Jm2
        refine z_if_lt (pc := 47) 65 dX12_takeNumber_47 (by decide) (fun c30 => ?_) (fun c30 => ?_)
        · rw [if_pos c30] at em28
          cases em28
          exact z_sub [0] rfl (Jm28 _ rfl)
        · rw [if_neg c30] at em28
          refine z_aload_n (pc := 50) 0 dX12_takeNumber_50 rfl rfl ?_
          obtain ⟨r31, er31, em28⟩ := zbind em28
          refine z_getR (pc := 51) dX12_takeNumber_51 fd_X12_30 er31 ?_
          refine z_aload_n (pc := 54) 0 dX12_takeNumber_54 rfl rfl ?_
          obtain ⟨x32, ex32, em28⟩ := zbind em28
          refine z_getI (pc := 55) dX12_takeNumber_55 fd_X12_259 ex32 ?_
          obtain ⟨x33, ex33, em28⟩ := zbind em28
          refine z_laload (pc := 58) dX12_takeNumber_58 ex33 ?_
          refine z_iload_n (pc := 59) 2 dX12_takeNumber_59 rfl rfl ?_
          refine z_i2l (pc := 60) dX12_takeNumber_60 ?_
          refine z_lcmp (pc := 61) dX12_takeNumber_61 ?_
          refine z_if_le (pc := 62) 70 dX12_takeNumber_62 (by decide) (fun c34 => ?_) (fun c34 => ?_)
          · rw [if_pos c34] at em28
            obtain ⟨o35, H9, e9⟩ := zmapR em28
            subst e9
            have H9 := H9.trans (zsumR em2)
            cases H9
            exact z_sub [0] rfl Jm2
          · rw [if_neg c34] at em28
            cases em28
            exact z_sub [0] rfl (Jm28 _ rfl)
    · rw [if_neg c22] at em2
      refine z_aload_n (pc := 20) 0 dX12_takeNumber_20 rfl rfl ?_
      refine z_iconst (pc := 21) (x := 1) dX12_takeNumber_21 zc_iconst_1 ?_
      obtain ⟨z38, em2⟩ := zifE em2
      obtain ⟨h39, eh39, em2⟩ := zbind em2
      refine z_callV (pc := 22) (mc := 0) (ms := 0) (d' := 0) (mc' := 0) (ms' := 0) (rest := []) [.int 1] dX12_takeNumber_22 md_X12_wrong ml_X12_268 im_X12_wrong se_X12_wrong rfl z38 rfl rfl (Nat.le_of_ble_eq_true rfl) (by omega) (k_X12_wrong eh39) ?_
      refine z_goto (pc := 25) 70 dX12_takeNumber_25 (by decide) ?_
      cases em2
      exact z_sub [0] rfl Jm2

def f_X12_takeWho_L4 (N : Nat) (v0 : Nat) (h : zH) : Nat → Int32 → Int32 → Option (Int32)
  | 0, _, _ => none
  | n + 1, v1, v2 => if 4 ≤ v2 then (some v1) else (zif (zob h v0 12) <| (f_X12_isWord N v0 (3 + v2) h).bind fun q3 => if q3 = 0 then (f_X12_takeWho_L4 N v0 h n v1 (v2 + 1)) else (zlet ((v2 + 1) - (v2 + 1) / 4 * 4 : Int32) fun x5 => f_X12_takeWho_L4 N v0 h n x5 (v2 + 1)))
set_option maxRecDepth 100000 in
set_option maxHeartbeats 4000000 in
theorem s_X12_takeWho_L4 {d mc ms N : Nat} {vv : Option Value} {hh : zH} {v0 : Nat} {h : zH} (hd0 : 1 ≤ d) : ∀ (n : Nat) (v1 : Int32) (v2 : Int32) (m : Int32), f_X12_takeWho_L4 N v0 h n v1 v2 = some m → (zW yX12_takeWho cX12_takeWho 3 (some .int) d mc ms 35 [(0, .ref v0), (1, .int m)] [] h vv hh) → zW yX12_takeWho cX12_takeWho 3 (some .int) d mc ms 4 [(0, .ref v0), (1, .int v1), (2, .int v2)] [] h vv hh := by
  intro n
  induction n with
  | zero =>
    intro v1 v2 m H
    cases H
  | succ n ih =>
    intro v1 v2 m H KE
    unfold f_X12_takeWho_L4 at H
    refine z_iload_n (pc := 4) 2 dX12_takeWho_4 rfl rfl ?_
    refine z_iconst (pc := 5) (x := 4) dX12_takeWho_5 zc_iconst_4 ?_
    refine z_icmp_ge (pc := 6) 35 dX12_takeWho_6 (by decide) (fun c1 => ?_) (fun c1 => ?_)
    · rw [if_pos c1] at H
      cases H
      exact z_sub [0, 1] rfl (KE)
    · rw [if_neg c1] at H
      refine z_aload_n (pc := 9) 0 dX12_takeWho_9 rfl rfl ?_
      refine z_iconst (pc := 10) (x := 3) dX12_takeWho_10 zc_iconst_3 ?_
      refine z_iload_n (pc := 11) 2 dX12_takeWho_11 rfl rfl ?_
      refine z_iadd (pc := 12) dX12_takeWho_12 ?_
      obtain ⟨z2, H⟩ := zifE H
      obtain ⟨q3, eq3, H⟩ := zbind H
      refine z_callV (pc := 13) (mc := mc) (ms := ms) (d' := 0) (mc' := 0) (ms' := 0) (rest := []) [.int (3 + v2)] dX12_takeWho_13 md_X12_isWord ml_X12_272 im_X12_isWord se_X12_isWord rfl z2 rfl rfl (Nat.le_of_ble_eq_true rfl) (by omega) (k_X12_isWord eq3) ?_
      refine z_if_eq (pc := 16) 27 dX12_takeWho_16 (by decide) (fun c4 => ?_) (fun c4 => ?_)
      · rw [if_pos c4] at H
        refine z_iload_n (pc := 27) 1 dX12_takeWho_27 rfl rfl ?_
        refine z_istore_n (pc := 28) (lv' := [(1, .int v1), (0, .ref v0), (2, .int v2)]) dX12_takeWho_28 rfl (by decide) rfl ?_
        refine z_iinc (pc := 29) (x' := v2 + 1) (lv' := [(2, .int (v2 + 1)), (1, .int v1), (0, .ref v0)]) 2 dX12_takeWho_29 rfl (by rfl) (by decide) rfl ?_
        refine z_goto (pc := 32) 4 dX12_takeWho_32 (by decide) ?_
        exact z_sub [2, 1, 0] rfl (ih v1 (v2 + 1) _ H KE)
      · rw [if_neg c4] at H
        refine z_iload_n (pc := 19) 2 dX12_takeWho_19 rfl rfl ?_
        refine z_iconst (pc := 20) (x := 1) dX12_takeWho_20 zc_iconst_1 ?_
        refine z_iadd (pc := 21) dX12_takeWho_21 ?_
        refine z_iconst (pc := 22) (x := 4) dX12_takeWho_22 zc_iconst_4 ?_
        refine z_irem (pc := 23) dX12_takeWho_23 (by decide) ?_
        refine z_goto (pc := 24) 28 dX12_takeWho_24 (by decide) ?_
        obtain ⟨x5, ex5, H⟩ := zletE H
        refine z_nmI ex5 ?_
        refine z_istore_n (pc := 28) (lv' := [(1, .int x5), (0, .ref v0), (2, .int v2)]) dX12_takeWho_28 rfl (by decide) rfl ?_
        refine z_iinc (pc := 29) (x' := v2 + 1) (lv' := [(2, .int (v2 + 1)), (1, .int x5), (0, .ref v0)]) 2 dX12_takeWho_29 rfl (by rfl) (by decide) rfl ?_
        refine z_goto (pc := 32) 4 dX12_takeWho_32 (by decide) ?_
        exact z_sub [2, 1, 0] rfl (ih x5 (v2 + 1) _ H KE)
def f_X12_takeWho (N : Nat) (v0 : Nat) (h : zH) : Option (Int32 × zH) := (f_X12_takeWho_L4 N v0 h N (-1) 0).bind fun m6 => if 0 ≤ m6 then ((gI h v0 12 7).bind fun x8 => (pF h v0 12 7 (.int (x8 + 1))).bind fun h9 => some (m6, h9)) else (zif (zob h v0 12) <| (f_X12_wrong N v0 1 h).bind fun h11 => some (0, h11))
set_option maxRecDepth 100000 in
set_option maxHeartbeats 4000000 in
theorem k_X12_takeWho {N : Nat} {v0 : Nat} {h : zH} {r : Int32 × zH} (H : f_X12_takeWho N v0 h = some r) : zOk 1 0 0 yX12_takeWho cX12_takeWho 3 (some .int) [.ref v0] h (some (.int r.1)) r.2 := by
  refine zOk.of (by decide) (Nat.le_of_ble_eq_true rfl) ?_
  unfold f_X12_takeWho at H
  refine z_iconst (pc := 0) (x := (-1)) dX12_takeWho_0 zc_iconst_m1 ?_
  refine z_istore_n (pc := 1) (lv' := [(1, .int (-1)), (0, .ref v0)]) dX12_takeWho_1 rfl (by decide) rfl ?_
  refine z_iconst (pc := 2) (x := 0) dX12_takeWho_2 zc_iconst_0 ?_
  refine z_istore_n (pc := 3) (lv' := [(2, .int 0), (1, .int (-1)), (0, .ref v0)]) dX12_takeWho_3 rfl (by decide) rfl ?_
  obtain ⟨m6, em6, H⟩ := zbind H
  refine z_sub [2, 1, 0] rfl (s_X12_takeWho_L4 (by omega) N (-1) 0 _ em6 ?_)
  refine z_iload_n (pc := 35) 1 dX12_takeWho_35 rfl rfl ?_
  refine z_if_ge (pc := 36) 46 dX12_takeWho_36 (by decide) (fun c7 => ?_) (fun c7 => ?_)
  · rw [if_pos c7] at H
    refine z_aload_n (pc := 46) 0 dX12_takeWho_46 rfl rfl ?_
    refine z_dup (pc := 47) dX12_takeWho_47 rfl ?_
    obtain ⟨x8, ex8, H⟩ := zbind H
    refine z_getI (pc := 48) dX12_takeWho_48 fd_X12_259 ex8 ?_
    refine z_iconst (pc := 51) (x := 1) dX12_takeWho_51 zc_iconst_1 ?_
    refine z_iadd (pc := 52) dX12_takeWho_52 ?_
    obtain ⟨h9, eh9, H⟩ := zbind H
    refine z_put (pc := 53) dX12_takeWho_53 fd_X12_259 rfl rfl eh9 ?_
    refine z_iload_n (pc := 56) 1 dX12_takeWho_56 rfl rfl ?_
    cases H
    exact z_ireturn rfl dX12_takeWho_57
  · rw [if_neg c7] at H
    refine z_aload_n (pc := 39) 0 dX12_takeWho_39 rfl rfl ?_
    refine z_iconst (pc := 40) (x := 1) dX12_takeWho_40 zc_iconst_1 ?_
    obtain ⟨z10, H⟩ := zifE H
    obtain ⟨h11, eh11, H⟩ := zbind H
    refine z_callV (pc := 41) (mc := 0) (ms := 0) (d' := 0) (mc' := 0) (ms' := 0) (rest := []) [.int 1] dX12_takeWho_41 md_X12_wrong ml_X12_268 im_X12_wrong se_X12_wrong rfl z10 rfl rfl (Nat.le_of_ble_eq_true rfl) (by omega) (k_X12_wrong eh11) ?_
    refine z_iconst (pc := 44) (x := 0) dX12_takeWho_44 zc_iconst_0 ?_
    cases H
    exact z_ireturn rfl dX12_takeWho_45

theorem zc_sipush_320 : (Int16.ofInt (320)).toInt32 = (320 : Int32) := by decide
theorem md_X12_takeWho : zMd yX12_takeWho cX12_takeWho 3 0 (some .int) := ⟨zmw (zmt_7 _ (List.mem_of_getElem? (i := 158) rfl)) rfl, zmem 127 (by decide +kernel) rfl, by decide, by decide, by decide +kernel, by decide⟩
theorem ml_X12_306 : Cond.methodLink RX12 306 yX12_takeWho ∈ zB := zmem 1706 (by decide +kernel) rfl
theorem im_X12_takeWho : Cond.instanceMethod yX12_takeWho ∈ zB := zmem 1708 (by decide +kernel) rfl
theorem se_X12_takeWho : Cond.selects yX12_takeWho.cls yX12_takeWho yX12_takeWho ∈ zB := zmem 80 (by decide +kernel) rfl
theorem md_X12_takeNumber : zMd yX12_takeNumber cX12_takeNumber 3 2 (some .int) := ⟨zmw (zmt_7 _ (List.mem_of_getElem? (i := 154) rfl)) rfl, zmem 127 (by decide +kernel) rfl, by decide, by decide, by decide +kernel, by decide⟩
theorem ml_X12_302 : Cond.methodLink RX12 302 yX12_takeNumber ∈ zB := zmem 1702 (by decide +kernel) rfl
theorem im_X12_takeNumber : Cond.instanceMethod yX12_takeNumber ∈ zB := zmem 1704 (by decide +kernel) rfl
theorem se_X12_takeNumber : Cond.selects yX12_takeNumber.cls yX12_takeNumber yX12_takeNumber ∈ zB := zmem 79 (by decide +kernel) rfl
theorem md_X12_takeWord : zMd yX12_takeWord cX12_takeWord 2 1 none := ⟨zmw (zmt_7 _ (List.mem_of_getElem? (i := 162) rfl)) rfl, zmem 127 (by decide +kernel) rfl, by decide, by decide, by decide +kernel, by decide⟩
theorem ml_X12_310 : Cond.methodLink RX12 310 yX12_takeWord ∈ zB := zmem 1710 (by decide +kernel) rfl
theorem im_X12_takeWord : Cond.instanceMethod yX12_takeWord ∈ zB := zmem 1712 (by decide +kernel) rfl
theorem se_X12_takeWord : Cond.selects yX12_takeWord.cls yX12_takeWord yX12_takeWord ∈ zB := zmem 81 (by decide +kernel) rfl
theorem md_X12_readLet : zMd yX12_readLet cX12_readLet 4 1 none := ⟨zmw (zmt_7 _ (List.mem_of_getElem? (i := 98) rfl)) rfl, zmem 127 (by decide +kernel) rfl, by decide, by decide, by decide +kernel, by decide⟩
theorem ml_X12_299 : Cond.methodLink RX12 299 yX12_readLet ∈ zB := zmem 1646 (by decide +kernel) rfl
theorem im_X12_readLet : Cond.instanceMethod yX12_readLet ∈ zB := zmem 1648 (by decide +kernel) rfl
theorem se_X12_readLet : Cond.selects yX12_readLet.cls yX12_readLet yX12_readLet ∈ zB := zmem 65 (by decide +kernel) rfl
def f_X12_readLine (N : Nat) (v0 : Nat) (h : zH) : Option (zH) := zif (zob h v0 12) <| (f_X12_isWord N v0 0 h).bind fun q2 => (if q2 = 0 then (zif (zob h v0 12) <| (f_X12_isWord N v0 19 h).bind fun q11 => (if q11 = 0 then (zif (zob h v0 12) <| (f_X12_isWord N v0 1 h).bind fun q16 => if q16 = 0 then (zif (zob h v0 12) <| (f_X12_wrong N v0 1 h).bind fun h19 => (some h19).map .inr) else (some (.inl h))) else (some (.inl h)) : Option ((zH) ⊕ (zH))).bind fun m12 => zsum m12 fun s13 => (gR s13 v0 12 13).bind fun r21 => (aI s13 r21 16).bind fun x22 => if x22 = 20 then (zif (zob s13 v0 12) <| (f_X12_wrong N v0 5 s13).bind fun h25 => some h25) else (some s13)) else ((gR h v0 12 13).bind fun r5 => (aI h r5 16).bind fun x6 => if x6 = 20 then (zif (zob h v0 12) <| (f_X12_wrong N v0 5 h).bind fun h9 => some h9) else (some h)) : Option (zH)).bind fun m3 => (gI m3 v0 12 8).bind fun x26 => if x26 ≤ 0 then ((gR m3 v0 12 13).bind fun r28 => (aI m3 r28 16).bind fun x29 => zlet (320 + x29 : Int32) fun x30 => (gR m3 v0 12 14).bind fun r31 => zif (zob m3 v0 12) <| (f_X12_isWord N v0 0 m3).bind fun q33 => (if q33 = 0 then (zif (zob m3 v0 12) <| (f_X12_isWord N v0 19 m3).bind fun q37 => if q37 = 0 then (some 1) else (some 19)) else (some 0) : Option (Int32)).bind fun m34 => (sI m3 r31 x30 m34).bind fun h39 => (gR h39 v0 12 15).bind fun r40 => (sI h39 r40 x30 0).bind fun h41 => (gI h41 v0 12 7).bind fun x42 => (pF h41 v0 12 7 (.int (x42 + 1))).bind fun h43 => (gR h43 v0 12 14).bind fun r44 => (aI h43 r44 x30).bind fun x45 => (if x45 = 0 then (zif (zob h43 v0 12) <| (f_X12_readLet N v0 x30 h43).bind fun h65 => some h65) else ((gR h43 v0 12 15).bind fun r48 => (gR h43 v0 12 14).bind fun r49 => (aI h43 r49 x30).bind fun x50 => (if x50 = 19 then (zif (zob h43 v0 12) <| (f_X12_takeNumber N v0 1 999 h43).bind fun q56 => some (q56.1, q56.2)) else (zif (zob h43 v0 12) <| (f_X12_takeWho N v0 h43).bind fun q54 => some (q54.1, q54.2)) : Option (Int32 × zH)).bind fun m51 => (sI m51.2 r48 x30 m51.1).bind fun h57 => zif (zob h57 v0 12) <| (f_X12_takeWord N v0 2 h57).bind fun h59 => (gR h59 v0 12 16).bind fun r60 => zif (zob h59 v0 12) <| (f_X12_readTests N v0 h59).bind fun q62 => (sI q62.2 r60 x30 q62.1).bind fun h63 => some h63) : Option (zH)).bind fun m46 => (gR m46 v0 12 13).bind fun r66 => (aI m46 r66 16).bind fun x67 => (sI m46 r66 16 (x67 + 1)).bind fun h68 => zif (zob h68 v0 12) <| (f_X12_takeSign N v0 59 h68).bind fun h70 => some h70) else (some m3)
set_option maxRecDepth 100000 in
set_option maxHeartbeats 4000000 in
theorem k_X12_readLine {N : Nat} {v0 : Nat} {h : zH} {r : zH} (H : f_X12_readLine N v0 h = some r) : zOk 48 0 0 yX12_readLine cX12_readLine 2 none [.ref v0] h none r := by
  refine zOk.of (by decide) (Nat.le_of_ble_eq_true rfl) ?_
  unfold f_X12_readLine at H
  refine z_aload_n (pc := 0) 0 dX12_readLine_0 rfl rfl ?_
  refine z_iconst (pc := 1) (x := 0) dX12_readLine_1 zc_iconst_0 ?_
  obtain ⟨z1, H⟩ := zifE H
  obtain ⟨q2, eq2, H⟩ := zbind H
  refine z_callV (pc := 2) (mc := 0) (ms := 0) (d' := 0) (mc' := 0) (ms' := 0) (rest := []) [.int 0] dX12_readLine_2 md_X12_isWord ml_X12_272 im_X12_isWord se_X12_isWord rfl z1 rfl rfl (Nat.le_of_ble_eq_true rfl) (by omega) (k_X12_isWord eq2) ?_
  obtain ⟨m3, em3, H⟩ := zbind H
  have Jm3 : zW yX12_readLine cX12_readLine 2 none 48 0 0 50 [(0, .ref v0)] [] m3 none r := by
    refine z_aload_n (pc := 50) 0 dX12_readLine_50 rfl rfl ?_
    obtain ⟨x26, ex26, H⟩ := zbind H
    refine z_getI (pc := 51) dX12_readLine_51 fd_X12_262 ex26 ?_
    refine z_if_le (pc := 54) 58 dX12_readLine_54 (by decide) (fun c27 => ?_) (fun c27 => ?_)
    · rw [if_pos c27] at H
      refine z_sipush (pc := 58) (x := 320) dX12_readLine_58 zc_sipush_320 ?_
      refine z_aload_n (pc := 61) 0 dX12_readLine_61 rfl rfl ?_
      obtain ⟨r28, er28, H⟩ := zbind H
      refine z_getR (pc := 62) dX12_readLine_62 fd_X12_85 er28 ?_
      refine z_bipush (pc := 65) (x := 16) dX12_readLine_65 zc_bipush_16 ?_
      obtain ⟨x29, ex29, H⟩ := zbind H
      refine z_iaload (pc := 67) dX12_readLine_67 ex29 ?_
      refine z_iadd (pc := 68) dX12_readLine_68 ?_
      obtain ⟨x30, ex30, H⟩ := zletE H
      refine z_nmI ex30 ?_
      refine z_istore_n (pc := 69) (lv' := [(1, .int x30), (0, .ref v0)]) dX12_readLine_69 rfl (by decide) rfl ?_
      refine z_aload_n (pc := 70) 1 dX12_readLine_70 rfl rfl ?_
      obtain ⟨r31, er31, H⟩ := zbind H
      refine z_getR (pc := 71) dX12_readLine_71 fd_X12_88 er31 ?_
      refine z_iload_n (pc := 74) 0 dX12_readLine_74 rfl rfl ?_
      refine z_aload_n (pc := 75) 1 dX12_readLine_75 rfl rfl ?_
      refine z_iconst (pc := 76) (x := 0) dX12_readLine_76 zc_iconst_0 ?_
      obtain ⟨z32, H⟩ := zifE H
      obtain ⟨q33, eq33, H⟩ := zbind H
      refine z_callV (pc := 77) (mc := 0) (ms := 0) (d' := 0) (mc' := 0) (ms' := 0) (rest := [.int x30, .ref r31]) [.int 0] dX12_readLine_77 md_X12_isWord ml_X12_272 im_X12_isWord se_X12_isWord rfl z32 rfl rfl (Nat.le_of_ble_eq_true rfl) (by omega) (k_X12_isWord eq33) ?_
      obtain ⟨m34, em34, H⟩ := zbind H
      have Jm34 : zW yX12_readLine cX12_readLine 2 none 48 0 0 102 [(0, .ref v0), (1, .int x30)] [.int m34, .int x30, .ref r31] m3 none r := by
        obtain ⟨h39, eh39, H⟩ := zbind H
        refine z_iastore (pc := 102) dX12_readLine_102 eh39 ?_
        refine z_aload_n (pc := 103) 0 dX12_readLine_103 rfl rfl ?_
        obtain ⟨r40, er40, H⟩ := zbind H
        refine z_getR (pc := 104) dX12_readLine_104 fd_X12_91 er40 ?_
        refine z_iload_n (pc := 107) 1 dX12_readLine_107 rfl rfl ?_
        refine z_iconst (pc := 108) (x := 0) dX12_readLine_108 zc_iconst_0 ?_
        obtain ⟨h41, eh41, H⟩ := zbind H
        refine z_iastore (pc := 109) dX12_readLine_109 eh41 ?_
        refine z_aload_n (pc := 110) 0 dX12_readLine_110 rfl rfl ?_
        refine z_dup (pc := 111) dX12_readLine_111 rfl ?_
        obtain ⟨x42, ex42, H⟩ := zbind H
        refine z_getI (pc := 112) dX12_readLine_112 fd_X12_259 ex42 ?_
        refine z_iconst (pc := 115) (x := 1) dX12_readLine_115 zc_iconst_1 ?_
        refine z_iadd (pc := 116) dX12_readLine_116 ?_
        obtain ⟨h43, eh43, H⟩ := zbind H
        refine z_put (pc := 117) dX12_readLine_117 fd_X12_259 rfl rfl eh43 ?_
        refine z_aload_n (pc := 120) 0 dX12_readLine_120 rfl rfl ?_
        obtain ⟨r44, er44, H⟩ := zbind H
        refine z_getR (pc := 121) dX12_readLine_121 fd_X12_88 er44 ?_
        refine z_iload_n (pc := 124) 1 dX12_readLine_124 rfl rfl ?_
        obtain ⟨x45, ex45, H⟩ := zbind H
        refine z_iaload (pc := 125) dX12_readLine_125 ex45 ?_
        obtain ⟨m46, em46, H⟩ := zbind H
        have Jm46 : zW yX12_readLine cX12_readLine 2 none 48 0 0 184 [(0, .ref v0)] [] m46 none r := by
          refine z_aload_n (pc := 184) 0 dX12_readLine_184 rfl rfl ?_
          obtain ⟨r66, er66, H⟩ := zbind H
          refine z_getR (pc := 185) dX12_readLine_185 fd_X12_85 er66 ?_
          refine z_bipush (pc := 188) (x := 16) dX12_readLine_188 zc_bipush_16 ?_
          refine z_dup2 (pc := 190) dX12_readLine_190 rfl rfl ?_
          obtain ⟨x67, ex67, H⟩ := zbind H
          refine z_iaload (pc := 191) dX12_readLine_191 ex67 ?_
          refine z_iconst (pc := 192) (x := 1) dX12_readLine_192 zc_iconst_1 ?_
          refine z_iadd (pc := 193) dX12_readLine_193 ?_
          obtain ⟨h68, eh68, H⟩ := zbind H
          refine z_iastore (pc := 194) dX12_readLine_194 eh68 ?_
          refine z_aload_n (pc := 195) 0 dX12_readLine_195 rfl rfl ?_
          refine z_bipush (pc := 196) (x := 59) dX12_readLine_196 zc_bipush_59 ?_
          obtain ⟨z69, H⟩ := zifE H
          obtain ⟨h70, eh70, H⟩ := zbind H
          refine z_callV (pc := 198) (mc := 0) (ms := 0) (d' := 1) (mc' := 0) (ms' := 0) (rest := []) [.int 59] dX12_readLine_198 md_X12_takeSign ml_X12_316 im_X12_takeSign se_X12_takeSign rfl z69 rfl rfl (Nat.le_of_ble_eq_true rfl) (by omega) (k_X12_takeSign eh70) ?_
          cases H
          exact z_return rfl dX12_readLine_201
        refine z_if_ne (pc := 126) 137 dX12_readLine_126 (by decide) (fun c47 => ?_) (fun c47 => ?_)
        · rw [if_neg c47] at em46
          refine z_aload_n (pc := 137) 0 dX12_readLine_137 rfl rfl ?_
          obtain ⟨r48, er48, em46⟩ := zbind em46
          refine z_getR (pc := 138) dX12_readLine_138 fd_X12_91 er48 ?_
          refine z_iload_n (pc := 141) 1 dX12_readLine_141 rfl rfl ?_
          refine z_aload_n (pc := 142) 0 dX12_readLine_142 rfl rfl ?_
          obtain ⟨r49, er49, em46⟩ := zbind em46
          refine z_getR (pc := 143) dX12_readLine_143 fd_X12_88 er49 ?_
          refine z_iload_n (pc := 146) 1 dX12_readLine_146 rfl rfl ?_
          obtain ⟨x50, ex50, em46⟩ := zbind em46
          refine z_iaload (pc := 147) dX12_readLine_147 ex50 ?_
          refine z_bipush (pc := 148) (x := 19) dX12_readLine_148 zc_bipush_19 ?_
          obtain ⟨m51, em51, em46⟩ := zbind em46
          have Jm51 : zW yX12_readLine cX12_readLine 2 none 48 0 0 168 [(0, .ref v0), (1, .int x30)] [.int m51.1, .int x30, .ref r48] m51.2 none r := by
            obtain ⟨h57, eh57, em46⟩ := zbind em46
            refine z_iastore (pc := 168) dX12_readLine_168 eh57 ?_
            refine z_aload_n (pc := 169) 0 dX12_readLine_169 rfl rfl ?_
            refine z_iconst (pc := 170) (x := 2) dX12_readLine_170 zc_iconst_2 ?_
            obtain ⟨z58, em46⟩ := zifE em46
            obtain ⟨h59, eh59, em46⟩ := zbind em46
            refine z_callV (pc := 171) (mc := 0) (ms := 0) (d' := 2) (mc' := 0) (ms' := 0) (rest := []) [.int 2] dX12_readLine_171 md_X12_takeWord ml_X12_310 im_X12_takeWord se_X12_takeWord rfl z58 rfl rfl (Nat.le_of_ble_eq_true rfl) (by omega) (k_X12_takeWord eh59) ?_
            refine z_aload_n (pc := 174) 0 dX12_readLine_174 rfl rfl ?_
            obtain ⟨r60, er60, em46⟩ := zbind em46
            refine z_getR (pc := 175) dX12_readLine_175 fd_X12_94 er60 ?_
            refine z_iload_n (pc := 178) 1 dX12_readLine_178 rfl rfl ?_
            refine z_aload_n (pc := 179) 0 dX12_readLine_179 rfl rfl ?_
            obtain ⟨z61, em46⟩ := zifE em46
            obtain ⟨q62, eq62, em46⟩ := zbind em46
            refine z_callV (pc := 180) (mc := 0) (ms := 0) (d' := 46) (mc' := 0) (ms' := 0) (rest := [.int x30, .ref r60]) [] dX12_readLine_180 md_X12_readTests ml_X12_313 im_X12_readTests se_X12_readTests rfl z61 rfl rfl (Nat.le_of_ble_eq_true rfl) (by omega) (k_X12_readTests eq62) ?_
            obtain ⟨h63, eh63, em46⟩ := zbind em46
            refine z_iastore (pc := 183) dX12_readLine_183 eh63 ?_
            cases em46
            exact z_sub [0] rfl Jm46
          refine z_icmp_ne (pc := 150) 164 dX12_readLine_150 (by decide) (fun c52 => ?_) (fun c52 => ?_)
          · rw [if_neg c52] at em51
            refine z_aload_n (pc := 164) 0 dX12_readLine_164 rfl rfl ?_
            obtain ⟨z53, em51⟩ := zifE em51
            obtain ⟨q54, eq54, em51⟩ := zbind em51
            refine z_callV (pc := 165) (mc := 0) (ms := 0) (d' := 1) (mc' := 0) (ms' := 0) (rest := [.int x30, .ref r48]) [] dX12_readLine_165 md_X12_takeWho ml_X12_306 im_X12_takeWho se_X12_takeWho rfl z53 rfl rfl (Nat.le_of_ble_eq_true rfl) (by omega) (k_X12_takeWho eq54) ?_
            cases em51
            exact z_sub [0, 1] rfl Jm51
          · rw [if_pos c52] at em51
            refine z_aload_n (pc := 153) 0 dX12_readLine_153 rfl rfl ?_
            refine z_iconst (pc := 154) (x := 1) dX12_readLine_154 zc_iconst_1 ?_
            refine z_sipush (pc := 155) (x := 999) dX12_readLine_155 zc_sipush_999 ?_
            obtain ⟨z55, em51⟩ := zifE em51
            obtain ⟨q56, eq56, em51⟩ := zbind em51
            refine z_callV (pc := 158) (mc := 0) (ms := 0) (d' := 1) (mc' := 0) (ms' := 0) (rest := [.int x30, .ref r48]) [.int 1, .int 999] dX12_readLine_158 md_X12_takeNumber ml_X12_302 im_X12_takeNumber se_X12_takeNumber rfl z55 rfl rfl (Nat.le_of_ble_eq_true rfl) (by omega) (k_X12_takeNumber eq56) ?_
            refine z_goto (pc := 161) 168 dX12_readLine_161 (by decide) ?_
            cases em51
            exact z_sub [0, 1] rfl Jm51
        · rw [if_pos c47] at em46
          refine z_aload_n (pc := 129) 0 dX12_readLine_129 rfl rfl ?_
          refine z_iload_n (pc := 130) 1 dX12_readLine_130 rfl rfl ?_
          obtain ⟨z64, em46⟩ := zifE em46
          obtain ⟨h65, eh65, em46⟩ := zbind em46
          refine z_callV (pc := 131) (mc := 0) (ms := 0) (d' := 47) (mc' := 0) (ms' := 0) (rest := []) [.int x30] dX12_readLine_131 md_X12_readLet ml_X12_299 im_X12_readLet se_X12_readLet rfl z64 rfl rfl (Nat.le_of_ble_eq_true rfl) (by omega) (k_X12_readLet eh65) ?_
          refine z_goto (pc := 134) 184 dX12_readLine_134 (by decide) ?_
          cases em46
          exact z_sub [0] rfl Jm46
      refine z_if_eq (pc := 80) 87 dX12_readLine_80 (by decide) (fun c35 => ?_) (fun c35 => ?_)
      · rw [if_pos c35] at em34
        refine z_aload_n (pc := 87) 1 dX12_readLine_87 rfl rfl ?_
        refine z_bipush (pc := 88) (x := 19) dX12_readLine_88 zc_bipush_19 ?_
        obtain ⟨z36, em34⟩ := zifE em34
        obtain ⟨q37, eq37, em34⟩ := zbind em34
        refine z_callV (pc := 90) (mc := 0) (ms := 0) (d' := 0) (mc' := 0) (ms' := 0) (rest := [.int x30, .ref r31]) [.int 19] dX12_readLine_90 md_X12_isWord ml_X12_272 im_X12_isWord se_X12_isWord rfl z36 rfl rfl (Nat.le_of_ble_eq_true rfl) (by omega) (k_X12_isWord eq37) ?_
        refine z_if_eq (pc := 93) 101 dX12_readLine_93 (by decide) (fun c38 => ?_) (fun c38 => ?_)
        · rw [if_pos c38] at em34
          refine z_iconst (pc := 101) (x := 1) dX12_readLine_101 zc_iconst_1 ?_
          cases em34
          exact z_sub [1, 0] rfl Jm34
        · rw [if_neg c38] at em34
          refine z_bipush (pc := 96) (x := 19) dX12_readLine_96 zc_bipush_19 ?_
          refine z_goto (pc := 98) 102 dX12_readLine_98 (by decide) ?_
          cases em34
          exact z_sub [1, 0] rfl Jm34
      · rw [if_neg c35] at em34
        refine z_iconst (pc := 83) (x := 0) dX12_readLine_83 zc_iconst_0 ?_
        refine z_goto (pc := 84) 102 dX12_readLine_84 (by decide) ?_
        cases em34
        exact z_sub [1, 0] rfl Jm34
    · rw [if_neg c27] at H
      cases H
      exact z_return rfl dX12_readLine_57
  refine z_if_ne (pc := 5) 33 dX12_readLine_5 (by decide) (fun c4 => ?_) (fun c4 => ?_)
  · rw [if_neg c4] at em3
    refine z_aload_n (pc := 33) 0 dX12_readLine_33 rfl rfl ?_
    obtain ⟨r5, er5, em3⟩ := zbind em3
    refine z_getR (pc := 34) dX12_readLine_34 fd_X12_85 er5 ?_
    refine z_bipush (pc := 37) (x := 16) dX12_readLine_37 zc_bipush_16 ?_
    obtain ⟨x6, ex6, em3⟩ := zbind em3
    refine z_iaload (pc := 39) dX12_readLine_39 ex6 ?_
    refine z_bipush (pc := 40) (x := 20) dX12_readLine_40 zc_bipush_20 ?_
    refine z_icmp_ne (pc := 42) 50 dX12_readLine_42 (by decide) (fun c7 => ?_) (fun c7 => ?_)
    · rw [if_neg c7] at em3
      cases em3
      exact z_sub [0] rfl Jm3
    · rw [if_pos c7] at em3
      refine z_aload_n (pc := 45) 0 dX12_readLine_45 rfl rfl ?_
      refine z_iconst (pc := 46) (x := 5) dX12_readLine_46 zc_iconst_5 ?_
      obtain ⟨z8, em3⟩ := zifE em3
      obtain ⟨h9, eh9, em3⟩ := zbind em3
      refine z_callV (pc := 47) (mc := 0) (ms := 0) (d' := 0) (mc' := 0) (ms' := 0) (rest := []) [.int 5] dX12_readLine_47 md_X12_wrong ml_X12_268 im_X12_wrong se_X12_wrong rfl z8 rfl rfl (Nat.le_of_ble_eq_true rfl) (by omega) (k_X12_wrong eh9) ?_
      cases em3
      exact z_sub [0] rfl Jm3
  · rw [if_pos c4] at em3
    refine z_aload_n (pc := 8) 0 dX12_readLine_8 rfl rfl ?_
    refine z_bipush (pc := 9) (x := 19) dX12_readLine_9 zc_bipush_19 ?_
    obtain ⟨z10, em3⟩ := zifE em3
    obtain ⟨q11, eq11, em3⟩ := zbind em3
    refine z_callV (pc := 11) (mc := 0) (ms := 0) (d' := 0) (mc' := 0) (ms' := 0) (rest := []) [.int 19] dX12_readLine_11 md_X12_isWord ml_X12_272 im_X12_isWord se_X12_isWord rfl z10 rfl rfl (Nat.le_of_ble_eq_true rfl) (by omega) (k_X12_isWord eq11) ?_
    obtain ⟨m12, em12, em3⟩ := zbind em3
    have Jm12 : ∀ s13, m12 = .inl s13 → zW yX12_readLine cX12_readLine 2 none 48 0 0 33 [(0, .ref v0)] [] s13 none r := by
      intro s13 e9
      subst e9
      have em3 := zsumL em3
      refine z_aload_n (pc := 33) 0 dX12_readLine_33 rfl rfl ?_
      obtain ⟨r21, er21, em3⟩ := zbind em3
      refine z_getR (pc := 34) dX12_readLine_34 fd_X12_85 er21 ?_
      refine z_bipush (pc := 37) (x := 16) dX12_readLine_37 zc_bipush_16 ?_
      obtain ⟨x22, ex22, em3⟩ := zbind em3
      refine z_iaload (pc := 39) dX12_readLine_39 ex22 ?_
      refine z_bipush (pc := 40) (x := 20) dX12_readLine_40 zc_bipush_20 ?_
      refine z_icmp_ne (pc := 42) 50 dX12_readLine_42 (by decide) (fun c23 => ?_) (fun c23 => ?_)
      · rw [if_neg c23] at em3
        cases em3
        exact z_sub [0] rfl Jm3
      · rw [if_pos c23] at em3
        refine z_aload_n (pc := 45) 0 dX12_readLine_45 rfl rfl ?_
        refine z_iconst (pc := 46) (x := 5) dX12_readLine_46 zc_iconst_5 ?_
        obtain ⟨z24, em3⟩ := zifE em3
        obtain ⟨h25, eh25, em3⟩ := zbind em3
        refine z_callV (pc := 47) (mc := 0) (ms := 0) (d' := 0) (mc' := 0) (ms' := 0) (rest := []) [.int 5] dX12_readLine_47 md_X12_wrong ml_X12_268 im_X12_wrong se_X12_wrong rfl z24 rfl rfl (Nat.le_of_ble_eq_true rfl) (by omega) (k_X12_wrong eh25) ?_
        cases em3
        exact z_sub [0] rfl Jm3
    refine z_if_ne (pc := 14) 33 dX12_readLine_14 (by decide) (fun c14 => ?_) (fun c14 => ?_)
    · rw [if_neg c14] at em12
      cases em12
      exact z_sub [0] rfl (Jm12 _ rfl)
    · rw [if_pos c14] at em12
      refine z_aload_n (pc := 17) 0 dX12_readLine_17 rfl rfl ?_
      refine z_iconst (pc := 18) (x := 1) dX12_readLine_18 zc_iconst_1 ?_
      obtain ⟨z15, em12⟩ := zifE em12
      obtain ⟨q16, eq16, em12⟩ := zbind em12
      refine z_callV (pc := 19) (mc := 0) (ms := 0) (d' := 0) (mc' := 0) (ms' := 0) (rest := []) [.int 1] dX12_readLine_19 md_X12_isWord ml_X12_272 im_X12_isWord se_X12_isWord rfl z15 rfl rfl (Nat.le_of_ble_eq_true rfl) (by omega) (k_X12_isWord eq16) ?_
      refine z_if_ne (pc := 22) 33 dX12_readLine_22 (by decide) (fun c17 => ?_) (fun c17 => ?_)
      · rw [if_neg c17] at em12
        cases em12
        exact z_sub [0] rfl (Jm12 _ rfl)
      · rw [if_pos c17] at em12
        refine z_aload_n (pc := 25) 0 dX12_readLine_25 rfl rfl ?_
        refine z_iconst (pc := 26) (x := 1) dX12_readLine_26 zc_iconst_1 ?_
        obtain ⟨z18, em12⟩ := zifE em12
        obtain ⟨h19, eh19, em12⟩ := zbind em12
        refine z_callV (pc := 27) (mc := 0) (ms := 0) (d' := 0) (mc' := 0) (ms' := 0) (rest := []) [.int 1] dX12_readLine_27 md_X12_wrong ml_X12_268 im_X12_wrong se_X12_wrong rfl z18 rfl rfl (Nat.le_of_ble_eq_true rfl) (by omega) (k_X12_wrong eh19) ?_
        refine z_goto (pc := 30) 50 dX12_readLine_30 (by decide) ?_
        obtain ⟨o20, H9, e9⟩ := zmapR em12
        subst e9
        have H9 := H9.trans (zsumR em3)
        cases H9
        exact z_sub [0] rfl Jm3

theorem fd_X12_281 : zFd RX12 281 12 10 (.int) false "WhoseStreetModel" := zFd.of cl_12 (by decide) (zmem 1380 (by decide +kernel) rfl) rfl rfl rfl
theorem fd_X12_296 : zFd RX12 296 12 25 (.int) false "WhoseStreetModel" := zFd.of cl_12 (by decide) (zmem 1395 (by decide +kernel) rfl) rfl rfl rfl
def f_X12_keeps_L37 (N : Nat) (v0 : Nat) (v2 : Int32) : Nat → Int32 → zH → Option (zH)
  | 0, _, _ => none
  | n + 1, v3, h => (gR h v0 12 13).bind fun r11 => (aI h r11 16).bind fun x12 => if x12 ≤ v3 then (some h) else ((gR h v0 12 14).bind fun r14 => (gR h v0 12 14).bind fun r15 => (aI h r15 (320 + v3)).bind fun x16 => (sI h r14 ((20 * v2) + v3) x16).bind fun h17 => (gR h17 v0 12 15).bind fun r18 => (gR h17 v0 12 15).bind fun r19 => (aI h17 r19 (320 + v3)).bind fun x20 => (sI h17 r18 ((20 * v2) + v3) x20).bind fun h21 => (gR h21 v0 12 16).bind fun r22 => (gR h21 v0 12 16).bind fun r23 => (aI h21 r23 (320 + v3)).bind fun x24 => (sI h21 r22 ((20 * v2) + v3) ((x24 - 19200) + (1200 * v2))).bind fun h25 => f_X12_keeps_L37 N v0 v2 n (v3 + 1) h25)
def f_X12_keeps_L129 (N : Nat) (v0 : Nat) (v2 : Int32) : Nat → Int32 → zH → Option (zH)
  | 0, _, _ => none
  | n + 1, v3, h => (gI h v0 12 19).bind fun x27 => if x27 ≤ v3 then (some h) else ((gR h v0 12 20).bind fun r29 => (gR h v0 12 20).bind fun r30 => (aI h r30 (19200 + v3)).bind fun x31 => (sI h r29 ((1200 * v2) + v3) x31).bind fun h32 => (gR h32 v0 12 21).bind fun r33 => (gR h32 v0 12 21).bind fun r34 => (aI h32 r34 (19200 + v3)).bind fun x35 => (sI h32 r33 ((1200 * v2) + v3) x35).bind fun h36 => f_X12_keeps_L129 N v0 v2 n (v3 + 1) h36)
set_option maxRecDepth 100000 in
set_option maxHeartbeats 4000000 in
theorem s_X12_keeps_L37 {d mc ms N : Nat} {vv : Option Value} {hh : zH} {v0 : Nat} {v2 : Int32} (hd0 : 0 ≤ d) : ∀ (n : Nat) (v3 : Int32) (h : zH) (m : zH), f_X12_keeps_L37 N v0 v2 n v3 h = some m → (zW yX12_keeps cX12_keeps 4 none d mc ms 127 [(0, .ref v0), (2, .int v2)] [] m vv hh) → zW yX12_keeps cX12_keeps 4 none d mc ms 37 [(0, .ref v0), (2, .int v2), (3, .int v3)] [] h vv hh := by
  intro n
  induction n with
  | zero =>
    intro v3 h m H
    cases H
  | succ n ih =>
    intro v3 h m H KE
    unfold f_X12_keeps_L37 at H
    refine z_iload_n (pc := 37) 2 dX12_keeps_37 rfl rfl ?_
    refine z_aload_n (pc := 38) 0 dX12_keeps_38 rfl rfl ?_
    obtain ⟨r11, er11, H⟩ := zbind H
    refine z_getR (pc := 39) dX12_keeps_39 fd_X12_85 er11 ?_
    refine z_bipush (pc := 42) (x := 16) dX12_keeps_42 zc_bipush_16 ?_
    obtain ⟨x12, ex12, H⟩ := zbind H
    refine z_iaload (pc := 44) dX12_keeps_44 ex12 ?_
    refine z_icmp_ge (pc := 45) 127 dX12_keeps_45 (by decide) (fun c13 => ?_) (fun c13 => ?_)
    · rw [if_pos c13] at H
      cases H
      exact z_sub [0, 1] rfl (KE)
    · rw [if_neg c13] at H
      refine z_aload_n (pc := 48) 0 dX12_keeps_48 rfl rfl ?_
      obtain ⟨r14, er14, H⟩ := zbind H
      refine z_getR (pc := 49) dX12_keeps_49 fd_X12_88 er14 ?_
      refine z_bipush (pc := 52) (x := 20) dX12_keeps_52 zc_bipush_20 ?_
      refine z_iload_n (pc := 54) 1 dX12_keeps_54 rfl rfl ?_
      refine z_imul (pc := 55) dX12_keeps_55 ?_
      refine z_iload_n (pc := 56) 2 dX12_keeps_56 rfl rfl ?_
      refine z_iadd (pc := 57) dX12_keeps_57 ?_
      refine z_aload_n (pc := 58) 0 dX12_keeps_58 rfl rfl ?_
      obtain ⟨r15, er15, H⟩ := zbind H
      refine z_getR (pc := 59) dX12_keeps_59 fd_X12_88 er15 ?_
      refine z_sipush (pc := 62) (x := 320) dX12_keeps_62 zc_sipush_320 ?_
      refine z_iload_n (pc := 65) 2 dX12_keeps_65 rfl rfl ?_
      refine z_iadd (pc := 66) dX12_keeps_66 ?_
      obtain ⟨x16, ex16, H⟩ := zbind H
      refine z_iaload (pc := 67) dX12_keeps_67 ex16 ?_
      obtain ⟨h17, eh17, H⟩ := zbind H
      refine z_iastore (pc := 68) dX12_keeps_68 eh17 ?_
      refine z_aload_n (pc := 69) 0 dX12_keeps_69 rfl rfl ?_
      obtain ⟨r18, er18, H⟩ := zbind H
      refine z_getR (pc := 70) dX12_keeps_70 fd_X12_91 er18 ?_
      refine z_bipush (pc := 73) (x := 20) dX12_keeps_73 zc_bipush_20 ?_
      refine z_iload_n (pc := 75) 1 dX12_keeps_75 rfl rfl ?_
      refine z_imul (pc := 76) dX12_keeps_76 ?_
      refine z_iload_n (pc := 77) 2 dX12_keeps_77 rfl rfl ?_
      refine z_iadd (pc := 78) dX12_keeps_78 ?_
      refine z_aload_n (pc := 79) 0 dX12_keeps_79 rfl rfl ?_
      obtain ⟨r19, er19, H⟩ := zbind H
      refine z_getR (pc := 80) dX12_keeps_80 fd_X12_91 er19 ?_
      refine z_sipush (pc := 83) (x := 320) dX12_keeps_83 zc_sipush_320 ?_
      refine z_iload_n (pc := 86) 2 dX12_keeps_86 rfl rfl ?_
      refine z_iadd (pc := 87) dX12_keeps_87 ?_
      obtain ⟨x20, ex20, H⟩ := zbind H
      refine z_iaload (pc := 88) dX12_keeps_88 ex20 ?_
      obtain ⟨h21, eh21, H⟩ := zbind H
      refine z_iastore (pc := 89) dX12_keeps_89 eh21 ?_
      refine z_aload_n (pc := 90) 0 dX12_keeps_90 rfl rfl ?_
      obtain ⟨r22, er22, H⟩ := zbind H
      refine z_getR (pc := 91) dX12_keeps_91 fd_X12_94 er22 ?_
      refine z_bipush (pc := 94) (x := 20) dX12_keeps_94 zc_bipush_20 ?_
      refine z_iload_n (pc := 96) 1 dX12_keeps_96 rfl rfl ?_
      refine z_imul (pc := 97) dX12_keeps_97 ?_
      refine z_iload_n (pc := 98) 2 dX12_keeps_98 rfl rfl ?_
      refine z_iadd (pc := 99) dX12_keeps_99 ?_
      refine z_aload_n (pc := 100) 0 dX12_keeps_100 rfl rfl ?_
      obtain ⟨r23, er23, H⟩ := zbind H
      refine z_getR (pc := 101) dX12_keeps_101 fd_X12_94 er23 ?_
      refine z_sipush (pc := 104) (x := 320) dX12_keeps_104 zc_sipush_320 ?_
      refine z_iload_n (pc := 107) 2 dX12_keeps_107 rfl rfl ?_
      refine z_iadd (pc := 108) dX12_keeps_108 ?_
      obtain ⟨x24, ex24, H⟩ := zbind H
      refine z_iaload (pc := 109) dX12_keeps_109 ex24 ?_
      refine z_sipush (pc := 110) (x := 19200) dX12_keeps_110 zc_sipush_19200 ?_
      refine z_isub (pc := 113) dX12_keeps_113 ?_
      refine z_sipush (pc := 114) (x := 1200) dX12_keeps_114 zc_sipush_1200 ?_
      refine z_iload_n (pc := 117) 1 dX12_keeps_117 rfl rfl ?_
      refine z_imul (pc := 118) dX12_keeps_118 ?_
      refine z_iadd (pc := 119) dX12_keeps_119 ?_
      obtain ⟨h25, eh25, H⟩ := zbind H
      refine z_iastore (pc := 120) dX12_keeps_120 eh25 ?_
      refine z_iinc (pc := 121) (x' := v3 + 1) (lv' := [(3, .int (v3 + 1)), (0, .ref v0), (2, .int v2)]) 2 dX12_keeps_121 rfl (by rfl) (by decide) rfl ?_
      refine z_goto (pc := 124) 37 dX12_keeps_124 (by decide) ?_
      exact z_sub [1, 2, 0] rfl (ih (v3 + 1) h25 _ H KE)
set_option maxRecDepth 100000 in
set_option maxHeartbeats 4000000 in
theorem s_X12_keeps_L129 {d mc ms N : Nat} {vv : Option Value} {hh : zH} {v0 : Nat} {v2 : Int32} (hd0 : 0 ≤ d) : ∀ (n : Nat) (v3 : Int32) (h : zH) (m : zH), f_X12_keeps_L129 N v0 v2 n v3 h = some m → (zW yX12_keeps cX12_keeps 4 none d mc ms 187 [(0, .ref v0)] [] m vv hh) → zW yX12_keeps cX12_keeps 4 none d mc ms 129 [(0, .ref v0), (2, .int v2), (3, .int v3)] [] h vv hh := by
  intro n
  induction n with
  | zero =>
    intro v3 h m H
    cases H
  | succ n ih =>
    intro v3 h m H KE
    unfold f_X12_keeps_L129 at H
    refine z_iload_n (pc := 129) 2 dX12_keeps_129 rfl rfl ?_
    refine z_aload_n (pc := 130) 0 dX12_keeps_130 rfl rfl ?_
    obtain ⟨x27, ex27, H⟩ := zbind H
    refine z_getI (pc := 131) dX12_keeps_131 fd_X12_278 ex27 ?_
    refine z_icmp_ge (pc := 134) 187 dX12_keeps_134 (by decide) (fun c28 => ?_) (fun c28 => ?_)
    · rw [if_pos c28] at H
      cases H
      exact z_sub [0] rfl (KE)
    · rw [if_neg c28] at H
      refine z_aload_n (pc := 137) 0 dX12_keeps_137 rfl rfl ?_
      obtain ⟨r29, er29, H⟩ := zbind H
      refine z_getR (pc := 138) dX12_keeps_138 fd_X12_100 er29 ?_
      refine z_sipush (pc := 141) (x := 1200) dX12_keeps_141 zc_sipush_1200 ?_
      refine z_iload_n (pc := 144) 1 dX12_keeps_144 rfl rfl ?_
      refine z_imul (pc := 145) dX12_keeps_145 ?_
      refine z_iload_n (pc := 146) 2 dX12_keeps_146 rfl rfl ?_
      refine z_iadd (pc := 147) dX12_keeps_147 ?_
      refine z_aload_n (pc := 148) 0 dX12_keeps_148 rfl rfl ?_
      obtain ⟨r30, er30, H⟩ := zbind H
      refine z_getR (pc := 149) dX12_keeps_149 fd_X12_100 er30 ?_
      refine z_sipush (pc := 152) (x := 19200) dX12_keeps_152 zc_sipush_19200 ?_
      refine z_iload_n (pc := 155) 2 dX12_keeps_155 rfl rfl ?_
      refine z_iadd (pc := 156) dX12_keeps_156 ?_
      obtain ⟨x31, ex31, H⟩ := zbind H
      refine z_iaload (pc := 157) dX12_keeps_157 ex31 ?_
      obtain ⟨h32, eh32, H⟩ := zbind H
      refine z_iastore (pc := 158) dX12_keeps_158 eh32 ?_
      refine z_aload_n (pc := 159) 0 dX12_keeps_159 rfl rfl ?_
      obtain ⟨r33, er33, H⟩ := zbind H
      refine z_getR (pc := 160) dX12_keeps_160 fd_X12_103 er33 ?_
      refine z_sipush (pc := 163) (x := 1200) dX12_keeps_163 zc_sipush_1200 ?_
      refine z_iload_n (pc := 166) 1 dX12_keeps_166 rfl rfl ?_
      refine z_imul (pc := 167) dX12_keeps_167 ?_
      refine z_iload_n (pc := 168) 2 dX12_keeps_168 rfl rfl ?_
      refine z_iadd (pc := 169) dX12_keeps_169 ?_
      refine z_aload_n (pc := 170) 0 dX12_keeps_170 rfl rfl ?_
      obtain ⟨r34, er34, H⟩ := zbind H
      refine z_getR (pc := 171) dX12_keeps_171 fd_X12_103 er34 ?_
      refine z_sipush (pc := 174) (x := 19200) dX12_keeps_174 zc_sipush_19200 ?_
      refine z_iload_n (pc := 177) 2 dX12_keeps_177 rfl rfl ?_
      refine z_iadd (pc := 178) dX12_keeps_178 ?_
      obtain ⟨x35, ex35, H⟩ := zbind H
      refine z_iaload (pc := 179) dX12_keeps_179 ex35 ?_
      obtain ⟨h36, eh36, H⟩ := zbind H
      refine z_iastore (pc := 180) dX12_keeps_180 eh36 ?_
      refine z_iinc (pc := 181) (x' := v3 + 1) (lv' := [(3, .int (v3 + 1)), (0, .ref v0), (2, .int v2)]) 2 dX12_keeps_181 rfl (by rfl) (by decide) rfl ?_
      refine z_goto (pc := 184) 129 dX12_keeps_184 (by decide) ?_
      exact z_sub [1, 2, 0] rfl (ih (v3 + 1) h36 _ H KE)
def f_X12_keeps (N : Nat) (v0 : Nat) (v1 : Int32) (h : zH) : Option (zH) := (gI h v0 12 10).bind fun x1 => (gR h v0 12 11).bind fun r2 => (sI h r2 x1 v1).bind fun h3 => (gR h3 v0 12 12).bind fun r4 => (gI h3 v0 12 25).bind fun x5 => (sI h3 r4 x1 x5).bind fun h6 => (gR h6 v0 12 13).bind fun r7 => (gR h6 v0 12 13).bind fun r8 => (aI h6 r8 16).bind fun x9 => (sI h6 r7 x1 x9).bind fun h10 => (f_X12_keeps_L37 N v0 x1 N 0 h10).bind fun m26 => (f_X12_keeps_L129 N v0 x1 N 0 m26).bind fun m37 => (gI m37 v0 12 10).bind fun x38 => (pF m37 v0 12 10 (.int (x38 + 1))).bind fun h39 => some h39
set_option maxRecDepth 100000 in
set_option maxHeartbeats 4000000 in
theorem k_X12_keeps {N : Nat} {v0 : Nat} {v1 : Int32} {h : zH} {r : zH} (H : f_X12_keeps N v0 v1 h = some r) : zOk 0 0 0 yX12_keeps cX12_keeps 4 none [.ref v0, .int v1] h none r := by
  refine zOk.of (by decide) (Nat.le_of_ble_eq_true rfl) ?_
  unfold f_X12_keeps at H
  refine z_aload_n (pc := 0) 0 dX12_keeps_0 rfl rfl ?_
  obtain ⟨x1, ex1, H⟩ := zbind H
  refine z_getI (pc := 1) dX12_keeps_1 fd_X12_281 ex1 ?_
  refine z_istore_n (pc := 4) (lv' := [(2, .int x1), (0, .ref v0), (1, .int v1)]) dX12_keeps_4 rfl (by decide) rfl ?_
  refine z_aload_n (pc := 5) 1 dX12_keeps_5 rfl rfl ?_
  obtain ⟨r2, er2, H⟩ := zbind H
  refine z_getR (pc := 6) dX12_keeps_6 fd_X12_79 er2 ?_
  refine z_iload_n (pc := 9) 0 dX12_keeps_9 rfl rfl ?_
  refine z_iload_n (pc := 10) 2 dX12_keeps_10 rfl rfl ?_
  obtain ⟨h3, eh3, H⟩ := zbind H
  refine z_iastore (pc := 11) dX12_keeps_11 eh3 ?_
  refine z_aload_n (pc := 12) 1 dX12_keeps_12 rfl rfl ?_
  obtain ⟨r4, er4, H⟩ := zbind H
  refine z_getR (pc := 13) dX12_keeps_13 fd_X12_82 er4 ?_
  refine z_iload_n (pc := 16) 0 dX12_keeps_16 rfl rfl ?_
  refine z_aload_n (pc := 17) 1 dX12_keeps_17 rfl rfl ?_
  obtain ⟨x5, ex5, H⟩ := zbind H
  refine z_getI (pc := 18) dX12_keeps_18 fd_X12_296 ex5 ?_
  obtain ⟨h6, eh6, H⟩ := zbind H
  refine z_iastore (pc := 21) dX12_keeps_21 eh6 ?_
  refine z_aload_n (pc := 22) 1 dX12_keeps_22 rfl rfl ?_
  obtain ⟨r7, er7, H⟩ := zbind H
  refine z_getR (pc := 23) dX12_keeps_23 fd_X12_85 er7 ?_
  refine z_iload_n (pc := 26) 0 dX12_keeps_26 rfl rfl ?_
  refine z_aload_n (pc := 27) 1 dX12_keeps_27 rfl rfl ?_
  obtain ⟨r8, er8, H⟩ := zbind H
  refine z_getR (pc := 28) dX12_keeps_28 fd_X12_85 er8 ?_
  refine z_bipush (pc := 31) (x := 16) dX12_keeps_31 zc_bipush_16 ?_
  obtain ⟨x9, ex9, H⟩ := zbind H
  refine z_iaload (pc := 33) dX12_keeps_33 ex9 ?_
  obtain ⟨h10, eh10, H⟩ := zbind H
  refine z_iastore (pc := 34) dX12_keeps_34 eh10 ?_
  refine z_iconst (pc := 35) (x := 0) dX12_keeps_35 zc_iconst_0 ?_
  refine z_istore_n (pc := 36) (lv' := [(3, .int 0), (2, .int x1), (0, .ref v0), (1, .int v1)]) dX12_keeps_36 rfl (by decide) rfl ?_
  obtain ⟨m26, em26, H⟩ := zbind H
  refine z_sub [2, 1, 0] rfl (s_X12_keeps_L37 (by omega) N 0 h10 _ em26 ?_)
  refine z_iconst (pc := 127) (x := 0) dX12_keeps_127 zc_iconst_0 ?_
  refine z_istore_n (pc := 128) (lv' := [(3, .int 0), (0, .ref v0), (2, .int x1)]) dX12_keeps_128 rfl (by decide) rfl ?_
  obtain ⟨m37, em37, H⟩ := zbind H
  refine z_sub [1, 2, 0] rfl (s_X12_keeps_L129 (by omega) N 0 m26 _ em37 ?_)
  refine z_aload_n (pc := 187) 0 dX12_keeps_187 rfl rfl ?_
  refine z_dup (pc := 188) dX12_keeps_188 rfl ?_
  obtain ⟨x38, ex38, H⟩ := zbind H
  refine z_getI (pc := 189) dX12_keeps_189 fd_X12_281 ex38 ?_
  refine z_iconst (pc := 192) (x := 1) dX12_keeps_192 zc_iconst_1 ?_
  refine z_iadd (pc := 193) dX12_keeps_193 ?_
  obtain ⟨h39, eh39, H⟩ := zbind H
  refine z_put (pc := 194) dX12_keeps_194 fd_X12_281 rfl rfl eh39 ?_
  cases H
  exact z_return rfl dX12_keeps_197

theorem md_X12_cutAll : zMd yX12_cutAll cX12_cutAll 7 0 none := ⟨zmw (zmt_7 _ (List.mem_of_getElem? (i := 67) rfl)) rfl, zmem 127 (by decide +kernel) rfl, by decide, by decide, by decide +kernel, by decide⟩
theorem ml_X12_284 : Cond.methodLink RX12 284 yX12_cutAll ∈ zB := zmem 1615 (by decide +kernel) rfl
theorem im_X12_cutAll : Cond.instanceMethod yX12_cutAll ∈ zB := zmem 1617 (by decide +kernel) rfl
theorem se_X12_cutAll : Cond.selects yX12_cutAll.cls yX12_cutAll yX12_cutAll ∈ zB := zmem 61 (by decide +kernel) rfl
theorem md_X12_readLine : zMd yX12_readLine cX12_readLine 2 0 none := ⟨zmw (zmt_7 _ (List.mem_of_getElem? (i := 86) rfl)) rfl, zmem 127 (by decide +kernel) rfl, by decide, by decide, by decide +kernel, by decide⟩
theorem ml_X12_290 : Cond.methodLink RX12 290 yX12_readLine ∈ zB := zmem 1634 (by decide +kernel) rfl
theorem im_X12_readLine : Cond.instanceMethod yX12_readLine ∈ zB := zmem 1636 (by decide +kernel) rfl
theorem se_X12_readLine : Cond.selects yX12_readLine.cls yX12_readLine yX12_readLine ∈ zB := zmem 62 (by decide +kernel) rfl
theorem md_X12_keeps : zMd yX12_keeps cX12_keeps 4 1 none := ⟨zmw (zmt_7 _ (List.mem_of_getElem? (i := 166) rfl)) rfl, zmem 127 (by decide +kernel) rfl, by decide, by decide, by decide +kernel, by decide⟩
theorem ml_X12_293 : Cond.methodLink RX12 293 yX12_keeps ∈ zB := zmem 1714 (by decide +kernel) rfl
theorem im_X12_keeps : Cond.instanceMethod yX12_keeps ∈ zB := zmem 1716 (by decide +kernel) rfl
theorem se_X12_keeps : Cond.selects yX12_keeps.cls yX12_keeps yX12_keeps ∈ zB := zmem 82 (by decide +kernel) rfl
def f_X12_law_L53 (N : Nat) (v0 : Nat) : Nat → zH → Option (zH)
  | 0, _ => none
  | n + 1, h => (gI h v0 12 8).bind fun x14 => if x14 = 0 then ((gR h v0 12 4).bind fun r16 => (gI h v0 12 7).bind fun x17 => (aI h r16 x17).bind fun x18 => if x18 = 0 then (some h) else (zif (zob h v0 12) <| (f_X12_readLine N v0 h).bind fun h21 => f_X12_law_L53 N v0 n h21)) else (some h)
set_option maxRecDepth 100000 in
set_option maxHeartbeats 4000000 in
theorem s_X12_law_L53 {d mc ms N : Nat} {vv : Option Value} {hh : zH} {v0 : Nat} {v1 : Int32} (hd0 : 49 ≤ d) : ∀ (n : Nat)  (h : zH) (m : zH), f_X12_law_L53 N v0 n h = some m → (zW yX12_law cX12_law 2 (some .int) d mc ms 79 [(0, .ref v0), (1, .int v1)] [] m vv hh) → zW yX12_law cX12_law 2 (some .int) d mc ms 53 [(0, .ref v0), (1, .int v1)] [] h vv hh := by
  intro n
  induction n with
  | zero =>
    intro  h m H
    cases H
  | succ n ih =>
    intro  h m H KE
    unfold f_X12_law_L53 at H
    refine z_aload_n (pc := 53) 0 dX12_law_53 rfl rfl ?_
    obtain ⟨x14, ex14, H⟩ := zbind H
    refine z_getI (pc := 54) dX12_law_54 fd_X12_262 ex14 ?_
    refine z_if_ne (pc := 57) 79 dX12_law_57 (by decide) (fun c15 => ?_) (fun c15 => ?_)
    · rw [if_neg c15] at H
      cases H
      exact z_sub [0, 1] rfl (KE)
    · rw [if_pos c15] at H
      refine z_aload_n (pc := 60) 0 dX12_law_60 rfl rfl ?_
      obtain ⟨r16, er16, H⟩ := zbind H
      refine z_getR (pc := 61) dX12_law_61 fd_X12_24 er16 ?_
      refine z_aload_n (pc := 64) 0 dX12_law_64 rfl rfl ?_
      obtain ⟨x17, ex17, H⟩ := zbind H
      refine z_getI (pc := 65) dX12_law_65 fd_X12_259 ex17 ?_
      obtain ⟨x18, ex18, H⟩ := zbind H
      refine z_iaload (pc := 68) dX12_law_68 ex18 ?_
      refine z_if_eq (pc := 69) 79 dX12_law_69 (by decide) (fun c19 => ?_) (fun c19 => ?_)
      · rw [if_pos c19] at H
        cases H
        exact z_sub [0, 1] rfl (KE)
      · rw [if_neg c19] at H
        refine z_aload_n (pc := 72) 0 dX12_law_72 rfl rfl ?_
        obtain ⟨z20, H⟩ := zifE H
        obtain ⟨h21, eh21, H⟩ := zbind H
        refine z_callV (pc := 73) (mc := mc) (ms := ms) (d' := 48) (mc' := 0) (ms' := 0) (rest := []) [] dX12_law_73 md_X12_readLine ml_X12_290 im_X12_readLine se_X12_readLine rfl z20 rfl rfl (Nat.le_of_ble_eq_true rfl) (by omega) (k_X12_readLine eh21) ?_
        refine z_goto (pc := 76) 53 dX12_law_76 (by decide) ?_
        exact z_sub [0, 1] rfl (ih h21 _ H KE)
def f_X12_law (N : Nat) (v0 : Nat) (v1 : Int32) (h : zH) : Option (Int32 × zH) := (pF h v0 12 0 (.int 0)).bind fun h1 => if v1 < 0 then ((pF h1 v0 12 2 (.int 0)).bind fun h3 => some ((-1), h3)) else (if 31 ≤ v1 then ((pF h1 v0 12 2 (.int 0)).bind fun h5 => some ((-1), h5)) else ((gI h1 v0 12 10).bind fun x6 => if x6 = 16 then ((pF h1 v0 12 2 (.int 0)).bind fun h29 => some ((-1), h29)) else (zif (zob h1 v0 12) <| (f_X12_cutAll N v0 h1).bind fun h9 => (pF h9 v0 12 19 (.int 0)).bind fun h10 => (pF h10 v0 12 17 (.int 0)).bind fun h11 => (gR h11 v0 12 13).bind fun r12 => (sI h11 r12 16 0).bind fun h13 => (f_X12_law_L53 N v0 N h13).bind fun m22 => (gI m22 v0 12 8).bind fun x23 => if x23 = 0 then (zif (zob m22 v0 12) <| (f_X12_keeps N v0 v1 m22).bind fun h27 => (gI h27 v0 12 8).bind fun x28 => some (x28, h27)) else ((gI m22 v0 12 8).bind fun x25 => some (x25, m22)))))
set_option maxRecDepth 100000 in
set_option maxHeartbeats 4000000 in
theorem k_X12_law {N : Nat} {v0 : Nat} {v1 : Int32} {h : zH} {r : Int32 × zH} (H : f_X12_law N v0 v1 h = some r) : zOk 49 0 0 yX12_law cX12_law 2 (some .int) [.ref v0, .int v1] h (some (.int r.1)) r.2 := by
  refine zOk.of (by decide) (Nat.le_of_ble_eq_true rfl) ?_
  unfold f_X12_law at H
  refine z_aload_n (pc := 0) 0 dX12_law_0 rfl rfl ?_
  refine z_iconst (pc := 1) (x := 0) dX12_law_1 zc_iconst_0 ?_
  obtain ⟨h1, eh1, H⟩ := zbind H
  refine z_put (pc := 2) dX12_law_2 fd_X12_1 rfl rfl eh1 ?_
  refine z_iload_n (pc := 5) 1 dX12_law_5 rfl rfl ?_
  refine z_if_lt (pc := 6) 24 dX12_law_6 (by decide) (fun c2 => ?_) (fun c2 => ?_)
  · rw [if_pos c2] at H
    refine z_aload_n (pc := 24) 0 dX12_law_24 rfl rfl ?_
    refine z_iconst (pc := 25) (x := 0) dX12_law_25 zc_iconst_0 ?_
    obtain ⟨h3, eh3, H⟩ := zbind H
    refine z_put (pc := 26) dX12_law_26 fd_X12_11 rfl rfl eh3 ?_
    refine z_iconst (pc := 29) (x := (-1)) dX12_law_29 zc_iconst_m1 ?_
    cases H
    exact z_ireturn rfl dX12_law_30
  · rw [if_neg c2] at H
    refine z_iload_n (pc := 9) 1 dX12_law_9 rfl rfl ?_
    refine z_bipush (pc := 10) (x := 31) dX12_law_10 zc_bipush_31 ?_
    refine z_icmp_ge (pc := 12) 24 dX12_law_12 (by decide) (fun c4 => ?_) (fun c4 => ?_)
    · rw [if_pos c4] at H
      refine z_aload_n (pc := 24) 0 dX12_law_24 rfl rfl ?_
      refine z_iconst (pc := 25) (x := 0) dX12_law_25 zc_iconst_0 ?_
      obtain ⟨h5, eh5, H⟩ := zbind H
      refine z_put (pc := 26) dX12_law_26 fd_X12_11 rfl rfl eh5 ?_
      refine z_iconst (pc := 29) (x := (-1)) dX12_law_29 zc_iconst_m1 ?_
      cases H
      exact z_ireturn rfl dX12_law_30
    · rw [if_neg c4] at H
      refine z_aload_n (pc := 15) 0 dX12_law_15 rfl rfl ?_
      obtain ⟨x6, ex6, H⟩ := zbind H
      refine z_getI (pc := 16) dX12_law_16 fd_X12_281 ex6 ?_
      refine z_bipush (pc := 19) (x := 16) dX12_law_19 zc_bipush_16 ?_
      refine z_icmp_ne (pc := 21) 31 dX12_law_21 (by decide) (fun c7 => ?_) (fun c7 => ?_)
      · rw [if_neg c7] at H
        refine z_aload_n (pc := 31) 0 dX12_law_31 rfl rfl ?_
        obtain ⟨z8, H⟩ := zifE H
        obtain ⟨h9, eh9, H⟩ := zbind H
        refine z_callV (pc := 32) (mc := 0) (ms := 0) (d' := 2) (mc' := 0) (ms' := 0) (rest := []) [] dX12_law_32 md_X12_cutAll ml_X12_284 im_X12_cutAll se_X12_cutAll rfl z8 rfl rfl (Nat.le_of_ble_eq_true rfl) (by omega) (k_X12_cutAll eh9) ?_
        refine z_aload_n (pc := 35) 0 dX12_law_35 rfl rfl ?_
        refine z_iconst (pc := 36) (x := 0) dX12_law_36 zc_iconst_0 ?_
        obtain ⟨h10, eh10, H⟩ := zbind H
        refine z_put (pc := 37) dX12_law_37 fd_X12_278 rfl rfl eh10 ?_
        refine z_aload_n (pc := 40) 0 dX12_law_40 rfl rfl ?_
        refine z_iconst (pc := 41) (x := 0) dX12_law_41 zc_iconst_0 ?_
        obtain ⟨h11, eh11, H⟩ := zbind H
        refine z_put (pc := 42) dX12_law_42 fd_X12_287 rfl rfl eh11 ?_
        refine z_aload_n (pc := 45) 0 dX12_law_45 rfl rfl ?_
        obtain ⟨r12, er12, H⟩ := zbind H
        refine z_getR (pc := 46) dX12_law_46 fd_X12_85 er12 ?_
        refine z_bipush (pc := 49) (x := 16) dX12_law_49 zc_bipush_16 ?_
        refine z_iconst (pc := 51) (x := 0) dX12_law_51 zc_iconst_0 ?_
        obtain ⟨h13, eh13, H⟩ := zbind H
        refine z_iastore (pc := 52) dX12_law_52 eh13 ?_
        obtain ⟨m22, em22, H⟩ := zbind H
        refine z_sub [0, 1] rfl (s_X12_law_L53 (by omega) N h13 _ em22 ?_)
        refine z_aload_n (pc := 79) 0 dX12_law_79 rfl rfl ?_
        obtain ⟨x23, ex23, H⟩ := zbind H
        refine z_getI (pc := 80) dX12_law_80 fd_X12_262 ex23 ?_
        refine z_if_ne (pc := 83) 91 dX12_law_83 (by decide) (fun c24 => ?_) (fun c24 => ?_)
        · rw [if_neg c24] at H
          refine z_aload_n (pc := 91) 0 dX12_law_91 rfl rfl ?_
          obtain ⟨x25, ex25, H⟩ := zbind H
          refine z_getI (pc := 92) dX12_law_92 fd_X12_262 ex25 ?_
          cases H
          exact z_ireturn rfl dX12_law_95
        · rw [if_pos c24] at H
          refine z_aload_n (pc := 86) 0 dX12_law_86 rfl rfl ?_
          refine z_iload_n (pc := 87) 1 dX12_law_87 rfl rfl ?_
          obtain ⟨z26, H⟩ := zifE H
          obtain ⟨h27, eh27, H⟩ := zbind H
          refine z_callV (pc := 88) (mc := 0) (ms := 0) (d' := 0) (mc' := 0) (ms' := 0) (rest := []) [.int v1] dX12_law_88 md_X12_keeps ml_X12_293 im_X12_keeps se_X12_keeps rfl z26 rfl rfl (Nat.le_of_ble_eq_true rfl) (by omega) (k_X12_keeps eh27) ?_
          refine z_aload_n (pc := 91) 0 dX12_law_91 rfl rfl ?_
          obtain ⟨x28, ex28, H⟩ := zbind H
          refine z_getI (pc := 92) dX12_law_92 fd_X12_262 ex28 ?_
          cases H
          exact z_ireturn rfl dX12_law_95
      · rw [if_pos c7] at H
        refine z_aload_n (pc := 24) 0 dX12_law_24 rfl rfl ?_
        refine z_iconst (pc := 25) (x := 0) dX12_law_25 zc_iconst_0 ?_
        obtain ⟨h29, eh29, H⟩ := zbind H
        refine z_put (pc := 26) dX12_law_26 fd_X12_11 rfl rfl eh29 ?_
        refine z_iconst (pc := 29) (x := (-1)) dX12_law_29 zc_iconst_m1 ?_
        cases H
        exact z_ireturn rfl dX12_law_30

def p_X12_both (v0 : Int32) (v1 : Int32) (v2 : Int32) : Int32 := if v0 = 5 then (v1 + v2) else (if v0 = 6 then (v1 - v2) else (if v0 = 7 then (v1 * v2) else (if v0 = 8 then (if v2 ≤ v1 then (0) else (1)) else (if v0 = 9 then (if v1 = v2 then (1) else (0)) else (if v0 = 10 then (if v1 = 0 then (0) else (if v2 = 0 then (0) else (1))) else (if v1 = 0 then (if v2 = 0 then (0) else (1)) else (1)))))))
set_option maxRecDepth 100000 in
set_option maxHeartbeats 4000000 in
theorem k_X12_both (v0 : Int32) (v1 : Int32) (v2 : Int32) (h : zH) (r : Int32) (H : p_X12_both v0 v1 v2 = r) : zOk 0 0 0 yX12_both cX12_both 3 (some .int) [.int v0, .int v1, .int v2] h (some (.int r)) h := by
  refine zOk.of (by decide) (Nat.le_of_ble_eq_true rfl) ?_
  unfold p_X12_both at H
  refine z_iload_n (pc := 0) 0 dX12_both_0 rfl rfl ?_
  by_cases c1 : v0 = 5
  · rw [if_pos c1] at H
    refine z_tswIn (pc := 1) (off := 39) 40 dX12_both_1 (by rw [c1]; decide) (by rw [c1]; decide) (by rw [c1]; decide) (by decide) ?_
    refine z_iload_n (pc := 40) 1 dX12_both_40 rfl rfl ?_
    refine z_iload_n (pc := 41) 2 dX12_both_41 rfl rfl ?_
    refine z_iadd (pc := 42) dX12_both_42 ?_
    subst H
    exact z_ireturn rfl dX12_both_43
  rw [if_neg c1] at H
  by_cases c2 : v0 = 6
  · rw [if_pos c2] at H
    refine z_tswIn (pc := 1) (off := 43) 44 dX12_both_1 (by rw [c2]; decide) (by rw [c2]; decide) (by rw [c2]; decide) (by decide) ?_
    refine z_iload_n (pc := 44) 1 dX12_both_44 rfl rfl ?_
    refine z_iload_n (pc := 45) 2 dX12_both_45 rfl rfl ?_
    refine z_isub (pc := 46) dX12_both_46 ?_
    subst H
    exact z_ireturn rfl dX12_both_47
  rw [if_neg c2] at H
  by_cases c3 : v0 = 7
  · rw [if_pos c3] at H
    refine z_tswIn (pc := 1) (off := 47) 48 dX12_both_1 (by rw [c3]; decide) (by rw [c3]; decide) (by rw [c3]; decide) (by decide) ?_
    refine z_iload_n (pc := 48) 1 dX12_both_48 rfl rfl ?_
    refine z_iload_n (pc := 49) 2 dX12_both_49 rfl rfl ?_
    refine z_imul (pc := 50) dX12_both_50 ?_
    subst H
    exact z_ireturn rfl dX12_both_51
  rw [if_neg c3] at H
  by_cases c4 : v0 = 8
  · rw [if_pos c4] at H
    refine z_tswIn (pc := 1) (off := 51) 52 dX12_both_1 (by rw [c4]; decide) (by rw [c4]; decide) (by rw [c4]; decide) (by decide) ?_
    refine z_iload_n (pc := 52) 1 dX12_both_52 rfl rfl ?_
    refine z_iload_n (pc := 53) 2 dX12_both_53 rfl rfl ?_
    refine z_icmp_ge (pc := 54) 61 dX12_both_54 (by decide) (fun c5 => ?_) (fun c5 => ?_)
    · rw [if_pos c5] at H
      refine z_iconst (pc := 61) (x := 0) dX12_both_61 zc_iconst_0 ?_
      subst H
      exact z_ireturn rfl dX12_both_62
    · rw [if_neg c5] at H
      refine z_iconst (pc := 57) (x := 1) dX12_both_57 zc_iconst_1 ?_
      refine z_goto (pc := 58) 62 dX12_both_58 (by decide) ?_
      subst H
      exact z_ireturn rfl dX12_both_62
  rw [if_neg c4] at H
  by_cases c6 : v0 = 9
  · rw [if_pos c6] at H
    refine z_tswIn (pc := 1) (off := 62) 63 dX12_both_1 (by rw [c6]; decide) (by rw [c6]; decide) (by rw [c6]; decide) (by decide) ?_
    refine z_iload_n (pc := 63) 1 dX12_both_63 rfl rfl ?_
    refine z_iload_n (pc := 64) 2 dX12_both_64 rfl rfl ?_
    refine z_icmp_ne (pc := 65) 72 dX12_both_65 (by decide) (fun c7 => ?_) (fun c7 => ?_)
    · rw [if_neg c7] at H
      refine z_iconst (pc := 72) (x := 0) dX12_both_72 zc_iconst_0 ?_
      subst H
      exact z_ireturn rfl dX12_both_73
    · rw [if_pos c7] at H
      refine z_iconst (pc := 68) (x := 1) dX12_both_68 zc_iconst_1 ?_
      refine z_goto (pc := 69) 73 dX12_both_69 (by decide) ?_
      subst H
      exact z_ireturn rfl dX12_both_73
  rw [if_neg c6] at H
  by_cases c8 : v0 = 10
  · rw [if_pos c8] at H
    refine z_tswIn (pc := 1) (off := 73) 74 dX12_both_1 (by rw [c8]; decide) (by rw [c8]; decide) (by rw [c8]; decide) (by decide) ?_
    refine z_iload_n (pc := 74) 1 dX12_both_74 rfl rfl ?_
    refine z_if_eq (pc := 75) 86 dX12_both_75 (by decide) (fun c9 => ?_) (fun c9 => ?_)
    · rw [if_pos c9] at H
      refine z_iconst (pc := 86) (x := 0) dX12_both_86 zc_iconst_0 ?_
      subst H
      exact z_ireturn rfl dX12_both_87
    · rw [if_neg c9] at H
      refine z_iload_n (pc := 78) 2 dX12_both_78 rfl rfl ?_
      refine z_if_eq (pc := 79) 86 dX12_both_79 (by decide) (fun c10 => ?_) (fun c10 => ?_)
      · rw [if_pos c10] at H
        refine z_iconst (pc := 86) (x := 0) dX12_both_86 zc_iconst_0 ?_
        subst H
        exact z_ireturn rfl dX12_both_87
      · rw [if_neg c10] at H
        refine z_iconst (pc := 82) (x := 1) dX12_both_82 zc_iconst_1 ?_
        refine z_goto (pc := 83) 87 dX12_both_83 (by decide) ?_
        subst H
        exact z_ireturn rfl dX12_both_87
  rw [if_neg c8] at H
  refine z_tswOut (pc := 1) 88 dX12_both_1 (by have := lv_neT (a := 5) c1 (by decide); have := lv_neT (a := 6) c2 (by decide); have := lv_neT (a := 7) c3 (by decide); have := lv_neT (a := 8) c4 (by decide); have := lv_neT (a := 9) c6 (by decide); have := lv_neT (a := 10) c8 (by decide); omega) (by decide) ?_
  refine z_iload_n (pc := 88) 1 dX12_both_88 rfl rfl ?_
  refine z_if_ne (pc := 89) 96 dX12_both_89 (by decide) (fun c11 => ?_) (fun c11 => ?_)
  · rw [if_neg c11] at H
    refine z_iconst (pc := 96) (x := 1) dX12_both_96 zc_iconst_1 ?_
    refine z_goto (pc := 97) 101 dX12_both_97 (by decide) ?_
    subst H
    exact z_ireturn rfl dX12_both_101
  · rw [if_pos c11] at H
    refine z_iload_n (pc := 92) 2 dX12_both_92 rfl rfl ?_
    refine z_if_eq (pc := 93) 100 dX12_both_93 (by decide) (fun c12 => ?_) (fun c12 => ?_)
    · rw [if_pos c12] at H
      refine z_iconst (pc := 100) (x := 0) dX12_both_100 zc_iconst_0 ?_
      subst H
      exact z_ireturn rfl dX12_both_101
    · rw [if_neg c12] at H
      refine z_iconst (pc := 96) (x := 1) dX12_both_96 zc_iconst_1 ?_
      refine z_goto (pc := 97) 101 dX12_both_97 (by decide) ?_
      subst H
      exact z_ireturn rfl dX12_both_101

theorem md_X12_both : zMd yX12_both cX12_both 3 3 (some .int) := ⟨zmw (zmt_8 _ (List.mem_of_getElem? (i := 10) rfl)) rfl, zmem 127 (by decide +kernel) rfl, by decide, by decide, by decide +kernel, by decide⟩
theorem ml_X12_348 : Cond.methodLink RX12 348 yX12_both ∈ zB := zmem 1799 (by decide +kernel) rfl
theorem sm_X12_both : Cond.static yX12_both ∈ zB := zmem 1800 (by decide +kernel) rfl
def f_X12_worth_L4 (N : Nat) (v0 : Nat) : Nat → Int32 → Int32 → zH → Option (zH)
  | 0, _, _, _ => none
  | n + 1, v2, v3, h => (gR h v0 12 20).bind fun r1 => (aI h r1 v3).bind fun x2 => if x2 = 0 then (some h) else ((gR h v0 12 20).bind fun r4 => (aI h r4 v3).bind fun x5 => if 3 < x5 then (if x5 = 4 then ((gR h v0 12 24).bind fun r14 => (gR h v0 12 24).bind fun r15 => (aI h r15 (v2 - 1)).bind fun x16 => if x16 = 0 then ((sI h r14 (v2 - 1) 1).bind fun h19 => f_X12_worth_L4 N v0 n v2 (v3 + 1) h19) else ((sI h r14 (v2 - 1) 0).bind fun h18 => f_X12_worth_L4 N v0 n v2 (v3 + 1) h18)) else ((gR h v0 12 24).bind fun r8 => (gR h v0 12 24).bind fun r9 => (aI h r9 ((v2 + (-1)) - 1)).bind fun x10 => (gR h v0 12 24).bind fun r11 => (aI h r11 (v2 + (-1))).bind fun x12 => (sI h r8 ((v2 + (-1)) - 1) (p_X12_both x5 x10 x12)).bind fun h13 => f_X12_worth_L4 N v0 n (v2 + (-1)) (v3 + 1) h13)) else ((gR h v0 12 24).bind fun r20 => if x5 = 1 then ((gR h v0 12 21).bind fun r33 => (aI h r33 v3).bind fun x34 => (sI h r20 v2 x34).bind fun h35 => f_X12_worth_L4 N v0 n (v2 + 1) (v3 + 1) h35) else (if x5 = 2 then ((gR h v0 12 22).bind fun r28 => (gR h v0 12 21).bind fun r29 => (aI h r29 v3).bind fun x30 => (aI h r28 x30).bind fun x31 => (sI h r20 v2 x31).bind fun h32 => f_X12_worth_L4 N v0 n (v2 + 1) (v3 + 1) h32) else ((gR h v0 12 23).bind fun r23 => (gR h v0 12 21).bind fun r24 => (aI h r24 v3).bind fun x25 => (aI h r23 x25).bind fun x26 => (sI h r20 v2 x26).bind fun h27 => f_X12_worth_L4 N v0 n (v2 + 1) (v3 + 1) h27))))
set_option maxRecDepth 100000 in
set_option maxHeartbeats 4000000 in
theorem s_X12_worth_L4 {d mc ms N : Nat} {vv : Option Value} {hh : zH} {v0 : Nat} (hd0 : 1 ≤ d) : ∀ (n : Nat) (v2 : Int32) (v3 : Int32) (h : zH) (m : zH), f_X12_worth_L4 N v0 n v2 v3 h = some m → (zW yX12_worth cX12_worth 5 (some .int) d mc ms 154 [(0, .ref v0)] [] m vv hh) → zW yX12_worth cX12_worth 5 (some .int) d mc ms 4 [(0, .ref v0), (2, .int v2), (3, .int v3)] [] h vv hh := by
  intro n
  induction n with
  | zero =>
    intro v2 v3 h m H
    cases H
  | succ n ih =>
    intro v2 v3 h m H KE
    unfold f_X12_worth_L4 at H
    refine z_aload_n (pc := 4) 0 dX12_worth_4 rfl rfl ?_
    obtain ⟨r1, er1, H⟩ := zbind H
    refine z_getR (pc := 5) dX12_worth_5 fd_X12_100 er1 ?_
    refine z_iload_n (pc := 8) 2 dX12_worth_8 rfl rfl ?_
    obtain ⟨x2, ex2, H⟩ := zbind H
    refine z_iaload (pc := 9) dX12_worth_9 ex2 ?_
    refine z_if_eq (pc := 10) 154 dX12_worth_10 (by decide) (fun c3 => ?_) (fun c3 => ?_)
    · rw [if_pos c3] at H
      cases H
      exact z_sub [0] rfl (KE)
    · rw [if_neg c3] at H
      refine z_aload_n (pc := 13) 0 dX12_worth_13 rfl rfl ?_
      obtain ⟨r4, er4, H⟩ := zbind H
      refine z_getR (pc := 14) dX12_worth_14 fd_X12_100 er4 ?_
      refine z_iload_n (pc := 17) 2 dX12_worth_17 rfl rfl ?_
      obtain ⟨x5, ex5, H⟩ := zbind H
      refine z_iaload (pc := 18) dX12_worth_18 ex5 ?_
      refine z_istore (pc := 19) (lv' := [(4, .int x5), (0, .ref v0), (2, .int v2), (3, .int v3)]) dX12_worth_19 (by decide) rfl ?_
      refine z_iload (pc := 21) 0 dX12_worth_21 rfl ?_
      refine z_iconst (pc := 23) (x := 3) dX12_worth_23 zc_iconst_3 ?_
      refine z_icmp_gt (pc := 24) 85 dX12_worth_24 (by decide) (fun c6 => ?_) (fun c6 => ?_)
      · rw [if_pos c6] at H
        refine z_iload (pc := 85) 0 dX12_worth_85 rfl ?_
        refine z_iconst (pc := 87) (x := 4) dX12_worth_87 zc_iconst_4 ?_
        refine z_icmp_ne (pc := 88) 118 dX12_worth_88 (by decide) (fun c7 => ?_) (fun c7 => ?_)
        · rw [if_neg c7] at H
          refine z_iinc (pc := 118) (x' := v2 + (-1)) (lv' := [(2, .int (v2 + (-1))), (4, .int x5), (0, .ref v0), (3, .int v3)]) 2 dX12_worth_118 rfl (by rfl) (by decide) rfl ?_
          refine z_aload_n (pc := 121) 2 dX12_worth_121 rfl rfl ?_
          obtain ⟨r8, er8, H⟩ := zbind H
          refine z_getR (pc := 122) dX12_worth_122 fd_X12_112 er8 ?_
          refine z_iload_n (pc := 125) 0 dX12_worth_125 rfl rfl ?_
          refine z_iconst (pc := 126) (x := 1) dX12_worth_126 zc_iconst_1 ?_
          refine z_isub (pc := 127) dX12_worth_127 ?_
          refine z_iload (pc := 128) 1 dX12_worth_128 rfl ?_
          refine z_aload_n (pc := 130) 2 dX12_worth_130 rfl rfl ?_
          obtain ⟨r9, er9, H⟩ := zbind H
          refine z_getR (pc := 131) dX12_worth_131 fd_X12_112 er9 ?_
          refine z_iload_n (pc := 134) 0 dX12_worth_134 rfl rfl ?_
          refine z_iconst (pc := 135) (x := 1) dX12_worth_135 zc_iconst_1 ?_
          refine z_isub (pc := 136) dX12_worth_136 ?_
          obtain ⟨x10, ex10, H⟩ := zbind H
          refine z_iaload (pc := 137) dX12_worth_137 ex10 ?_
          refine z_aload_n (pc := 138) 2 dX12_worth_138 rfl rfl ?_
          obtain ⟨r11, er11, H⟩ := zbind H
          refine z_getR (pc := 139) dX12_worth_139 fd_X12_112 er11 ?_
          refine z_iload_n (pc := 142) 0 dX12_worth_142 rfl rfl ?_
          obtain ⟨x12, ex12, H⟩ := zbind H
          refine z_iaload (pc := 143) dX12_worth_143 ex12 ?_
          refine z_callS (pc := 144) (mc := mc) (ms := ms) (d' := 0) (mc' := 0) (ms' := 0) (rest := [.int ((v2 + (-1)) - 1), .ref r8]) [.int x5, .int x10, .int x12] dX12_worth_144 md_X12_both ml_X12_348 sm_X12_both rfl rfl (Nat.le_of_ble_eq_true rfl) (by omega) (k_X12_both x5 x10 x12 h _ rfl) ?_
          obtain ⟨h13, eh13, H⟩ := zbind H
          refine z_iastore (pc := 147) dX12_worth_147 eh13 ?_
          refine z_iinc (pc := 148) (x' := v3 + 1) (lv' := [(3, .int (v3 + 1)), (2, .int (v2 + (-1))), (4, .int x5), (0, .ref v0)]) 3 dX12_worth_148 rfl (by rfl) (by decide) rfl ?_
          refine z_goto (pc := 151) 4 dX12_worth_151 (by decide) ?_
          exact z_sub [3, 1, 0] rfl (ih (v2 + (-1)) (v3 + 1) h13 _ H KE)
        · rw [if_pos c7] at H
          refine z_aload_n (pc := 91) 1 dX12_worth_91 rfl rfl ?_
          obtain ⟨r14, er14, H⟩ := zbind H
          refine z_getR (pc := 92) dX12_worth_92 fd_X12_112 er14 ?_
          refine z_iload_n (pc := 95) 2 dX12_worth_95 rfl rfl ?_
          refine z_iconst (pc := 96) (x := 1) dX12_worth_96 zc_iconst_1 ?_
          refine z_isub (pc := 97) dX12_worth_97 ?_
          refine z_aload_n (pc := 98) 1 dX12_worth_98 rfl rfl ?_
          obtain ⟨r15, er15, H⟩ := zbind H
          refine z_getR (pc := 99) dX12_worth_99 fd_X12_112 er15 ?_
          refine z_iload_n (pc := 102) 2 dX12_worth_102 rfl rfl ?_
          refine z_iconst (pc := 103) (x := 1) dX12_worth_103 zc_iconst_1 ?_
          refine z_isub (pc := 104) dX12_worth_104 ?_
          obtain ⟨x16, ex16, H⟩ := zbind H
          refine z_iaload (pc := 105) dX12_worth_105 ex16 ?_
          refine z_if_ne (pc := 106) 113 dX12_worth_106 (by decide) (fun c17 => ?_) (fun c17 => ?_)
          · rw [if_neg c17] at H
            refine z_iconst (pc := 113) (x := 0) dX12_worth_113 zc_iconst_0 ?_
            obtain ⟨h18, eh18, H⟩ := zbind H
            refine z_iastore (pc := 114) dX12_worth_114 eh18 ?_
            refine z_goto (pc := 115) 148 dX12_worth_115 (by decide) ?_
            refine z_iinc (pc := 148) (x' := v3 + 1) (lv' := [(3, .int (v3 + 1)), (4, .int x5), (0, .ref v0), (2, .int v2)]) 3 dX12_worth_148 rfl (by rfl) (by decide) rfl ?_
            refine z_goto (pc := 151) 4 dX12_worth_151 (by decide) ?_
            exact z_sub [2, 3, 0] rfl (ih v2 (v3 + 1) h18 _ H KE)
          · rw [if_pos c17] at H
            refine z_iconst (pc := 109) (x := 1) dX12_worth_109 zc_iconst_1 ?_
            refine z_goto (pc := 110) 114 dX12_worth_110 (by decide) ?_
            obtain ⟨h19, eh19, H⟩ := zbind H
            refine z_iastore (pc := 114) dX12_worth_114 eh19 ?_
            refine z_goto (pc := 115) 148 dX12_worth_115 (by decide) ?_
            refine z_iinc (pc := 148) (x' := v3 + 1) (lv' := [(3, .int (v3 + 1)), (4, .int x5), (0, .ref v0), (2, .int v2)]) 3 dX12_worth_148 rfl (by rfl) (by decide) rfl ?_
            refine z_goto (pc := 151) 4 dX12_worth_151 (by decide) ?_
            exact z_sub [2, 3, 0] rfl (ih v2 (v3 + 1) h19 _ H KE)
      · rw [if_neg c6] at H
        refine z_aload_n (pc := 27) 1 dX12_worth_27 rfl rfl ?_
        obtain ⟨r20, er20, H⟩ := zbind H
        refine z_getR (pc := 28) dX12_worth_28 fd_X12_112 er20 ?_
        refine z_iload_n (pc := 31) 2 dX12_worth_31 rfl rfl ?_
        refine z_iload (pc := 32) 0 dX12_worth_32 rfl ?_
        refine z_iconst (pc := 34) (x := 1) dX12_worth_34 zc_iconst_1 ?_
        refine z_icmp_ne (pc := 35) 47 dX12_worth_35 (by decide) (fun c21 => ?_) (fun c21 => ?_)
        · rw [if_neg c21] at H
          refine z_iload (pc := 47) 0 dX12_worth_47 rfl ?_
          refine z_iconst (pc := 49) (x := 2) dX12_worth_49 zc_iconst_2 ?_
          refine z_icmp_ne (pc := 50) 67 dX12_worth_50 (by decide) (fun c22 => ?_) (fun c22 => ?_)
          · rw [if_neg c22] at H
            refine z_aload_n (pc := 67) 1 dX12_worth_67 rfl rfl ?_
            obtain ⟨r23, er23, H⟩ := zbind H
            refine z_getR (pc := 68) dX12_worth_68 fd_X12_109 er23 ?_
            refine z_aload_n (pc := 71) 1 dX12_worth_71 rfl rfl ?_
            obtain ⟨r24, er24, H⟩ := zbind H
            refine z_getR (pc := 72) dX12_worth_72 fd_X12_103 er24 ?_
            refine z_iload_n (pc := 75) 3 dX12_worth_75 rfl rfl ?_
            obtain ⟨x25, ex25, H⟩ := zbind H
            refine z_iaload (pc := 76) dX12_worth_76 ex25 ?_
            obtain ⟨x26, ex26, H⟩ := zbind H
            refine z_iaload (pc := 77) dX12_worth_77 ex26 ?_
            obtain ⟨h27, eh27, H⟩ := zbind H
            refine z_iastore (pc := 78) dX12_worth_78 eh27 ?_
            refine z_iinc (pc := 79) (x' := v2 + 1) (lv' := [(2, .int (v2 + 1)), (4, .int x5), (0, .ref v0), (3, .int v3)]) 2 dX12_worth_79 rfl (by rfl) (by decide) rfl ?_
            refine z_goto (pc := 82) 148 dX12_worth_82 (by decide) ?_
            refine z_iinc (pc := 148) (x' := v3 + 1) (lv' := [(3, .int (v3 + 1)), (2, .int (v2 + 1)), (4, .int x5), (0, .ref v0)]) 3 dX12_worth_148 rfl (by rfl) (by decide) rfl ?_
            refine z_goto (pc := 151) 4 dX12_worth_151 (by decide) ?_
            exact z_sub [3, 1, 0] rfl (ih (v2 + 1) (v3 + 1) h27 _ H KE)
          · rw [if_pos c22] at H
            refine z_aload_n (pc := 53) 1 dX12_worth_53 rfl rfl ?_
            obtain ⟨r28, er28, H⟩ := zbind H
            refine z_getR (pc := 54) dX12_worth_54 fd_X12_106 er28 ?_
            refine z_aload_n (pc := 57) 1 dX12_worth_57 rfl rfl ?_
            obtain ⟨r29, er29, H⟩ := zbind H
            refine z_getR (pc := 58) dX12_worth_58 fd_X12_103 er29 ?_
            refine z_iload_n (pc := 61) 3 dX12_worth_61 rfl rfl ?_
            obtain ⟨x30, ex30, H⟩ := zbind H
            refine z_iaload (pc := 62) dX12_worth_62 ex30 ?_
            obtain ⟨x31, ex31, H⟩ := zbind H
            refine z_iaload (pc := 63) dX12_worth_63 ex31 ?_
            refine z_goto (pc := 64) 78 dX12_worth_64 (by decide) ?_
            obtain ⟨h32, eh32, H⟩ := zbind H
            refine z_iastore (pc := 78) dX12_worth_78 eh32 ?_
            refine z_iinc (pc := 79) (x' := v2 + 1) (lv' := [(2, .int (v2 + 1)), (4, .int x5), (0, .ref v0), (3, .int v3)]) 2 dX12_worth_79 rfl (by rfl) (by decide) rfl ?_
            refine z_goto (pc := 82) 148 dX12_worth_82 (by decide) ?_
            refine z_iinc (pc := 148) (x' := v3 + 1) (lv' := [(3, .int (v3 + 1)), (2, .int (v2 + 1)), (4, .int x5), (0, .ref v0)]) 3 dX12_worth_148 rfl (by rfl) (by decide) rfl ?_
            refine z_goto (pc := 151) 4 dX12_worth_151 (by decide) ?_
            exact z_sub [3, 1, 0] rfl (ih (v2 + 1) (v3 + 1) h32 _ H KE)
        · rw [if_pos c21] at H
          refine z_aload_n (pc := 38) 1 dX12_worth_38 rfl rfl ?_
          obtain ⟨r33, er33, H⟩ := zbind H
          refine z_getR (pc := 39) dX12_worth_39 fd_X12_103 er33 ?_
          refine z_iload_n (pc := 42) 3 dX12_worth_42 rfl rfl ?_
          obtain ⟨x34, ex34, H⟩ := zbind H
          refine z_iaload (pc := 43) dX12_worth_43 ex34 ?_
          refine z_goto (pc := 44) 78 dX12_worth_44 (by decide) ?_
          obtain ⟨h35, eh35, H⟩ := zbind H
          refine z_iastore (pc := 78) dX12_worth_78 eh35 ?_
          refine z_iinc (pc := 79) (x' := v2 + 1) (lv' := [(2, .int (v2 + 1)), (4, .int x5), (0, .ref v0), (3, .int v3)]) 2 dX12_worth_79 rfl (by rfl) (by decide) rfl ?_
          refine z_goto (pc := 82) 148 dX12_worth_82 (by decide) ?_
          refine z_iinc (pc := 148) (x' := v3 + 1) (lv' := [(3, .int (v3 + 1)), (2, .int (v2 + 1)), (4, .int x5), (0, .ref v0)]) 3 dX12_worth_148 rfl (by rfl) (by decide) rfl ?_
          refine z_goto (pc := 151) 4 dX12_worth_151 (by decide) ?_
          exact z_sub [3, 1, 0] rfl (ih (v2 + 1) (v3 + 1) h35 _ H KE)
def f_X12_worth (N : Nat) (v0 : Nat) (v1 : Int32) (h : zH) : Option (Int32 × zH) := (f_X12_worth_L4 N v0 N 0 v1 h).bind fun m36 => (gR m36 v0 12 24).bind fun r37 => (aI m36 r37 0).bind fun x38 => some (x38, m36)
set_option maxRecDepth 100000 in
set_option maxHeartbeats 4000000 in
theorem k_X12_worth {N : Nat} {v0 : Nat} {v1 : Int32} {h : zH} {r : Int32 × zH} (H : f_X12_worth N v0 v1 h = some r) : zOk 1 0 0 yX12_worth cX12_worth 5 (some .int) [.ref v0, .int v1] h (some (.int r.1)) r.2 := by
  refine zOk.of (by decide) (Nat.le_of_ble_eq_true rfl) ?_
  unfold f_X12_worth at H
  refine z_iconst (pc := 0) (x := 0) dX12_worth_0 zc_iconst_0 ?_
  refine z_istore_n (pc := 1) (lv' := [(2, .int 0), (0, .ref v0), (1, .int v1)]) dX12_worth_1 rfl (by decide) rfl ?_
  refine z_iload_n (pc := 2) 2 dX12_worth_2 rfl rfl ?_
  refine z_istore_n (pc := 3) (lv' := [(3, .int v1), (2, .int 0), (0, .ref v0), (1, .int v1)]) dX12_worth_3 rfl (by decide) rfl ?_
  obtain ⟨m36, em36, H⟩ := zbind H
  refine z_sub [2, 1, 0] rfl (s_X12_worth_L4 (by omega) N 0 v1 h _ em36 ?_)
  refine z_aload_n (pc := 154) 0 dX12_worth_154 rfl rfl ?_
  obtain ⟨r37, er37, H⟩ := zbind H
  refine z_getR (pc := 155) dX12_worth_155 fd_X12_112 er37 ?_
  refine z_iconst (pc := 158) (x := 0) dX12_worth_158 zc_iconst_0 ?_
  obtain ⟨x38, ex38, H⟩ := zbind H
  refine z_iaload (pc := 159) dX12_worth_159 ex38 ?_
  cases H
  exact z_ireturn rfl dX12_worth_160

def p_X12_within (v0 : Int32) (v1 : Int32) (v2 : Int32) : Int32 := if v0 < v1 then (0) else (if v2 < v0 then (0) else (1))
set_option maxRecDepth 100000 in
set_option maxHeartbeats 4000000 in
theorem k_X12_within (v0 : Int32) (v1 : Int32) (v2 : Int32) (h : zH) (r : Int32) (H : p_X12_within v0 v1 v2 = r) : zOk 0 0 0 yX12_within cX12_within 3 (some .boolean) [.int v0, .int v1, .int v2] h (some (.int r)) h := by
  refine zOk.of (by decide) (Nat.le_of_ble_eq_true rfl) ?_
  unfold p_X12_within at H
  refine z_iload_n (pc := 0) 0 dX12_within_0 rfl rfl ?_
  refine z_iload_n (pc := 1) 1 dX12_within_1 rfl rfl ?_
  refine z_icmp_lt (pc := 2) 14 dX12_within_2 (by decide) (fun c1 => ?_) (fun c1 => ?_)
  · rw [if_pos c1] at H
    refine z_iconst (pc := 14) (x := 0) dX12_within_14 zc_iconst_0 ?_
    subst H
    exact z_zreturn rfl dX12_within_15 (by decide)
  · rw [if_neg c1] at H
    refine z_iload_n (pc := 5) 0 dX12_within_5 rfl rfl ?_
    refine z_iload_n (pc := 6) 2 dX12_within_6 rfl rfl ?_
    refine z_icmp_gt (pc := 7) 14 dX12_within_7 (by decide) (fun c2 => ?_) (fun c2 => ?_)
    · rw [if_pos c2] at H
      refine z_iconst (pc := 14) (x := 0) dX12_within_14 zc_iconst_0 ?_
      subst H
      exact z_zreturn rfl dX12_within_15 (by decide)
    · rw [if_neg c2] at H
      refine z_iconst (pc := 10) (x := 1) dX12_within_10 zc_iconst_1 ?_
      refine z_goto (pc := 11) 15 dX12_within_11 (by decide) ?_
      subst H
      exact z_zreturn rfl dX12_within_15 (by decide)

theorem md_X12_within : zMd yX12_within cX12_within 3 3 (some .boolean) := ⟨zmw (zmt_7 _ (List.mem_of_getElem? (i := 176) rfl)) rfl, zmem 127 (by decide +kernel) rfl, by decide, by decide, by decide +kernel, by decide⟩
theorem ml_X12_352 : Cond.methodLink RX12 352 yX12_within ∈ zB := zmem 1725 (by decide +kernel) rfl
theorem sm_X12_within : Cond.static yX12_within ∈ zB := zmem 1726 (by decide +kernel) rfl
def f_X12_isYear (N : Nat) (v0 : Int32) (h : zH) : Option (Int32) := rZ0 (p_X12_within v0 0 30)
set_option maxRecDepth 100000 in
set_option maxHeartbeats 4000000 in
theorem k_X12_isYear {N : Nat} {v0 : Int32} {h : zH} {r : Int32} (H : f_X12_isYear N v0 h = some r) : zOk 1 0 0 yX12_isYear cX12_isYear 1 (some .boolean) [.int v0] h (some (.int r)) h := by
  refine zOk.of (by decide) (Nat.le_of_ble_eq_true rfl) ?_
  unfold f_X12_isYear at H
  refine z_iload_n (pc := 0) 0 dX12_isYear_0 rfl rfl ?_
  refine z_iconst (pc := 1) (x := 0) dX12_isYear_1 zc_iconst_0 ?_
  refine z_bipush (pc := 2) (x := 30) dX12_isYear_2 zc_bipush_30 ?_
  refine z_callS (pc := 4) (mc := 0) (ms := 0) (d' := 0) (mc' := 0) (ms' := 0) (rest := []) [.int v0, .int 0, .int 30] dX12_isYear_4 md_X12_within ml_X12_352 sm_X12_within rfl rfl (Nat.le_of_ble_eq_true rfl) (by omega) (k_X12_within v0 0 30 h _ rfl) ?_
  obtain ⟨z9, H⟩ := rZ0E H
  cases H
  exact z_zreturn rfl dX12_isYear_7 z9

theorem md_X12_isYear : zMd yX12_isYear cX12_isYear 1 1 (some .boolean) := ⟨zmw (zmt_7 _ (List.mem_of_getElem? (i := 173) rfl)) rfl, zmem 127 (by decide +kernel) rfl, by decide, by decide, by decide +kernel, by decide⟩
theorem ml_X12_356 : Cond.methodLink RX12 356 yX12_isYear ∈ zB := zmem 1722 (by decide +kernel) rfl
theorem sm_X12_isYear : Cond.static yX12_isYear ∈ zB := zmem 1723 (by decide +kernel) rfl
def f_X12_years (N : Nat) (v0 : Nat) (v1 : Int32) (h : zH) : Option (Int32 × zH) := (pF h v0 12 0 (.int 0)).bind fun h1 => (f_X12_isYear N v1 h1).bind fun q2 => if q2 = 0 then (some ((-1), h1)) else ((gI h1 v0 12 25).bind fun x4 => if (x4 + v1) ≤ 30 then ((gI h1 v0 12 25).bind fun x6 => (pF h1 v0 12 25 (.int (x6 + v1))).bind fun h7 => (gI h7 v0 12 25).bind fun x8 => some (x8, h7)) else (some ((-1), h1)))
set_option maxRecDepth 100000 in
set_option maxHeartbeats 4000000 in
theorem k_X12_years {N : Nat} {v0 : Nat} {v1 : Int32} {h : zH} {r : Int32 × zH} (H : f_X12_years N v0 v1 h = some r) : zOk 2 0 0 yX12_years cX12_years 2 (some .int) [.ref v0, .int v1] h (some (.int r.1)) r.2 := by
  refine zOk.of (by decide) (Nat.le_of_ble_eq_true rfl) ?_
  unfold f_X12_years at H
  refine z_aload_n (pc := 0) 0 dX12_years_0 rfl rfl ?_
  refine z_iconst (pc := 1) (x := 0) dX12_years_1 zc_iconst_0 ?_
  obtain ⟨h1, eh1, H⟩ := zbind H
  refine z_put (pc := 2) dX12_years_2 fd_X12_1 rfl rfl eh1 ?_
  refine z_iload_n (pc := 5) 1 dX12_years_5 rfl rfl ?_
  obtain ⟨q2, eq2, H⟩ := zbind H
  refine z_callS (pc := 6) (mc := 0) (ms := 0) (d' := 1) (mc' := 0) (ms' := 0) (rest := []) [.int v1] dX12_years_6 md_X12_isYear ml_X12_356 sm_X12_isYear rfl rfl (Nat.le_of_ble_eq_true rfl) (by omega) (k_X12_isYear eq2) ?_
  refine z_if_eq (pc := 9) 23 dX12_years_9 (by decide) (fun c3 => ?_) (fun c3 => ?_)
  · rw [if_pos c3] at H
    refine z_iconst (pc := 23) (x := (-1)) dX12_years_23 zc_iconst_m1 ?_
    cases H
    exact z_ireturn rfl dX12_years_24
  · rw [if_neg c3] at H
    refine z_aload_n (pc := 12) 0 dX12_years_12 rfl rfl ?_
    obtain ⟨x4, ex4, H⟩ := zbind H
    refine z_getI (pc := 13) dX12_years_13 fd_X12_296 ex4 ?_
    refine z_iload_n (pc := 16) 1 dX12_years_16 rfl rfl ?_
    refine z_iadd (pc := 17) dX12_years_17 ?_
    refine z_bipush (pc := 18) (x := 30) dX12_years_18 zc_bipush_30 ?_
    refine z_icmp_le (pc := 20) 25 dX12_years_20 (by decide) (fun c5 => ?_) (fun c5 => ?_)
    · rw [if_pos c5] at H
      refine z_aload_n (pc := 25) 0 dX12_years_25 rfl rfl ?_
      refine z_dup (pc := 26) dX12_years_26 rfl ?_
      obtain ⟨x6, ex6, H⟩ := zbind H
      refine z_getI (pc := 27) dX12_years_27 fd_X12_296 ex6 ?_
      refine z_iload_n (pc := 30) 1 dX12_years_30 rfl rfl ?_
      refine z_iadd (pc := 31) dX12_years_31 ?_
      obtain ⟨h7, eh7, H⟩ := zbind H
      refine z_put (pc := 32) dX12_years_32 fd_X12_296 rfl rfl eh7 ?_
      refine z_aload_n (pc := 35) 0 dX12_years_35 rfl rfl ?_
      obtain ⟨x8, ex8, H⟩ := zbind H
      refine z_getI (pc := 36) dX12_years_36 fd_X12_296 ex8 ?_
      cases H
      exact z_ireturn rfl dX12_years_39
    · rw [if_neg c5] at H
      refine z_iconst (pc := 23) (x := (-1)) dX12_years_23 zc_iconst_m1 ?_
      cases H
      exact z_ireturn rfl dX12_years_24

