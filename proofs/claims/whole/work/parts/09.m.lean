def f_X8_init (N : Nat) (v0 : Nat) (h : zH) : Option (Unit) := some ()
set_option maxRecDepth 100000 in
set_option maxHeartbeats 4000000 in
theorem k_X8_init {N : Nat} {v0 : Nat} {h : zH} {r : Unit} (H : f_X8_init N v0 h = some r) : zOk 1 0 0 yX8_init cX8_init 1 none [.ref v0] h none h := by
  refine zOk.of (by decide) (Nat.le_of_ble_eq_true rfl) ?_
  unfold f_X8_init at H
  refine z_aload_n (pc := 0) 0 dX8_init_0 rfl rfl ?_
  refine z_objInit (pc := 1) dX8_init_1 ml_X8_3 im_object cd_object (by omega) (Nat.le_of_ble_eq_true rfl) ?_
  cases H
  exact z_return rfl dX8_init_4

def f_X8_sees (N : Nat) (v0 : Nat) (v1 : Nat) (h : zH) : Option (Int32) := (gI h v1 6 7).bind fun x1 => (if x1 = 0 then (some 0) else ((gI h v0 8 0).bind fun x4 => (gI h v1 6 7).bind fun x5 => (if x5 ≤ x4 then (some (.inl ())) else ((gI h v0 8 1).bind fun x9 => (gI h v1 6 8).bind fun x10 => if x10 ≤ x9 then (some (.inl ())) else ((gI h v1 6 7).bind fun x12 => (gI h v0 8 1).bind fun x13 => (gI h v1 6 8).bind fun x14 => (gI h v0 8 0).bind fun x15 => (gI h v0 8 0).bind fun x16 => (gI h v0 8 1).bind fun x17 => if (x16 * x17) < ((x12 * x13) + (x14 * x15)) then (some (.inl ())) else ((some 1).map .inr))) : Option ((Unit) ⊕ (Int32))).bind fun m6 => zsum m6 fun s7 => some 0) : Option (Int32)).bind fun m2 => (gI h v0 8 0).bind fun x20 => if 0 ≤ x20 then (some 0) else ((gI h v0 8 1).bind fun x22 => if 0 ≤ x22 then (some 0) else (if m2 = 0 then (some 1) else (some 0)))
set_option maxRecDepth 100000 in
set_option maxHeartbeats 4000000 in
theorem k_X8_sees {N : Nat} {v0 : Nat} {v1 : Nat} {h : zH} {r : Int32} (H : f_X8_sees N v0 v1 h = some r) : zOk 0 0 0 yX8_sees cX8_sees 3 (some .boolean) [.ref v0, .ref v1] h (some (.int r)) h := by
  refine zOk.of (by decide) (Nat.le_of_ble_eq_true rfl) ?_
  unfold f_X8_sees at H
  refine z_aload_n (pc := 0) 1 dX8_sees_0 rfl rfl ?_
  obtain ⟨x1, ex1, H⟩ := zbind H
  refine z_getI (pc := 1) dX8_sees_1 fd_X8_103 ex1 ?_
  obtain ⟨m2, em2, H⟩ := zbind H
  have Jm2 : zW yX8_sees cX8_sees 3 (some .boolean) 0 0 0 65 [(0, .ref v0)] [.int m2] h (some (.int r)) h := by
    refine z_istore_n (pc := 65) (lv' := [(2, .int m2), (0, .ref v0)]) dX8_sees_65 rfl (by decide) rfl ?_
    refine z_aload_n (pc := 66) 1 dX8_sees_66 rfl rfl ?_
    obtain ⟨x20, ex20, H⟩ := zbind H
    refine z_getI (pc := 67) dX8_sees_67 fd_X8_49 ex20 ?_
    refine z_if_ge (pc := 70) 88 dX8_sees_70 (by decide) (fun c21 => ?_) (fun c21 => ?_)
    · rw [if_pos c21] at H
      refine z_iconst (pc := 88) (x := 0) dX8_sees_88 zc_iconst_0 ?_
      cases H
      exact z_zreturn rfl dX8_sees_89 (by decide)
    · rw [if_neg c21] at H
      refine z_aload_n (pc := 73) 1 dX8_sees_73 rfl rfl ?_
      obtain ⟨x22, ex22, H⟩ := zbind H
      refine z_getI (pc := 74) dX8_sees_74 fd_X8_53 ex22 ?_
      refine z_if_ge (pc := 77) 88 dX8_sees_77 (by decide) (fun c23 => ?_) (fun c23 => ?_)
      · rw [if_pos c23] at H
        refine z_iconst (pc := 88) (x := 0) dX8_sees_88 zc_iconst_0 ?_
        cases H
        exact z_zreturn rfl dX8_sees_89 (by decide)
      · rw [if_neg c23] at H
        refine z_iload_n (pc := 80) 0 dX8_sees_80 rfl rfl ?_
        refine z_if_ne (pc := 81) 88 dX8_sees_81 (by decide) (fun c24 => ?_) (fun c24 => ?_)
        · rw [if_neg c24] at H
          refine z_iconst (pc := 88) (x := 0) dX8_sees_88 zc_iconst_0 ?_
          cases H
          exact z_zreturn rfl dX8_sees_89 (by decide)
        · rw [if_pos c24] at H
          refine z_iconst (pc := 84) (x := 1) dX8_sees_84 zc_iconst_1 ?_
          refine z_goto (pc := 85) 89 dX8_sees_85 (by decide) ?_
          cases H
          exact z_zreturn rfl dX8_sees_89 (by decide)
  refine z_if_eq (pc := 4) 64 dX8_sees_4 (by decide) (fun c3 => ?_) (fun c3 => ?_)
  · rw [if_pos c3] at em2
    refine z_iconst (pc := 64) (x := 0) dX8_sees_64 zc_iconst_0 ?_
    cases em2
    exact z_sub [0] rfl Jm2
  · rw [if_neg c3] at em2
    refine z_aload_n (pc := 7) 0 dX8_sees_7 rfl rfl ?_
    obtain ⟨x4, ex4, em2⟩ := zbind em2
    refine z_getI (pc := 8) dX8_sees_8 fd_X8_49 ex4 ?_
    refine z_aload_n (pc := 11) 1 dX8_sees_11 rfl rfl ?_
    obtain ⟨x5, ex5, em2⟩ := zbind em2
    refine z_getI (pc := 12) dX8_sees_12 fd_X8_103 ex5 ?_
    obtain ⟨m6, em6, em2⟩ := zbind em2
    have Jm6 : ∀ s7, m6 = .inl s7 → zW yX8_sees cX8_sees 3 (some .boolean) 0 0 0 64 [(0, .ref v0)] [] h (some (.int r)) h := by
      intro s7 e9
      subst e9
      have em2 := zsumL em2
      refine z_iconst (pc := 64) (x := 0) dX8_sees_64 zc_iconst_0 ?_
      cases em2
      exact z_sub [0] rfl Jm2
    refine z_icmp_ge (pc := 15) 64 dX8_sees_15 (by decide) (fun c8 => ?_) (fun c8 => ?_)
    · rw [if_pos c8] at em6
      cases em6
      exact z_sub [0] rfl (Jm6 _ rfl)
    · rw [if_neg c8] at em6
      refine z_aload_n (pc := 18) 0 dX8_sees_18 rfl rfl ?_
      obtain ⟨x9, ex9, em6⟩ := zbind em6
      refine z_getI (pc := 19) dX8_sees_19 fd_X8_53 ex9 ?_
      refine z_aload_n (pc := 22) 1 dX8_sees_22 rfl rfl ?_
      obtain ⟨x10, ex10, em6⟩ := zbind em6
      refine z_getI (pc := 23) dX8_sees_23 fd_X8_106 ex10 ?_
      refine z_icmp_ge (pc := 26) 64 dX8_sees_26 (by decide) (fun c11 => ?_) (fun c11 => ?_)
      · rw [if_pos c11] at em6
        cases em6
        exact z_sub [0] rfl (Jm6 _ rfl)
      · rw [if_neg c11] at em6
        refine z_aload_n (pc := 29) 1 dX8_sees_29 rfl rfl ?_
        obtain ⟨x12, ex12, em6⟩ := zbind em6
        refine z_getI (pc := 30) dX8_sees_30 fd_X8_103 ex12 ?_
        refine z_aload_n (pc := 33) 0 dX8_sees_33 rfl rfl ?_
        obtain ⟨x13, ex13, em6⟩ := zbind em6
        refine z_getI (pc := 34) dX8_sees_34 fd_X8_53 ex13 ?_
        refine z_imul (pc := 37) dX8_sees_37 ?_
        refine z_aload_n (pc := 38) 1 dX8_sees_38 rfl rfl ?_
        obtain ⟨x14, ex14, em6⟩ := zbind em6
        refine z_getI (pc := 39) dX8_sees_39 fd_X8_106 ex14 ?_
        refine z_aload_n (pc := 42) 0 dX8_sees_42 rfl rfl ?_
        obtain ⟨x15, ex15, em6⟩ := zbind em6
        refine z_getI (pc := 43) dX8_sees_43 fd_X8_49 ex15 ?_
        refine z_imul (pc := 46) dX8_sees_46 ?_
        refine z_iadd (pc := 47) dX8_sees_47 ?_
        refine z_aload_n (pc := 48) 0 dX8_sees_48 rfl rfl ?_
        obtain ⟨x16, ex16, em6⟩ := zbind em6
        refine z_getI (pc := 49) dX8_sees_49 fd_X8_49 ex16 ?_
        refine z_aload_n (pc := 52) 0 dX8_sees_52 rfl rfl ?_
        obtain ⟨x17, ex17, em6⟩ := zbind em6
        refine z_getI (pc := 53) dX8_sees_53 fd_X8_53 ex17 ?_
        refine z_imul (pc := 56) dX8_sees_56 ?_
        refine z_icmp_gt (pc := 57) 64 dX8_sees_57 (by decide) (fun c18 => ?_) (fun c18 => ?_)
        · rw [if_pos c18] at em6
          cases em6
          exact z_sub [0] rfl (Jm6 _ rfl)
        · rw [if_neg c18] at em6
          refine z_iconst (pc := 60) (x := 1) dX8_sees_60 zc_iconst_1 ?_
          refine z_goto (pc := 61) 65 dX8_sees_61 (by decide) ?_
          obtain ⟨o19, H9, e9⟩ := zmapR em6
          subst e9
          have H9 := H9.trans (zsumR em2)
          cases H9
          exact z_sub [0] rfl Jm2

def f_X8_notice (N : Nat) (v0 : Nat) (v1 : Int32) (h : zH) : Option (zH) := if v1 = 0 then (some h) else ((gI h v0 8 4).bind fun x2 => if x2 = (-1) then ((gI h v0 8 3).bind fun x4 => (pF h v0 8 4 (.int x4)).bind fun h5 => some h5) else (some h))
set_option maxRecDepth 100000 in
set_option maxHeartbeats 4000000 in
theorem k_X8_notice {N : Nat} {v0 : Nat} {v1 : Int32} {h : zH} {r : zH} (H : f_X8_notice N v0 v1 h = some r) : zOk 0 0 0 yX8_notice cX8_notice 2 none [.ref v0, .int v1] h none r := by
  refine zOk.of (by decide) (Nat.le_of_ble_eq_true rfl) ?_
  unfold f_X8_notice at H
  refine z_iload_n (pc := 0) 1 dX8_notice_0 rfl rfl ?_
  refine z_if_eq (pc := 1) 20 dX8_notice_1 (by decide) (fun c1 => ?_) (fun c1 => ?_)
  · rw [if_pos c1] at H
    cases H
    exact z_return rfl dX8_notice_20
  · rw [if_neg c1] at H
    refine z_aload_n (pc := 4) 0 dX8_notice_4 rfl rfl ?_
    obtain ⟨x2, ex2, H⟩ := zbind H
    refine z_getI (pc := 5) dX8_notice_5 fd_X8_25 ex2 ?_
    refine z_iconst (pc := 8) (x := (-1)) dX8_notice_8 zc_iconst_m1 ?_
    refine z_icmp_ne (pc := 9) 20 dX8_notice_9 (by decide) (fun c3 => ?_) (fun c3 => ?_)
    · rw [if_neg c3] at H
      cases H
      exact z_return rfl dX8_notice_20
    · rw [if_pos c3] at H
      refine z_aload_n (pc := 12) 0 dX8_notice_12 rfl rfl ?_
      refine z_aload_n (pc := 13) 0 dX8_notice_13 rfl rfl ?_
      obtain ⟨x4, ex4, H⟩ := zbind H
      refine z_getI (pc := 14) dX8_notice_14 fd_X8_54 ex4 ?_
      obtain ⟨h5, eh5, H⟩ := zbind H
      refine z_put (pc := 17) dX8_notice_17 fd_X8_25 rfl rfl eh5 ?_
      cases H
      exact z_return rfl dX8_notice_20

def f_X11_up (N : Nat) (v0 : Int32) (v1 : Int32) (h : zH) : Option (Int32) := if 0 < v1 then (zdiv v1 <| some (((v0 + v1) - 1) / v1)) else (some 0)
set_option maxRecDepth 100000 in
set_option maxHeartbeats 4000000 in
theorem k_X11_up {N : Nat} {v0 : Int32} {v1 : Int32} {h : zH} {r : Int32} (H : f_X11_up N v0 v1 h = some r) : zOk 0 0 0 yX11_up cX11_up 2 (some .int) [.int v0, .int v1] h (some (.int r)) h := by
  refine zOk.of (by decide) (Nat.le_of_ble_eq_true rfl) ?_
  unfold f_X11_up at H
  refine z_iload_n (pc := 0) 1 dX11_up_0 rfl rfl ?_
  refine z_if_gt (pc := 1) 8 dX11_up_1 (by decide) (fun c1 => ?_) (fun c1 => ?_)
  · rw [if_pos c1] at H
    refine z_iload_n (pc := 8) 0 dX11_up_8 rfl rfl ?_
    refine z_iload_n (pc := 9) 1 dX11_up_9 rfl rfl ?_
    refine z_iadd (pc := 10) dX11_up_10 ?_
    refine z_iconst (pc := 11) (x := 1) dX11_up_11 zc_iconst_1 ?_
    refine z_isub (pc := 12) dX11_up_12 ?_
    refine z_iload_n (pc := 13) 1 dX11_up_13 rfl rfl ?_
    obtain ⟨z2, H⟩ := zdivE H
    refine z_idiv (pc := 14) dX11_up_14 z2 ?_
    cases H
    exact z_ireturn rfl dX11_up_15
  · rw [if_neg c1] at H
    refine z_iconst (pc := 4) (x := 0) dX11_up_4 zc_iconst_0 ?_
    refine z_goto (pc := 5) 15 dX11_up_5 (by decide) ?_
    cases H
    exact z_ireturn rfl dX11_up_15

def f_X8_brake (N : Nat) (v0 : Nat) (v1 : Int32) (h : zH) : Option (zH) := if v1 < 0 then (some h) else ((aN h (h.1.2 0)).bind fun x2 => if x2 ≤ v1 then (some h) else ((gI h v0 8 2).bind fun x4 => (aI h (h.1.2 0) v1).bind fun x5 => (pF h v0 8 2 (.int (if 0 < (x4 - x5) then (x4 - x5) else 0))).bind fun h6 => some h6))
set_option maxRecDepth 100000 in
set_option maxHeartbeats 4000000 in
theorem k_X8_brake {N : Nat} {v0 : Nat} {v1 : Int32} {h : zH} {r : zH} (H : f_X8_brake N v0 v1 h = some r) : zOk 1 0 0 yX8_brake cX8_brake 2 none [.ref v0, .int v1] h none r := by
  refine zOk.of (by decide) (Nat.le_of_ble_eq_true rfl) ?_
  unfold f_X8_brake at H
  refine z_iload_n (pc := 0) 1 dX8_brake_0 rfl rfl ?_
  refine z_if_lt (pc := 1) 30 dX8_brake_1 (by decide) (fun c1 => ?_) (fun c1 => ?_)
  · rw [if_pos c1] at H
    cases H
    exact z_return rfl dX8_brake_30
  · rw [if_neg c1] at H
    refine z_iload_n (pc := 4) 1 dX8_brake_4 rfl rfl ?_
    refine z_brakes (pc := 5) dX8_brake_5 fs_X8_94 ?_
    obtain ⟨x2, ex2, H⟩ := zbind H
    refine z_alen (pc := 8) dX8_brake_8 ex2 ?_
    refine z_icmp_ge (pc := 9) 30 dX8_brake_9 (by decide) (fun c3 => ?_) (fun c3 => ?_)
    · rw [if_pos c3] at H
      cases H
      exact z_return rfl dX8_brake_30
    · rw [if_neg c3] at H
      refine z_aload_n (pc := 12) 0 dX8_brake_12 rfl rfl ?_
      refine z_iconst (pc := 13) (x := 0) dX8_brake_13 zc_iconst_0 ?_
      refine z_aload_n (pc := 14) 0 dX8_brake_14 rfl rfl ?_
      obtain ⟨x4, ex4, H⟩ := zbind H
      refine z_getI (pc := 15) dX8_brake_15 fd_X8_33 ex4 ?_
      refine z_brakes (pc := 18) dX8_brake_18 fs_X8_94 ?_
      refine z_iload_n (pc := 21) 1 dX8_brake_21 rfl rfl ?_
      obtain ⟨x5, ex5, H⟩ := zbind H
      refine z_iaload (pc := 22) dX8_brake_22 ex5 ?_
      refine z_isub (pc := 23) dX8_brake_23 ?_
      refine z_mmax (pc := 24) dX8_brake_24 ml_X8_98 mx_1 mx_2 mx_3 (by omega) (Nat.le_of_ble_eq_true rfl) ?_
      obtain ⟨h6, eh6, H⟩ := zbind H
      refine z_put (pc := 27) dX8_brake_27 fd_X8_33 rfl rfl eh6 ?_
      cases H
      exact z_return rfl dX8_brake_30

def p_X11_within (v0 : Int32) (v1 : Int32) (v2 : Int32) : Int32 := if v0 < v1 then (0) else (if v2 < v0 then (0) else (1))
set_option maxRecDepth 100000 in
set_option maxHeartbeats 4000000 in
theorem k_X11_within (v0 : Int32) (v1 : Int32) (v2 : Int32) (h : zH) (r : Int32) (H : p_X11_within v0 v1 v2 = r) : zOk 0 0 0 yX11_within cX11_within 3 (some .boolean) [.int v0, .int v1, .int v2] h (some (.int r)) h := by
  refine zOk.of (by decide) (Nat.le_of_ble_eq_true rfl) ?_
  unfold p_X11_within at H
  refine z_iload_n (pc := 0) 0 dX11_within_0 rfl rfl ?_
  refine z_iload_n (pc := 1) 1 dX11_within_1 rfl rfl ?_
  refine z_icmp_lt (pc := 2) 14 dX11_within_2 (by decide) (fun c1 => ?_) (fun c1 => ?_)
  · rw [if_pos c1] at H
    refine z_iconst (pc := 14) (x := 0) dX11_within_14 zc_iconst_0 ?_
    subst H
    exact z_zreturn rfl dX11_within_15 (by decide)
  · rw [if_neg c1] at H
    refine z_iload_n (pc := 5) 0 dX11_within_5 rfl rfl ?_
    refine z_iload_n (pc := 6) 2 dX11_within_6 rfl rfl ?_
    refine z_icmp_gt (pc := 7) 14 dX11_within_7 (by decide) (fun c2 => ?_) (fun c2 => ?_)
    · rw [if_pos c2] at H
      refine z_iconst (pc := 14) (x := 0) dX11_within_14 zc_iconst_0 ?_
      subst H
      exact z_zreturn rfl dX11_within_15 (by decide)
    · rw [if_neg c2] at H
      refine z_iconst (pc := 10) (x := 1) dX11_within_10 zc_iconst_1 ?_
      refine z_goto (pc := 11) 15 dX11_within_11 (by decide) ?_
      subst H
      exact z_zreturn rfl dX11_within_15 (by decide)

def f_X8_goOn (N : Nat) (v0 : Nat) (v1 : Nat) (h : zH) : Option (zH) := zif (zob h v0 8) <| (f_X8_sees N v0 v1 h).bind fun q2 => zif (zob h v0 8) <| (f_X8_notice N v0 q2 h).bind fun h4 => (gI h4 v1 6 5).bind fun x5 => (if x5 = 0 then (some 0) else ((if q2 = 0 then (some (.inl ())) else ((gI h4 v0 8 2).bind fun x11 => if x11 ≤ 0 then (some (.inl ())) else ((gI h4 v0 8 0).bind fun x13 => (gI h4 v0 8 2).bind fun x14 => (f_X11_up N (-x13) x14 h4).bind fun q15 => (gI h4 v0 8 1).bind fun x16 => (gI h4 v1 6 4).bind fun x17 => (f_X11_up N (-x16) x17 h4).bind fun q18 => if q18 < q15 then (some (.inl ())) else ((some 1).map .inr))) : Option ((Unit) ⊕ (Int32))).bind fun m8 => zsum m8 fun s9 => some 0) : Option (Int32)).bind fun m6 => (gI h4 v0 8 4).bind fun x21 => (if x21 = (-1) then (some h4) else ((gI h4 v0 8 3).bind fun x24 => (gI h4 v0 8 4).bind fun x25 => (gI h4 v1 6 2).bind fun x26 => if x24 < (x25 + x26) then (some h4) else ((gI h4 v1 6 9).bind fun x28 => zif (zob h4 v0 8) <| (f_X8_brake N v0 x28 h4).bind fun h30 => some h30)) : Option (zH)).bind fun m22 => (gI m22 v0 8 2).bind fun x31 => (if x31 = 0 then ((gI m22 v0 8 5).bind fun x34 => if x34 = (-1) then ((gI m22 v0 8 3).bind fun x36 => (pF m22 v0 8 5 (.int x36)).bind fun h37 => some h37) else (some m22)) else (some m22) : Option (zH)).bind fun m32 => (gI m32 v0 8 0).bind fun x38 => (gI m32 v0 8 2).bind fun x39 => (pF m32 v0 8 0 (.int (x38 + x39))).bind fun h40 => (if m6 = 0 then ((gI h40 v0 8 1).bind fun x43 => (gI h40 v1 6 4).bind fun x44 => (pF h40 v0 8 1 (.int (x43 + x44))).bind fun h45 => some h45) else (some h40) : Option (zH)).bind fun m41 => (gI m41 v0 8 3).bind fun x46 => (pF m41 v0 8 3 (.int (x46 + 1))).bind fun h47 => (gI h47 v0 8 2).bind fun x48 => if x48 ≤ 0 then (some h47) else ((gI h47 v0 8 0).bind fun x50 => if (p_X11_within x50 0 40) = 0 then (some h47) else ((gI h47 v0 8 1).bind fun x52 => if (p_X11_within x52 (-8) 8) = 0 then (some h47) else ((gI h47 v0 8 3).bind fun x54 => (pF h47 v0 8 6 (.int x54)).bind fun h55 => some h55)))
set_option maxRecDepth 100000 in
set_option maxHeartbeats 4000000 in
theorem k_X8_goOn {N : Nat} {v0 : Nat} {v1 : Nat} {h : zH} {r : zH} (H : f_X8_goOn N v0 v1 h = some r) : zOk 2 0 0 yX8_goOn cX8_goOn 4 none [.ref v0, .ref v1] h none r := by
  refine zOk.of (by decide) (Nat.le_of_ble_eq_true rfl) ?_
  unfold f_X8_goOn at H
  refine z_aload_n (pc := 0) 0 dX8_goOn_0 rfl rfl ?_
  refine z_aload_n (pc := 1) 1 dX8_goOn_1 rfl rfl ?_
  obtain ⟨z1, H⟩ := zifE H
  obtain ⟨q2, eq2, H⟩ := zbind H
  refine z_callV (pc := 2) (mc := 0) (ms := 0) (d' := 0) (mc' := 0) (ms' := 0) (rest := []) [.ref v1] dX8_goOn_2 md_X8_sees ml_X8_61 im_X8_sees se_X8_sees rfl z1 rfl rfl (Nat.le_of_ble_eq_true rfl) (by omega) (k_X8_sees eq2) ?_
  refine z_istore_n (pc := 5) (lv' := [(2, .int q2), (0, .ref v0), (1, .ref v1)]) dX8_goOn_5 rfl (by decide) rfl ?_
  refine z_aload_n (pc := 6) 1 dX8_goOn_6 rfl rfl ?_
  refine z_iload_n (pc := 7) 0 dX8_goOn_7 rfl rfl ?_
  obtain ⟨z3, H⟩ := zifE H
  obtain ⟨h4, eh4, H⟩ := zbind H
  refine z_callV (pc := 8) (mc := 0) (ms := 0) (d' := 0) (mc' := 0) (ms' := 0) (rest := []) [.int q2] dX8_goOn_8 md_X8_notice ml_X8_65 im_X8_notice se_X8_notice rfl z3 rfl rfl (Nat.le_of_ble_eq_true rfl) (by omega) (k_X8_notice eh4) ?_
  refine z_aload_n (pc := 11) 2 dX8_goOn_11 rfl rfl ?_
  obtain ⟨x5, ex5, H⟩ := zbind H
  refine z_getI (pc := 12) dX8_goOn_12 fd_X8_69 ex5 ?_
  obtain ⟨m6, em6, H⟩ := zbind H
  have Jm6 : zW yX8_goOn cX8_goOn 4 none 2 0 0 61 [(0, .ref v0), (1, .ref v1)] [.int m6] h4 none r := by
    refine z_istore_n (pc := 61) (lv' := [(3, .int m6), (0, .ref v0), (1, .ref v1)]) dX8_goOn_61 rfl (by decide) rfl ?_
    refine z_aload_n (pc := 62) 1 dX8_goOn_62 rfl rfl ?_
    obtain ⟨x21, ex21, H⟩ := zbind H
    refine z_getI (pc := 63) dX8_goOn_63 fd_X8_25 ex21 ?_
    refine z_iconst (pc := 66) (x := (-1)) dX8_goOn_66 zc_iconst_m1 ?_
    obtain ⟨m22, em22, H⟩ := zbind H
    have Jm22 : zW yX8_goOn cX8_goOn 4 none 2 0 0 94 [(0, .ref v0), (1, .ref v1), (3, .int m6)] [] m22 none r := by
      refine z_aload_n (pc := 94) 0 dX8_goOn_94 rfl rfl ?_
      obtain ⟨x31, ex31, H⟩ := zbind H
      refine z_getI (pc := 95) dX8_goOn_95 fd_X8_33 ex31 ?_
      obtain ⟨m32, em32, H⟩ := zbind H
      have Jm32 : zW yX8_goOn cX8_goOn 4 none 2 0 0 117 [(0, .ref v0), (1, .ref v1), (3, .int m6)] [] m32 none r := by
        refine z_aload_n (pc := 117) 0 dX8_goOn_117 rfl rfl ?_
        refine z_dup (pc := 118) dX8_goOn_118 rfl ?_
        obtain ⟨x38, ex38, H⟩ := zbind H
        refine z_getI (pc := 119) dX8_goOn_119 fd_X8_49 ex38 ?_
        refine z_aload_n (pc := 122) 0 dX8_goOn_122 rfl rfl ?_
        obtain ⟨x39, ex39, H⟩ := zbind H
        refine z_getI (pc := 123) dX8_goOn_123 fd_X8_33 ex39 ?_
        refine z_iadd (pc := 126) dX8_goOn_126 ?_
        obtain ⟨h40, eh40, H⟩ := zbind H
        refine z_put (pc := 127) dX8_goOn_127 fd_X8_49 rfl rfl eh40 ?_
        refine z_iload_n (pc := 130) 2 dX8_goOn_130 rfl rfl ?_
        obtain ⟨m41, em41, H⟩ := zbind H
        have Jm41 : zW yX8_goOn cX8_goOn 4 none 2 0 0 147 [(0, .ref v0)] [] m41 none r := by
          refine z_aload_n (pc := 147) 0 dX8_goOn_147 rfl rfl ?_
          refine z_dup (pc := 148) dX8_goOn_148 rfl ?_
          obtain ⟨x46, ex46, H⟩ := zbind H
          refine z_getI (pc := 149) dX8_goOn_149 fd_X8_54 ex46 ?_
          refine z_iconst (pc := 152) (x := 1) dX8_goOn_152 zc_iconst_1 ?_
          refine z_iadd (pc := 153) dX8_goOn_153 ?_
          obtain ⟨h47, eh47, H⟩ := zbind H
          refine z_put (pc := 154) dX8_goOn_154 fd_X8_54 rfl rfl eh47 ?_
          refine z_aload_n (pc := 157) 0 dX8_goOn_157 rfl rfl ?_
          obtain ⟨x48, ex48, H⟩ := zbind H
          refine z_getI (pc := 158) dX8_goOn_158 fd_X8_33 ex48 ?_
          refine z_if_le (pc := 161) 199 dX8_goOn_161 (by decide) (fun c49 => ?_) (fun c49 => ?_)
          · rw [if_pos c49] at H
            cases H
            exact z_return rfl dX8_goOn_199
          · rw [if_neg c49] at H
            refine z_aload_n (pc := 164) 0 dX8_goOn_164 rfl rfl ?_
            obtain ⟨x50, ex50, H⟩ := zbind H
            refine z_getI (pc := 165) dX8_goOn_165 fd_X8_49 ex50 ?_
            refine z_iconst (pc := 168) (x := 0) dX8_goOn_168 zc_iconst_0 ?_
            refine z_bipush (pc := 169) (x := 40) dX8_goOn_169 zc_bipush_40 ?_
            refine z_callSN (pc := 171) (mc := 0) (ms := 0) (d' := 0) (mc' := 0) (ms' := 0) (rest := []) [.int x50, .int 0, .int 40] dX8_goOn_171 md_X11_within ns_X8_90 sm_X11_within rfl rfl (Nat.le_of_ble_eq_true rfl) (by omega) (k_X11_within x50 0 40 h47 _ rfl) ?_
            refine z_if_eq (pc := 174) 199 dX8_goOn_174 (by decide) (fun c51 => ?_) (fun c51 => ?_)
            · rw [if_pos c51] at H
              cases H
              exact z_return rfl dX8_goOn_199
            · rw [if_neg c51] at H
              refine z_aload_n (pc := 177) 0 dX8_goOn_177 rfl rfl ?_
              obtain ⟨x52, ex52, H⟩ := zbind H
              refine z_getI (pc := 178) dX8_goOn_178 fd_X8_53 ex52 ?_
              refine z_bipush (pc := 181) (x := (-8)) dX8_goOn_181 zc_bipush_m8 ?_
              refine z_bipush (pc := 183) (x := 8) dX8_goOn_183 zc_bipush_8 ?_
              refine z_callSN (pc := 185) (mc := 0) (ms := 0) (d' := 0) (mc' := 0) (ms' := 0) (rest := []) [.int x52, .int (-8), .int 8] dX8_goOn_185 md_X11_within ns_X8_90 sm_X11_within rfl rfl (Nat.le_of_ble_eq_true rfl) (by omega) (k_X11_within x52 (-8) 8 h47 _ rfl) ?_
              refine z_if_eq (pc := 188) 199 dX8_goOn_188 (by decide) (fun c53 => ?_) (fun c53 => ?_)
              · rw [if_pos c53] at H
                cases H
                exact z_return rfl dX8_goOn_199
              · rw [if_neg c53] at H
                refine z_aload_n (pc := 191) 0 dX8_goOn_191 rfl rfl ?_
                refine z_aload_n (pc := 192) 0 dX8_goOn_192 rfl rfl ?_
                obtain ⟨x54, ex54, H⟩ := zbind H
                refine z_getI (pc := 193) dX8_goOn_193 fd_X8_54 ex54 ?_
                obtain ⟨h55, eh55, H⟩ := zbind H
                refine z_put (pc := 196) dX8_goOn_196 fd_X8_21 rfl rfl eh55 ?_
                cases H
                exact z_return rfl dX8_goOn_199
        refine z_if_ne (pc := 131) 147 dX8_goOn_131 (by decide) (fun c42 => ?_) (fun c42 => ?_)
        · rw [if_neg c42] at em41
          cases em41
          exact z_sub [0] rfl Jm41
        · rw [if_pos c42] at em41
          refine z_aload_n (pc := 134) 0 dX8_goOn_134 rfl rfl ?_
          refine z_dup (pc := 135) dX8_goOn_135 rfl ?_
          obtain ⟨x43, ex43, em41⟩ := zbind em41
          refine z_getI (pc := 136) dX8_goOn_136 fd_X8_53 ex43 ?_
          refine z_aload_n (pc := 139) 1 dX8_goOn_139 rfl rfl ?_
          obtain ⟨x44, ex44, em41⟩ := zbind em41
          refine z_getI (pc := 140) dX8_goOn_140 fd_X8_77 ex44 ?_
          refine z_iadd (pc := 143) dX8_goOn_143 ?_
          obtain ⟨h45, eh45, em41⟩ := zbind em41
          refine z_put (pc := 144) dX8_goOn_144 fd_X8_53 rfl rfl eh45 ?_
          cases em41
          exact z_sub [0] rfl Jm41
      refine z_if_ne (pc := 98) 117 dX8_goOn_98 (by decide) (fun c33 => ?_) (fun c33 => ?_)
      · rw [if_neg c33] at em32
        cases em32
        exact z_sub [0, 1, 2] rfl Jm32
      · rw [if_pos c33] at em32
        refine z_aload_n (pc := 101) 0 dX8_goOn_101 rfl rfl ?_
        obtain ⟨x34, ex34, em32⟩ := zbind em32
        refine z_getI (pc := 102) dX8_goOn_102 fd_X8_29 ex34 ?_
        refine z_iconst (pc := 105) (x := (-1)) dX8_goOn_105 zc_iconst_m1 ?_
        refine z_icmp_ne (pc := 106) 117 dX8_goOn_106 (by decide) (fun c35 => ?_) (fun c35 => ?_)
        · rw [if_neg c35] at em32
          cases em32
          exact z_sub [0, 1, 2] rfl Jm32
        · rw [if_pos c35] at em32
          refine z_aload_n (pc := 109) 0 dX8_goOn_109 rfl rfl ?_
          refine z_aload_n (pc := 110) 0 dX8_goOn_110 rfl rfl ?_
          obtain ⟨x36, ex36, em32⟩ := zbind em32
          refine z_getI (pc := 111) dX8_goOn_111 fd_X8_54 ex36 ?_
          obtain ⟨h37, eh37, em32⟩ := zbind em32
          refine z_put (pc := 114) dX8_goOn_114 fd_X8_29 rfl rfl eh37 ?_
          cases em32
          exact z_sub [0, 1, 2] rfl Jm32
    refine z_icmp_eq (pc := 67) 94 dX8_goOn_67 (by decide) (fun c23 => ?_) (fun c23 => ?_)
    · rw [if_pos c23] at em22
      cases em22
      exact z_sub [1, 2, 0] rfl Jm22
    · rw [if_neg c23] at em22
      refine z_aload_n (pc := 70) 1 dX8_goOn_70 rfl rfl ?_
      obtain ⟨x24, ex24, em22⟩ := zbind em22
      refine z_getI (pc := 71) dX8_goOn_71 fd_X8_54 ex24 ?_
      refine z_aload_n (pc := 74) 1 dX8_goOn_74 rfl rfl ?_
      obtain ⟨x25, ex25, em22⟩ := zbind em22
      refine z_getI (pc := 75) dX8_goOn_75 fd_X8_25 ex25 ?_
      refine z_aload_n (pc := 78) 2 dX8_goOn_78 rfl rfl ?_
      obtain ⟨x26, ex26, em22⟩ := zbind em22
      refine z_getI (pc := 79) dX8_goOn_79 fd_X8_80 ex26 ?_
      refine z_iadd (pc := 82) dX8_goOn_82 ?_
      refine z_icmp_lt (pc := 83) 94 dX8_goOn_83 (by decide) (fun c27 => ?_) (fun c27 => ?_)
      · rw [if_pos c27] at em22
        cases em22
        exact z_sub [1, 2, 0] rfl Jm22
      · rw [if_neg c27] at em22
        refine z_aload_n (pc := 86) 1 dX8_goOn_86 rfl rfl ?_
        refine z_aload_n (pc := 87) 2 dX8_goOn_87 rfl rfl ?_
        obtain ⟨x28, ex28, em22⟩ := zbind em22
        refine z_getI (pc := 88) dX8_goOn_88 fd_X8_83 ex28 ?_
        obtain ⟨z29, em22⟩ := zifE em22
        obtain ⟨h30, eh30, em22⟩ := zbind em22
        refine z_callV (pc := 91) (mc := 0) (ms := 0) (d' := 1) (mc' := 0) (ms' := 0) (rest := []) [.int x28] dX8_goOn_91 md_X8_brake ml_X8_86 im_X8_brake se_X8_brake rfl z29 rfl rfl (Nat.le_of_ble_eq_true rfl) (by omega) (k_X8_brake eh30) ?_
        cases em22
        exact z_sub [1, 2, 0] rfl Jm22
  refine z_if_eq (pc := 15) 60 dX8_goOn_15 (by decide) (fun c7 => ?_) (fun c7 => ?_)
  · rw [if_pos c7] at em6
    refine z_iconst (pc := 60) (x := 0) dX8_goOn_60 zc_iconst_0 ?_
    cases em6
    exact z_sub [1, 2] rfl Jm6
  · rw [if_neg c7] at em6
    refine z_iload_n (pc := 18) 0 dX8_goOn_18 rfl rfl ?_
    obtain ⟨m8, em8, em6⟩ := zbind em6
    have Jm8 : ∀ s9, m8 = .inl s9 → zW yX8_goOn cX8_goOn 4 none 2 0 0 60 [(0, .ref v0), (1, .ref v1)] [] h4 none r := by
      intro s9 e9
      subst e9
      have em6 := zsumL em6
      refine z_iconst (pc := 60) (x := 0) dX8_goOn_60 zc_iconst_0 ?_
      cases em6
      exact z_sub [0, 1] rfl Jm6
    refine z_if_eq (pc := 19) 60 dX8_goOn_19 (by decide) (fun c10 => ?_) (fun c10 => ?_)
    · rw [if_pos c10] at em8
      cases em8
      exact z_sub [1, 2] rfl (Jm8 _ rfl)
    · rw [if_neg c10] at em8
      refine z_aload_n (pc := 22) 1 dX8_goOn_22 rfl rfl ?_
      obtain ⟨x11, ex11, em8⟩ := zbind em8
      refine z_getI (pc := 23) dX8_goOn_23 fd_X8_33 ex11 ?_
      refine z_if_le (pc := 26) 60 dX8_goOn_26 (by decide) (fun c12 => ?_) (fun c12 => ?_)
      · rw [if_pos c12] at em8
        cases em8
        exact z_sub [1, 2] rfl (Jm8 _ rfl)
      · rw [if_neg c12] at em8
        refine z_aload_n (pc := 29) 1 dX8_goOn_29 rfl rfl ?_
        obtain ⟨x13, ex13, em8⟩ := zbind em8
        refine z_getI (pc := 30) dX8_goOn_30 fd_X8_49 ex13 ?_
        refine z_ineg (pc := 33) dX8_goOn_33 ?_
        refine z_aload_n (pc := 34) 1 dX8_goOn_34 rfl rfl ?_
        obtain ⟨x14, ex14, em8⟩ := zbind em8
        refine z_getI (pc := 35) dX8_goOn_35 fd_X8_33 ex14 ?_
        obtain ⟨q15, eq15, em8⟩ := zbind em8
        refine z_callSN (pc := 38) (mc := 0) (ms := 0) (d' := 0) (mc' := 0) (ms' := 0) (rest := []) [.int (-x13), .int x14] dX8_goOn_38 md_X11_up ns_X8_73 sm_X11_up rfl rfl (Nat.le_of_ble_eq_true rfl) (by omega) (k_X11_up eq15) ?_
        refine z_aload_n (pc := 41) 1 dX8_goOn_41 rfl rfl ?_
        obtain ⟨x16, ex16, em8⟩ := zbind em8
        refine z_getI (pc := 42) dX8_goOn_42 fd_X8_53 ex16 ?_
        refine z_ineg (pc := 45) dX8_goOn_45 ?_
        refine z_aload_n (pc := 46) 2 dX8_goOn_46 rfl rfl ?_
        obtain ⟨x17, ex17, em8⟩ := zbind em8
        refine z_getI (pc := 47) dX8_goOn_47 fd_X8_77 ex17 ?_
        obtain ⟨q18, eq18, em8⟩ := zbind em8
        refine z_callSN (pc := 50) (mc := 0) (ms := 0) (d' := 0) (mc' := 0) (ms' := 0) (rest := [.int q15]) [.int (-x16), .int x17] dX8_goOn_50 md_X11_up ns_X8_73 sm_X11_up rfl rfl (Nat.le_of_ble_eq_true rfl) (by omega) (k_X11_up eq18) ?_
        refine z_icmp_gt (pc := 53) 60 dX8_goOn_53 (by decide) (fun c19 => ?_) (fun c19 => ?_)
        · rw [if_pos c19] at em8
          cases em8
          exact z_sub [1, 2] rfl (Jm8 _ rfl)
        · rw [if_neg c19] at em8
          refine z_iconst (pc := 56) (x := 1) dX8_goOn_56 zc_iconst_1 ?_
          refine z_goto (pc := 57) 61 dX8_goOn_57 (by decide) ?_
          obtain ⟨o20, H9, e9⟩ := zmapR em8
          subst e9
          have H9 := H9.trans (zsumR em6)
          cases H9
          exact z_sub [1, 2] rfl Jm6

def f_X8_go_L44 (N : Nat) (v0 : Nat) (v1 : Nat) (v3 : Int32) : Nat → Int32 → zH → Option (zH)
  | 0, _, _ => none
  | n + 1, v4, h => if v3 ≤ v4 then (some h) else ((gI h v0 8 6).bind fun x11 => if x11 = (-1) then (zif (zob h v0 8) <| (f_X8_goOn N v0 v1 h).bind fun h14 => f_X8_go_L44 N v0 v1 v3 n (v4 + 1) h14) else (some h))
set_option maxRecDepth 100000 in
set_option maxHeartbeats 4000000 in
theorem s_X8_go_L44 {d mc ms N : Nat} {vv : Option Value} {hh : zH} {v0 : Nat} {v1 : Nat} {v3 : Int32} (hd0 : 3 ≤ d) : ∀ (n : Nat) (v4 : Int32) (h : zH) (m : zH), f_X8_go_L44 N v0 v1 v3 n v4 h = some m → (zW yX8_go cX8_go 5 none d mc ms 69 [(0, .ref v0), (1, .ref v1)] [] m vv hh) → zW yX8_go cX8_go 5 none d mc ms 44 [(0, .ref v0), (1, .ref v1), (3, .int v3), (4, .int v4)] [] h vv hh := by
  intro n
  induction n with
  | zero =>
    intro v4 h m H
    cases H
  | succ n ih =>
    intro v4 h m H KE
    unfold f_X8_go_L44 at H
    refine z_iload (pc := 44) 3 dX8_go_44 rfl ?_
    refine z_iload_n (pc := 46) 2 dX8_go_46 rfl rfl ?_
    refine z_icmp_ge (pc := 47) 69 dX8_go_47 (by decide) (fun c10 => ?_) (fun c10 => ?_)
    · rw [if_pos c10] at H
      cases H
      exact z_sub [0, 1] rfl (KE)
    · rw [if_neg c10] at H
      refine z_aload_n (pc := 50) 0 dX8_go_50 rfl rfl ?_
      obtain ⟨x11, ex11, H⟩ := zbind H
      refine z_getI (pc := 51) dX8_go_51 fd_X8_21 ex11 ?_
      refine z_iconst (pc := 54) (x := (-1)) dX8_go_54 zc_iconst_m1 ?_
      refine z_icmp_ne (pc := 55) 69 dX8_go_55 (by decide) (fun c12 => ?_) (fun c12 => ?_)
      · rw [if_neg c12] at H
        cases H
        exact z_sub [0, 1] rfl (KE)
      · rw [if_pos c12] at H
        refine z_aload_n (pc := 58) 0 dX8_go_58 rfl rfl ?_
        refine z_aload_n (pc := 59) 1 dX8_go_59 rfl rfl ?_
        obtain ⟨z13, H⟩ := zifE H
        obtain ⟨h14, eh14, H⟩ := zbind H
        refine z_callV (pc := 60) (mc := mc) (ms := ms) (d' := 2) (mc' := 0) (ms' := 0) (rest := []) [.ref v1] dX8_go_60 md_X8_goOn ml_X8_57 im_X8_goOn se_X8_goOn rfl z13 rfl rfl (Nat.le_of_ble_eq_true rfl) (by omega) (k_X8_goOn eh14) ?_
        refine z_iinc (pc := 63) (x' := v4 + 1) (lv' := [(4, .int (v4 + 1)), (0, .ref v0), (1, .ref v1), (3, .int v3)]) 3 dX8_go_63 rfl (by rfl) (by decide) rfl ?_
        refine z_goto (pc := 66) 44 dX8_go_66 (by decide) ?_
        exact z_sub [1, 2, 3, 0] rfl (ih (v4 + 1) h14 _ H KE)
def f_X8_go (N : Nat) (v0 : Nat) (v1 : Nat) (v2 : Int32) (v3 : Int32) (h : zH) : Option (zH) := (gI h v1 6 0).bind fun x1 => (pF h v0 8 0 (.int x1)).bind fun h2 => (gI h2 v1 6 3).bind fun x3 => (pF h2 v0 8 1 (.int x3)).bind fun h4 => (pF h4 v0 8 2 (.int v2)).bind fun h5 => (pF h5 v0 8 3 (.int 0)).bind fun h6 => (pF h6 v0 8 4 (.int (-1))).bind fun h7 => (pF h7 v0 8 5 (.int (-1))).bind fun h8 => (pF h8 v0 8 6 (.int (-1))).bind fun h9 => (f_X8_go_L44 N v0 v1 v3 N 0 h9).bind fun m15 => zif (zob m15 v0 8) <| (f_X8_sees N v0 v1 m15).bind fun q17 => zif (zob m15 v0 8) <| (f_X8_notice N v0 q17 m15).bind fun h19 => some h19
set_option maxRecDepth 100000 in
set_option maxHeartbeats 4000000 in
theorem k_X8_go {N : Nat} {v0 : Nat} {v1 : Nat} {v2 : Int32} {v3 : Int32} {h : zH} {r : zH} (H : f_X8_go N v0 v1 v2 v3 h = some r) : zOk 3 0 0 yX8_go cX8_go 5 none [.ref v0, .ref v1, .int v2, .int v3] h none r := by
  refine zOk.of (by decide) (Nat.le_of_ble_eq_true rfl) ?_
  unfold f_X8_go at H
  refine z_aload_n (pc := 0) 0 dX8_go_0 rfl rfl ?_
  refine z_aload_n (pc := 1) 1 dX8_go_1 rfl rfl ?_
  obtain ⟨x1, ex1, H⟩ := zbind H
  refine z_getI (pc := 2) dX8_go_2 fd_X8_46 ex1 ?_
  obtain ⟨h2, eh2, H⟩ := zbind H
  refine z_put (pc := 5) dX8_go_5 fd_X8_49 rfl rfl eh2 ?_
  refine z_aload_n (pc := 8) 0 dX8_go_8 rfl rfl ?_
  refine z_aload_n (pc := 9) 1 dX8_go_9 rfl rfl ?_
  obtain ⟨x3, ex3, H⟩ := zbind H
  refine z_getI (pc := 10) dX8_go_10 fd_X8_50 ex3 ?_
  obtain ⟨h4, eh4, H⟩ := zbind H
  refine z_put (pc := 13) dX8_go_13 fd_X8_53 rfl rfl eh4 ?_
  refine z_aload_n (pc := 16) 0 dX8_go_16 rfl rfl ?_
  refine z_iload_n (pc := 17) 2 dX8_go_17 rfl rfl ?_
  obtain ⟨h5, eh5, H⟩ := zbind H
  refine z_put (pc := 18) dX8_go_18 fd_X8_33 rfl rfl eh5 ?_
  refine z_aload_n (pc := 21) 0 dX8_go_21 rfl rfl ?_
  refine z_iconst (pc := 22) (x := 0) dX8_go_22 zc_iconst_0 ?_
  obtain ⟨h6, eh6, H⟩ := zbind H
  refine z_put (pc := 23) dX8_go_23 fd_X8_54 rfl rfl eh6 ?_
  refine z_aload_n (pc := 26) 0 dX8_go_26 rfl rfl ?_
  refine z_iconst (pc := 27) (x := (-1)) dX8_go_27 zc_iconst_m1 ?_
  obtain ⟨h7, eh7, H⟩ := zbind H
  refine z_put (pc := 28) dX8_go_28 fd_X8_25 rfl rfl eh7 ?_
  refine z_aload_n (pc := 31) 0 dX8_go_31 rfl rfl ?_
  refine z_iconst (pc := 32) (x := (-1)) dX8_go_32 zc_iconst_m1 ?_
  obtain ⟨h8, eh8, H⟩ := zbind H
  refine z_put (pc := 33) dX8_go_33 fd_X8_29 rfl rfl eh8 ?_
  refine z_aload_n (pc := 36) 0 dX8_go_36 rfl rfl ?_
  refine z_iconst (pc := 37) (x := (-1)) dX8_go_37 zc_iconst_m1 ?_
  obtain ⟨h9, eh9, H⟩ := zbind H
  refine z_put (pc := 38) dX8_go_38 fd_X8_21 rfl rfl eh9 ?_
  refine z_iconst (pc := 41) (x := 0) dX8_go_41 zc_iconst_0 ?_
  refine z_istore (pc := 42) (lv' := [(4, .int 0), (0, .ref v0), (1, .ref v1), (2, .int v2), (3, .int v3)]) dX8_go_42 (by decide) rfl ?_
  obtain ⟨m15, em15, H⟩ := zbind H
  refine z_sub [1, 2, 4, 0] rfl (s_X8_go_L44 (by omega) N 0 h9 _ em15 ?_)
  refine z_aload_n (pc := 69) 0 dX8_go_69 rfl rfl ?_
  refine z_aload_n (pc := 70) 0 dX8_go_70 rfl rfl ?_
  refine z_aload_n (pc := 71) 1 dX8_go_71 rfl rfl ?_
  obtain ⟨z16, H⟩ := zifE H
  obtain ⟨q17, eq17, H⟩ := zbind H
  refine z_callV (pc := 72) (mc := 0) (ms := 0) (d' := 0) (mc' := 0) (ms' := 0) (rest := [.ref v0]) [.ref v1] dX8_go_72 md_X8_sees ml_X8_61 im_X8_sees se_X8_sees rfl z16 rfl rfl (Nat.le_of_ble_eq_true rfl) (by omega) (k_X8_sees eq17) ?_
  obtain ⟨z18, H⟩ := zifE H
  obtain ⟨h19, eh19, H⟩ := zbind H
  refine z_callV (pc := 75) (mc := 0) (ms := 0) (d' := 0) (mc' := 0) (ms' := 0) (rest := []) [.int q17] dX8_go_75 md_X8_notice ml_X8_65 im_X8_notice se_X8_notice rfl z18 rfl rfl (Nat.le_of_ble_eq_true rfl) (by omega) (k_X8_notice eh19) ?_
  cases H
  exact z_return rfl dX8_go_78

def f_X8_settle (N : Nat) (v0 : Nat) (v1 : Nat) (h : zH) : Option (zH) := (gI h v1 6 1).bind fun x1 => zif (zob h v0 8) <| (f_X8_go N v0 v1 x1 60 h).bind fun h3 => (gI h3 v0 8 6).bind fun x4 => (pF h3 v1 6 11 (.int x4)).bind fun h5 => (gI h5 v0 8 4).bind fun x6 => (pF h5 v1 6 12 (.int x6)).bind fun h7 => (gI h7 v0 8 5).bind fun x8 => (pF h7 v1 6 13 (.int x8)).bind fun h9 => (gI h9 v0 8 6).bind fun x10 => if x10 = (-1) then ((pF h9 v1 6 14 (.int (-1))).bind fun h15 => (pF h15 v1 6 15 (.int (-1))).bind fun h16 => some h16) else ((gI h9 v0 8 2).bind fun x12 => (pF h9 v1 6 14 (.int x12)).bind fun h13 => (pF h13 v1 6 15 (.int (-1))).bind fun h14 => some h14)
set_option maxRecDepth 100000 in
set_option maxHeartbeats 4000000 in
theorem k_X8_settle {N : Nat} {v0 : Nat} {v1 : Nat} {h : zH} {r : zH} (H : f_X8_settle N v0 v1 h = some r) : zOk 4 0 0 yX8_settle cX8_settle 2 none [.ref v0, .ref v1] h none r := by
  refine zOk.of (by decide) (Nat.le_of_ble_eq_true rfl) ?_
  unfold f_X8_settle at H
  refine z_aload_n (pc := 0) 0 dX8_settle_0 rfl rfl ?_
  refine z_aload_n (pc := 1) 1 dX8_settle_1 rfl rfl ?_
  refine z_aload_n (pc := 2) 1 dX8_settle_2 rfl rfl ?_
  obtain ⟨x1, ex1, H⟩ := zbind H
  refine z_getI (pc := 3) dX8_settle_3 fd_X8_9 ex1 ?_
  refine z_bipush (pc := 6) (x := 60) dX8_settle_6 zc_bipush_60 ?_
  obtain ⟨z2, H⟩ := zifE H
  obtain ⟨h3, eh3, H⟩ := zbind H
  refine z_callV (pc := 8) (mc := 0) (ms := 0) (d' := 3) (mc' := 0) (ms' := 0) (rest := []) [.ref v1, .int x1, .int 60] dX8_settle_8 md_X8_go ml_X8_17 im_X8_go se_X8_go rfl z2 rfl rfl (Nat.le_of_ble_eq_true rfl) (by omega) (k_X8_go eh3) ?_
  refine z_aload_n (pc := 11) 1 dX8_settle_11 rfl rfl ?_
  refine z_aload_n (pc := 12) 0 dX8_settle_12 rfl rfl ?_
  obtain ⟨x4, ex4, H⟩ := zbind H
  refine z_getI (pc := 13) dX8_settle_13 fd_X8_21 ex4 ?_
  obtain ⟨h5, eh5, H⟩ := zbind H
  refine z_put (pc := 16) dX8_settle_16 fd_X8_24 rfl rfl eh5 ?_
  refine z_aload_n (pc := 19) 1 dX8_settle_19 rfl rfl ?_
  refine z_aload_n (pc := 20) 0 dX8_settle_20 rfl rfl ?_
  obtain ⟨x6, ex6, H⟩ := zbind H
  refine z_getI (pc := 21) dX8_settle_21 fd_X8_25 ex6 ?_
  obtain ⟨h7, eh7, H⟩ := zbind H
  refine z_put (pc := 24) dX8_settle_24 fd_X8_28 rfl rfl eh7 ?_
  refine z_aload_n (pc := 27) 1 dX8_settle_27 rfl rfl ?_
  refine z_aload_n (pc := 28) 0 dX8_settle_28 rfl rfl ?_
  obtain ⟨x8, ex8, H⟩ := zbind H
  refine z_getI (pc := 29) dX8_settle_29 fd_X8_29 ex8 ?_
  obtain ⟨h9, eh9, H⟩ := zbind H
  refine z_put (pc := 32) dX8_settle_32 fd_X8_32 rfl rfl eh9 ?_
  refine z_aload_n (pc := 35) 1 dX8_settle_35 rfl rfl ?_
  refine z_aload_n (pc := 36) 0 dX8_settle_36 rfl rfl ?_
  obtain ⟨x10, ex10, H⟩ := zbind H
  refine z_getI (pc := 37) dX8_settle_37 fd_X8_21 ex10 ?_
  refine z_iconst (pc := 40) (x := (-1)) dX8_settle_40 zc_iconst_m1 ?_
  refine z_icmp_ne (pc := 41) 48 dX8_settle_41 (by decide) (fun c11 => ?_) (fun c11 => ?_)
  · rw [if_neg c11] at H
    refine z_aload_n (pc := 48) 0 dX8_settle_48 rfl rfl ?_
    obtain ⟨x12, ex12, H⟩ := zbind H
    refine z_getI (pc := 49) dX8_settle_49 fd_X8_33 ex12 ?_
    obtain ⟨h13, eh13, H⟩ := zbind H
    refine z_put (pc := 52) dX8_settle_52 fd_X8_36 rfl rfl eh13 ?_
    refine z_aload_n (pc := 55) 1 dX8_settle_55 rfl rfl ?_
    refine z_iconst (pc := 56) (x := (-1)) dX8_settle_56 zc_iconst_m1 ?_
    obtain ⟨h14, eh14, H⟩ := zbind H
    refine z_put (pc := 57) dX8_settle_57 fd_X8_39 rfl rfl eh14 ?_
    cases H
    exact z_return rfl dX8_settle_60
  · rw [if_pos c11] at H
    refine z_iconst (pc := 44) (x := (-1)) dX8_settle_44 zc_iconst_m1 ?_
    refine z_goto (pc := 45) 52 dX8_settle_45 (by decide) ?_
    obtain ⟨h15, eh15, H⟩ := zbind H
    refine z_put (pc := 52) dX8_settle_52 fd_X8_36 rfl rfl eh15 ?_
    refine z_aload_n (pc := 55) 1 dX8_settle_55 rfl rfl ?_
    refine z_iconst (pc := 56) (x := (-1)) dX8_settle_56 zc_iconst_m1 ?_
    obtain ⟨h16, eh16, H⟩ := zbind H
    refine z_put (pc := 57) dX8_settle_57 fd_X8_39 rfl rfl eh16 ?_
    cases H
    exact z_return rfl dX8_settle_60

def f_X8_findSafeSpeed_L5 (N : Nat) (v0 : Nat) (v1 : Nat) : Nat → Int32 → zH → Option ((zH) ⊕ (Int32 × zH))
  | 0, _, _ => none
  | n + 1, v2, h => if v2 ≤ 0 then (some (.inl h)) else (zif (zob h v0 8) <| (f_X8_go N v0 v1 v2 60 h).bind fun h4 => (gI h4 v0 8 6).bind fun x5 => if x5 = (-1) then (some (.inr (v2, h4))) else (f_X8_findSafeSpeed_L5 N v0 v1 n (v2 + (-1)) h4))
set_option maxRecDepth 100000 in
set_option maxHeartbeats 4000000 in
theorem s_X8_findSafeSpeed_L5 {d mc ms N : Nat} {vv : Option Value} {hh : zH} {v0 : Nat} {v1 : Nat} (hd0 : 4 ≤ d) : ∀ (n : Nat) (v2 : Int32) (h : zH) (m : (zH) ⊕ (Int32 × zH)), f_X8_findSafeSpeed_L5 N v0 v1 n v2 h = some m → (∀ s, m = .inl s → zW yX8_findSafeSpeed cX8_findSafeSpeed 3 (some .int) d mc ms 33 [] [] s vv hh) → (∀ r, m = .inr r → vv = (some (.int r.1)) ∧ hh = r.2) → zW yX8_findSafeSpeed cX8_findSafeSpeed 3 (some .int) d mc ms 5 [(0, .ref v0), (1, .ref v1), (2, .int v2)] [] h vv hh := by
  intro n
  induction n with
  | zero =>
    intro v2 h m H
    cases H
  | succ n ih =>
    intro v2 h m H KE KR
    unfold f_X8_findSafeSpeed_L5 at H
    refine z_iload_n (pc := 5) 2 dX8_findSafeSpeed_5 rfl rfl ?_
    refine z_if_le (pc := 6) 33 dX8_findSafeSpeed_6 (by decide) (fun c2 => ?_) (fun c2 => ?_)
    · rw [if_pos c2] at H
      cases H
      exact z_sub [] rfl (KE _ rfl)
    · rw [if_neg c2] at H
      refine z_aload_n (pc := 9) 0 dX8_findSafeSpeed_9 rfl rfl ?_
      refine z_aload_n (pc := 10) 1 dX8_findSafeSpeed_10 rfl rfl ?_
      refine z_iload_n (pc := 11) 2 dX8_findSafeSpeed_11 rfl rfl ?_
      refine z_bipush (pc := 12) (x := 60) dX8_findSafeSpeed_12 zc_bipush_60 ?_
      obtain ⟨z3, H⟩ := zifE H
      obtain ⟨h4, eh4, H⟩ := zbind H
      refine z_callV (pc := 14) (mc := mc) (ms := ms) (d' := 3) (mc' := 0) (ms' := 0) (rest := []) [.ref v1, .int v2, .int 60] dX8_findSafeSpeed_14 md_X8_go ml_X8_17 im_X8_go se_X8_go rfl z3 rfl rfl (Nat.le_of_ble_eq_true rfl) (by omega) (k_X8_go eh4) ?_
      refine z_aload_n (pc := 17) 0 dX8_findSafeSpeed_17 rfl rfl ?_
      obtain ⟨x5, ex5, H⟩ := zbind H
      refine z_getI (pc := 18) dX8_findSafeSpeed_18 fd_X8_21 ex5 ?_
      refine z_iconst (pc := 21) (x := (-1)) dX8_findSafeSpeed_21 zc_iconst_m1 ?_
      refine z_icmp_ne (pc := 22) 27 dX8_findSafeSpeed_22 (by decide) (fun c6 => ?_) (fun c6 => ?_)
      · rw [if_neg c6] at H
        refine z_iinc (pc := 27) (x' := v2 + (-1)) (lv' := [(2, .int (v2 + (-1))), (0, .ref v0), (1, .ref v1)]) 2 dX8_findSafeSpeed_27 rfl (by rfl) (by decide) rfl ?_
        refine z_goto (pc := 30) 5 dX8_findSafeSpeed_30 (by decide) ?_
        exact z_sub [1, 2, 0] rfl (ih (v2 + (-1)) h4 _ H KE KR)
      · rw [if_pos c6] at H
        refine z_iload_n (pc := 25) 2 dX8_findSafeSpeed_25 rfl rfl ?_
        cases H
        obtain ⟨e8, e9⟩ := KR _ rfl
        subst e8
        subst e9
        exact z_ireturn rfl dX8_findSafeSpeed_26
def f_X8_findSafeSpeed (N : Nat) (v0 : Nat) (v1 : Nat) (h : zH) : Option (Int32 × zH) := (gI h v1 6 1).bind fun x1 => (f_X8_findSafeSpeed_L5 N v0 v1 N x1 h).bind fun m7 => zsum m7 fun s8 => some (0, s8)
set_option maxRecDepth 100000 in
set_option maxHeartbeats 4000000 in
theorem k_X8_findSafeSpeed {N : Nat} {v0 : Nat} {v1 : Nat} {h : zH} {r : Int32 × zH} (H : f_X8_findSafeSpeed N v0 v1 h = some r) : zOk 4 0 0 yX8_findSafeSpeed cX8_findSafeSpeed 3 (some .int) [.ref v0, .ref v1] h (some (.int r.1)) r.2 := by
  refine zOk.of (by decide) (Nat.le_of_ble_eq_true rfl) ?_
  unfold f_X8_findSafeSpeed at H
  refine z_aload_n (pc := 0) 1 dX8_findSafeSpeed_0 rfl rfl ?_
  obtain ⟨x1, ex1, H⟩ := zbind H
  refine z_getI (pc := 1) dX8_findSafeSpeed_1 fd_X8_9 ex1 ?_
  refine z_istore_n (pc := 4) (lv' := [(2, .int x1), (0, .ref v0), (1, .ref v1)]) dX8_findSafeSpeed_4 rfl (by decide) rfl ?_
  obtain ⟨m7, em7, H⟩ := zbind H
  refine z_sub [1, 2, 0] rfl (s_X8_findSafeSpeed_L5 (by omega) N x1 h _ em7 ?_ ?_)
  · intro s8 e9
    subst e9
    have H := zsumL H
    refine z_iconst (pc := 33) (x := 0) dX8_findSafeSpeed_33 zc_iconst_0 ?_
    cases H
    exact z_ireturn rfl dX8_findSafeSpeed_34
  · intro r e9
    subst e9
    have H := zsumR H
    cases H
    exact ⟨rfl, rfl⟩

def f_X8_safeSpeed (N : Nat) (v0 : Nat) (v1 : Nat) (h : zH) : Option (Int32 × zH) := (gI h v1 6 15).bind fun x1 => if x1 = (-1) then (zif (zob h v0 8) <| (f_X8_findSafeSpeed N v0 v1 h).bind fun q5 => (pF q5.2 v1 6 15 (.int q5.1)).bind fun h6 => (gI h6 v1 6 15).bind fun x7 => some (x7, h6)) else ((gI h v1 6 15).bind fun x3 => some (x3, h))
set_option maxRecDepth 100000 in
set_option maxHeartbeats 4000000 in
theorem k_X8_safeSpeed {N : Nat} {v0 : Nat} {v1 : Nat} {h : zH} {r : Int32 × zH} (H : f_X8_safeSpeed N v0 v1 h = some r) : zOk 5 0 0 yX8_safeSpeed cX8_safeSpeed 2 (some .int) [.ref v0, .ref v1] h (some (.int r.1)) r.2 := by
  refine zOk.of (by decide) (Nat.le_of_ble_eq_true rfl) ?_
  unfold f_X8_safeSpeed at H
  refine z_aload_n (pc := 0) 1 dX8_safeSpeed_0 rfl rfl ?_
  obtain ⟨x1, ex1, H⟩ := zbind H
  refine z_getI (pc := 1) dX8_safeSpeed_1 fd_X8_39 ex1 ?_
  refine z_iconst (pc := 4) (x := (-1)) dX8_safeSpeed_4 zc_iconst_m1 ?_
  refine z_icmp_ne (pc := 5) 17 dX8_safeSpeed_5 (by decide) (fun c2 => ?_) (fun c2 => ?_)
  · rw [if_neg c2] at H
    refine z_aload_n (pc := 17) 1 dX8_safeSpeed_17 rfl rfl ?_
    obtain ⟨x3, ex3, H⟩ := zbind H
    refine z_getI (pc := 18) dX8_safeSpeed_18 fd_X8_39 ex3 ?_
    cases H
    exact z_ireturn rfl dX8_safeSpeed_21
  · rw [if_pos c2] at H
    refine z_aload_n (pc := 8) 1 dX8_safeSpeed_8 rfl rfl ?_
    refine z_aload_n (pc := 9) 0 dX8_safeSpeed_9 rfl rfl ?_
    refine z_aload_n (pc := 10) 1 dX8_safeSpeed_10 rfl rfl ?_
    obtain ⟨z4, H⟩ := zifE H
    obtain ⟨q5, eq5, H⟩ := zbind H
    refine z_callV (pc := 11) (mc := 0) (ms := 0) (d' := 4) (mc' := 0) (ms' := 0) (rest := [.ref v1]) [.ref v1] dX8_safeSpeed_11 md_X8_findSafeSpeed ml_X8_42 im_X8_findSafeSpeed se_X8_findSafeSpeed rfl z4 rfl rfl (Nat.le_of_ble_eq_true rfl) (by omega) (k_X8_findSafeSpeed eq5) ?_
    obtain ⟨h6, eh6, H⟩ := zbind H
    refine z_put (pc := 14) dX8_safeSpeed_14 fd_X8_39 rfl rfl eh6 ?_
    refine z_aload_n (pc := 17) 1 dX8_safeSpeed_17 rfl rfl ?_
    obtain ⟨x7, ex7, H⟩ := zbind H
    refine z_getI (pc := 18) dX8_safeSpeed_18 fd_X8_39 ex7 ?_
    cases H
    exact z_ireturn rfl dX8_safeSpeed_21

