theorem zc_iconst_1 : Int32.ofInt (1) = (1 : Int32) := by decide
theorem zc_iconst_2 : Int32.ofInt (2) = (2 : Int32) := by decide
theorem zc_iconst_4 : Int32.ofInt (4) = (4 : Int32) := by decide
theorem zc_bipush_8 : (Int8.ofInt (8)).toInt32 = (8 : Int32) := by decide
theorem zc_bipush_16 : (Int8.ofInt (16)).toInt32 = (16 : Int32) := by decide
theorem zc_bipush_63 : (Int8.ofInt (63)).toInt32 = (63 : Int32) := by decide
theorem ki_J6_265 : Cond.constant RJ6 265 1431655765 ∈ zB := zmem 1154 (by decide +kernel) rfl
theorem ki_J6_266 : Cond.constant RJ6 266 858993459 ∈ zB := zmem 1155 (by decide +kernel) rfl
theorem ki_J6_267 : Cond.constant RJ6 267 252645135 ∈ zB := zmem 1156 (by decide +kernel) rfl
def p_J6_bitCount_0f7a4 (v0 : Int32) : Int32 := zlet (v0 - (((v0.toUInt32 >>> ((1 : Int32).toUInt32 &&& Int32.toUInt32 31)).toInt32) &&& 1431655765) : Int32) fun x1 => zlet ((x1 &&& 858993459) + (((x1.toUInt32 >>> ((2 : Int32).toUInt32 &&& Int32.toUInt32 31)).toInt32) &&& 858993459) : Int32) fun x2 => zlet ((x2 + ((x2.toUInt32 >>> ((4 : Int32).toUInt32 &&& Int32.toUInt32 31)).toInt32)) &&& 252645135 : Int32) fun x3 => zlet (x3 + ((x3.toUInt32 >>> ((8 : Int32).toUInt32 &&& Int32.toUInt32 31)).toInt32) : Int32) fun x4 => zlet (x4 + ((x4.toUInt32 >>> ((16 : Int32).toUInt32 &&& Int32.toUInt32 31)).toInt32) : Int32) fun x5 => x5 &&& 63
set_option maxRecDepth 100000 in
set_option maxHeartbeats 4000000 in
theorem k_J6_bitCount_0f7a4 (v0 : Int32) (h : zH) (r : Int32) (H : p_J6_bitCount_0f7a4 v0 = r) : zOk 0 0 0 yJ6_bitCount_0f7a4 cJ6_bitCount_0f7a4 1 (some .int) [.int v0] h (some (.int r)) h := by
  refine zOk.of (by decide) (Nat.le_of_ble_eq_true rfl) ?_
  unfold p_J6_bitCount_0f7a4 at H
  refine z_iload_n (pc := 0) 0 dJ6_bitCount_0f7a4_0 rfl rfl ?_
  refine z_iload_n (pc := 1) 0 dJ6_bitCount_0f7a4_1 rfl rfl ?_
  refine z_iconst (pc := 2) (x := 1) dJ6_bitCount_0f7a4_2 zc_iconst_1 ?_
  refine z_iushr (pc := 3) dJ6_bitCount_0f7a4_3 ?_
  refine z_ldcw (pc := 4) (x := 1431655765) dJ6_bitCount_0f7a4_4 ki_J6_265 ?_
  refine z_iand (pc := 7) dJ6_bitCount_0f7a4_7 ?_
  refine z_isub (pc := 8) dJ6_bitCount_0f7a4_8 ?_
  obtain ⟨x1, ex1, H⟩ := zletE H
  refine z_nmI ex1 ?_
  refine z_istore_n (pc := 9) (lv' := [(0, .int x1)]) dJ6_bitCount_0f7a4_9 rfl (by decide) rfl ?_
  refine z_iload_n (pc := 10) 0 dJ6_bitCount_0f7a4_10 rfl rfl ?_
  refine z_ldcw (pc := 11) (x := 858993459) dJ6_bitCount_0f7a4_11 ki_J6_266 ?_
  refine z_iand (pc := 14) dJ6_bitCount_0f7a4_14 ?_
  refine z_iload_n (pc := 15) 0 dJ6_bitCount_0f7a4_15 rfl rfl ?_
  refine z_iconst (pc := 16) (x := 2) dJ6_bitCount_0f7a4_16 zc_iconst_2 ?_
  refine z_iushr (pc := 17) dJ6_bitCount_0f7a4_17 ?_
  refine z_ldcw (pc := 18) (x := 858993459) dJ6_bitCount_0f7a4_18 ki_J6_266 ?_
  refine z_iand (pc := 21) dJ6_bitCount_0f7a4_21 ?_
  refine z_iadd (pc := 22) dJ6_bitCount_0f7a4_22 ?_
  obtain ⟨x2, ex2, H⟩ := zletE H
  refine z_nmI ex2 ?_
  refine z_istore_n (pc := 23) (lv' := [(0, .int x2)]) dJ6_bitCount_0f7a4_23 rfl (by decide) rfl ?_
  refine z_iload_n (pc := 24) 0 dJ6_bitCount_0f7a4_24 rfl rfl ?_
  refine z_iload_n (pc := 25) 0 dJ6_bitCount_0f7a4_25 rfl rfl ?_
  refine z_iconst (pc := 26) (x := 4) dJ6_bitCount_0f7a4_26 zc_iconst_4 ?_
  refine z_iushr (pc := 27) dJ6_bitCount_0f7a4_27 ?_
  refine z_iadd (pc := 28) dJ6_bitCount_0f7a4_28 ?_
  refine z_ldcw (pc := 29) (x := 252645135) dJ6_bitCount_0f7a4_29 ki_J6_267 ?_
  refine z_iand (pc := 32) dJ6_bitCount_0f7a4_32 ?_
  obtain ⟨x3, ex3, H⟩ := zletE H
  refine z_nmI ex3 ?_
  refine z_istore_n (pc := 33) (lv' := [(0, .int x3)]) dJ6_bitCount_0f7a4_33 rfl (by decide) rfl ?_
  refine z_iload_n (pc := 34) 0 dJ6_bitCount_0f7a4_34 rfl rfl ?_
  refine z_iload_n (pc := 35) 0 dJ6_bitCount_0f7a4_35 rfl rfl ?_
  refine z_bipush (pc := 36) (x := 8) dJ6_bitCount_0f7a4_36 zc_bipush_8 ?_
  refine z_iushr (pc := 38) dJ6_bitCount_0f7a4_38 ?_
  refine z_iadd (pc := 39) dJ6_bitCount_0f7a4_39 ?_
  obtain ⟨x4, ex4, H⟩ := zletE H
  refine z_nmI ex4 ?_
  refine z_istore_n (pc := 40) (lv' := [(0, .int x4)]) dJ6_bitCount_0f7a4_40 rfl (by decide) rfl ?_
  refine z_iload_n (pc := 41) 0 dJ6_bitCount_0f7a4_41 rfl rfl ?_
  refine z_iload_n (pc := 42) 0 dJ6_bitCount_0f7a4_42 rfl rfl ?_
  refine z_bipush (pc := 43) (x := 16) dJ6_bitCount_0f7a4_43 zc_bipush_16 ?_
  refine z_iushr (pc := 45) dJ6_bitCount_0f7a4_45 ?_
  refine z_iadd (pc := 46) dJ6_bitCount_0f7a4_46 ?_
  obtain ⟨x5, ex5, H⟩ := zletE H
  refine z_nmI ex5 ?_
  refine z_istore_n (pc := 47) (lv' := [(0, .int x5)]) dJ6_bitCount_0f7a4_47 rfl (by decide) rfl ?_
  refine z_iload_n (pc := 48) 0 dJ6_bitCount_0f7a4_48 rfl rfl ?_
  refine z_bipush (pc := 49) (x := 63) dJ6_bitCount_0f7a4_49 zc_bipush_63 ?_
  refine z_iand (pc := 51) dJ6_bitCount_0f7a4_51 ?_
  subst H
  exact z_ireturn rfl dJ6_bitCount_0f7a4_52

theorem fs_J0_38 : Cond.fieldLink RJ0 38 "java/lang/String" "COMPACT_STRINGS" "Z" ∈ zB := zmem 193 (by decide +kernel) rfl
theorem fs_J0_15 : Cond.fieldLink RJ0 15 "java/lang/String" "coder" "B" ∈ zB := zmem 1983 (by decide +kernel) rfl
def f_J0_coder_7d493 (N : Nat) (v0 : Nat) (h : zH) : Option (Int32) := if (1 : Int32) = 0 then (rB0 1) else ((gSc h v0).bind fun x2 => rB0 x2)
set_option maxRecDepth 100000 in
set_option maxHeartbeats 4000000 in
theorem k_J0_coder_7d493 {N : Nat} {v0 : Nat} {h : zH} {r : Int32} (H : f_J0_coder_7d493 N v0 h = some r) : zOk 0 0 0 yJ0_coder_7d493 cJ0_coder_7d493 1 (some .byte) [.ref v0] h (some (.int r)) h := by
  refine zOk.of (by decide) (Nat.le_of_ble_eq_true rfl) ?_
  unfold f_J0_coder_7d493 at H
  refine z_compact (pc := 0) dJ0_coder_7d493_0 fs_J0_38 ?_
  refine z_if_eq (pc := 3) 13 dJ0_coder_7d493_3 (by decide) (fun c1 => ?_) (fun c1 => ?_)
  · rw [if_pos c1] at H
    refine z_iconst (pc := 13) (x := 1) dJ0_coder_7d493_13 zc_iconst_1 ?_
    obtain ⟨z9, H⟩ := rB0E H
    cases H
    exact z_nreturn rfl dJ0_coder_7d493_14 z9
  · rw [if_neg c1] at H
    refine z_aload_n (pc := 6) 0 dJ0_coder_7d493_6 rfl rfl ?_
    obtain ⟨x2, ex2, H⟩ := zbind H
    refine z_getSc (pc := 7) dJ0_coder_7d493_7 fs_J0_15 ex2 ?_
    refine z_goto (pc := 10) 14 dJ0_coder_7d493_10 (by decide) ?_
    obtain ⟨z9, H⟩ := rB0E H
    cases H
    exact z_nreturn rfl dJ0_coder_7d493_14 z9

theorem fs_J0_9 : Cond.fieldLink RJ0 9 "java/lang/String" "value" "[B" ∈ zB := zmem 1982 (by decide +kernel) rfl
theorem md_J0_coder_7d493 : zMd yJ0_coder_7d493 cJ0_coder_7d493 1 0 (some .byte) := ⟨zmw (zmt_1 _ (List.mem_of_getElem? (i := 81) rfl)) rfl, zmem 115 (by decide +kernel) rfl, by decide, by decide, by decide +kernel, by decide⟩
theorem ml_J0_335 : Cond.methodLink RJ0 335 yJ0_coder_7d493 ∈ zB := zmem 189 (by decide +kernel) rfl
theorem im_J0_coder_7d493 : Cond.instanceMethod yJ0_coder_7d493 ∈ zB := zmem 190 (by decide +kernel) rfl
theorem se_J0_coder_7d493 : Cond.selects "java/lang/String" yJ0_coder_7d493 yJ0_coder_7d493 ∈ zB := zmem 191 (by decide +kernel) rfl
def f_J0_length_8abf5 (N : Nat) (v0 : Nat) (h : zH) : Option (Int32) := (gSv h v0).bind fun r1 => (aN h r1).bind fun x2 => (gSv h v0).bind fun r3 => (f_J0_coder_7d493 N v0 h).bind fun q4 => some (x2 >>> (q4 &&& 31))
set_option maxRecDepth 100000 in
set_option maxHeartbeats 4000000 in
theorem k_J0_length_8abf5 {N : Nat} {v0 : Nat} {h : zH} {r : Int32} (H : f_J0_length_8abf5 N v0 h = some r) : zOk 1 0 0 yJ0_length_8abf5 cJ0_length_8abf5 1 (some .int) [.ref v0] h (some (.int r)) h := by
  refine zOk.of (by decide) (Nat.le_of_ble_eq_true rfl) ?_
  unfold f_J0_length_8abf5 at H
  refine z_aload_n (pc := 0) 0 dJ0_length_8abf5_0 rfl rfl ?_
  obtain ⟨r1, er1, H⟩ := zbind H
  refine z_getSv (pc := 1) dJ0_length_8abf5_1 fs_J0_9 er1 ?_
  obtain ⟨x2, ex2, H⟩ := zbind H
  refine z_alen (pc := 4) dJ0_length_8abf5_4 ex2 ?_
  refine z_aload_n (pc := 5) 0 dJ0_length_8abf5_5 rfl rfl ?_
  obtain ⟨r3, er3, H⟩ := zbind H
  obtain ⟨q4, eq4, H⟩ := zbind H
  refine z_callT (pc := 6) (mc := 0) (ms := 0) (d' := 0) (mc' := 0) (ms' := 0) (rest := [.int x2]) [] dJ0_length_8abf5_6 md_J0_coder_7d493 ml_J0_335 im_J0_coder_7d493 se_J0_coder_7d493 er3 rfl rfl (Nat.le_of_ble_eq_true rfl) (by omega) (k_J0_coder_7d493 eq4) ?_
  refine z_ishr (pc := 9) dJ0_length_8abf5_9 ?_
  cases H
  exact z_ireturn rfl dJ0_length_8abf5_10

theorem zc_iconst_0 : Int32.ofInt (0) = (0 : Int32) := by decide
def f_J0_isLatin1_aae02 (N : Nat) (v0 : Nat) (h : zH) : Option (Int32) := if (1 : Int32) = 0 then (some 0) else ((gSc h v0).bind fun x2 => if x2 = 0 then (some 1) else (some 0))
set_option maxRecDepth 100000 in
set_option maxHeartbeats 4000000 in
theorem k_J0_isLatin1_aae02 {N : Nat} {v0 : Nat} {h : zH} {r : Int32} (H : f_J0_isLatin1_aae02 N v0 h = some r) : zOk 0 0 0 yJ0_isLatin1_aae02 cJ0_isLatin1_aae02 1 (some .boolean) [.ref v0] h (some (.int r)) h := by
  refine zOk.of (by decide) (Nat.le_of_ble_eq_true rfl) ?_
  unfold f_J0_isLatin1_aae02 at H
  refine z_compact (pc := 0) dJ0_isLatin1_aae02_0 fs_J0_38 ?_
  refine z_if_eq (pc := 3) 17 dJ0_isLatin1_aae02_3 (by decide) (fun c1 => ?_) (fun c1 => ?_)
  · rw [if_pos c1] at H
    refine z_iconst (pc := 17) (x := 0) dJ0_isLatin1_aae02_17 zc_iconst_0 ?_
    cases H
    exact z_zreturn rfl dJ0_isLatin1_aae02_18 (by decide)
  · rw [if_neg c1] at H
    refine z_aload_n (pc := 6) 0 dJ0_isLatin1_aae02_6 rfl rfl ?_
    obtain ⟨x2, ex2, H⟩ := zbind H
    refine z_getSc (pc := 7) dJ0_isLatin1_aae02_7 fs_J0_15 ex2 ?_
    refine z_if_ne (pc := 10) 17 dJ0_isLatin1_aae02_10 (by decide) (fun c3 => ?_) (fun c3 => ?_)
    · rw [if_neg c3] at H
      refine z_iconst (pc := 17) (x := 0) dJ0_isLatin1_aae02_17 zc_iconst_0 ?_
      cases H
      exact z_zreturn rfl dJ0_isLatin1_aae02_18 (by decide)
    · rw [if_pos c3] at H
      refine z_iconst (pc := 13) (x := 1) dJ0_isLatin1_aae02_13 zc_iconst_1 ?_
      refine z_goto (pc := 14) 18 dJ0_isLatin1_aae02_14 (by decide) ?_
      cases H
      exact z_zreturn rfl dJ0_isLatin1_aae02_18 (by decide)

def f_J3_checkIndex_8e157 (N : Nat) (v0 : Int32) (v1 : Int32) (v2 : Option Nat) (h : zH) : Option (Int32) := (if v0 < 0 then (some (.inl ())) else (if v0 < v1 then ((some v0).map .inr) else (some (.inl ()))) : Option ((Unit) ⊕ (Int32))).bind fun m1 => zsum m1 fun s2 => v2.bind fun a6 => none
set_option maxRecDepth 100000 in
set_option maxHeartbeats 4000000 in
theorem k_J3_checkIndex_8e157 {N : Nat} {v0 : Int32} {v1 : Int32} {v2 : Option Nat} {h : zH} {r : Int32} (H : f_J3_checkIndex_8e157 N v0 v1 v2 h = some r) : zOk 0 0 0 yJ3_checkIndex_8e157 cJ3_checkIndex_8e157 3 (some .int) [.int v0, .int v1, va_rf v2] h (some (.int r)) h := by
  refine zOk.of (by decide) (by cases v2 <;> exact Nat.le_of_ble_eq_true rfl) ?_
  unfold f_J3_checkIndex_8e157 at H
  refine z_iload_n (pc := 0) 0 dJ3_checkIndex_8e157_0 rfl rfl ?_
  obtain ⟨m1, em1, H⟩ := zbind H
  have Jm1 : ∀ s2, m1 = .inl s2 → zW yJ3_checkIndex_8e157 cJ3_checkIndex_8e157 3 (some .int) 0 0 0 9 [(0, .int v0), (1, .int v1), (2, va_rf v2)] [] h (some (.int r)) h := by
    intro s2 e9
    subst e9
    have H := zsumL H
    refine z_aload_nQ (pc := 9) 2 dJ3_checkIndex_8e157_9 rfl rfl ?_
    obtain ⟨a6, ea6, H⟩ := zbind H
    refine z_nmQ ea6 ?_
    refine z_iload_n (pc := 10) 0 dJ3_checkIndex_8e157_10 rfl rfl ?_
    refine z_iload_n (pc := 11) 1 dJ3_checkIndex_8e157_11 rfl rfl ?_
    cases H
  refine z_if_lt (pc := 1) 9 dJ3_checkIndex_8e157_1 (by decide) (fun c3 => ?_) (fun c3 => ?_)
  · rw [if_pos c3] at em1
    cases em1
    exact z_sub [0, 1, 2] rfl (Jm1 _ rfl)
  · rw [if_neg c3] at em1
    refine z_iload_n (pc := 4) 0 dJ3_checkIndex_8e157_4 rfl rfl ?_
    refine z_iload_n (pc := 5) 1 dJ3_checkIndex_8e157_5 rfl rfl ?_
    refine z_icmp_lt (pc := 6) 16 dJ3_checkIndex_8e157_6 (by decide) (fun c4 => ?_) (fun c4 => ?_)
    · rw [if_pos c4] at em1
      refine z_iload_n (pc := 16) 0 dJ3_checkIndex_8e157_16 rfl rfl ?_
      obtain ⟨o5, H9, e9⟩ := zmapR em1
      subst e9
      have H9 := H9.trans (zsumR H)
      cases H9
      exact z_ireturn rfl dJ3_checkIndex_8e157_17
    · rw [if_neg c4] at em1
      cases em1
      exact z_sub [0, 1, 2] rfl (Jm1 _ rfl)

theorem fs_J0_1053 : Cond.fieldLink RJ0 1053 "jdk/internal/util/Preconditions" "SIOOBE_FORMATTER" "Ljava/util/function/BiFunction;" ∈ zB := zmem 209 (by decide +kernel) rfl
theorem md_J3_checkIndex_8e157 : zMd yJ3_checkIndex_8e157 cJ3_checkIndex_8e157 3 3 (some .int) := ⟨zmw (zmt_1 _ (List.mem_of_getElem? (i := 102) rfl)) rfl, zmem 117 (by decide +kernel) rfl, by decide, by decide, by decide +kernel, by decide⟩
theorem ml_J0_1059 : Cond.methodLink RJ0 1059 yJ3_checkIndex_8e157 ∈ zB := zmem 211 (by decide +kernel) rfl
theorem sm_J3_checkIndex_8e157 : Cond.static yJ3_checkIndex_8e157 ∈ zB := zmem 212 (by decide +kernel) rfl
def f_J0_checkIndex_df160 (N : Nat) (v0 : Int32) (v1 : Int32) (h : zH) : Option (Unit) := (f_J3_checkIndex_8e157 N v0 v1 none h).bind fun q2 => some ()
set_option maxRecDepth 100000 in
set_option maxHeartbeats 4000000 in
theorem k_J0_checkIndex_df160 {N : Nat} {v0 : Int32} {v1 : Int32} {h : zH} {r : Unit} (H : f_J0_checkIndex_df160 N v0 v1 h = some r) : zOk 1 0 0 yJ0_checkIndex_df160 cJ0_checkIndex_df160 2 none [.int v0, .int v1] h none h := by
  refine zOk.of (by decide) (Nat.le_of_ble_eq_true rfl) ?_
  unfold f_J0_checkIndex_df160 at H
  refine z_iload_n (pc := 0) 0 dJ0_checkIndex_df160_0 rfl rfl ?_
  refine z_iload_n (pc := 1) 1 dJ0_checkIndex_df160_1 rfl rfl ?_
  refine z_fmt (pc := 2) dJ0_checkIndex_df160_2 fs_J0_1053 (fun y1 => ?_)
  obtain ⟨q2, eq2, H⟩ := zbind H
  refine z_callS (pc := 5) (mc := 0) (ms := 0) (d' := 0) (mc' := 0) (ms' := 0) (rest := []) [.int v0, .int v1, va_rf y1] dJ0_checkIndex_df160_5 md_J3_checkIndex_8e157 ml_J0_1059 sm_J3_checkIndex_8e157 rfl rfl (Nat.le_of_ble_eq_true rfl) (by omega) (k_J3_checkIndex_8e157 (N := N) (r := q2) (show f_J3_checkIndex_8e157 N v0 v1 y1 h = some q2 by unfold f_J3_checkIndex_8e157 at eq2 ⊢; cases y1 <;> exact eq2)) ?_
  refine z_pop (pc := 8) dJ0_checkIndex_df160_8 rfl ?_
  cases H
  exact z_return rfl dJ0_checkIndex_df160_9

theorem zc_sipush_255 : (Int16.ofInt (255)).toInt32 = (255 : Int32) := by decide
theorem md_J0_checkIndex_df160 : zMd yJ0_checkIndex_df160 cJ0_checkIndex_df160 2 2 none := ⟨zmw (zmt_1 _ (List.mem_of_getElem? (i := 97) rfl)) rfl, zmem 115 (by decide +kernel) rfl, by decide, by decide, by decide +kernel, by decide⟩
theorem ml_J1_9 : Cond.methodLink RJ1 9 yJ0_checkIndex_df160 ∈ zB := zmem 206 (by decide +kernel) rfl
theorem sm_J0_checkIndex_df160 : Cond.static yJ0_checkIndex_df160 ∈ zB := zmem 207 (by decide +kernel) rfl
def f_J1_charAt_3b067 (N : Nat) (v0 : Nat) (v1 : Int32) (h : zH) : Option (Int32) := (aN h v0).bind fun x1 => (f_J0_checkIndex_df160 N v1 x1 h).bind fun u2 => (aB h v0 v1).bind fun x3 => rC0 (((x3 &&& 255).toUInt32 % 65536).toInt32)
set_option maxRecDepth 100000 in
set_option maxHeartbeats 4000000 in
theorem k_J1_charAt_3b067 {N : Nat} {v0 : Nat} {v1 : Int32} {h : zH} {r : Int32} (H : f_J1_charAt_3b067 N v0 v1 h = some r) : zOk 2 0 0 yJ1_charAt_3b067 cJ1_charAt_3b067 2 (some .char) [.ref v0, .int v1] h (some (.int r)) h := by
  refine zOk.of (by decide) (Nat.le_of_ble_eq_true rfl) ?_
  unfold f_J1_charAt_3b067 at H
  refine z_iload_n (pc := 0) 1 dJ1_charAt_3b067_0 rfl rfl ?_
  refine z_aload_n (pc := 1) 0 dJ1_charAt_3b067_1 rfl rfl ?_
  obtain ⟨x1, ex1, H⟩ := zbind H
  refine z_alen (pc := 2) dJ1_charAt_3b067_2 ex1 ?_
  obtain ⟨u2, eu2, H⟩ := zbind H
  refine z_callS (pc := 3) (mc := 0) (ms := 0) (d' := 1) (mc' := 0) (ms' := 0) (rest := []) [.int v1, .int x1] dJ1_charAt_3b067_3 md_J0_checkIndex_df160 ml_J1_9 sm_J0_checkIndex_df160 rfl rfl (Nat.le_of_ble_eq_true rfl) (by omega) (k_J0_checkIndex_df160 eu2) ?_
  refine z_aload_n (pc := 6) 0 dJ1_charAt_3b067_6 rfl rfl ?_
  refine z_iload_n (pc := 7) 1 dJ1_charAt_3b067_7 rfl rfl ?_
  obtain ⟨x3, ex3, H⟩ := zbind H
  refine z_baload (pc := 8) dJ1_charAt_3b067_8 ex3 ?_
  refine z_sipush (pc := 9) (x := 255) dJ1_charAt_3b067_9 zc_sipush_255 ?_
  refine z_iand (pc := 12) dJ1_charAt_3b067_12 ?_
  refine z_i2c (pc := 13) dJ1_charAt_3b067_13 ?_
  obtain ⟨z9, H⟩ := rC0E H
  cases H
  exact z_nreturn rfl dJ1_charAt_3b067_14 z9

theorem md_J0_isLatin1_aae02 : zMd yJ0_isLatin1_aae02 cJ0_isLatin1_aae02 1 0 (some .boolean) := ⟨zmw (zmt_1 _ (List.mem_of_getElem? (i := 91) rfl)) rfl, zmem 115 (by decide +kernel) rfl, by decide, by decide, by decide +kernel, by decide⟩
theorem ml_J0_492 : Cond.methodLink RJ0 492 yJ0_isLatin1_aae02 ∈ zB := zmem 199 (by decide +kernel) rfl
theorem im_J0_isLatin1_aae02 : Cond.instanceMethod yJ0_isLatin1_aae02 ∈ zB := zmem 200 (by decide +kernel) rfl
theorem se_J0_isLatin1_aae02 : Cond.selects "java/lang/String" yJ0_isLatin1_aae02 yJ0_isLatin1_aae02 ∈ zB := zmem 201 (by decide +kernel) rfl
theorem md_J1_charAt_3b067 : zMd yJ1_charAt_3b067 cJ1_charAt_3b067 2 2 (some .char) := ⟨zmw (zmt_1 _ (List.mem_of_getElem? (i := 94) rfl)) rfl, zmem 116 (by decide +kernel) rfl, by decide, by decide, by decide +kernel, by decide⟩
theorem ml_J0_495 : Cond.methodLink RJ0 495 yJ1_charAt_3b067 ∈ zB := zmem 203 (by decide +kernel) rfl
theorem sm_J1_charAt_3b067 : Cond.static yJ1_charAt_3b067 ∈ zB := zmem 204 (by decide +kernel) rfl
def f_J0_charAt_5068e (N : Nat) (v0 : Nat) (v1 : Int32) (h : zH) : Option (Int32) := (gSv h v0).bind fun r1 => (f_J0_isLatin1_aae02 N v0 h).bind fun q2 => if q2 = 0 then ((gSv h v0).bind fun r4 => none) else ((gSv h v0).bind fun r5 => (f_J1_charAt_3b067 N r5 v1 h).bind fun q6 => rC0 q6)
set_option maxRecDepth 100000 in
set_option maxHeartbeats 4000000 in
theorem k_J0_charAt_5068e {N : Nat} {v0 : Nat} {v1 : Int32} {h : zH} {r : Int32} (H : f_J0_charAt_5068e N v0 v1 h = some r) : zOk 3 0 0 yJ0_charAt_5068e cJ0_charAt_5068e 2 (some .char) [.ref v0, .int v1] h (some (.int r)) h := by
  refine zOk.of (by decide) (Nat.le_of_ble_eq_true rfl) ?_
  unfold f_J0_charAt_5068e at H
  refine z_aload_n (pc := 0) 0 dJ0_charAt_5068e_0 rfl rfl ?_
  obtain ⟨r1, er1, H⟩ := zbind H
  obtain ⟨q2, eq2, H⟩ := zbind H
  refine z_callT (pc := 1) (mc := 0) (ms := 0) (d' := 0) (mc' := 0) (ms' := 0) (rest := []) [] dJ0_charAt_5068e_1 md_J0_isLatin1_aae02 ml_J0_492 im_J0_isLatin1_aae02 se_J0_isLatin1_aae02 er1 rfl rfl (Nat.le_of_ble_eq_true rfl) (by omega) (k_J0_isLatin1_aae02 eq2) ?_
  refine z_if_eq (pc := 4) 16 dJ0_charAt_5068e_4 (by decide) (fun c3 => ?_) (fun c3 => ?_)
  · rw [if_pos c3] at H
    refine z_aload_n (pc := 16) 0 dJ0_charAt_5068e_16 rfl rfl ?_
    obtain ⟨r4, er4, H⟩ := zbind H
    refine z_getSv (pc := 17) dJ0_charAt_5068e_17 fs_J0_9 er4 ?_
    refine z_iload_n (pc := 20) 1 dJ0_charAt_5068e_20 rfl rfl ?_
    cases H
  · rw [if_neg c3] at H
    refine z_aload_n (pc := 7) 0 dJ0_charAt_5068e_7 rfl rfl ?_
    obtain ⟨r5, er5, H⟩ := zbind H
    refine z_getSv (pc := 8) dJ0_charAt_5068e_8 fs_J0_9 er5 ?_
    refine z_iload_n (pc := 11) 1 dJ0_charAt_5068e_11 rfl rfl ?_
    obtain ⟨q6, eq6, H⟩ := zbind H
    refine z_callS (pc := 12) (mc := 0) (ms := 0) (d' := 2) (mc' := 0) (ms' := 0) (rest := []) [.ref r5, .int v1] dJ0_charAt_5068e_12 md_J1_charAt_3b067 ml_J0_495 sm_J1_charAt_3b067 rfl rfl (Nat.le_of_ble_eq_true rfl) (by omega) (k_J1_charAt_3b067 eq6) ?_
    obtain ⟨z9, H⟩ := rC0E H
    cases H
    exact z_nreturn rfl dJ0_charAt_5068e_15 z9

def p_J1_canEncode_9a6ad (v0 : Int32) : Int32 := if v0 < 0 then (0) else (if 255 < v0 then (0) else (1))
set_option maxRecDepth 100000 in
set_option maxHeartbeats 4000000 in
theorem k_J1_canEncode_9a6ad (v0 : Int32) (h : zH) (r : Int32) (H : p_J1_canEncode_9a6ad v0 = r) : zOk 0 0 0 yJ1_canEncode_9a6ad cJ1_canEncode_9a6ad 1 (some .boolean) [.int v0] h (some (.int r)) h := by
  refine zOk.of (by decide) (Nat.le_of_ble_eq_true rfl) ?_
  unfold p_J1_canEncode_9a6ad at H
  refine z_iload_n (pc := 0) 0 dJ1_canEncode_9a6ad_0 rfl rfl ?_
  refine z_if_lt (pc := 1) 15 dJ1_canEncode_9a6ad_1 (by decide) (fun c1 => ?_) (fun c1 => ?_)
  · rw [if_pos c1] at H
    refine z_iconst (pc := 15) (x := 0) dJ1_canEncode_9a6ad_15 zc_iconst_0 ?_
    subst H
    exact z_zreturn rfl dJ1_canEncode_9a6ad_16 (by decide)
  · rw [if_neg c1] at H
    refine z_iload_n (pc := 4) 0 dJ1_canEncode_9a6ad_4 rfl rfl ?_
    refine z_sipush (pc := 5) (x := 255) dJ1_canEncode_9a6ad_5 zc_sipush_255 ?_
    refine z_icmp_gt (pc := 8) 15 dJ1_canEncode_9a6ad_8 (by decide) (fun c2 => ?_) (fun c2 => ?_)
    · rw [if_pos c2] at H
      refine z_iconst (pc := 15) (x := 0) dJ1_canEncode_9a6ad_15 zc_iconst_0 ?_
      subst H
      exact z_zreturn rfl dJ1_canEncode_9a6ad_16 (by decide)
    · rw [if_neg c2] at H
      refine z_iconst (pc := 11) (x := 1) dJ1_canEncode_9a6ad_11 zc_iconst_1 ?_
      refine z_goto (pc := 12) 16 dJ1_canEncode_9a6ad_12 (by decide) ?_
      subst H
      exact z_zreturn rfl dJ1_canEncode_9a6ad_16 (by decide)

theorem zc_iconst_m1 : Int32.ofInt (-1) = (-1 : Int32) := by decide
def f_J1_indexOfChar_4cfef_L7 (N : Nat) (v0 : Nat) (v3 : Int32) (v4 : Int32) (h : zH) : Nat → Int32 → Option ((Unit) ⊕ (Int32))
  | 0, _ => none
  | n + 1, v5 => if v3 ≤ v5 then (some (.inl ())) else ((aB h v0 v5).bind fun x3 => if x3 = v4 then (some (.inr v5)) else (f_J1_indexOfChar_4cfef_L7 N v0 v3 v4 h n (v5 + 1)))
set_option maxRecDepth 100000 in
set_option maxHeartbeats 4000000 in
theorem s_J1_indexOfChar_4cfef_L7 {d mc ms N : Nat} {vv : Option Value} {hh : zH} {v0 : Nat} {v3 : Int32} {v4 : Int32} {h : zH} (hd0 : 0 ≤ d) : ∀ (n : Nat) (v5 : Int32) (m : (Unit) ⊕ (Int32)), f_J1_indexOfChar_4cfef_L7 N v0 v3 v4 h n v5 = some m → (∀ s, m = .inl s → zW yJ1_indexOfChar_4cfef cJ1_indexOfChar_4cfef 6 (some .int) d mc ms 31 [] [] h vv hh) → (∀ r, m = .inr r → vv = (some (.int r)) ∧ hh = h) → zW yJ1_indexOfChar_4cfef cJ1_indexOfChar_4cfef 6 (some .int) d mc ms 7 [(0, .ref v0), (3, .int v3), (4, .int v4), (5, .int v5)] [] h vv hh := by
  intro n
  induction n with
  | zero =>
    intro v5 m H
    cases H
  | succ n ih =>
    intro v5 m H KE KR
    unfold f_J1_indexOfChar_4cfef_L7 at H
    refine z_iload (pc := 7) 3 dJ1_indexOfChar_4cfef_7 rfl ?_
    refine z_iload_n (pc := 9) 1 dJ1_indexOfChar_4cfef_9 rfl rfl ?_
    refine z_icmp_ge (pc := 10) 31 dJ1_indexOfChar_4cfef_10 (by decide) (fun c2 => ?_) (fun c2 => ?_)
    · rw [if_pos c2] at H
      cases H
      exact z_sub [] rfl (KE _ rfl)
    · rw [if_neg c2] at H
      refine z_aload_n (pc := 13) 0 dJ1_indexOfChar_4cfef_13 rfl rfl ?_
      refine z_iload (pc := 14) 3 dJ1_indexOfChar_4cfef_14 rfl ?_
      obtain ⟨x3, ex3, H⟩ := zbind H
      refine z_baload (pc := 16) dJ1_indexOfChar_4cfef_16 ex3 ?_
      refine z_iload (pc := 17) 2 dJ1_indexOfChar_4cfef_17 rfl ?_
      refine z_icmp_ne (pc := 19) 25 dJ1_indexOfChar_4cfef_19 (by decide) (fun c4 => ?_) (fun c4 => ?_)
      · rw [if_neg c4] at H
        refine z_iinc (pc := 25) (x' := v5 + 1) (lv' := [(5, .int (v5 + 1)), (0, .ref v0), (3, .int v3), (4, .int v4)]) 3 dJ1_indexOfChar_4cfef_25 rfl (by rfl) (by decide) rfl ?_
        refine z_goto (pc := 28) 7 dJ1_indexOfChar_4cfef_28 (by decide) ?_
        exact z_sub [1, 2, 3, 0] rfl (ih (v5 + 1) _ H KE KR)
      · rw [if_pos c4] at H
        refine z_iload (pc := 22) 3 dJ1_indexOfChar_4cfef_22 rfl ?_
        cases H
        obtain ⟨e8, e9⟩ := KR _ rfl
        subst e8
        subst e9
        exact z_ireturn rfl dJ1_indexOfChar_4cfef_24
def f_J1_indexOfChar_4cfef (N : Nat) (v0 : Nat) (v1 : Int32) (v2 : Int32) (v3 : Int32) (h : zH) : Option (Int32) := zlet (v1.toInt8.toInt32 : Int32) fun x1 => (f_J1_indexOfChar_4cfef_L7 N v0 v3 x1 h N v2).bind fun m5 => zsum m5 fun s6 => some (-1)
set_option maxRecDepth 100000 in
set_option maxHeartbeats 4000000 in
theorem k_J1_indexOfChar_4cfef {N : Nat} {v0 : Nat} {v1 : Int32} {v2 : Int32} {v3 : Int32} {h : zH} {r : Int32} (H : f_J1_indexOfChar_4cfef N v0 v1 v2 v3 h = some r) : zOk 0 0 0 yJ1_indexOfChar_4cfef cJ1_indexOfChar_4cfef 6 (some .int) [.ref v0, .int v1, .int v2, .int v3] h (some (.int r)) h := by
  refine zOk.of (by decide) (Nat.le_of_ble_eq_true rfl) ?_
  unfold f_J1_indexOfChar_4cfef at H
  refine z_iload_n (pc := 0) 1 dJ1_indexOfChar_4cfef_0 rfl rfl ?_
  refine z_i2b (pc := 1) dJ1_indexOfChar_4cfef_1 ?_
  obtain ⟨x1, ex1, H⟩ := zletE H
  refine z_nmI ex1 ?_
  refine z_istore (pc := 2) (lv' := [(4, .int x1), (0, .ref v0), (1, .int v1), (2, .int v2), (3, .int v3)]) dJ1_indexOfChar_4cfef_2 (by decide) rfl ?_
  refine z_iload_n (pc := 4) 3 dJ1_indexOfChar_4cfef_4 rfl rfl ?_
  refine z_istore (pc := 5) (lv' := [(5, .int v2), (4, .int x1), (0, .ref v0), (1, .int v1), (2, .int v2), (3, .int v3)]) dJ1_indexOfChar_4cfef_5 (by decide) rfl ?_
  obtain ⟨m5, em5, H⟩ := zbind H
  refine z_sub [2, 5, 1, 0] rfl (s_J1_indexOfChar_4cfef_L7 (by omega) N v2 _ em5 ?_ ?_)
  · intro s6 e9
    subst e9
    have H := zsumL H
    refine z_iconst (pc := 31) (x := (-1)) dJ1_indexOfChar_4cfef_31 zc_iconst_m1 ?_
    cases H
    exact z_ireturn rfl dJ1_indexOfChar_4cfef_32
  · intro r e9
    subst e9
    have H := zsumR H
    cases H
    exact ⟨rfl, rfl⟩

theorem md_J1_canEncode_9a6ad : zMd yJ1_canEncode_9a6ad cJ1_canEncode_9a6ad 1 1 (some .boolean) := ⟨zmw (zmt_3 _ (List.mem_of_getElem? (i := 173) rfl)) rfl, zmem 116 (by decide +kernel) rfl, by decide, by decide, by decide +kernel, by decide⟩
theorem ml_J1_88 : Cond.methodLink RJ1 88 yJ1_canEncode_9a6ad ∈ zB := zmem 762 (by decide +kernel) rfl
theorem sm_J1_canEncode_9a6ad : Cond.static yJ1_canEncode_9a6ad ∈ zB := zmem 763 (by decide +kernel) rfl
theorem ml_J1_92 : Cond.methodLink RJ1 92 Lib.Math.max.name ∈ zB := zmem 765 (by decide +kernel) rfl
theorem mx_1 : Cond.static Lib.Math.max.name ∈ zB := zmem 661 (by decide +kernel) rfl
theorem mx_2 : Cond.initialized "java/lang/Math" ∈ zB := zmem 129 (by decide +kernel) rfl
theorem mx_3 : Cond.code Lib.Math.max.name Lib.Math.max.code 2 (some .int) ∈ zB := zmem 662 (by decide +kernel) rfl
theorem ml_J1_38 : Cond.methodLink RJ1 38 Lib.Math.min.name ∈ zB := zmem 766 (by decide +kernel) rfl
theorem mn_1 : Cond.static Lib.Math.min.name ∈ zB := zmem 767 (by decide +kernel) rfl
theorem mn_3 : Cond.code Lib.Math.min.name Lib.Math.min.code 2 (some .int) ∈ zB := zmem 768 (by decide +kernel) rfl
theorem md_J1_indexOfChar_4cfef : zMd yJ1_indexOfChar_4cfef cJ1_indexOfChar_4cfef 6 4 (some .int) := ⟨zmw (zmt_3 _ (List.mem_of_getElem? (i := 180) rfl)) rfl, zmem 116 (by decide +kernel) rfl, by decide, by decide, by decide +kernel, by decide⟩
theorem ml_J1_95 : Cond.methodLink RJ1 95 yJ1_indexOfChar_4cfef ∈ zB := zmem 769 (by decide +kernel) rfl
theorem sm_J1_indexOfChar_4cfef : Cond.static yJ1_indexOfChar_4cfef ∈ zB := zmem 770 (by decide +kernel) rfl
def f_J1_indexOf_4cfef (N : Nat) (v0 : Nat) (v1 : Int32) (v2 : Int32) (v3 : Int32) (h : zH) : Option (Int32 × zH) := if (p_J1_canEncode_9a6ad v1) = 0 then (some ((-1), h)) else (zlet (if v2 < 0 then 0 else v2 : Int32) fun x2 => (aN h v0).bind fun x3 => zlet (if x3 < v3 then x3 else v3 : Int32) fun x4 => if x2 < x4 then ((f_J1_indexOfChar_4cfef N v0 v1 x2 x4 h).bind fun q6 => some (q6, h)) else (some ((-1), h)))
set_option maxRecDepth 100000 in
set_option maxHeartbeats 4000000 in
theorem k_J1_indexOf_4cfef {N : Nat} {v0 : Nat} {v1 : Int32} {v2 : Int32} {v3 : Int32} {h : zH} {r : Int32 × zH} (H : f_J1_indexOf_4cfef N v0 v1 v2 v3 h = some r) : zOk 1 0 0 yJ1_indexOf_4cfef cJ1_indexOf_4cfef 4 (some .int) [.ref v0, .int v1, .int v2, .int v3] h (some (.int r.1)) r.2 := by
  refine zOk.of (by decide) (Nat.le_of_ble_eq_true rfl) ?_
  unfold f_J1_indexOf_4cfef at H
  refine z_iload_n (pc := 0) 1 dJ1_indexOf_4cfef_0 rfl rfl ?_
  refine z_callS (pc := 1) (mc := 0) (ms := 0) (d' := 0) (mc' := 0) (ms' := 0) (rest := []) [.int v1] dJ1_indexOf_4cfef_1 md_J1_canEncode_9a6ad ml_J1_88 sm_J1_canEncode_9a6ad rfl rfl (Nat.le_of_ble_eq_true rfl) (by omega) (k_J1_canEncode_9a6ad v1 h _ rfl) ?_
  refine z_if_ne (pc := 4) 9 dJ1_indexOf_4cfef_4 (by decide) (fun c1 => ?_) (fun c1 => ?_)
  · rw [if_neg c1] at H
    refine z_iload_n (pc := 9) 2 dJ1_indexOf_4cfef_9 rfl rfl ?_
    refine z_iconst (pc := 10) (x := 0) dJ1_indexOf_4cfef_10 zc_iconst_0 ?_
    refine z_mmax (pc := 11) dJ1_indexOf_4cfef_11 ml_J1_92 mx_1 mx_2 mx_3 (by omega) (Nat.le_of_ble_eq_true rfl) ?_
    obtain ⟨x2, ex2, H⟩ := zletE H
    refine z_nmI ex2 ?_
    refine z_istore_n (pc := 14) (lv' := [(2, .int x2), (0, .ref v0), (1, .int v1), (3, .int v3)]) dJ1_indexOf_4cfef_14 rfl (by decide) rfl ?_
    refine z_iload_n (pc := 15) 3 dJ1_indexOf_4cfef_15 rfl rfl ?_
    refine z_aload_n (pc := 16) 1 dJ1_indexOf_4cfef_16 rfl rfl ?_
    obtain ⟨x3, ex3, H⟩ := zbind H
    refine z_alen (pc := 17) dJ1_indexOf_4cfef_17 ex3 ?_
    refine z_mmin (pc := 18) dJ1_indexOf_4cfef_18 ml_J1_38 mn_1 mx_2 mn_3 (by omega) (Nat.le_of_ble_eq_true rfl) ?_
    obtain ⟨x4, ex4, H⟩ := zletE H
    refine z_nmI ex4 ?_
    refine z_istore_n (pc := 21) (lv' := [(3, .int x4), (2, .int x2), (0, .ref v0), (1, .int v1)]) dJ1_indexOf_4cfef_21 rfl (by decide) rfl ?_
    refine z_iload_n (pc := 22) 1 dJ1_indexOf_4cfef_22 rfl rfl ?_
    refine z_iload_n (pc := 23) 0 dJ1_indexOf_4cfef_23 rfl rfl ?_
    refine z_icmp_lt (pc := 24) 29 dJ1_indexOf_4cfef_24 (by decide) (fun c5 => ?_) (fun c5 => ?_)
    · rw [if_pos c5] at H
      refine z_aload_n (pc := 29) 2 dJ1_indexOf_4cfef_29 rfl rfl ?_
      refine z_iload_n (pc := 30) 3 dJ1_indexOf_4cfef_30 rfl rfl ?_
      refine z_iload_n (pc := 31) 1 dJ1_indexOf_4cfef_31 rfl rfl ?_
      refine z_iload_n (pc := 32) 0 dJ1_indexOf_4cfef_32 rfl rfl ?_
      obtain ⟨q6, eq6, H⟩ := zbind H
      refine z_callS (pc := 33) (mc := 0) (ms := 0) (d' := 0) (mc' := 0) (ms' := 0) (rest := []) [.ref v0, .int v1, .int x2, .int x4] dJ1_indexOf_4cfef_33 md_J1_indexOfChar_4cfef ml_J1_95 sm_J1_indexOfChar_4cfef rfl rfl (Nat.le_of_ble_eq_true rfl) (by omega) (k_J1_indexOfChar_4cfef eq6) ?_
      cases H
      exact z_ireturn rfl dJ1_indexOf_4cfef_36
    · rw [if_neg c5] at H
      refine z_iconst (pc := 27) (x := (-1)) dJ1_indexOf_4cfef_27 zc_iconst_m1 ?_
      cases H
      exact z_ireturn rfl dJ1_indexOf_4cfef_28
  · rw [if_pos c1] at H
    refine z_iconst (pc := 7) (x := (-1)) dJ1_indexOf_4cfef_7 zc_iconst_m1 ?_
    cases H
    exact z_ireturn rfl dJ1_indexOf_4cfef_8

theorem md_J0_length_8abf5 : zMd yJ0_length_8abf5 cJ0_length_8abf5 1 0 (some .int) := ⟨zmw (zmt_1 _ (List.mem_of_getElem? (i := 77) rfl)) rfl, zmem 115 (by decide +kernel) rfl, by decide, by decide, by decide +kernel, by decide⟩
theorem ml_J0_505 : Cond.methodLink RJ0 505 yJ0_length_8abf5 ∈ zB := zmem 758 (by decide +kernel) rfl
theorem im_J0_length_8abf5 : Cond.instanceMethod yJ0_length_8abf5 ∈ zB := zmem 186 (by decide +kernel) rfl
theorem se_J0_length_8abf5 : Cond.selects "java/lang/String" yJ0_length_8abf5 yJ0_length_8abf5 ∈ zB := zmem 187 (by decide +kernel) rfl
theorem md_J1_indexOf_4cfef : zMd yJ1_indexOf_4cfef cJ1_indexOf_4cfef 4 4 (some .int) := ⟨zmw (zmt_3 _ (List.mem_of_getElem? (i := 170) rfl)) rfl, zmem 116 (by decide +kernel) rfl, by decide, by decide, by decide +kernel, by decide⟩
theorem ml_J0_637 : Cond.methodLink RJ0 637 yJ1_indexOf_4cfef ∈ zB := zmem 759 (by decide +kernel) rfl
theorem sm_J1_indexOf_4cfef : Cond.static yJ1_indexOf_4cfef ∈ zB := zmem 760 (by decide +kernel) rfl
def f_J0_indexOf_7cf53 (N : Nat) (v0 : Nat) (v1 : Int32) (v2 : Int32) (h : zH) : Option (Int32 × zH) := (gSv h v0).bind fun r1 => (f_J0_isLatin1_aae02 N v0 h).bind fun q2 => if q2 = 0 then ((gSv h v0).bind fun r4 => (gSv h v0).bind fun r5 => (f_J0_length_8abf5 N v0 h).bind fun q6 => none) else ((gSv h v0).bind fun r7 => (gSv h v0).bind fun r8 => (f_J0_length_8abf5 N v0 h).bind fun q9 => (f_J1_indexOf_4cfef N r7 v1 v2 q9 h).bind fun q10 => some (q10.1, q10.2))
set_option maxRecDepth 100000 in
set_option maxHeartbeats 4000000 in
theorem k_J0_indexOf_7cf53 {N : Nat} {v0 : Nat} {v1 : Int32} {v2 : Int32} {h : zH} {r : Int32 × zH} (H : f_J0_indexOf_7cf53 N v0 v1 v2 h = some r) : zOk 2 0 0 yJ0_indexOf_7cf53 cJ0_indexOf_7cf53 3 (some .int) [.ref v0, .int v1, .int v2] h (some (.int r.1)) r.2 := by
  refine zOk.of (by decide) (Nat.le_of_ble_eq_true rfl) ?_
  unfold f_J0_indexOf_7cf53 at H
  refine z_aload_n (pc := 0) 0 dJ0_indexOf_7cf53_0 rfl rfl ?_
  obtain ⟨r1, er1, H⟩ := zbind H
  obtain ⟨q2, eq2, H⟩ := zbind H
  refine z_callT (pc := 1) (mc := 0) (ms := 0) (d' := 0) (mc' := 0) (ms' := 0) (rest := []) [] dJ0_indexOf_7cf53_1 md_J0_isLatin1_aae02 ml_J0_492 im_J0_isLatin1_aae02 se_J0_isLatin1_aae02 er1 rfl rfl (Nat.le_of_ble_eq_true rfl) (by omega) (k_J0_isLatin1_aae02 eq2) ?_
  refine z_if_eq (pc := 4) 23 dJ0_indexOf_7cf53_4 (by decide) (fun c3 => ?_) (fun c3 => ?_)
  · rw [if_pos c3] at H
    refine z_aload_n (pc := 23) 0 dJ0_indexOf_7cf53_23 rfl rfl ?_
    obtain ⟨r4, er4, H⟩ := zbind H
    refine z_getSv (pc := 24) dJ0_indexOf_7cf53_24 fs_J0_9 er4 ?_
    refine z_iload_n (pc := 27) 1 dJ0_indexOf_7cf53_27 rfl rfl ?_
    refine z_iload_n (pc := 28) 2 dJ0_indexOf_7cf53_28 rfl rfl ?_
    refine z_aload_n (pc := 29) 0 dJ0_indexOf_7cf53_29 rfl rfl ?_
    obtain ⟨r5, er5, H⟩ := zbind H
    obtain ⟨q6, eq6, H⟩ := zbind H
    refine z_callT (pc := 30) (mc := 0) (ms := 0) (d' := 1) (mc' := 0) (ms' := 0) (rest := [.int v2, .int v1, .ref r4]) [] dJ0_indexOf_7cf53_30 md_J0_length_8abf5 ml_J0_505 im_J0_length_8abf5 se_J0_length_8abf5 er5 rfl rfl (Nat.le_of_ble_eq_true rfl) (by omega) (k_J0_length_8abf5 eq6) ?_
    cases H
  · rw [if_neg c3] at H
    refine z_aload_n (pc := 7) 0 dJ0_indexOf_7cf53_7 rfl rfl ?_
    obtain ⟨r7, er7, H⟩ := zbind H
    refine z_getSv (pc := 8) dJ0_indexOf_7cf53_8 fs_J0_9 er7 ?_
    refine z_iload_n (pc := 11) 1 dJ0_indexOf_7cf53_11 rfl rfl ?_
    refine z_iload_n (pc := 12) 2 dJ0_indexOf_7cf53_12 rfl rfl ?_
    refine z_aload_n (pc := 13) 0 dJ0_indexOf_7cf53_13 rfl rfl ?_
    obtain ⟨r8, er8, H⟩ := zbind H
    obtain ⟨q9, eq9, H⟩ := zbind H
    refine z_callT (pc := 14) (mc := 0) (ms := 0) (d' := 1) (mc' := 0) (ms' := 0) (rest := [.int v2, .int v1, .ref r7]) [] dJ0_indexOf_7cf53_14 md_J0_length_8abf5 ml_J0_505 im_J0_length_8abf5 se_J0_length_8abf5 er8 rfl rfl (Nat.le_of_ble_eq_true rfl) (by omega) (k_J0_length_8abf5 eq9) ?_
    obtain ⟨q10, eq10, H⟩ := zbind H
    refine z_callS (pc := 17) (mc := 0) (ms := 0) (d' := 1) (mc' := 0) (ms' := 0) (rest := []) [.ref r7, .int v1, .int v2, .int q9] dJ0_indexOf_7cf53_17 md_J1_indexOf_4cfef ml_J0_637 sm_J1_indexOf_4cfef rfl rfl (Nat.le_of_ble_eq_true rfl) (by omega) (k_J1_indexOf_4cfef eq10) ?_
    refine z_goto (pc := 20) 36 dJ0_indexOf_7cf53_20 (by decide) ?_
    cases H
    exact z_ireturn rfl dJ0_indexOf_7cf53_36

theorem md_J0_indexOf_7cf53 : zMd yJ0_indexOf_7cf53 cJ0_indexOf_7cf53 3 2 (some .int) := ⟨zmw (zmt_3 _ (List.mem_of_getElem? (i := 166) rfl)) rfl, zmem 115 (by decide +kernel) rfl, by decide, by decide, by decide +kernel, by decide⟩
theorem ml_J0_633 : Cond.methodLink RJ0 633 yJ0_indexOf_7cf53 ∈ zB := zmem 754 (by decide +kernel) rfl
theorem im_J0_indexOf_7cf53 : Cond.instanceMethod yJ0_indexOf_7cf53 ∈ zB := zmem 755 (by decide +kernel) rfl
theorem se_J0_indexOf_7cf53 : Cond.selects "java/lang/String" yJ0_indexOf_7cf53 yJ0_indexOf_7cf53 ∈ zB := zmem 756 (by decide +kernel) rfl
def f_J0_indexOf_0f7a4 (N : Nat) (v0 : Nat) (v1 : Int32) (h : zH) : Option (Int32 × zH) := (gSv h v0).bind fun r1 => (f_J0_indexOf_7cf53 N v0 v1 0 h).bind fun q2 => some (q2.1, q2.2)
set_option maxRecDepth 100000 in
set_option maxHeartbeats 4000000 in
theorem k_J0_indexOf_0f7a4 {N : Nat} {v0 : Nat} {v1 : Int32} {h : zH} {r : Int32 × zH} (H : f_J0_indexOf_0f7a4 N v0 v1 h = some r) : zOk 3 0 0 yJ0_indexOf_0f7a4 cJ0_indexOf_0f7a4 2 (some .int) [.ref v0, .int v1] h (some (.int r.1)) r.2 := by
  refine zOk.of (by decide) (Nat.le_of_ble_eq_true rfl) ?_
  unfold f_J0_indexOf_0f7a4 at H
  refine z_aload_n (pc := 0) 0 dJ0_indexOf_0f7a4_0 rfl rfl ?_
  refine z_iload_n (pc := 1) 1 dJ0_indexOf_0f7a4_1 rfl rfl ?_
  refine z_iconst (pc := 2) (x := 0) dJ0_indexOf_0f7a4_2 zc_iconst_0 ?_
  obtain ⟨r1, er1, H⟩ := zbind H
  obtain ⟨q2, eq2, H⟩ := zbind H
  refine z_callT (pc := 3) (mc := 0) (ms := 0) (d' := 2) (mc' := 0) (ms' := 0) (rest := []) [.int v1, .int 0] dJ0_indexOf_0f7a4_3 md_J0_indexOf_7cf53 ml_J0_633 im_J0_indexOf_7cf53 se_J0_indexOf_7cf53 er1 rfl rfl (Nat.le_of_ble_eq_true rfl) (by omega) (k_J0_indexOf_7cf53 eq2) ?_
  cases H
  exact z_ireturn rfl dJ0_indexOf_0f7a4_6

def f_J7_fill_53178_L5 (N : Nat) (v0 : Nat) (v1 : Int32) (v3 : Int32) : Nat → Int32 → zH → Option (zH)
  | 0, _, _ => none
  | n + 1, v2, h => if v3 ≤ v2 then (some h) else ((sI h v0 v2 v1).bind fun h3 => f_J7_fill_53178_L5 N v0 v1 v3 n (v2 + 1) h3)
set_option maxRecDepth 100000 in
set_option maxHeartbeats 4000000 in
theorem s_J7_fill_53178_L5 {d mc ms N : Nat} {vv : Option Value} {hh : zH} {v0 : Nat} {v1 : Int32} {v3 : Int32} (hd0 : 0 ≤ d) : ∀ (n : Nat) (v2 : Int32) (h : zH) (m : zH), f_J7_fill_53178_L5 N v0 v1 v3 n v2 h = some m → (zW yJ7_fill_53178 cJ7_fill_53178 4 none d mc ms 20 [] [] m vv hh) → zW yJ7_fill_53178 cJ7_fill_53178 4 none d mc ms 5 [(0, .ref v0), (1, .int v1), (2, .int v2), (3, .int v3)] [] h vv hh := by
  intro n
  induction n with
  | zero =>
    intro v2 h m H
    cases H
  | succ n ih =>
    intro v2 h m H KE
    unfold f_J7_fill_53178_L5 at H
    refine z_iload_n (pc := 5) 2 dJ7_fill_53178_5 rfl rfl ?_
    refine z_iload_n (pc := 6) 3 dJ7_fill_53178_6 rfl rfl ?_
    refine z_icmp_ge (pc := 7) 20 dJ7_fill_53178_7 (by decide) (fun c2 => ?_) (fun c2 => ?_)
    · rw [if_pos c2] at H
      cases H
      exact z_sub [] rfl (KE)
    · rw [if_neg c2] at H
      refine z_aload_n (pc := 10) 0 dJ7_fill_53178_10 rfl rfl ?_
      refine z_iload_n (pc := 11) 2 dJ7_fill_53178_11 rfl rfl ?_
      refine z_iload_n (pc := 12) 1 dJ7_fill_53178_12 rfl rfl ?_
      obtain ⟨h3, eh3, H⟩ := zbind H
      refine z_iastore (pc := 13) dJ7_fill_53178_13 eh3 ?_
      refine z_iinc (pc := 14) (x' := v2 + 1) (lv' := [(2, .int (v2 + 1)), (0, .ref v0), (1, .int v1), (3, .int v3)]) 2 dJ7_fill_53178_14 rfl (by rfl) (by decide) rfl ?_
      refine z_goto (pc := 17) 5 dJ7_fill_53178_17 (by decide) ?_
      exact z_sub [1, 2, 0, 3] rfl (ih (v2 + 1) h3 _ H KE)
def f_J7_fill_53178 (N : Nat) (v0 : Nat) (v1 : Int32) (h : zH) : Option (zH) := (aN h v0).bind fun x1 => (f_J7_fill_53178_L5 N v0 v1 x1 N 0 h).bind fun m4 => some m4
set_option maxRecDepth 100000 in
set_option maxHeartbeats 4000000 in
theorem k_J7_fill_53178 {N : Nat} {v0 : Nat} {v1 : Int32} {h : zH} {r : zH} (H : f_J7_fill_53178 N v0 v1 h = some r) : zOk 0 0 0 yJ7_fill_53178 cJ7_fill_53178 4 none [.ref v0, .int v1] h none r := by
  refine zOk.of (by decide) (Nat.le_of_ble_eq_true rfl) ?_
  unfold f_J7_fill_53178 at H
  refine z_iconst (pc := 0) (x := 0) dJ7_fill_53178_0 zc_iconst_0 ?_
  refine z_istore_n (pc := 1) (lv' := [(2, .int 0), (0, .ref v0), (1, .int v1)]) dJ7_fill_53178_1 rfl (by decide) rfl ?_
  refine z_aload_n (pc := 2) 1 dJ7_fill_53178_2 rfl rfl ?_
  obtain ⟨x1, ex1, H⟩ := zbind H
  refine z_alen (pc := 3) dJ7_fill_53178_3 ex1 ?_
  refine z_istore_n (pc := 4) (lv' := [(3, .int x1), (2, .int 0), (0, .ref v0), (1, .int v1)]) dJ7_fill_53178_4 rfl (by decide) rfl ?_
  obtain ⟨m4, em4, H⟩ := zbind H
  refine z_sub [2, 3, 1, 0] rfl (s_J7_fill_53178_L5 (by omega) N 0 h _ em4 ?_)
  cases H
  exact z_return rfl dJ7_fill_53178_20

theorem ac_int : Cond.arrayClass (zaty 0) ∈ zB := zmem 303 (by decide +kernel) rfl
theorem ml_J7_304 : Cond.methodLink RJ7 304 Lib.Math.min.name ∈ zB := zmem 896 (by decide +kernel) rfl
theorem ml_J7_150 : Cond.methodLink RJ7 150 arraycopyName ∈ zB := zmem 897 (by decide +kernel) rfl
theorem ay_1 : Cond.native arraycopyName ∈ zB := zmem 899 (by decide +kernel) rfl
theorem ay_2 : Cond.static arraycopyName ∈ zB := zmem 898 (by decide +kernel) rfl
theorem ay_3 : Cond.initialized "java/lang/System" ∈ zB := zmem 136 (by decide +kernel) rfl
def f_J7_copyOf_59c91 (N : Nat) (v0 : Nat) (v1 : Int32) (h : zH) : Option (Nat × zH) := (aN h v0).bind fun x1 => if v1 = x1 then (none) else (zif (zsmall v1) <| zlet (znew h (zblank 0 v1.toNatClampNeg) : zH) fun h4 => (aN h4 v0).bind fun x5 => (cpI h4 v0 0 h.1.1 0 (if v1 < x5 then v1 else x5)).bind fun h6 => some (h.1.1, h6))
set_option maxRecDepth 100000 in
set_option maxHeartbeats 4000000 in
theorem k_J7_copyOf_59c91 {N : Nat} {v0 : Nat} {v1 : Int32} {h : zH} {r : Nat × zH} (H : f_J7_copyOf_59c91 N v0 v1 h = some r) : zOk 1 1 1000 yJ7_copyOf_59c91 cJ7_copyOf_59c91 3 (some (.array .int)) [.ref v0, .int v1] h (some (.ref r.1)) r.2 := by
  refine zOk.of (by decide) (Nat.le_of_ble_eq_true rfl) ?_
  unfold f_J7_copyOf_59c91 at H
  refine z_iload_n (pc := 0) 1 dJ7_copyOf_59c91_0 rfl rfl ?_
  refine z_aload_n (pc := 1) 0 dJ7_copyOf_59c91_1 rfl rfl ?_
  obtain ⟨x1, ex1, H⟩ := zbind H
  refine z_alen (pc := 2) dJ7_copyOf_59c91_2 ex1 ?_
  refine z_icmp_ne (pc := 3) 14 dJ7_copyOf_59c91_3 (by decide) (fun c2 => ?_) (fun c2 => ?_)
  · rw [if_neg c2] at H
    refine z_iload_n (pc := 14) 1 dJ7_copyOf_59c91_14 rfl rfl ?_
    obtain ⟨z3, H⟩ := zifE H
    refine z_newarrayB (pc := 15) (mc := 0) (ms := 0) dJ7_copyOf_59c91_15 ac_int z3 ?_
    obtain ⟨h4, eh4, H⟩ := zletE H
    refine z_nmH eh4 ?_
    refine z_astore_n (pc := 17) (lv' := [(2, .ref h.1.1), (0, .ref v0), (1, .int v1)]) dJ7_copyOf_59c91_17 rfl (by decide) rfl ?_
    refine z_aload_n (pc := 18) 1 dJ7_copyOf_59c91_18 rfl rfl ?_
    refine z_iconst (pc := 19) (x := 0) dJ7_copyOf_59c91_19 zc_iconst_0 ?_
    refine z_aload_n (pc := 20) 0 dJ7_copyOf_59c91_20 rfl rfl ?_
    refine z_iconst (pc := 21) (x := 0) dJ7_copyOf_59c91_21 zc_iconst_0 ?_
    refine z_aload_n (pc := 22) 1 dJ7_copyOf_59c91_22 rfl rfl ?_
    obtain ⟨x5, ex5, H⟩ := zbind H
    refine z_alen (pc := 23) dJ7_copyOf_59c91_23 ex5 ?_
    refine z_iload_n (pc := 24) 2 dJ7_copyOf_59c91_24 rfl rfl ?_
    refine z_mmin (pc := 25) dJ7_copyOf_59c91_25 ml_J7_304 mn_1 mx_2 mn_3 (by omega) (Nat.le_of_ble_eq_true rfl) ?_
    obtain ⟨h6, eh6, H⟩ := zbind H
    refine z_copyi (pc := 28) dJ7_copyOf_59c91_28 ml_J7_150 ay_1 ay_2 ay_3 (by omega) (Nat.le_of_ble_eq_true rfl) eh6 ?_
    refine z_aload_n (pc := 31) 0 dJ7_copyOf_59c91_31 rfl rfl ?_
    cases H
    exact z_areturn rfl (Or.inr ⟨_, rfl⟩) (Or.inr ⟨_, rfl⟩) dJ7_copyOf_59c91_32
  · rw [if_pos c2] at H
    refine z_aload_n (pc := 6) 0 dJ7_copyOf_59c91_6 rfl rfl ?_
    cases H

theorem zc_bipush_80 : (Int8.ofInt (80)).toInt32 = (80 : Int32) := by decide
theorem zc_sipush_128 : (Int16.ofInt (128)).toInt32 = (128 : Int32) := by decide
theorem ml_X0_3 : Cond.methodLink RX0 3 objectInit ∈ zB := zmem 356 (by decide +kernel) rfl
theorem im_object : Cond.instanceMethod objectInit ∈ zB := zmem 144 (by decide +kernel) rfl
theorem cd_object : Cond.code objectInit ⟨#[0xb1]⟩ 1 none ∈ zB := zmem 145 (by decide +kernel) rfl
theorem ck_X0_11 : Cond.classLink RX0 11 RX6 ∈ zB := zmem 357 (by decide +kernel) rfl
theorem fd_X0_13 : zFd RX0 13 0 0 (.array (.object "WhoseStreet$Meeting")) true "WhoseStreet$Bench" := zFd.of cl_0 (by decide) (zmem 358 (by decide +kernel) rfl) rfl rfl rfl
theorem fd_X0_17 : zFd RX0 17 0 1 (.array .int) true "WhoseStreet$Bench" := zFd.of cl_0 (by decide) (zmem 359 (by decide +kernel) rfl) rfl rfl rfl
theorem ac_boolean : Cond.arrayClass (zaty 3) ∈ zB := zmem 382 (by decide +kernel) rfl
theorem fd_X0_21 : zFd RX0 21 0 2 (.array .boolean) true "WhoseStreet$Bench" := zFd.of cl_0 (by decide) (zmem 360 (by decide +kernel) rfl) rfl rfl rfl
theorem fd_X0_25 : zFd RX0 25 0 3 (.array .int) true "WhoseStreet$Bench" := zFd.of cl_0 (by decide) (zmem 361 (by decide +kernel) rfl) rfl rfl rfl
theorem fd_X0_28 : zFd RX0 28 0 4 (.array .int) true "WhoseStreet$Bench" := zFd.of cl_0 (by decide) (zmem 362 (by decide +kernel) rfl) rfl rfl rfl
def f_X0_init_L59 (N : Nat) (v0 : Nat) (v2 : Int32) : Nat → Int32 → Int32 → zH → Option (Int32 × zH)
  | 0, _, _, _ => none
  | n + 1, v1, v3, h => if 16 ≤ v3 then (some (v1, h)) else (if (v3 - v2) = 8 then (f_X0_init_L59 N v0 v2 n v1 (v3 + 1) h) else (if 128 ≤ v1 then (f_X0_init_L59 N v0 v2 n v1 (v3 + 1) h) else ((gR h v0 0 3).bind fun r15 => (sI h r15 v1 ((1 <<< (v2 &&& 31)) ||| (1 <<< (v3 &&& 31)))).bind fun h16 => f_X0_init_L59 N v0 v2 n (v1 + 1) (v3 + 1) h16)))
def f_X0_init_L51 (N : Nat) (v0 : Nat) : Nat → Int32 → Int32 → zH → Option (zH)
  | 0, _, _, _ => none
  | n + 1, v1, v2, h => if 16 ≤ v2 then (some h) else ((f_X0_init_L59 N v0 v2 N v1 v2 h).bind fun m17 => f_X0_init_L51 N v0 n m17.1 (v2 + 1) m17.2)
set_option maxRecDepth 100000 in
set_option maxHeartbeats 4000000 in
theorem s_X0_init_L59 {d mc ms N : Nat} {vv : Option Value} {hh : zH} {v0 : Nat} {v2 : Int32} (hd0 : 1 ≤ d) : ∀ (n : Nat) (v1 : Int32) (v3 : Int32) (h : zH) (m : Int32 × zH), f_X0_init_L59 N v0 v2 n v1 v3 h = some m → (zW yX0_init cX0_init 4 none d mc ms 102 [(0, .ref v0), (1, .int m.1), (2, .int v2)] [] m.2 vv hh) → zW yX0_init cX0_init 4 none d mc ms 59 [(0, .ref v0), (1, .int v1), (2, .int v2), (3, .int v3)] [] h vv hh := by
  intro n
  induction n with
  | zero =>
    intro v1 v3 h m H
    cases H
  | succ n ih =>
    intro v1 v3 h m H KE
    unfold f_X0_init_L59 at H
    refine z_iload_n (pc := 59) 3 dX0_init_59 rfl rfl ?_
    refine z_bipush (pc := 60) (x := 16) dX0_init_60 zc_bipush_16 ?_
    refine z_icmp_ge (pc := 62) 102 dX0_init_62 (by decide) (fun c12 => ?_) (fun c12 => ?_)
    · rw [if_pos c12] at H
      cases H
      exact z_sub [0, 1, 2] rfl (KE)
    · rw [if_neg c12] at H
      refine z_iload_n (pc := 65) 3 dX0_init_65 rfl rfl ?_
      refine z_iload_n (pc := 66) 2 dX0_init_66 rfl rfl ?_
      refine z_isub (pc := 67) dX0_init_67 ?_
      refine z_bipush (pc := 68) (x := 8) dX0_init_68 zc_bipush_8 ?_
      refine z_icmp_eq (pc := 70) 96 dX0_init_70 (by decide) (fun c13 => ?_) (fun c13 => ?_)
      · rw [if_pos c13] at H
        refine z_iinc (pc := 96) (x' := v3 + 1) (lv' := [(3, .int (v3 + 1)), (0, .ref v0), (1, .int v1), (2, .int v2)]) 3 dX0_init_96 rfl (by rfl) (by decide) rfl ?_
        refine z_goto (pc := 99) 59 dX0_init_99 (by decide) ?_
        exact z_sub [1, 2, 3, 0] rfl (ih v1 (v3 + 1) h _ H KE)
      · rw [if_neg c13] at H
        refine z_iload_n (pc := 73) 1 dX0_init_73 rfl rfl ?_
        refine z_sipush (pc := 74) (x := 128) dX0_init_74 zc_sipush_128 ?_
        refine z_icmp_ge (pc := 77) 96 dX0_init_77 (by decide) (fun c14 => ?_) (fun c14 => ?_)
        · rw [if_pos c14] at H
          refine z_iinc (pc := 96) (x' := v3 + 1) (lv' := [(3, .int (v3 + 1)), (0, .ref v0), (1, .int v1), (2, .int v2)]) 3 dX0_init_96 rfl (by rfl) (by decide) rfl ?_
          refine z_goto (pc := 99) 59 dX0_init_99 (by decide) ?_
          exact z_sub [1, 2, 3, 0] rfl (ih v1 (v3 + 1) h _ H KE)
        · rw [if_neg c14] at H
          refine z_aload_n (pc := 80) 0 dX0_init_80 rfl rfl ?_
          obtain ⟨r15, er15, H⟩ := zbind H
          refine z_getR (pc := 81) dX0_init_81 fd_X0_25 er15 ?_
          refine z_iload_n (pc := 84) 1 dX0_init_84 rfl rfl ?_
          refine z_iconst (pc := 85) (x := 1) dX0_init_85 zc_iconst_1 ?_
          refine z_iload_n (pc := 86) 2 dX0_init_86 rfl rfl ?_
          refine z_ishl (pc := 87) dX0_init_87 ?_
          refine z_iconst (pc := 88) (x := 1) dX0_init_88 zc_iconst_1 ?_
          refine z_iload_n (pc := 89) 3 dX0_init_89 rfl rfl ?_
          refine z_ishl (pc := 90) dX0_init_90 ?_
          refine z_ior (pc := 91) dX0_init_91 ?_
          obtain ⟨h16, eh16, H⟩ := zbind H
          refine z_iastore (pc := 92) dX0_init_92 eh16 ?_
          refine z_iinc (pc := 93) (x' := v1 + 1) (lv' := [(1, .int (v1 + 1)), (0, .ref v0), (2, .int v2), (3, .int v3)]) 1 dX0_init_93 rfl (by rfl) (by decide) rfl ?_
          refine z_iinc (pc := 96) (x' := v3 + 1) (lv' := [(3, .int (v3 + 1)), (1, .int (v1 + 1)), (0, .ref v0), (2, .int v2)]) 3 dX0_init_96 rfl (by rfl) (by decide) rfl ?_
          refine z_goto (pc := 99) 59 dX0_init_99 (by decide) ?_
          exact z_sub [2, 1, 3, 0] rfl (ih (v1 + 1) (v3 + 1) h16 _ H KE)
set_option maxRecDepth 100000 in
set_option maxHeartbeats 4000000 in
theorem s_X0_init_L51 {d mc ms N : Nat} {vv : Option Value} {hh : zH} {v0 : Nat} (hd0 : 1 ≤ d) : ∀ (n : Nat) (v1 : Int32) (v2 : Int32) (h : zH) (m : zH), f_X0_init_L51 N v0 n v1 v2 h = some m → (zW yX0_init cX0_init 4 none d mc ms 108 [] [] m vv hh) → zW yX0_init cX0_init 4 none d mc ms 51 [(0, .ref v0), (1, .int v1), (2, .int v2)] [] h vv hh := by
  intro n
  induction n with
  | zero =>
    intro v1 v2 h m H
    cases H
  | succ n ih =>
    intro v1 v2 h m H KE
    unfold f_X0_init_L51 at H
    refine z_iload_n (pc := 51) 2 dX0_init_51 rfl rfl ?_
    refine z_bipush (pc := 52) (x := 16) dX0_init_52 zc_bipush_16 ?_
    refine z_icmp_ge (pc := 54) 108 dX0_init_54 (by decide) (fun c11 => ?_) (fun c11 => ?_)
    · rw [if_pos c11] at H
      cases H
      exact z_sub [] rfl (KE)
    · rw [if_neg c11] at H
      refine z_iload_n (pc := 57) 2 dX0_init_57 rfl rfl ?_
      refine z_istore_n (pc := 58) (lv' := [(3, .int v2), (0, .ref v0), (1, .int v1), (2, .int v2)]) dX0_init_58 rfl (by decide) rfl ?_
      obtain ⟨m17, em17, H⟩ := zbind H
      refine z_sub [1, 2, 3, 0] rfl (s_X0_init_L59 (by omega) N v1 v2 h _ em17 ?_)
      refine z_iinc (pc := 102) (x' := v2 + 1) (lv' := [(2, .int (v2 + 1)), (0, .ref v0), (1, .int m17.1)]) 2 dX0_init_102 rfl (by rfl) (by decide) rfl ?_
      refine z_goto (pc := 105) 51 dX0_init_105 (by decide) ?_
      exact z_sub [1, 2, 0] rfl (ih m17.1 (v2 + 1) m17.2 _ H KE)
def f_X0_init (N : Nat) (v0 : Nat) (h : zH) : Option (zH) := zlet (znew h (zblank 4 80) : zH) fun h1 => (pF h1 v0 0 0 (.ref h.1.1)).bind fun h2 => zlet (znew h2 (zblank 0 80) : zH) fun h3 => (pF h3 v0 0 1 (.ref h2.1.1)).bind fun h4 => zlet (znew h4 (zblank 3 80) : zH) fun h5 => (pF h5 v0 0 2 (.ref h4.1.1)).bind fun h6 => zlet (znew h6 (zblank 0 128) : zH) fun h7 => (pF h7 v0 0 3 (.ref h6.1.1)).bind fun h8 => zlet (znew h8 (zblank 0 128) : zH) fun h9 => (pF h9 v0 0 4 (.ref h8.1.1)).bind fun h10 => (f_X0_init_L51 N v0 N 0 0 h10).bind fun m18 => some m18
set_option maxRecDepth 100000 in
set_option maxHeartbeats 4000000 in
theorem k_X0_init {N : Nat} {v0 : Nat} {h : zH} {r : zH} (H : f_X0_init N v0 h = some r) : zOk 1 5 496 yX0_init cX0_init 4 none [.ref v0] h none r := by
  refine zOk.of (by decide) (Nat.le_of_ble_eq_true rfl) ?_
  unfold f_X0_init at H
  refine z_aload_n (pc := 0) 0 dX0_init_0 rfl rfl ?_
  refine z_objInit (pc := 1) dX0_init_1 ml_X0_3 im_object cd_object (by omega) (Nat.le_of_ble_eq_true rfl) ?_
  refine z_aload_n (pc := 4) 0 dX0_init_4 rfl rfl ?_
  refine z_bipush (pc := 5) (x := 80) dX0_init_5 zc_bipush_80 ?_
  refine z_anewarray (pc := 7) (mc := 4) (ms := 416) (N := 80) 4 (Or.inl ⟨rfl, rfl⟩) dX0_init_7 ck_X0_11 (by decide) (by decide) (by decide) ?_
  obtain ⟨h1, eh1, H⟩ := zletE H
  refine z_nmH eh1 ?_
  obtain ⟨h2, eh2, H⟩ := zbind H
  refine z_putF (pc := 10) dX0_init_10 fd_X0_13 rfl rfl rfl eh2 ?_
  refine z_aload_n (pc := 13) 0 dX0_init_13 rfl rfl ?_
  refine z_bipush (pc := 14) (x := 80) dX0_init_14 zc_bipush_80 ?_
  refine z_newarray (pc := 16) (mc := 3) (ms := 336) (N := 80) 0 (by decide) dX0_init_16 rfl ac_int (by decide) (by decide) (by decide) ?_
  obtain ⟨h3, eh3, H⟩ := zletE H
  refine z_nmH eh3 ?_
  obtain ⟨h4, eh4, H⟩ := zbind H
  refine z_putF (pc := 18) dX0_init_18 fd_X0_17 rfl rfl rfl eh4 ?_
  refine z_aload_n (pc := 21) 0 dX0_init_21 rfl rfl ?_
  refine z_bipush (pc := 22) (x := 80) dX0_init_22 zc_bipush_80 ?_
  refine z_newarray (pc := 24) (mc := 2) (ms := 256) (N := 80) 3 (by decide) dX0_init_24 rfl ac_boolean (by decide) (by decide) (by decide) ?_
  obtain ⟨h5, eh5, H⟩ := zletE H
  refine z_nmH eh5 ?_
  obtain ⟨h6, eh6, H⟩ := zbind H
  refine z_putF (pc := 26) dX0_init_26 fd_X0_21 rfl rfl rfl eh6 ?_
  refine z_aload_n (pc := 29) 0 dX0_init_29 rfl rfl ?_
  refine z_sipush (pc := 30) (x := 128) dX0_init_30 zc_sipush_128 ?_
  refine z_newarray (pc := 33) (mc := 1) (ms := 128) (N := 128) 0 (by decide) dX0_init_33 rfl ac_int (by decide) (by decide) (by decide) ?_
  obtain ⟨h7, eh7, H⟩ := zletE H
  refine z_nmH eh7 ?_
  obtain ⟨h8, eh8, H⟩ := zbind H
  refine z_putF (pc := 35) dX0_init_35 fd_X0_25 rfl rfl rfl eh8 ?_
  refine z_aload_n (pc := 38) 0 dX0_init_38 rfl rfl ?_
  refine z_sipush (pc := 39) (x := 128) dX0_init_39 zc_sipush_128 ?_
  refine z_newarray (pc := 42) (mc := 0) (ms := 0) (N := 128) 0 (by decide) dX0_init_42 rfl ac_int (by decide) (by decide) (by decide) ?_
  obtain ⟨h9, eh9, H⟩ := zletE H
  refine z_nmH eh9 ?_
  obtain ⟨h10, eh10, H⟩ := zbind H
  refine z_putF (pc := 44) dX0_init_44 fd_X0_28 rfl rfl rfl eh10 ?_
  refine z_iconst (pc := 47) (x := 0) dX0_init_47 zc_iconst_0 ?_
  refine z_istore_n (pc := 48) (lv' := [(1, .int 0), (0, .ref v0)]) dX0_init_48 rfl (by decide) rfl ?_
  refine z_iconst (pc := 49) (x := 0) dX0_init_49 zc_iconst_0 ?_
  refine z_istore_n (pc := 50) (lv' := [(2, .int 0), (1, .int 0), (0, .ref v0)]) dX0_init_50 rfl (by decide) rfl ?_
  obtain ⟨m18, em18, H⟩ := zbind H
  refine z_sub [2, 1, 0] rfl (s_X0_init_L51 (by omega) N 0 0 h10 _ em18 ?_)
  cases H
  exact z_return rfl dX0_init_108

theorem fd_X0_31 : zFd RX0 31 0 5 (.int) false "WhoseStreet$Bench" := zFd.of cl_0 (by decide) (zmem 363 (by decide +kernel) rfl) rfl rfl rfl
def f_X0_add (N : Nat) (v0 : Nat) (v1 : Nat) (v2 : Int32) (v3 : Int32) (h : zH) : Option (Int32 × zH) := (gI h v0 0 5).bind fun x1 => if x1 < 80 then ((gR h v0 0 0).bind fun r3 => (gI h v0 0 5).bind fun x4 => (sQ h r3 x4 v1).bind fun h5 => (gR h5 v0 0 1).bind fun r6 => (gI h5 v0 0 5).bind fun x7 => (sI h5 r6 x7 v2).bind fun h8 => (gR h8 v0 0 2).bind fun r9 => (gI h8 v0 0 5).bind fun x10 => (sZ h8 r9 x10 v3).bind fun h11 => (gI h11 v0 0 5).bind fun x12 => (pF h11 v0 0 5 (.int (x12 + 1))).bind fun h13 => some (1, h13)) else (some (0, h))
set_option maxRecDepth 100000 in
set_option maxHeartbeats 4000000 in
theorem k_X0_add {N : Nat} {v0 : Nat} {v1 : Nat} {v2 : Int32} {v3 : Int32} {h : zH} {r : Int32 × zH} (H : f_X0_add N v0 v1 v2 v3 h = some r) : zOk 0 0 0 yX0_add cX0_add 4 (some .boolean) [.ref v0, .ref v1, .int v2, .int v3] h (some (.int r.1)) r.2 := by
  refine zOk.of (by decide) (Nat.le_of_ble_eq_true rfl) ?_
  unfold f_X0_add at H
  refine z_aload_n (pc := 0) 0 dX0_add_0 rfl rfl ?_
  obtain ⟨x1, ex1, H⟩ := zbind H
  refine z_getI (pc := 1) dX0_add_1 fd_X0_31 ex1 ?_
  refine z_bipush (pc := 4) (x := 80) dX0_add_4 zc_bipush_80 ?_
  refine z_icmp_lt (pc := 6) 11 dX0_add_6 (by decide) (fun c2 => ?_) (fun c2 => ?_)
  · rw [if_pos c2] at H
    refine z_aload_n (pc := 11) 0 dX0_add_11 rfl rfl ?_
    obtain ⟨r3, er3, H⟩ := zbind H
    refine z_getR (pc := 12) dX0_add_12 fd_X0_13 er3 ?_
    refine z_aload_n (pc := 15) 0 dX0_add_15 rfl rfl ?_
    obtain ⟨x4, ex4, H⟩ := zbind H
    refine z_getI (pc := 16) dX0_add_16 fd_X0_31 ex4 ?_
    refine z_aload_n (pc := 19) 1 dX0_add_19 rfl rfl ?_
    obtain ⟨h5, eh5, H⟩ := zbind H
    refine z_aastore (pc := 20) dX0_add_20 eh5 ?_
    refine z_aload_n (pc := 21) 0 dX0_add_21 rfl rfl ?_
    obtain ⟨r6, er6, H⟩ := zbind H
    refine z_getR (pc := 22) dX0_add_22 fd_X0_17 er6 ?_
    refine z_aload_n (pc := 25) 0 dX0_add_25 rfl rfl ?_
    obtain ⟨x7, ex7, H⟩ := zbind H
    refine z_getI (pc := 26) dX0_add_26 fd_X0_31 ex7 ?_
    refine z_iload_n (pc := 29) 2 dX0_add_29 rfl rfl ?_
    obtain ⟨h8, eh8, H⟩ := zbind H
    refine z_iastore (pc := 30) dX0_add_30 eh8 ?_
    refine z_aload_n (pc := 31) 0 dX0_add_31 rfl rfl ?_
    obtain ⟨r9, er9, H⟩ := zbind H
    refine z_getR (pc := 32) dX0_add_32 fd_X0_21 er9 ?_
    refine z_aload_n (pc := 35) 0 dX0_add_35 rfl rfl ?_
    obtain ⟨x10, ex10, H⟩ := zbind H
    refine z_getI (pc := 36) dX0_add_36 fd_X0_31 ex10 ?_
    refine z_iload_n (pc := 39) 3 dX0_add_39 rfl rfl ?_
    obtain ⟨h11, eh11, H⟩ := zbind H
    refine z_zastore (pc := 40) dX0_add_40 eh11 ?_
    refine z_aload_n (pc := 41) 0 dX0_add_41 rfl rfl ?_
    refine z_dup (pc := 42) dX0_add_42 rfl ?_
    obtain ⟨x12, ex12, H⟩ := zbind H
    refine z_getI (pc := 43) dX0_add_43 fd_X0_31 ex12 ?_
    refine z_iconst (pc := 46) (x := 1) dX0_add_46 zc_iconst_1 ?_
    refine z_iadd (pc := 47) dX0_add_47 ?_
    obtain ⟨h13, eh13, H⟩ := zbind H
    refine z_put (pc := 48) dX0_add_48 fd_X0_31 rfl rfl eh13 ?_
    refine z_iconst (pc := 51) (x := 1) dX0_add_51 zc_iconst_1 ?_
    cases H
    exact z_zreturn rfl dX0_add_52 (by decide)
  · rw [if_neg c2] at H
    refine z_iconst (pc := 9) (x := 0) dX0_add_9 zc_iconst_0 ?_
    cases H
    exact z_zreturn rfl dX0_add_10 (by decide)

def f_X0_toldBy_L4 (N : Nat) (v0 : Nat) (v1 : Int32) (h : zH) : Nat → Int32 → Int32 → Option (Int32)
  | 0, _, _ => none
  | n + 1, v2, v3 => (gI h v0 0 5).bind fun x1 => if x1 ≤ v3 then (some v2) else (if 80 ≤ v3 then (some v2) else ((gR h v0 0 1).bind fun r4 => (aI h r4 v3).bind fun x5 => if v1 < x5 then (f_X0_toldBy_L4 N v0 v1 h n v2 (v3 + 1)) else (f_X0_toldBy_L4 N v0 v1 h n (v2 + 1) (v3 + 1))))
set_option maxRecDepth 100000 in
set_option maxHeartbeats 4000000 in
theorem s_X0_toldBy_L4 {d mc ms N : Nat} {vv : Option Value} {hh : zH} {v0 : Nat} {v1 : Int32} {h : zH} (hd0 : 0 ≤ d) : ∀ (n : Nat) (v2 : Int32) (v3 : Int32) (m : Int32), f_X0_toldBy_L4 N v0 v1 h n v2 v3 = some m → (zW yX0_toldBy cX0_toldBy 4 (some .int) d mc ms 37 [(2, .int m)] [] h vv hh) → zW yX0_toldBy cX0_toldBy 4 (some .int) d mc ms 4 [(0, .ref v0), (1, .int v1), (2, .int v2), (3, .int v3)] [] h vv hh := by
  intro n
  induction n with
  | zero =>
    intro v2 v3 m H
    cases H
  | succ n ih =>
    intro v2 v3 m H KE
    unfold f_X0_toldBy_L4 at H
    refine z_iload_n (pc := 4) 3 dX0_toldBy_4 rfl rfl ?_
    refine z_aload_n (pc := 5) 0 dX0_toldBy_5 rfl rfl ?_
    obtain ⟨x1, ex1, H⟩ := zbind H
    refine z_getI (pc := 6) dX0_toldBy_6 fd_X0_31 ex1 ?_
    refine z_icmp_ge (pc := 9) 37 dX0_toldBy_9 (by decide) (fun c2 => ?_) (fun c2 => ?_)
    · rw [if_pos c2] at H
      cases H
      exact z_sub [2] rfl (KE)
    · rw [if_neg c2] at H
      refine z_iload_n (pc := 12) 3 dX0_toldBy_12 rfl rfl ?_
      refine z_bipush (pc := 13) (x := 80) dX0_toldBy_13 zc_bipush_80 ?_
      refine z_icmp_ge (pc := 15) 37 dX0_toldBy_15 (by decide) (fun c3 => ?_) (fun c3 => ?_)
      · rw [if_pos c3] at H
        cases H
        exact z_sub [2] rfl (KE)
      · rw [if_neg c3] at H
        refine z_aload_n (pc := 18) 0 dX0_toldBy_18 rfl rfl ?_
        obtain ⟨r4, er4, H⟩ := zbind H
        refine z_getR (pc := 19) dX0_toldBy_19 fd_X0_17 er4 ?_
        refine z_iload_n (pc := 22) 3 dX0_toldBy_22 rfl rfl ?_
        obtain ⟨x5, ex5, H⟩ := zbind H
        refine z_iaload (pc := 23) dX0_toldBy_23 ex5 ?_
        refine z_iload_n (pc := 24) 1 dX0_toldBy_24 rfl rfl ?_
        refine z_icmp_gt (pc := 25) 31 dX0_toldBy_25 (by decide) (fun c6 => ?_) (fun c6 => ?_)
        · rw [if_pos c6] at H
          refine z_iinc (pc := 31) (x' := v3 + 1) (lv' := [(3, .int (v3 + 1)), (0, .ref v0), (1, .int v1), (2, .int v2)]) 3 dX0_toldBy_31 rfl (by rfl) (by decide) rfl ?_
          refine z_goto (pc := 34) 4 dX0_toldBy_34 (by decide) ?_
          exact z_sub [1, 2, 3, 0] rfl (ih v2 (v3 + 1) _ H KE)
        · rw [if_neg c6] at H
          refine z_iinc (pc := 28) (x' := v2 + 1) (lv' := [(2, .int (v2 + 1)), (0, .ref v0), (1, .int v1), (3, .int v3)]) 2 dX0_toldBy_28 rfl (by rfl) (by decide) rfl ?_
          refine z_iinc (pc := 31) (x' := v3 + 1) (lv' := [(3, .int (v3 + 1)), (2, .int (v2 + 1)), (0, .ref v0), (1, .int v1)]) 3 dX0_toldBy_31 rfl (by rfl) (by decide) rfl ?_
          refine z_goto (pc := 34) 4 dX0_toldBy_34 (by decide) ?_
          exact z_sub [2, 3, 1, 0] rfl (ih (v2 + 1) (v3 + 1) _ H KE)
def f_X0_toldBy (N : Nat) (v0 : Nat) (v1 : Int32) (h : zH) : Option (Int32) := (f_X0_toldBy_L4 N v0 v1 h N 0 0).bind fun m7 => some m7
set_option maxRecDepth 100000 in
set_option maxHeartbeats 4000000 in
theorem k_X0_toldBy {N : Nat} {v0 : Nat} {v1 : Int32} {h : zH} {r : Int32} (H : f_X0_toldBy N v0 v1 h = some r) : zOk 0 0 0 yX0_toldBy cX0_toldBy 4 (some .int) [.ref v0, .int v1] h (some (.int r)) h := by
  refine zOk.of (by decide) (Nat.le_of_ble_eq_true rfl) ?_
  unfold f_X0_toldBy at H
  refine z_iconst (pc := 0) (x := 0) dX0_toldBy_0 zc_iconst_0 ?_
  refine z_istore_n (pc := 1) (lv' := [(2, .int 0), (0, .ref v0), (1, .int v1)]) dX0_toldBy_1 rfl (by decide) rfl ?_
  refine z_iconst (pc := 2) (x := 0) dX0_toldBy_2 zc_iconst_0 ?_
  refine z_istore_n (pc := 3) (lv' := [(3, .int 0), (2, .int 0), (0, .ref v0), (1, .int v1)]) dX0_toldBy_3 rfl (by decide) rfl ?_
  obtain ⟨m7, em7, H⟩ := zbind H
  refine z_sub [2, 3, 1, 0] rfl (s_X0_toldBy_L4 (by omega) N 0 0 _ em7 ?_)
  refine z_iload_n (pc := 37) 0 dX0_toldBy_37 rfl rfl ?_
  cases H
  exact z_ireturn rfl dX0_toldBy_38

theorem ml_X0_57 : Cond.methodLink RX0 57 arraycopyName ∈ zB := zmem 993 (by decide +kernel) rfl
theorem fd_X0_46 : zFd RX0 46 0 6 (.int) false "WhoseStreet$Bench" := zFd.of cl_0 (by decide) (zmem 365 (by decide +kernel) rfl) rfl rfl rfl
def f_X0_keepAll (N : Nat) (v0 : Nat) (h : zH) : Option (zH) := (gR h v0 0 3).bind fun r1 => (gR h v0 0 4).bind fun r2 => (cpI h r1 0 r2 0 128).bind fun h3 => (pF h3 v0 0 6 (.int 128)).bind fun h4 => some h4
set_option maxRecDepth 100000 in
set_option maxHeartbeats 4000000 in
theorem k_X0_keepAll {N : Nat} {v0 : Nat} {h : zH} {r : zH} (H : f_X0_keepAll N v0 h = some r) : zOk 1 0 0 yX0_keepAll cX0_keepAll 1 none [.ref v0] h none r := by
  refine zOk.of (by decide) (Nat.le_of_ble_eq_true rfl) ?_
  unfold f_X0_keepAll at H
  refine z_aload_n (pc := 0) 0 dX0_keepAll_0 rfl rfl ?_
  obtain ⟨r1, er1, H⟩ := zbind H
  refine z_getR (pc := 1) dX0_keepAll_1 fd_X0_25 er1 ?_
  refine z_iconst (pc := 4) (x := 0) dX0_keepAll_4 zc_iconst_0 ?_
  refine z_aload_n (pc := 5) 0 dX0_keepAll_5 rfl rfl ?_
  obtain ⟨r2, er2, H⟩ := zbind H
  refine z_getR (pc := 6) dX0_keepAll_6 fd_X0_28 er2 ?_
  refine z_iconst (pc := 9) (x := 0) dX0_keepAll_9 zc_iconst_0 ?_
  refine z_sipush (pc := 10) (x := 128) dX0_keepAll_10 zc_sipush_128 ?_
  obtain ⟨h3, eh3, H⟩ := zbind H
  refine z_copyi (pc := 13) dX0_keepAll_13 ml_X0_57 ay_1 ay_2 ay_3 (by omega) (Nat.le_of_ble_eq_true rfl) eh3 ?_
  refine z_aload_n (pc := 16) 0 dX0_keepAll_16 rfl rfl ?_
  refine z_sipush (pc := 17) (x := 128) dX0_keepAll_17 zc_sipush_128 ?_
  obtain ⟨h4, eh4, H⟩ := zbind H
  refine z_put (pc := 20) dX0_keepAll_20 fd_X0_46 rfl rfl eh4 ?_
  cases H
  exact z_return rfl dX0_keepAll_23

def p_X11_within (v0 : Int32) (v1 : Int32) (v2 : Int32) : Int32 := if v0 < v1 then (0) else (if v2 < v0 then (0) else (1))
set_option maxRecDepth 100000 in
set_option maxHeartbeats 4000000 in
theorem k_X11_within (v0 : Int32) (v1 : Int32) (v2 : Int32) (h : zH) (r : Int32) (H : p_X11_within v0 v1 v2 = r) : zOk 0 0 0 yX11_within cX11_within 3 (some .boolean) [.int v0, .int v1, .int v2] h (some (.int r)) h := by
  refine zOk.of (by decide) (Nat.le_of_ble_eq_true rfl) ?_
  unfold p_X11_within at H
  refine z_iload_n (pc := 0) 0 dX11_within_0 rfl rfl ?_
  refine z_iload_n (pc := 1) 1 dX11_within_1 rfl rfl ?_
  refine z_icmp_lt (pc := 2) 14 dX11_within_2 (by decide) (fun c1 => ?_) (fun c1 => ?_)
  · rw [if_pos c1] at H
    refine z_iconst (pc := 14) (x := 0) dX11_within_14 zc_iconst_0 ?_
    subst H
    exact z_zreturn rfl dX11_within_15 (by decide)
  · rw [if_neg c1] at H
    refine z_iload_n (pc := 5) 0 dX11_within_5 rfl rfl ?_
    refine z_iload_n (pc := 6) 2 dX11_within_6 rfl rfl ?_
    refine z_icmp_gt (pc := 7) 14 dX11_within_7 (by decide) (fun c2 => ?_) (fun c2 => ?_)
    · rw [if_pos c2] at H
      refine z_iconst (pc := 14) (x := 0) dX11_within_14 zc_iconst_0 ?_
      subst H
      exact z_zreturn rfl dX11_within_15 (by decide)
    · rw [if_neg c2] at H
      refine z_iconst (pc := 10) (x := 1) dX11_within_10 zc_iconst_1 ?_
      refine z_goto (pc := 11) 15 dX11_within_11 (by decide) ?_
      subst H
      exact z_zreturn rfl dX11_within_15 (by decide)

def p_X6_bit (v0 : Int32) (v1 : Int32) : Int32 := if v1 = 0 then (0) else (1 <<< (v0 &&& 31))
set_option maxRecDepth 100000 in
set_option maxHeartbeats 4000000 in
theorem k_X6_bit (v0 : Int32) (v1 : Int32) (h : zH) (r : Int32) (H : p_X6_bit v0 v1 = r) : zOk 0 0 0 yX6_bit cX6_bit 2 (some .int) [.int v0, .int v1] h (some (.int r)) h := by
  refine zOk.of (by decide) (Nat.le_of_ble_eq_true rfl) ?_
  unfold p_X6_bit at H
  refine z_iload_n (pc := 0) 1 dX6_bit_0 rfl rfl ?_
  refine z_if_eq (pc := 1) 10 dX6_bit_1 (by decide) (fun c1 => ?_) (fun c1 => ?_)
  · rw [if_pos c1] at H
    refine z_iconst (pc := 10) (x := 0) dX6_bit_10 zc_iconst_0 ?_
    subst H
    exact z_ireturn rfl dX6_bit_11
  · rw [if_neg c1] at H
    refine z_iconst (pc := 4) (x := 1) dX6_bit_4 zc_iconst_1 ?_
    refine z_iload_n (pc := 5) 0 dX6_bit_5 rfl rfl ?_
    refine z_ishl (pc := 6) dX6_bit_6 ?_
    refine z_goto (pc := 7) 11 dX6_bit_7 (by decide) ?_
    subst H
    exact z_ireturn rfl dX6_bit_11

theorem zc_bipush_60 : (Int8.ofInt (60)).toInt32 = (60 : Int32) := by decide
theorem fd_X6_37 : zFd RX6 37 6 11 (.int) false "WhoseStreet$Meeting" := zFd.of cl_6 (by decide) (zmem 587 (by decide +kernel) rfl) rfl rfl rfl
def f_X6_end (N : Nat) (v0 : Nat) (h : zH) : Option (Int32) := (gI h v0 6 11).bind fun x1 => if x1 = (-1) then (some 60) else ((gI h v0 6 11).bind fun x3 => some x3)
set_option maxRecDepth 100000 in
set_option maxHeartbeats 4000000 in
theorem k_X6_end {N : Nat} {v0 : Nat} {h : zH} {r : Int32} (H : f_X6_end N v0 h = some r) : zOk 0 0 0 yX6_end cX6_end 1 (some .int) [.ref v0] h (some (.int r)) h := by
  refine zOk.of (by decide) (Nat.le_of_ble_eq_true rfl) ?_
  unfold f_X6_end at H
  refine z_aload_n (pc := 0) 0 dX6_end_0 rfl rfl ?_
  obtain ⟨x1, ex1, H⟩ := zbind H
  refine z_getI (pc := 1) dX6_end_1 fd_X6_37 ex1 ?_
  refine z_iconst (pc := 4) (x := (-1)) dX6_end_4 zc_iconst_m1 ?_
  refine z_icmp_ne (pc := 5) 13 dX6_end_5 (by decide) (fun c2 => ?_) (fun c2 => ?_)
  · rw [if_neg c2] at H
    refine z_aload_n (pc := 13) 0 dX6_end_13 rfl rfl ?_
    obtain ⟨x3, ex3, H⟩ := zbind H
    refine z_getI (pc := 14) dX6_end_14 fd_X6_37 ex3 ?_
    cases H
    exact z_ireturn rfl dX6_end_17
  · rw [if_pos c2] at H
    refine z_bipush (pc := 8) (x := 60) dX6_end_8 zc_bipush_60 ?_
    refine z_goto (pc := 10) 17 dX6_end_10 (by decide) ?_
    cases H
    exact z_ireturn rfl dX6_end_17

theorem fd_X6_42 : zFd RX6 42 6 12 (.int) false "WhoseStreet$Meeting" := zFd.of cl_6 (by decide) (zmem 591 (by decide +kernel) rfl) rfl rfl rfl
theorem md_X6_end : zMd yX6_end cX6_end 1 0 (some .int) := ⟨zmw (zmt_3 _ (List.mem_of_getElem? (i := 100) rfl)) rfl, zmem 128 (by decide +kernel) rfl, by decide, by decide, by decide +kernel, by decide⟩
theorem ml_X6_45 : Cond.methodLink RX6 45 yX6_end ∈ zB := zmem 688 (by decide +kernel) rfl
theorem im_X6_end : Cond.instanceMethod yX6_end ∈ zB := zmem 689 (by decide +kernel) rfl
theorem se_X6_end : Cond.selects yX6_end.cls yX6_end yX6_end ∈ zB := zmem 690 (by decide +kernel) rfl
def f_X6_seen (N : Nat) (v0 : Nat) (h : zH) : Option (Int32) := (gI h v0 6 12).bind fun x1 => if x1 = (-1) then (some 0) else (zif (zob h v0 6) <| (f_X6_end N v0 h).bind fun q4 => (gI h v0 6 12).bind fun x5 => some (q4 - x5))
set_option maxRecDepth 100000 in
set_option maxHeartbeats 4000000 in
theorem k_X6_seen {N : Nat} {v0 : Nat} {h : zH} {r : Int32} (H : f_X6_seen N v0 h = some r) : zOk 1 0 0 yX6_seen cX6_seen 1 (some .int) [.ref v0] h (some (.int r)) h := by
  refine zOk.of (by decide) (Nat.le_of_ble_eq_true rfl) ?_
  unfold f_X6_seen at H
  refine z_aload_n (pc := 0) 0 dX6_seen_0 rfl rfl ?_
  obtain ⟨x1, ex1, H⟩ := zbind H
  refine z_getI (pc := 1) dX6_seen_1 fd_X6_42 ex1 ?_
  refine z_iconst (pc := 4) (x := (-1)) dX6_seen_4 zc_iconst_m1 ?_
  refine z_icmp_ne (pc := 5) 12 dX6_seen_5 (by decide) (fun c2 => ?_) (fun c2 => ?_)
  · rw [if_neg c2] at H
    refine z_aload_n (pc := 12) 0 dX6_seen_12 rfl rfl ?_
    obtain ⟨z3, H⟩ := zifE H
    obtain ⟨q4, eq4, H⟩ := zbind H
    refine z_callV (pc := 13) (mc := 0) (ms := 0) (d' := 0) (mc' := 0) (ms' := 0) (rest := []) [] dX6_seen_13 md_X6_end ml_X6_45 im_X6_end se_X6_end rfl z3 rfl rfl (Nat.le_of_ble_eq_true rfl) (by omega) (k_X6_end eq4) ?_
    refine z_aload_n (pc := 16) 0 dX6_seen_16 rfl rfl ?_
    obtain ⟨x5, ex5, H⟩ := zbind H
    refine z_getI (pc := 17) dX6_seen_17 fd_X6_42 ex5 ?_
    refine z_isub (pc := 20) dX6_seen_20 ?_
    cases H
    exact z_ireturn rfl dX6_seen_21
  · rw [if_pos c2] at H
    refine z_iconst (pc := 8) (x := 0) dX6_seen_8 zc_iconst_0 ?_
    refine z_goto (pc := 9) 21 dX6_seen_9 (by decide) ?_
    cases H
    exact z_ireturn rfl dX6_seen_21

theorem zc_bipush_100 : (Int8.ofInt (100)).toInt32 = (100 : Int32) := by decide
theorem zc_iconst_3 : Int32.ofInt (3) = (3 : Int32) := by decide
theorem zc_iconst_5 : Int32.ofInt (5) = (5 : Int32) := by decide
theorem zc_bipush_6 : (Int8.ofInt (6)).toInt32 = (6 : Int32) := by decide
theorem zc_bipush_7 : (Int8.ofInt (7)).toInt32 = (7 : Int32) := by decide
theorem zc_bipush_10 : (Int8.ofInt (10)).toInt32 = (10 : Int32) := by decide
theorem fd_X6_18 : zFd RX6 18 6 1 (.int) true "WhoseStreet$Meeting" := zFd.of cl_6 (by decide) (zmem 565 (by decide +kernel) rfl) rfl rfl rfl
theorem md_X6_bit : zMd yX6_bit cX6_bit 2 2 (some .int) := ⟨zmw (zmt_3 _ (List.mem_of_getElem? (i := 107) rfl)) rfl, zmem 128 (by decide +kernel) rfl, by decide, by decide, by decide +kernel, by decide⟩
theorem ml_X6_49 : Cond.methodLink RX6 49 yX6_bit ∈ zB := zmem 696 (by decide +kernel) rfl
theorem sm_X6_bit : Cond.static yX6_bit ∈ zB := zmem 697 (by decide +kernel) rfl
theorem fd_X6_34 : zFd RX6 34 6 6 (.int) true "WhoseStreet$Meeting" := zFd.of cl_6 (by decide) (zmem 576 (by decide +kernel) rfl) rfl rfl rfl
theorem md_X6_seen : zMd yX6_seen cX6_seen 1 0 (some .int) := ⟨zmw (zmt_3 _ (List.mem_of_getElem? (i := 96) rfl)) rfl, zmem 128 (by decide +kernel) rfl, by decide, by decide, by decide +kernel, by decide⟩
theorem ml_X6_53 : Cond.methodLink RX6 53 yX6_seen ∈ zB := zmem 699 (by decide +kernel) rfl
theorem im_X6_seen : Cond.instanceMethod yX6_seen ∈ zB := zmem 685 (by decide +kernel) rfl
theorem se_X6_seen : Cond.selects yX6_seen.cls yX6_seen yX6_seen ∈ zB := zmem 686 (by decide +kernel) rfl
theorem fd_X6_30 : zFd RX6 30 6 5 (.boolean) true "WhoseStreet$Meeting" := zFd.of cl_6 (by decide) (zmem 574 (by decide +kernel) rfl) rfl rfl rfl
theorem fd_X6_56 : zFd RX6 56 6 7 (.int) false "WhoseStreet$Meeting" := zFd.of cl_6 (by decide) (zmem 577 (by decide +kernel) rfl) rfl rfl rfl
theorem fd_X6_59 : zFd RX6 59 6 9 (.int) false "WhoseStreet$Meeting" := zFd.of cl_6 (by decide) (zmem 582 (by decide +kernel) rfl) rfl rfl rfl
theorem fd_X6_9 : zFd RX6 9 6 10 (.int) false "WhoseStreet$Meeting" := zFd.of cl_6 (by decide) (zmem 585 (by decide +kernel) rfl) rfl rfl rfl
def f_X6_signs (N : Nat) (v0 : Nat) (h : zH) : Option (Int32) := (gI h v0 6 1).bind fun x1 => (if x1 ≤ 100 then (some 0) else (some 1) : Option (Int32)).bind fun m2 => (gI h v0 6 6).bind fun x4 => (if x4 = 1 then (some 1) else (some 0) : Option (Int32)).bind fun m5 => (gI h v0 6 6).bind fun x7 => (if x7 = 2 then (some 1) else (some 0) : Option (Int32)).bind fun m8 => zif (zob h v0 6) <| (f_X6_seen N v0 h).bind fun q11 => (if q11 < 2 then (some 0) else (some 1) : Option (Int32)).bind fun m12 => (gI h v0 6 5).bind fun x14 => (gI h v0 6 7).bind fun x15 => (if x15 = 0 then (some 0) else (some 1) : Option (Int32)).bind fun m16 => (gI h v0 6 9).bind fun x18 => (if x18 = 0 then (some 0) else (some 1) : Option (Int32)).bind fun m19 => (gI h v0 6 10).bind fun x21 => (if 10 ≤ x21 then (some 0) else (some 1) : Option (Int32)).bind fun m22 => some ((((((((p_X6_bit 0 m2) ||| (p_X6_bit 1 m5)) ||| (p_X6_bit 2 m8)) ||| (p_X6_bit 3 m12)) ||| (p_X6_bit 4 x14)) ||| (p_X6_bit 5 m16)) ||| (p_X6_bit 6 m19)) ||| (p_X6_bit 7 m22))
set_option maxRecDepth 100000 in
set_option maxHeartbeats 4000000 in
theorem k_X6_signs {N : Nat} {v0 : Nat} {h : zH} {r : Int32} (H : f_X6_signs N v0 h = some r) : zOk 2 0 0 yX6_signs cX6_signs 1 (some .int) [.ref v0] h (some (.int r)) h := by
  refine zOk.of (by decide) (Nat.le_of_ble_eq_true rfl) ?_
  unfold f_X6_signs at H
  refine z_iconst (pc := 0) (x := 0) dX6_signs_0 zc_iconst_0 ?_
  refine z_aload_n (pc := 1) 0 dX6_signs_1 rfl rfl ?_
  obtain ⟨x1, ex1, H⟩ := zbind H
  refine z_getI (pc := 2) dX6_signs_2 fd_X6_18 ex1 ?_
  refine z_bipush (pc := 5) (x := 100) dX6_signs_5 zc_bipush_100 ?_
  obtain ⟨m2, em2, H⟩ := zbind H
  have Jm2 : zW yX6_signs cX6_signs 1 (some .int) 2 0 0 15 [(0, .ref v0)] [.int m2, .int 0] h (some (.int r)) h := by
    refine z_callS (pc := 15) (mc := 0) (ms := 0) (d' := 0) (mc' := 0) (ms' := 0) (rest := []) [.int 0, .int m2] dX6_signs_15 md_X6_bit ml_X6_49 sm_X6_bit rfl rfl (Nat.le_of_ble_eq_true rfl) (by omega) (k_X6_bit 0 m2 h _ rfl) ?_
    refine z_iconst (pc := 18) (x := 1) dX6_signs_18 zc_iconst_1 ?_
    refine z_aload_n (pc := 19) 0 dX6_signs_19 rfl rfl ?_
    obtain ⟨x4, ex4, H⟩ := zbind H
    refine z_getI (pc := 20) dX6_signs_20 fd_X6_34 ex4 ?_
    refine z_iconst (pc := 23) (x := 1) dX6_signs_23 zc_iconst_1 ?_
    obtain ⟨m5, em5, H⟩ := zbind H
    have Jm5 : zW yX6_signs cX6_signs 1 (some .int) 2 0 0 32 [(0, .ref v0)] [.int m5, .int 1, .int (p_X6_bit 0 m2)] h (some (.int r)) h := by
      refine z_callS (pc := 32) (mc := 0) (ms := 0) (d' := 0) (mc' := 0) (ms' := 0) (rest := [.int (p_X6_bit 0 m2)]) [.int 1, .int m5] dX6_signs_32 md_X6_bit ml_X6_49 sm_X6_bit rfl rfl (Nat.le_of_ble_eq_true rfl) (by omega) (k_X6_bit 1 m5 h _ rfl) ?_
      refine z_ior (pc := 35) dX6_signs_35 ?_
      refine z_iconst (pc := 36) (x := 2) dX6_signs_36 zc_iconst_2 ?_
      refine z_aload_n (pc := 37) 0 dX6_signs_37 rfl rfl ?_
      obtain ⟨x7, ex7, H⟩ := zbind H
      refine z_getI (pc := 38) dX6_signs_38 fd_X6_34 ex7 ?_
      refine z_iconst (pc := 41) (x := 2) dX6_signs_41 zc_iconst_2 ?_
      obtain ⟨m8, em8, H⟩ := zbind H
      have Jm8 : zW yX6_signs cX6_signs 1 (some .int) 2 0 0 50 [(0, .ref v0)] [.int m8, .int 2, .int ((p_X6_bit 0 m2) ||| (p_X6_bit 1 m5))] h (some (.int r)) h := by
        refine z_callS (pc := 50) (mc := 0) (ms := 0) (d' := 0) (mc' := 0) (ms' := 0) (rest := [.int ((p_X6_bit 0 m2) ||| (p_X6_bit 1 m5))]) [.int 2, .int m8] dX6_signs_50 md_X6_bit ml_X6_49 sm_X6_bit rfl rfl (Nat.le_of_ble_eq_true rfl) (by omega) (k_X6_bit 2 m8 h _ rfl) ?_
        refine z_ior (pc := 53) dX6_signs_53 ?_
        refine z_iconst (pc := 54) (x := 3) dX6_signs_54 zc_iconst_3 ?_
        refine z_aload_n (pc := 55) 0 dX6_signs_55 rfl rfl ?_
        obtain ⟨z10, H⟩ := zifE H
        obtain ⟨q11, eq11, H⟩ := zbind H
        refine z_callV (pc := 56) (mc := 0) (ms := 0) (d' := 1) (mc' := 0) (ms' := 0) (rest := [.int 3, .int (((p_X6_bit 0 m2) ||| (p_X6_bit 1 m5)) ||| (p_X6_bit 2 m8))]) [] dX6_signs_56 md_X6_seen ml_X6_53 im_X6_seen se_X6_seen rfl z10 rfl rfl (Nat.le_of_ble_eq_true rfl) (by omega) (k_X6_seen eq11) ?_
        refine z_iconst (pc := 59) (x := 2) dX6_signs_59 zc_iconst_2 ?_
        obtain ⟨m12, em12, H⟩ := zbind H
        have Jm12 : zW yX6_signs cX6_signs 1 (some .int) 2 0 0 68 [(0, .ref v0)] [.int m12, .int 3, .int (((p_X6_bit 0 m2) ||| (p_X6_bit 1 m5)) ||| (p_X6_bit 2 m8))] h (some (.int r)) h := by
          refine z_callS (pc := 68) (mc := 0) (ms := 0) (d' := 0) (mc' := 0) (ms' := 0) (rest := [.int (((p_X6_bit 0 m2) ||| (p_X6_bit 1 m5)) ||| (p_X6_bit 2 m8))]) [.int 3, .int m12] dX6_signs_68 md_X6_bit ml_X6_49 sm_X6_bit rfl rfl (Nat.le_of_ble_eq_true rfl) (by omega) (k_X6_bit 3 m12 h _ rfl) ?_
          refine z_ior (pc := 71) dX6_signs_71 ?_
          refine z_iconst (pc := 72) (x := 4) dX6_signs_72 zc_iconst_4 ?_
          refine z_aload_n (pc := 73) 0 dX6_signs_73 rfl rfl ?_
          obtain ⟨x14, ex14, H⟩ := zbind H
          refine z_getI (pc := 74) dX6_signs_74 fd_X6_30 ex14 ?_
          refine z_callS (pc := 77) (mc := 0) (ms := 0) (d' := 0) (mc' := 0) (ms' := 0) (rest := [.int ((((p_X6_bit 0 m2) ||| (p_X6_bit 1 m5)) ||| (p_X6_bit 2 m8)) ||| (p_X6_bit 3 m12))]) [.int 4, .int x14] dX6_signs_77 md_X6_bit ml_X6_49 sm_X6_bit rfl rfl (Nat.le_of_ble_eq_true rfl) (by omega) (k_X6_bit 4 x14 h _ rfl) ?_
          refine z_ior (pc := 80) dX6_signs_80 ?_
          refine z_iconst (pc := 81) (x := 5) dX6_signs_81 zc_iconst_5 ?_
          refine z_aload_n (pc := 82) 0 dX6_signs_82 rfl rfl ?_
          obtain ⟨x15, ex15, H⟩ := zbind H
          refine z_getI (pc := 83) dX6_signs_83 fd_X6_56 ex15 ?_
          obtain ⟨m16, em16, H⟩ := zbind H
          have Jm16 : zW yX6_signs cX6_signs 1 (some .int) 2 0 0 94 [(0, .ref v0)] [.int m16, .int 5, .int (((((p_X6_bit 0 m2) ||| (p_X6_bit 1 m5)) ||| (p_X6_bit 2 m8)) ||| (p_X6_bit 3 m12)) ||| (p_X6_bit 4 x14))] h (some (.int r)) h := by
            refine z_callS (pc := 94) (mc := 0) (ms := 0) (d' := 0) (mc' := 0) (ms' := 0) (rest := [.int (((((p_X6_bit 0 m2) ||| (p_X6_bit 1 m5)) ||| (p_X6_bit 2 m8)) ||| (p_X6_bit 3 m12)) ||| (p_X6_bit 4 x14))]) [.int 5, .int m16] dX6_signs_94 md_X6_bit ml_X6_49 sm_X6_bit rfl rfl (Nat.le_of_ble_eq_true rfl) (by omega) (k_X6_bit 5 m16 h _ rfl) ?_
            refine z_ior (pc := 97) dX6_signs_97 ?_
            refine z_bipush (pc := 98) (x := 6) dX6_signs_98 zc_bipush_6 ?_
            refine z_aload_n (pc := 100) 0 dX6_signs_100 rfl rfl ?_
            obtain ⟨x18, ex18, H⟩ := zbind H
            refine z_getI (pc := 101) dX6_signs_101 fd_X6_59 ex18 ?_
            obtain ⟨m19, em19, H⟩ := zbind H
            have Jm19 : zW yX6_signs cX6_signs 1 (some .int) 2 0 0 112 [(0, .ref v0)] [.int m19, .int 6, .int ((((((p_X6_bit 0 m2) ||| (p_X6_bit 1 m5)) ||| (p_X6_bit 2 m8)) ||| (p_X6_bit 3 m12)) ||| (p_X6_bit 4 x14)) ||| (p_X6_bit 5 m16))] h (some (.int r)) h := by
              refine z_callS (pc := 112) (mc := 0) (ms := 0) (d' := 0) (mc' := 0) (ms' := 0) (rest := [.int ((((((p_X6_bit 0 m2) ||| (p_X6_bit 1 m5)) ||| (p_X6_bit 2 m8)) ||| (p_X6_bit 3 m12)) ||| (p_X6_bit 4 x14)) ||| (p_X6_bit 5 m16))]) [.int 6, .int m19] dX6_signs_112 md_X6_bit ml_X6_49 sm_X6_bit rfl rfl (Nat.le_of_ble_eq_true rfl) (by omega) (k_X6_bit 6 m19 h _ rfl) ?_
              refine z_ior (pc := 115) dX6_signs_115 ?_
              refine z_bipush (pc := 116) (x := 7) dX6_signs_116 zc_bipush_7 ?_
              refine z_aload_n (pc := 118) 0 dX6_signs_118 rfl rfl ?_
              obtain ⟨x21, ex21, H⟩ := zbind H
              refine z_getI (pc := 119) dX6_signs_119 fd_X6_9 ex21 ?_
              refine z_bipush (pc := 122) (x := 10) dX6_signs_122 zc_bipush_10 ?_
              obtain ⟨m22, em22, H⟩ := zbind H
              have Jm22 : zW yX6_signs cX6_signs 1 (some .int) 2 0 0 132 [] [.int m22, .int 7, .int (((((((p_X6_bit 0 m2) ||| (p_X6_bit 1 m5)) ||| (p_X6_bit 2 m8)) ||| (p_X6_bit 3 m12)) ||| (p_X6_bit 4 x14)) ||| (p_X6_bit 5 m16)) ||| (p_X6_bit 6 m19))] h (some (.int r)) h := by
                refine z_callS (pc := 132) (mc := 0) (ms := 0) (d' := 0) (mc' := 0) (ms' := 0) (rest := [.int (((((((p_X6_bit 0 m2) ||| (p_X6_bit 1 m5)) ||| (p_X6_bit 2 m8)) ||| (p_X6_bit 3 m12)) ||| (p_X6_bit 4 x14)) ||| (p_X6_bit 5 m16)) ||| (p_X6_bit 6 m19))]) [.int 7, .int m22] dX6_signs_132 md_X6_bit ml_X6_49 sm_X6_bit rfl rfl (Nat.le_of_ble_eq_true rfl) (by omega) (k_X6_bit 7 m22 h _ rfl) ?_
                refine z_ior (pc := 135) dX6_signs_135 ?_
                cases H
                exact z_ireturn rfl dX6_signs_136
              refine z_icmp_ge (pc := 124) 131 dX6_signs_124 (by decide) (fun c23 => ?_) (fun c23 => ?_)
              · rw [if_pos c23] at em22
                refine z_iconst (pc := 131) (x := 0) dX6_signs_131 zc_iconst_0 ?_
                cases em22
                exact z_sub [] rfl Jm22
              · rw [if_neg c23] at em22
                refine z_iconst (pc := 127) (x := 1) dX6_signs_127 zc_iconst_1 ?_
                refine z_goto (pc := 128) 132 dX6_signs_128 (by decide) ?_
                cases em22
                exact z_sub [] rfl Jm22
            refine z_if_eq (pc := 104) 111 dX6_signs_104 (by decide) (fun c20 => ?_) (fun c20 => ?_)
            · rw [if_pos c20] at em19
              refine z_iconst (pc := 111) (x := 0) dX6_signs_111 zc_iconst_0 ?_
              cases em19
              exact z_sub [0] rfl Jm19
            · rw [if_neg c20] at em19
              refine z_iconst (pc := 107) (x := 1) dX6_signs_107 zc_iconst_1 ?_
              refine z_goto (pc := 108) 112 dX6_signs_108 (by decide) ?_
              cases em19
              exact z_sub [0] rfl Jm19
          refine z_if_eq (pc := 86) 93 dX6_signs_86 (by decide) (fun c17 => ?_) (fun c17 => ?_)
          · rw [if_pos c17] at em16
            refine z_iconst (pc := 93) (x := 0) dX6_signs_93 zc_iconst_0 ?_
            cases em16
            exact z_sub [0] rfl Jm16
          · rw [if_neg c17] at em16
            refine z_iconst (pc := 89) (x := 1) dX6_signs_89 zc_iconst_1 ?_
            refine z_goto (pc := 90) 94 dX6_signs_90 (by decide) ?_
            cases em16
            exact z_sub [0] rfl Jm16
        refine z_icmp_lt (pc := 60) 67 dX6_signs_60 (by decide) (fun c13 => ?_) (fun c13 => ?_)
        · rw [if_pos c13] at em12
          refine z_iconst (pc := 67) (x := 0) dX6_signs_67 zc_iconst_0 ?_
          cases em12
          exact z_sub [0] rfl Jm12
        · rw [if_neg c13] at em12
          refine z_iconst (pc := 63) (x := 1) dX6_signs_63 zc_iconst_1 ?_
          refine z_goto (pc := 64) 68 dX6_signs_64 (by decide) ?_
          cases em12
          exact z_sub [0] rfl Jm12
      refine z_icmp_ne (pc := 42) 49 dX6_signs_42 (by decide) (fun c9 => ?_) (fun c9 => ?_)
      · rw [if_neg c9] at em8
        refine z_iconst (pc := 49) (x := 0) dX6_signs_49 zc_iconst_0 ?_
        cases em8
        exact z_sub [0] rfl Jm8
      · rw [if_pos c9] at em8
        refine z_iconst (pc := 45) (x := 1) dX6_signs_45 zc_iconst_1 ?_
        refine z_goto (pc := 46) 50 dX6_signs_46 (by decide) ?_
        cases em8
        exact z_sub [0] rfl Jm8
    refine z_icmp_ne (pc := 24) 31 dX6_signs_24 (by decide) (fun c6 => ?_) (fun c6 => ?_)
    · rw [if_neg c6] at em5
      refine z_iconst (pc := 31) (x := 0) dX6_signs_31 zc_iconst_0 ?_
      cases em5
      exact z_sub [0] rfl Jm5
    · rw [if_pos c6] at em5
      refine z_iconst (pc := 27) (x := 1) dX6_signs_27 zc_iconst_1 ?_
      refine z_goto (pc := 28) 32 dX6_signs_28 (by decide) ?_
      cases em5
      exact z_sub [0] rfl Jm5
  refine z_icmp_le (pc := 7) 14 dX6_signs_7 (by decide) (fun c3 => ?_) (fun c3 => ?_)
  · rw [if_pos c3] at em2
    refine z_iconst (pc := 14) (x := 0) dX6_signs_14 zc_iconst_0 ?_
    cases em2
    exact z_sub [0] rfl Jm2
  · rw [if_neg c3] at em2
    refine z_iconst (pc := 10) (x := 1) dX6_signs_10 zc_iconst_1 ?_
    refine z_goto (pc := 11) 15 dX6_signs_11 (by decide) ?_
    cases em2
    exact z_sub [0] rfl Jm2

theorem md_X6_signs : zMd yX6_signs cX6_signs 1 0 (some .int) := ⟨zmw (zmt_3 _ (List.mem_of_getElem? (i := 104) rfl)) rfl, zmem 128 (by decide +kernel) rfl, by decide, by decide, by decide +kernel, by decide⟩
theorem ml_X6_62 : Cond.methodLink RX6 62 yX6_signs ∈ zB := zmem 1003 (by decide +kernel) rfl
theorem im_X6_signs : Cond.instanceMethod yX6_signs ∈ zB := zmem 693 (by decide +kernel) rfl
theorem se_X6_signs : Cond.selects yX6_signs.cls yX6_signs yX6_signs ∈ zB := zmem 694 (by decide +kernel) rfl
def f_X6_words (N : Nat) (v0 : Nat) (h : zH) : Option (Int32) := zif (zob h v0 6) <| (f_X6_signs N v0 h).bind fun q2 => some (q2 ||| (((q2 ^^^ (-1)) &&& 255) <<< (8 &&& 31)))
set_option maxRecDepth 100000 in
set_option maxHeartbeats 4000000 in
theorem k_X6_words {N : Nat} {v0 : Nat} {h : zH} {r : Int32} (H : f_X6_words N v0 h = some r) : zOk 3 0 0 yX6_words cX6_words 2 (some .int) [.ref v0] h (some (.int r)) h := by
  refine zOk.of (by decide) (Nat.le_of_ble_eq_true rfl) ?_
  unfold f_X6_words at H
  refine z_aload_n (pc := 0) 0 dX6_words_0 rfl rfl ?_
  obtain ⟨z1, H⟩ := zifE H
  obtain ⟨q2, eq2, H⟩ := zbind H
  refine z_callV (pc := 1) (mc := 0) (ms := 0) (d' := 2) (mc' := 0) (ms' := 0) (rest := []) [] dX6_words_1 md_X6_signs ml_X6_62 im_X6_signs se_X6_signs rfl z1 rfl rfl (Nat.le_of_ble_eq_true rfl) (by omega) (k_X6_signs eq2) ?_
  refine z_istore_n (pc := 4) (lv' := [(1, .int q2), (0, .ref v0)]) dX6_words_4 rfl (by decide) rfl ?_
  refine z_iload_n (pc := 5) 0 dX6_words_5 rfl rfl ?_
  refine z_iload_n (pc := 6) 0 dX6_words_6 rfl rfl ?_
  refine z_iconst (pc := 7) (x := (-1)) dX6_words_7 zc_iconst_m1 ?_
  refine z_ixor (pc := 8) dX6_words_8 ?_
  refine z_sipush (pc := 9) (x := 255) dX6_words_9 zc_sipush_255 ?_
  refine z_iand (pc := 12) dX6_words_12 ?_
  refine z_bipush (pc := 13) (x := 8) dX6_words_13 zc_bipush_8 ?_
  refine z_ishl (pc := 15) dX6_words_15 ?_
  refine z_ior (pc := 16) dX6_words_16 ?_
  cases H
  exact z_ireturn rfl dX6_words_17

def p_X0_isSo (v0 : Int32) (v1 : Int32) : Int32 := if (v1 &&& v0) = v0 then (1) else (0)
set_option maxRecDepth 100000 in
set_option maxHeartbeats 4000000 in
theorem k_X0_isSo (v0 : Int32) (v1 : Int32) (h : zH) (r : Int32) (H : p_X0_isSo v0 v1 = r) : zOk 0 0 0 yX0_isSo cX0_isSo 2 (some .boolean) [.int v0, .int v1] h (some (.int r)) h := by
  refine zOk.of (by decide) (Nat.le_of_ble_eq_true rfl) ?_
  unfold p_X0_isSo at H
  refine z_iload_n (pc := 0) 1 dX0_isSo_0 rfl rfl ?_
  refine z_iload_n (pc := 1) 0 dX0_isSo_1 rfl rfl ?_
  refine z_iand (pc := 2) dX0_isSo_2 ?_
  refine z_iload_n (pc := 3) 0 dX0_isSo_3 rfl rfl ?_
  refine z_icmp_ne (pc := 4) 11 dX0_isSo_4 (by decide) (fun c1 => ?_) (fun c1 => ?_)
  · rw [if_neg c1] at H
    refine z_iconst (pc := 11) (x := 0) dX0_isSo_11 zc_iconst_0 ?_
    subst H
    exact z_zreturn rfl dX0_isSo_12 (by decide)
  · rw [if_pos c1] at H
    refine z_iconst (pc := 7) (x := 1) dX0_isSo_7 zc_iconst_1 ?_
    refine z_goto (pc := 8) 12 dX0_isSo_8 (by decide) ?_
    subst H
    exact z_zreturn rfl dX0_isSo_12 (by decide)

theorem md_X0_isSo : zMd yX0_isSo cX0_isSo 2 2 (some .boolean) := ⟨zmw (zmt_4 _ (List.mem_of_getElem? (i := 179) rfl)) rfl, zmem 121 (by decide +kernel) rfl, by decide, by decide, by decide +kernel, by decide⟩
theorem ml_X0_49 : Cond.methodLink RX0 49 yX0_isSo ∈ zB := zmem 1008 (by decide +kernel) rfl
theorem sm_X0_isSo : Cond.static yX0_isSo ∈ zB := zmem 1009 (by decide +kernel) rfl
def f_X0_keepThoseOf_L5 (N : Nat) (v0 : Nat) (v1 : Int32) (v2 : Int32) : Nat → Int32 → Int32 → zH → Option (Int32 × zH)
  | 0, _, _, _ => none
  | n + 1, v3, v4, h => (gI h v0 0 6).bind fun x1 => if x1 ≤ v4 then (some (v3, h)) else (if 128 ≤ v4 then (some (v3, h)) else ((gR h v0 0 4).bind fun r4 => (aI h r4 v4).bind fun x5 => if (p_X0_isSo x5 v1) = v2 then ((gR h v0 0 4).bind fun r7 => (gR h v0 0 4).bind fun r8 => (aI h r8 v4).bind fun x9 => (sI h r7 v3 x9).bind fun h10 => f_X0_keepThoseOf_L5 N v0 v1 v2 n (v3 + 1) (v4 + 1) h10) else (f_X0_keepThoseOf_L5 N v0 v1 v2 n v3 (v4 + 1) h)))
set_option maxRecDepth 100000 in
set_option maxHeartbeats 4000000 in
theorem s_X0_keepThoseOf_L5 {d mc ms N : Nat} {vv : Option Value} {hh : zH} {v0 : Nat} {v1 : Int32} {v2 : Int32} (hd0 : 1 ≤ d) : ∀ (n : Nat) (v3 : Int32) (v4 : Int32) (h : zH) (m : Int32 × zH), f_X0_keepThoseOf_L5 N v0 v1 v2 n v3 v4 h = some m → (zW yX0_keepThoseOf cX0_keepThoseOf 5 none d mc ms 59 [(0, .ref v0), (3, .int m.1)] [] m.2 vv hh) → zW yX0_keepThoseOf cX0_keepThoseOf 5 none d mc ms 5 [(0, .ref v0), (1, .int v1), (2, .int v2), (3, .int v3), (4, .int v4)] [] h vv hh := by
  intro n
  induction n with
  | zero =>
    intro v3 v4 h m H
    cases H
  | succ n ih =>
    intro v3 v4 h m H KE
    unfold f_X0_keepThoseOf_L5 at H
    refine z_iload (pc := 5) 4 dX0_keepThoseOf_5 rfl ?_
    refine z_aload_n (pc := 7) 0 dX0_keepThoseOf_7 rfl rfl ?_
    obtain ⟨x1, ex1, H⟩ := zbind H
    refine z_getI (pc := 8) dX0_keepThoseOf_8 fd_X0_46 ex1 ?_
    refine z_icmp_ge (pc := 11) 59 dX0_keepThoseOf_11 (by decide) (fun c2 => ?_) (fun c2 => ?_)
    · rw [if_pos c2] at H
      cases H
      exact z_sub [0, 3] rfl (KE)
    · rw [if_neg c2] at H
      refine z_iload (pc := 14) 4 dX0_keepThoseOf_14 rfl ?_
      refine z_sipush (pc := 16) (x := 128) dX0_keepThoseOf_16 zc_sipush_128 ?_
      refine z_icmp_ge (pc := 19) 59 dX0_keepThoseOf_19 (by decide) (fun c3 => ?_) (fun c3 => ?_)
      · rw [if_pos c3] at H
        cases H
        exact z_sub [0, 3] rfl (KE)
      · rw [if_neg c3] at H
        refine z_aload_n (pc := 22) 0 dX0_keepThoseOf_22 rfl rfl ?_
        obtain ⟨r4, er4, H⟩ := zbind H
        refine z_getR (pc := 23) dX0_keepThoseOf_23 fd_X0_28 er4 ?_
        refine z_iload (pc := 26) 4 dX0_keepThoseOf_26 rfl ?_
        obtain ⟨x5, ex5, H⟩ := zbind H
        refine z_iaload (pc := 28) dX0_keepThoseOf_28 ex5 ?_
        refine z_iload_n (pc := 29) 1 dX0_keepThoseOf_29 rfl rfl ?_
        refine z_callS (pc := 30) (mc := mc) (ms := ms) (d' := 0) (mc' := 0) (ms' := 0) (rest := []) [.int x5, .int v1] dX0_keepThoseOf_30 md_X0_isSo ml_X0_49 sm_X0_isSo rfl rfl (Nat.le_of_ble_eq_true rfl) (by omega) (k_X0_isSo x5 v1 h _ rfl) ?_
        refine z_iload_n (pc := 33) 2 dX0_keepThoseOf_33 rfl rfl ?_
        refine z_icmp_ne (pc := 34) 53 dX0_keepThoseOf_34 (by decide) (fun c6 => ?_) (fun c6 => ?_)
        · rw [if_neg c6] at H
          refine z_iinc (pc := 53) (x' := v4 + 1) (lv' := [(4, .int (v4 + 1)), (0, .ref v0), (1, .int v1), (2, .int v2), (3, .int v3)]) 4 dX0_keepThoseOf_53 rfl (by rfl) (by decide) rfl ?_
          refine z_goto (pc := 56) 5 dX0_keepThoseOf_56 (by decide) ?_
          exact z_sub [1, 2, 3, 4, 0] rfl (ih v3 (v4 + 1) h _ H KE)
        · rw [if_pos c6] at H
          refine z_aload_n (pc := 37) 0 dX0_keepThoseOf_37 rfl rfl ?_
          obtain ⟨r7, er7, H⟩ := zbind H
          refine z_getR (pc := 38) dX0_keepThoseOf_38 fd_X0_28 er7 ?_
          refine z_iload_n (pc := 41) 3 dX0_keepThoseOf_41 rfl rfl ?_
          refine z_aload_n (pc := 42) 0 dX0_keepThoseOf_42 rfl rfl ?_
          obtain ⟨r8, er8, H⟩ := zbind H
          refine z_getR (pc := 43) dX0_keepThoseOf_43 fd_X0_28 er8 ?_
          refine z_iload (pc := 46) 4 dX0_keepThoseOf_46 rfl ?_
          obtain ⟨x9, ex9, H⟩ := zbind H
          refine z_iaload (pc := 48) dX0_keepThoseOf_48 ex9 ?_
          obtain ⟨h10, eh10, H⟩ := zbind H
          refine z_iastore (pc := 49) dX0_keepThoseOf_49 eh10 ?_
          refine z_iinc (pc := 50) (x' := v3 + 1) (lv' := [(3, .int (v3 + 1)), (0, .ref v0), (1, .int v1), (2, .int v2), (4, .int v4)]) 3 dX0_keepThoseOf_50 rfl (by rfl) (by decide) rfl ?_
          refine z_iinc (pc := 53) (x' := v4 + 1) (lv' := [(4, .int (v4 + 1)), (3, .int (v3 + 1)), (0, .ref v0), (1, .int v1), (2, .int v2)]) 4 dX0_keepThoseOf_53 rfl (by rfl) (by decide) rfl ?_
          refine z_goto (pc := 56) 5 dX0_keepThoseOf_56 (by decide) ?_
          exact z_sub [2, 3, 4, 1, 0] rfl (ih (v3 + 1) (v4 + 1) h10 _ H KE)
def f_X0_keepThoseOf (N : Nat) (v0 : Nat) (v1 : Int32) (v2 : Int32) (h : zH) : Option (zH) := (f_X0_keepThoseOf_L5 N v0 v1 v2 N 0 0 h).bind fun m11 => (pF m11.2 v0 0 6 (.int m11.1)).bind fun h12 => some h12
set_option maxRecDepth 100000 in
set_option maxHeartbeats 4000000 in
theorem k_X0_keepThoseOf {N : Nat} {v0 : Nat} {v1 : Int32} {v2 : Int32} {h : zH} {r : zH} (H : f_X0_keepThoseOf N v0 v1 v2 h = some r) : zOk 1 0 0 yX0_keepThoseOf cX0_keepThoseOf 5 none [.ref v0, .int v1, .int v2] h none r := by
  refine zOk.of (by decide) (Nat.le_of_ble_eq_true rfl) ?_
  unfold f_X0_keepThoseOf at H
  refine z_iconst (pc := 0) (x := 0) dX0_keepThoseOf_0 zc_iconst_0 ?_
  refine z_istore_n (pc := 1) (lv' := [(3, .int 0), (0, .ref v0), (1, .int v1), (2, .int v2)]) dX0_keepThoseOf_1 rfl (by decide) rfl ?_
  refine z_iconst (pc := 2) (x := 0) dX0_keepThoseOf_2 zc_iconst_0 ?_
  refine z_istore (pc := 3) (lv' := [(4, .int 0), (3, .int 0), (0, .ref v0), (1, .int v1), (2, .int v2)]) dX0_keepThoseOf_3 (by decide) rfl ?_
  obtain ⟨m11, em11, H⟩ := zbind H
  refine z_sub [2, 3, 4, 1, 0] rfl (s_X0_keepThoseOf_L5 (by omega) N 0 0 h _ em11 ?_)
  refine z_aload_n (pc := 59) 0 dX0_keepThoseOf_59 rfl rfl ?_
  refine z_iload_n (pc := 60) 1 dX0_keepThoseOf_60 rfl rfl ?_
  obtain ⟨h12, eh12, H⟩ := zbind H
  refine z_put (pc := 61) dX0_keepThoseOf_61 fd_X0_46 rfl rfl eh12 ?_
  cases H
  exact z_return rfl dX0_keepThoseOf_64

theorem md_X11_within : zMd yX11_within cX11_within 3 3 (some .boolean) := ⟨zmw (zmt_2 _ (List.mem_of_getElem? (i := 198) rfl)) rfl, zmem 112 (by decide +kernel) rfl, by decide, by decide, by decide +kernel, by decide⟩
theorem ns_X0_63 : (RX0, 63, yX11_within, "WhoseStreet") ∈ zNs := by decide +kernel
theorem sm_X11_within : Cond.static yX11_within ∈ zB := zmem 548 (by decide +kernel) rfl
theorem md_X6_words : zMd yX6_words cX6_words 2 0 (some .int) := ⟨zmw (zmt_4 _ (List.mem_of_getElem? (i := 171) rfl)) rfl, zmem 128 (by decide +kernel) rfl, by decide, by decide, by decide +kernel, by decide⟩
theorem ml_X0_42 : Cond.methodLink RX0 42 yX6_words ∈ zB := zmem 999 (by decide +kernel) rfl
theorem im_X6_words : Cond.instanceMethod yX6_words ∈ zB := zmem 1000 (by decide +kernel) rfl
theorem se_X6_words : Cond.selects yX6_words.cls yX6_words yX6_words ∈ zB := zmem 1001 (by decide +kernel) rfl
theorem md_X0_keepThoseOf : zMd yX0_keepThoseOf cX0_keepThoseOf 5 2 none := ⟨zmw (zmt_4 _ (List.mem_of_getElem? (i := 176) rfl)) rfl, zmem 121 (by decide +kernel) rfl, by decide, by decide, by decide +kernel, by decide⟩
theorem ml_X0_67 : Cond.methodLink RX0 67 yX0_keepThoseOf ∈ zB := zmem 1004 (by decide +kernel) rfl
theorem im_X0_keepThoseOf : Cond.instanceMethod yX0_keepThoseOf ∈ zB := zmem 1006 (by decide +kernel) rfl
theorem se_X0_keepThoseOf : Cond.selects yX0_keepThoseOf.cls yX0_keepThoseOf yX0_keepThoseOf ∈ zB := zmem 39 (by decide +kernel) rfl
def f_X0_ruleOut_L2 (N : Nat) (v0 : Nat) (v1 : Int32) (v2 : Int32) : Nat → Int32 → zH → Option (zH)
  | 0, _, _ => none
  | n + 1, v3, h => (gI h v0 0 5).bind fun x1 => if x1 ≤ v3 then (some h) else (if 80 ≤ v3 then (some h) else ((gR h v0 0 0).bind fun r4 => (aQ h r4 v3).bind fun x5 => zopt x5 (f_X0_ruleOut_L2 N v0 v1 v2 n (v3 + 1) h) (fun a6 => (gR h v0 0 1).bind fun r8 => (aI h r8 v3).bind fun x9 => if (p_X11_within x9 v1 v2) = 0 then (f_X0_ruleOut_L2 N v0 v1 v2 n (v3 + 1) h) else (zif (zob h a6 6) <| (f_X6_words N a6 h).bind fun q12 => (gR h v0 0 2).bind fun r13 => (aZ h r13 v3).bind fun x14 => zif (zob h v0 0) <| (f_X0_keepThoseOf N v0 q12 x14 h).bind fun h16 => f_X0_ruleOut_L2 N v0 v1 v2 n (v3 + 1) h16))))
set_option maxRecDepth 100000 in
set_option maxHeartbeats 4000000 in
theorem s_X0_ruleOut_L2 {d mc ms N : Nat} {vv : Option Value} {hh : zH} {v0 : Nat} {v1 : Int32} {v2 : Int32} (hd0 : 4 ≤ d) : ∀ (n : Nat) (v3 : Int32) (h : zH) (m : zH), f_X0_ruleOut_L2 N v0 v1 v2 n v3 h = some m → (zW yX0_ruleOut cX0_ruleOut 5 none d mc ms 64 [] [] m vv hh) → zW yX0_ruleOut cX0_ruleOut 5 none d mc ms 2 [(0, .ref v0), (1, .int v1), (2, .int v2), (3, .int v3)] [] h vv hh := by
  intro n
  induction n with
  | zero =>
    intro v3 h m H
    cases H
  | succ n ih =>
    intro v3 h m H KE
    unfold f_X0_ruleOut_L2 at H
    refine z_iload_n (pc := 2) 3 dX0_ruleOut_2 rfl rfl ?_
    refine z_aload_n (pc := 3) 0 dX0_ruleOut_3 rfl rfl ?_
    obtain ⟨x1, ex1, H⟩ := zbind H
    refine z_getI (pc := 4) dX0_ruleOut_4 fd_X0_31 ex1 ?_
    refine z_icmp_ge (pc := 7) 64 dX0_ruleOut_7 (by decide) (fun c2 => ?_) (fun c2 => ?_)
    · rw [if_pos c2] at H
      cases H
      exact z_sub [] rfl (KE)
    · rw [if_neg c2] at H
      refine z_iload_n (pc := 10) 3 dX0_ruleOut_10 rfl rfl ?_
      refine z_bipush (pc := 11) (x := 80) dX0_ruleOut_11 zc_bipush_80 ?_
      refine z_icmp_ge (pc := 13) 64 dX0_ruleOut_13 (by decide) (fun c3 => ?_) (fun c3 => ?_)
      · rw [if_pos c3] at H
        cases H
        exact z_sub [] rfl (KE)
      · rw [if_neg c3] at H
        refine z_aload_n (pc := 16) 0 dX0_ruleOut_16 rfl rfl ?_
        obtain ⟨r4, er4, H⟩ := zbind H
        refine z_getR (pc := 17) dX0_ruleOut_17 fd_X0_13 er4 ?_
        refine z_iload_n (pc := 20) 3 dX0_ruleOut_20 rfl rfl ?_
        obtain ⟨x5, ex5, H⟩ := zbind H
        refine z_aaload (pc := 21) dX0_ruleOut_21 ex5 ?_
        refine z_astoreQ (pc := 22) (lv' := [(4, va_rf x5), (0, .ref v0), (1, .int v1), (2, .int v2), (3, .int v3)]) dX0_ruleOut_22 (by decide) rfl ?_
        refine z_aloadQ (pc := 24) 0 dX0_ruleOut_24 rfl ?_
        refine z_ifnull (pc := 26) 58 dX0_ruleOut_26 (by decide) (fun c7 => ?_) (fun a6 c7 => ?_)
        · subst c7
          have H := zoptN H
          refine z_iinc (pc := 58) (x' := v3 + 1) (lv' := [(3, .int (v3 + 1)), (4, va_rf none), (0, .ref v0), (1, .int v1), (2, .int v2)]) 4 dX0_ruleOut_58 rfl (by rfl) (by decide) rfl ?_
          refine z_goto (pc := 61) 2 dX0_ruleOut_61 (by decide) ?_
          exact z_sub [2, 3, 4, 0] rfl (ih (v3 + 1) h _ H KE)
        · subst c7
          have H := zoptS H
          refine z_sub (lv' := [(4, .ref a6), (0, .ref v0), (1, .int v1), (2, .int v2), (3, .int v3)]) [0, 1, 2, 3, 4] rfl ?_
          refine z_aload_n (pc := 29) 1 dX0_ruleOut_29 rfl rfl ?_
          obtain ⟨r8, er8, H⟩ := zbind H
          refine z_getR (pc := 30) dX0_ruleOut_30 fd_X0_17 er8 ?_
          refine z_iload_n (pc := 33) 4 dX0_ruleOut_33 rfl rfl ?_
          obtain ⟨x9, ex9, H⟩ := zbind H
          refine z_iaload (pc := 34) dX0_ruleOut_34 ex9 ?_
          refine z_iload_n (pc := 35) 2 dX0_ruleOut_35 rfl rfl ?_
          refine z_iload_n (pc := 36) 3 dX0_ruleOut_36 rfl rfl ?_
          refine z_callSN (pc := 37) (mc := mc) (ms := ms) (d' := 0) (mc' := 0) (ms' := 0) (rest := []) [.int x9, .int v1, .int v2] dX0_ruleOut_37 md_X11_within ns_X0_63 sm_X11_within rfl rfl (Nat.le_of_ble_eq_true rfl) (by omega) (k_X11_within x9 v1 v2 h _ rfl) ?_
          refine z_if_eq (pc := 40) 58 dX0_ruleOut_40 (by decide) (fun c10 => ?_) (fun c10 => ?_)
          · rw [if_pos c10] at H
            refine z_iinc (pc := 58) (x' := v3 + 1) (lv' := [(3, .int (v3 + 1)), (4, .ref a6), (0, .ref v0), (1, .int v1), (2, .int v2)]) 4 dX0_ruleOut_58 rfl (by rfl) (by decide) rfl ?_
            refine z_goto (pc := 61) 2 dX0_ruleOut_61 (by decide) ?_
            exact z_sub [2, 3, 4, 0] rfl (ih (v3 + 1) h _ H KE)
          · rw [if_neg c10] at H
            refine z_aload_n (pc := 43) 1 dX0_ruleOut_43 rfl rfl ?_
            refine z_aload (pc := 44) 0 dX0_ruleOut_44 rfl ?_
            obtain ⟨z11, H⟩ := zifE H
            obtain ⟨q12, eq12, H⟩ := zbind H
            refine z_callV (pc := 46) (mc := mc) (ms := ms) (d' := 3) (mc' := 0) (ms' := 0) (rest := [.ref v0]) [] dX0_ruleOut_46 md_X6_words ml_X0_42 im_X6_words se_X6_words rfl z11 rfl rfl (Nat.le_of_ble_eq_true rfl) (by omega) (k_X6_words eq12) ?_
            refine z_aload_n (pc := 49) 1 dX0_ruleOut_49 rfl rfl ?_
            obtain ⟨r13, er13, H⟩ := zbind H
            refine z_getR (pc := 50) dX0_ruleOut_50 fd_X0_21 er13 ?_
            refine z_iload_n (pc := 53) 4 dX0_ruleOut_53 rfl rfl ?_
            obtain ⟨x14, ex14, H⟩ := zbind H
            refine z_zaload (pc := 54) dX0_ruleOut_54 ex14 ?_
            obtain ⟨z15, H⟩ := zifE H
            obtain ⟨h16, eh16, H⟩ := zbind H
            refine z_callV (pc := 55) (mc := mc) (ms := ms) (d' := 1) (mc' := 0) (ms' := 0) (rest := []) [.int q12, .int x14] dX0_ruleOut_55 md_X0_keepThoseOf ml_X0_67 im_X0_keepThoseOf se_X0_keepThoseOf rfl z15 rfl rfl (Nat.le_of_ble_eq_true rfl) (by omega) (k_X0_keepThoseOf eh16) ?_
            refine z_iinc (pc := 58) (x' := v3 + 1) (lv' := [(3, .int (v3 + 1)), (4, .ref a6), (0, .ref v0), (1, .int v1), (2, .int v2)]) 4 dX0_ruleOut_58 rfl (by rfl) (by decide) rfl ?_
            refine z_goto (pc := 61) 2 dX0_ruleOut_61 (by decide) ?_
            exact z_sub [2, 3, 4, 0] rfl (ih (v3 + 1) h16 _ H KE)
def f_X0_ruleOut (N : Nat) (v0 : Nat) (v1 : Int32) (v2 : Int32) (h : zH) : Option (zH) := (f_X0_ruleOut_L2 N v0 v1 v2 N 0 h).bind fun m17 => some m17
set_option maxRecDepth 100000 in
set_option maxHeartbeats 4000000 in
theorem k_X0_ruleOut {N : Nat} {v0 : Nat} {v1 : Int32} {v2 : Int32} {h : zH} {r : zH} (H : f_X0_ruleOut N v0 v1 v2 h = some r) : zOk 4 0 0 yX0_ruleOut cX0_ruleOut 5 none [.ref v0, .int v1, .int v2] h none r := by
  refine zOk.of (by decide) (Nat.le_of_ble_eq_true rfl) ?_
  unfold f_X0_ruleOut at H
  refine z_iconst (pc := 0) (x := 0) dX0_ruleOut_0 zc_iconst_0 ?_
  refine z_istore_n (pc := 1) (lv' := [(3, .int 0), (0, .ref v0), (1, .int v1), (2, .int v2)]) dX0_ruleOut_1 rfl (by decide) rfl ?_
  obtain ⟨m17, em17, H⟩ := zbind H
  refine z_sub [1, 2, 3, 0] rfl (s_X0_ruleOut_L2 (by omega) N 0 h _ em17 ?_)
  cases H
  exact z_return rfl dX0_ruleOut_64

