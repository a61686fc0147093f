theorem md_X0_keepAll : zMd yX0_keepAll cX0_keepAll 1 0 none := ⟨zmw (zmt_4 _ (List.mem_of_getElem? (i := 161) rfl)) rfl, zmem 121 (by decide +kernel) rfl, by decide, by decide, by decide +kernel, by decide⟩
theorem ml_X0_35 : Cond.methodLink RX0 35 yX0_keepAll ∈ zB := zmem 989 (by decide +kernel) rfl
theorem im_X0_keepAll : Cond.instanceMethod yX0_keepAll ∈ zB := zmem 991 (by decide +kernel) rfl
theorem se_X0_keepAll : Cond.selects yX0_keepAll.cls yX0_keepAll yX0_keepAll ∈ zB := zmem 37 (by decide +kernel) rfl
theorem md_X0_ruleOut : zMd yX0_ruleOut cX0_ruleOut 5 2 none := ⟨zmw (zmt_4 _ (List.mem_of_getElem? (i := 166) rfl)) rfl, zmem 121 (by decide +kernel) rfl, by decide, by decide, by decide +kernel, by decide⟩
theorem ml_X0_38 : Cond.methodLink RX0 38 yX0_ruleOut ∈ zB := zmem 994 (by decide +kernel) rfl
theorem im_X0_ruleOut : Cond.instanceMethod yX0_ruleOut ∈ zB := zmem 996 (by decide +kernel) rfl
theorem se_X0_ruleOut : Cond.selects yX0_ruleOut.cls yX0_ruleOut yX0_ruleOut ∈ zB := zmem 38 (by decide +kernel) rfl
def f_X0_keepFrom (N : Nat) (v0 : Nat) (v1 : Int32) (v2 : Int32) (h : zH) : Option (zH) := zif (zob h v0 0) <| (f_X0_keepAll N v0 h).bind fun h2 => zif (zob h2 v0 0) <| (f_X0_ruleOut N v0 v1 v2 h2).bind fun h4 => some h4
set_option maxRecDepth 100000 in
set_option maxHeartbeats 4000000 in
theorem k_X0_keepFrom {N : Nat} {v0 : Nat} {v1 : Int32} {v2 : Int32} {h : zH} {r : zH} (H : f_X0_keepFrom N v0 v1 v2 h = some r) : zOk 5 0 0 yX0_keepFrom cX0_keepFrom 3 none [.ref v0, .int v1, .int v2] h none r := by
  refine zOk.of (by decide) (Nat.le_of_ble_eq_true rfl) ?_
  unfold f_X0_keepFrom at H
  refine z_aload_n (pc := 0) 0 dX0_keepFrom_0 rfl rfl ?_
  obtain ⟨z1, H⟩ := zifE H
  obtain ⟨h2, eh2, H⟩ := zbind H
  refine z_callV (pc := 1) (mc := 0) (ms := 0) (d' := 1) (mc' := 0) (ms' := 0) (rest := []) [] dX0_keepFrom_1 md_X0_keepAll ml_X0_35 im_X0_keepAll se_X0_keepAll rfl z1 rfl rfl (Nat.le_of_ble_eq_true rfl) (by omega) (k_X0_keepAll eh2) ?_
  refine z_aload_n (pc := 4) 0 dX0_keepFrom_4 rfl rfl ?_
  refine z_iload_n (pc := 5) 1 dX0_keepFrom_5 rfl rfl ?_
  refine z_iload_n (pc := 6) 2 dX0_keepFrom_6 rfl rfl ?_
  obtain ⟨z3, H⟩ := zifE H
  obtain ⟨h4, eh4, H⟩ := zbind H
  refine z_callV (pc := 7) (mc := 0) (ms := 0) (d' := 4) (mc' := 0) (ms' := 0) (rest := []) [.int v1, .int v2] dX0_keepFrom_7 md_X0_ruleOut ml_X0_38 im_X0_ruleOut se_X0_ruleOut rfl z3 rfl rfl (Nat.le_of_ble_eq_true rfl) (by omega) (k_X0_ruleOut eh4) ?_
  cases H
  exact z_return rfl dX0_keepFrom_10

def f_X0_judge_L10 (N : Nat) (v0 : Nat) (v2 : Int32) (h : zH) : Nat → Int32 → Int32 → Option (Int32)
  | 0, _, _ => none
  | n + 1, v3, v4 => (gI h v0 0 6).bind fun x3 => if x3 ≤ v4 then (some v3) else (if 128 ≤ v4 then (some v3) else ((gR h v0 0 4).bind fun r6 => (aI h r6 v4).bind fun x7 => if (p_X0_isSo x7 v2) = 0 then (f_X0_judge_L10 N v0 v2 h n v3 (v4 + 1)) else (f_X0_judge_L10 N v0 v2 h n (v3 + 1) (v4 + 1))))
set_option maxRecDepth 100000 in
set_option maxHeartbeats 4000000 in
theorem s_X0_judge_L10 {d mc ms N : Nat} {vv : Option Value} {hh : zH} {v0 : Nat} {v2 : Int32} {h : zH} (hd0 : 4 ≤ d) : ∀ (n : Nat) (v3 : Int32) (v4 : Int32) (m : Int32), f_X0_judge_L10 N v0 v2 h n v3 v4 = some m → (zW yX0_judge cX0_judge 5 (some .int) d mc ms 50 [(0, .ref v0), (3, .int m)] [] h vv hh) → zW yX0_judge cX0_judge 5 (some .int) d mc ms 10 [(0, .ref v0), (2, .int v2), (3, .int v3), (4, .int v4)] [] h vv hh := by
  intro n
  induction n with
  | zero =>
    intro v3 v4 m H
    cases H
  | succ n ih =>
    intro v3 v4 m H KE
    unfold f_X0_judge_L10 at H
    refine z_iload (pc := 10) 3 dX0_judge_10 rfl ?_
    refine z_aload_n (pc := 12) 0 dX0_judge_12 rfl rfl ?_
    obtain ⟨x3, ex3, H⟩ := zbind H
    refine z_getI (pc := 13) dX0_judge_13 fd_X0_46 ex3 ?_
    refine z_icmp_ge (pc := 16) 50 dX0_judge_16 (by decide) (fun c4 => ?_) (fun c4 => ?_)
    · rw [if_pos c4] at H
      cases H
      exact z_sub [0, 2] rfl (KE)
    · rw [if_neg c4] at H
      refine z_iload (pc := 19) 3 dX0_judge_19 rfl ?_
      refine z_sipush (pc := 21) (x := 128) dX0_judge_21 zc_sipush_128 ?_
      refine z_icmp_ge (pc := 24) 50 dX0_judge_24 (by decide) (fun c5 => ?_) (fun c5 => ?_)
      · rw [if_pos c5] at H
        cases H
        exact z_sub [0, 2] rfl (KE)
      · rw [if_neg c5] at H
        refine z_aload_n (pc := 27) 0 dX0_judge_27 rfl rfl ?_
        obtain ⟨r6, er6, H⟩ := zbind H
        refine z_getR (pc := 28) dX0_judge_28 fd_X0_28 er6 ?_
        refine z_iload (pc := 31) 3 dX0_judge_31 rfl ?_
        obtain ⟨x7, ex7, H⟩ := zbind H
        refine z_iaload (pc := 33) dX0_judge_33 ex7 ?_
        refine z_iload_n (pc := 34) 1 dX0_judge_34 rfl rfl ?_
        refine z_callS (pc := 35) (mc := mc) (ms := ms) (d' := 0) (mc' := 0) (ms' := 0) (rest := []) [.int x7, .int v2] dX0_judge_35 md_X0_isSo ml_X0_49 sm_X0_isSo rfl rfl (Nat.le_of_ble_eq_true rfl) (by omega) (k_X0_isSo x7 v2 h _ rfl) ?_
        refine z_if_eq (pc := 38) 44 dX0_judge_38 (by decide) (fun c8 => ?_) (fun c8 => ?_)
        · rw [if_pos c8] at H
          refine z_iinc (pc := 44) (x' := v4 + 1) (lv' := [(4, .int (v4 + 1)), (0, .ref v0), (2, .int v2), (3, .int v3)]) 3 dX0_judge_44 rfl (by rfl) (by decide) rfl ?_
          refine z_goto (pc := 47) 10 dX0_judge_47 (by decide) ?_
          exact z_sub [1, 2, 3, 0] rfl (ih v3 (v4 + 1) _ H KE)
        · rw [if_neg c8] at H
          refine z_iinc (pc := 41) (x' := v3 + 1) (lv' := [(3, .int (v3 + 1)), (0, .ref v0), (2, .int v2), (4, .int v4)]) 2 dX0_judge_41 rfl (by rfl) (by decide) rfl ?_
          refine z_iinc (pc := 44) (x' := v4 + 1) (lv' := [(4, .int (v4 + 1)), (3, .int (v3 + 1)), (0, .ref v0), (2, .int v2)]) 3 dX0_judge_44 rfl (by rfl) (by decide) rfl ?_
          refine z_goto (pc := 47) 10 dX0_judge_47 (by decide) ?_
          exact z_sub [2, 3, 1, 0] rfl (ih (v3 + 1) (v4 + 1) _ H KE)
def f_X0_judge (N : Nat) (v0 : Nat) (v1 : Nat) (h : zH) : Option (Int32) := zif (zob h v1 6) <| (f_X6_words N v1 h).bind fun q2 => (f_X0_judge_L10 N v0 q2 h N 0 0).bind fun m9 => (gI h v0 0 6).bind fun x10 => if x10 = 0 then (some (-1)) else ((gI h v0 0 6).bind fun x12 => if m9 = x12 then (some 2) else (if m9 ≤ 0 then (some 0) else (some 1)))
set_option maxRecDepth 100000 in
set_option maxHeartbeats 4000000 in
theorem k_X0_judge {N : Nat} {v0 : Nat} {v1 : Nat} {h : zH} {r : Int32} (H : f_X0_judge N v0 v1 h = some r) : zOk 4 0 0 yX0_judge cX0_judge 5 (some .int) [.ref v0, .ref v1] h (some (.int r)) h := by
  refine zOk.of (by decide) (Nat.le_of_ble_eq_true rfl) ?_
  unfold f_X0_judge at H
  refine z_aload_n (pc := 0) 1 dX0_judge_0 rfl rfl ?_
  obtain ⟨z1, H⟩ := zifE H
  obtain ⟨q2, eq2, H⟩ := zbind H
  refine z_callV (pc := 1) (mc := 0) (ms := 0) (d' := 3) (mc' := 0) (ms' := 0) (rest := []) [] dX0_judge_1 md_X6_words ml_X0_42 im_X6_words se_X6_words rfl z1 rfl rfl (Nat.le_of_ble_eq_true rfl) (by omega) (k_X6_words eq2) ?_
  refine z_istore_n (pc := 4) (lv' := [(2, .int q2), (0, .ref v0), (1, .ref v1)]) dX0_judge_4 rfl (by decide) rfl ?_
  refine z_iconst (pc := 5) (x := 0) dX0_judge_5 zc_iconst_0 ?_
  refine z_istore_n (pc := 6) (lv' := [(3, .int 0), (2, .int q2), (0, .ref v0), (1, .ref v1)]) dX0_judge_6 rfl (by decide) rfl ?_
  refine z_iconst (pc := 7) (x := 0) dX0_judge_7 zc_iconst_0 ?_
  refine z_istore (pc := 8) (lv' := [(4, .int 0), (3, .int 0), (2, .int q2), (0, .ref v0), (1, .ref v1)]) dX0_judge_8 (by decide) rfl ?_
  obtain ⟨m9, em9, H⟩ := zbind H
  refine z_sub [3, 2, 1, 0] rfl (s_X0_judge_L10 (by omega) N 0 0 _ em9 ?_)
  refine z_aload_n (pc := 50) 0 dX0_judge_50 rfl rfl ?_
  obtain ⟨x10, ex10, H⟩ := zbind H
  refine z_getI (pc := 51) dX0_judge_51 fd_X0_46 ex10 ?_
  refine z_if_ne (pc := 54) 59 dX0_judge_54 (by decide) (fun c11 => ?_) (fun c11 => ?_)
  · rw [if_neg c11] at H
    refine z_iload_n (pc := 59) 1 dX0_judge_59 rfl rfl ?_
    refine z_aload_n (pc := 60) 0 dX0_judge_60 rfl rfl ?_
    obtain ⟨x12, ex12, H⟩ := zbind H
    refine z_getI (pc := 61) dX0_judge_61 fd_X0_46 ex12 ?_
    refine z_icmp_ne (pc := 64) 71 dX0_judge_64 (by decide) (fun c13 => ?_) (fun c13 => ?_)
    · rw [if_neg c13] at H
      refine z_iload_n (pc := 71) 1 dX0_judge_71 rfl rfl ?_
      refine z_if_le (pc := 72) 79 dX0_judge_72 (by decide) (fun c14 => ?_) (fun c14 => ?_)
      · rw [if_pos c14] at H
        refine z_iconst (pc := 79) (x := 0) dX0_judge_79 zc_iconst_0 ?_
        cases H
        exact z_ireturn rfl dX0_judge_80
      · rw [if_neg c14] at H
        refine z_iconst (pc := 75) (x := 1) dX0_judge_75 zc_iconst_1 ?_
        refine z_goto (pc := 76) 80 dX0_judge_76 (by decide) ?_
        cases H
        exact z_ireturn rfl dX0_judge_80
    · rw [if_pos c13] at H
      refine z_iconst (pc := 67) (x := 2) dX0_judge_67 zc_iconst_2 ?_
      refine z_goto (pc := 68) 80 dX0_judge_68 (by decide) ?_
      cases H
      exact z_ireturn rfl dX0_judge_80
  · rw [if_pos c11] at H
    refine z_iconst (pc := 57) (x := (-1)) dX0_judge_57 zc_iconst_m1 ?_
    cases H
    exact z_ireturn rfl dX0_judge_58

def f_X0_allHave_L2 (N : Nat) (v0 : Nat) (v1 : Int32) (h : zH) : Nat → Int32 → Option ((Unit) ⊕ (Int32))
  | 0, _ => none
  | n + 1, v2 => (gI h v0 0 6).bind fun x1 => if x1 ≤ v2 then (some (.inl ())) else (if 128 ≤ v2 then (some (.inl ())) else ((gR h v0 0 4).bind fun r4 => (aI h r4 v2).bind fun x5 => if ((x5 >>> (v1 &&& 31)) &&& 1) = 0 then (some (.inr 0)) else (f_X0_allHave_L2 N v0 v1 h n (v2 + 1))))
set_option maxRecDepth 100000 in
set_option maxHeartbeats 4000000 in
theorem s_X0_allHave_L2 {d mc ms N : Nat} {vv : Option Value} {hh : zH} {v0 : Nat} {v1 : Int32} {h : zH} (hd0 : 0 ≤ d) : ∀ (n : Nat) (v2 : Int32) (m : (Unit) ⊕ (Int32)), f_X0_allHave_L2 N v0 v1 h n v2 = some m → (∀ s, m = .inl s → zW yX0_allHave cX0_allHave 3 (some .boolean) d mc ms 38 [] [] h vv hh) → (∀ r, m = .inr r → vv = (some (.int r)) ∧ hh = h) → zW yX0_allHave cX0_allHave 3 (some .boolean) d mc ms 2 [(0, .ref v0), (1, .int v1), (2, .int v2)] [] h vv hh := by
  intro n
  induction n with
  | zero =>
    intro v2 m H
    cases H
  | succ n ih =>
    intro v2 m H KE KR
    unfold f_X0_allHave_L2 at H
    refine z_iload_n (pc := 2) 2 dX0_allHave_2 rfl rfl ?_
    refine z_aload_n (pc := 3) 0 dX0_allHave_3 rfl rfl ?_
    obtain ⟨x1, ex1, H⟩ := zbind H
    refine z_getI (pc := 4) dX0_allHave_4 fd_X0_46 ex1 ?_
    refine z_icmp_ge (pc := 7) 38 dX0_allHave_7 (by decide) (fun c2 => ?_) (fun c2 => ?_)
    · rw [if_pos c2] at H
      cases H
      exact z_sub [] rfl (KE _ rfl)
    · rw [if_neg c2] at H
      refine z_iload_n (pc := 10) 2 dX0_allHave_10 rfl rfl ?_
      refine z_sipush (pc := 11) (x := 128) dX0_allHave_11 zc_sipush_128 ?_
      refine z_icmp_ge (pc := 14) 38 dX0_allHave_14 (by decide) (fun c3 => ?_) (fun c3 => ?_)
      · rw [if_pos c3] at H
        cases H
        exact z_sub [] rfl (KE _ rfl)
      · rw [if_neg c3] at H
        refine z_aload_n (pc := 17) 0 dX0_allHave_17 rfl rfl ?_
        obtain ⟨r4, er4, H⟩ := zbind H
        refine z_getR (pc := 18) dX0_allHave_18 fd_X0_28 er4 ?_
        refine z_iload_n (pc := 21) 2 dX0_allHave_21 rfl rfl ?_
        obtain ⟨x5, ex5, H⟩ := zbind H
        refine z_iaload (pc := 22) dX0_allHave_22 ex5 ?_
        refine z_iload_n (pc := 23) 1 dX0_allHave_23 rfl rfl ?_
        refine z_ishr (pc := 24) dX0_allHave_24 ?_
        refine z_iconst (pc := 25) (x := 1) dX0_allHave_25 zc_iconst_1 ?_
        refine z_iand (pc := 26) dX0_allHave_26 ?_
        refine z_if_ne (pc := 27) 32 dX0_allHave_27 (by decide) (fun c6 => ?_) (fun c6 => ?_)
        · rw [if_neg c6] at H
          refine z_iinc (pc := 32) (x' := v2 + 1) (lv' := [(2, .int (v2 + 1)), (0, .ref v0), (1, .int v1)]) 2 dX0_allHave_32 rfl (by rfl) (by decide) rfl ?_
          refine z_goto (pc := 35) 2 dX0_allHave_35 (by decide) ?_
          exact z_sub [1, 2, 0] rfl (ih (v2 + 1) _ H KE KR)
        · rw [if_pos c6] at H
          refine z_iconst (pc := 30) (x := 0) dX0_allHave_30 zc_iconst_0 ?_
          cases H
          obtain ⟨e8, e9⟩ := KR _ rfl
          subst e8
          subst e9
          exact z_zreturn rfl dX0_allHave_31 (by decide)
def f_X0_allHave (N : Nat) (v0 : Nat) (v1 : Int32) (h : zH) : Option (Int32) := (f_X0_allHave_L2 N v0 v1 h N 0).bind fun m7 => zsum m7 fun s8 => some 1
set_option maxRecDepth 100000 in
set_option maxHeartbeats 4000000 in
theorem k_X0_allHave {N : Nat} {v0 : Nat} {v1 : Int32} {h : zH} {r : Int32} (H : f_X0_allHave N v0 v1 h = some r) : zOk 0 0 0 yX0_allHave cX0_allHave 3 (some .boolean) [.ref v0, .int v1] h (some (.int r)) h := by
  refine zOk.of (by decide) (Nat.le_of_ble_eq_true rfl) ?_
  unfold f_X0_allHave at H
  refine z_iconst (pc := 0) (x := 0) dX0_allHave_0 zc_iconst_0 ?_
  refine z_istore_n (pc := 1) (lv' := [(2, .int 0), (0, .ref v0), (1, .int v1)]) dX0_allHave_1 rfl (by decide) rfl ?_
  obtain ⟨m7, em7, H⟩ := zbind H
  refine z_sub [1, 2, 0] rfl (s_X0_allHave_L2 (by omega) N 0 _ em7 ?_ ?_)
  · intro s8 e9
    subst e9
    have H := zsumL H
    refine z_iconst (pc := 38) (x := 1) dX0_allHave_38 zc_iconst_1 ?_
    cases H
    exact z_zreturn rfl dX0_allHave_39 (by decide)
  · intro r e9
    subst e9
    have H := zsumR H
    cases H
    exact ⟨rfl, rfl⟩

theorem md_X0_allHave : zMd yX0_allHave cX0_allHave 3 1 (some .boolean) := ⟨zmw (zmt_4 _ (List.mem_of_getElem? (i := 199) rfl)) rfl, zmem 121 (by decide +kernel) rfl, by decide, by decide, by decide +kernel, by decide⟩
theorem ml_X0_53 : Cond.methodLink RX0 53 yX0_allHave ∈ zB := zmem 1027 (by decide +kernel) rfl
theorem im_X0_allHave : Cond.instanceMethod yX0_allHave ∈ zB := zmem 1029 (by decide +kernel) rfl
theorem se_X0_allHave : Cond.selects yX0_allHave.cls yX0_allHave yX0_allHave ∈ zB := zmem 40 (by decide +kernel) rfl
def f_X0_firstYearOf_L9 (N : Nat) (v0 : Nat) (v1 : Int32) : Nat → Int32 → Int32 → zH → Option (Int32 × zH)
  | 0, _, _, _ => none
  | n + 1, v3, v4, h => if v4 < 0 then (some (v3, h)) else (zif (zob h v0 0) <| (f_X0_ruleOut N v0 v4 v4 h).bind fun h5 => (gI h5 v0 0 6).bind fun x6 => if x6 ≤ 0 then (f_X0_firstYearOf_L9 N v0 v1 n v3 (v4 + (-1)) h5) else (zif (zob h5 v0 0) <| (f_X0_allHave N v0 v1 h5).bind fun q9 => if q9 = 0 then (f_X0_firstYearOf_L9 N v0 v1 n v3 (v4 + (-1)) h5) else (f_X0_firstYearOf_L9 N v0 v1 n v4 (v4 + (-1)) h5)))
set_option maxRecDepth 100000 in
set_option maxHeartbeats 4000000 in
theorem s_X0_firstYearOf_L9 {d mc ms N : Nat} {vv : Option Value} {hh : zH} {v0 : Nat} {v1 : Int32} (hd0 : 5 ≤ d) : ∀ (n : Nat) (v3 : Int32) (v4 : Int32) (h : zH) (m : Int32 × zH), f_X0_firstYearOf_L9 N v0 v1 n v3 v4 h = some m → (zW yX0_firstYearOf cX0_firstYearOf 5 (some .int) d mc ms 46 [(3, .int m.1)] [] m.2 vv hh) → zW yX0_firstYearOf cX0_firstYearOf 5 (some .int) d mc ms 9 [(0, .ref v0), (1, .int v1), (3, .int v3), (4, .int v4)] [] h vv hh := by
  intro n
  induction n with
  | zero =>
    intro v3 v4 h m H
    cases H
  | succ n ih =>
    intro v3 v4 h m H KE
    unfold f_X0_firstYearOf_L9 at H
    refine z_iload (pc := 9) 3 dX0_firstYearOf_9 rfl ?_
    refine z_if_lt (pc := 11) 46 dX0_firstYearOf_11 (by decide) (fun c3 => ?_) (fun c3 => ?_)
    · rw [if_pos c3] at H
      cases H
      exact z_sub [2] rfl (KE)
    · rw [if_neg c3] at H
      refine z_aload_n (pc := 14) 0 dX0_firstYearOf_14 rfl rfl ?_
      refine z_iload (pc := 15) 3 dX0_firstYearOf_15 rfl ?_
      refine z_iload (pc := 17) 3 dX0_firstYearOf_17 rfl ?_
      obtain ⟨z4, H⟩ := zifE H
      obtain ⟨h5, eh5, H⟩ := zbind H
      refine z_callV (pc := 19) (mc := mc) (ms := ms) (d' := 4) (mc' := 0) (ms' := 0) (rest := []) [.int v4, .int v4] dX0_firstYearOf_19 md_X0_ruleOut ml_X0_38 im_X0_ruleOut se_X0_ruleOut rfl z4 rfl rfl (Nat.le_of_ble_eq_true rfl) (by omega) (k_X0_ruleOut eh5) ?_
      refine z_aload_n (pc := 22) 0 dX0_firstYearOf_22 rfl rfl ?_
      obtain ⟨x6, ex6, H⟩ := zbind H
      refine z_getI (pc := 23) dX0_firstYearOf_23 fd_X0_46 ex6 ?_
      refine z_if_le (pc := 26) 40 dX0_firstYearOf_26 (by decide) (fun c7 => ?_) (fun c7 => ?_)
      · rw [if_pos c7] at H
        refine z_iinc (pc := 40) (x' := v4 + (-1)) (lv' := [(4, .int (v4 + (-1))), (0, .ref v0), (1, .int v1), (3, .int v3)]) 3 dX0_firstYearOf_40 rfl (by rfl) (by decide) rfl ?_
        refine z_goto (pc := 43) 9 dX0_firstYearOf_43 (by decide) ?_
        exact z_sub [1, 2, 3, 0] rfl (ih v3 (v4 + (-1)) h5 _ H KE)
      · rw [if_neg c7] at H
        refine z_aload_n (pc := 29) 0 dX0_firstYearOf_29 rfl rfl ?_
        refine z_iload_n (pc := 30) 1 dX0_firstYearOf_30 rfl rfl ?_
        obtain ⟨z8, H⟩ := zifE H
        obtain ⟨q9, eq9, H⟩ := zbind H
        refine z_callV (pc := 31) (mc := mc) (ms := ms) (d' := 0) (mc' := 0) (ms' := 0) (rest := []) [.int v1] dX0_firstYearOf_31 md_X0_allHave ml_X0_53 im_X0_allHave se_X0_allHave rfl z8 rfl rfl (Nat.le_of_ble_eq_true rfl) (by omega) (k_X0_allHave eq9) ?_
        refine z_if_eq (pc := 34) 40 dX0_firstYearOf_34 (by decide) (fun c10 => ?_) (fun c10 => ?_)
        · rw [if_pos c10] at H
          refine z_iinc (pc := 40) (x' := v4 + (-1)) (lv' := [(4, .int (v4 + (-1))), (0, .ref v0), (1, .int v1), (3, .int v3)]) 3 dX0_firstYearOf_40 rfl (by rfl) (by decide) rfl ?_
          refine z_goto (pc := 43) 9 dX0_firstYearOf_43 (by decide) ?_
          exact z_sub [1, 2, 3, 0] rfl (ih v3 (v4 + (-1)) h5 _ H KE)
        · rw [if_neg c10] at H
          refine z_iload (pc := 37) 3 dX0_firstYearOf_37 rfl ?_
          refine z_istore_n (pc := 39) (lv' := [(3, .int v4), (0, .ref v0), (1, .int v1), (4, .int v4)]) dX0_firstYearOf_39 rfl (by decide) rfl ?_
          refine z_iinc (pc := 40) (x' := v4 + (-1)) (lv' := [(4, .int (v4 + (-1))), (3, .int v4), (0, .ref v0), (1, .int v1)]) 3 dX0_firstYearOf_40 rfl (by rfl) (by decide) rfl ?_
          refine z_goto (pc := 43) 9 dX0_firstYearOf_43 (by decide) ?_
          exact z_sub [2, 3, 1, 0] rfl (ih v4 (v4 + (-1)) h5 _ H KE)
def f_X0_firstYearOf (N : Nat) (v0 : Nat) (v1 : Int32) (v2 : Int32) (h : zH) : Option (Int32 × zH) := zif (zob h v0 0) <| (f_X0_keepAll N v0 h).bind fun h2 => (f_X0_firstYearOf_L9 N v0 v1 N (-1) v2 h2).bind fun m11 => some (m11.1, m11.2)
set_option maxRecDepth 100000 in
set_option maxHeartbeats 4000000 in
theorem k_X0_firstYearOf {N : Nat} {v0 : Nat} {v1 : Int32} {v2 : Int32} {h : zH} {r : Int32 × zH} (H : f_X0_firstYearOf N v0 v1 v2 h = some r) : zOk 5 0 0 yX0_firstYearOf cX0_firstYearOf 5 (some .int) [.ref v0, .int v1, .int v2] h (some (.int r.1)) r.2 := by
  refine zOk.of (by decide) (Nat.le_of_ble_eq_true rfl) ?_
  unfold f_X0_firstYearOf at H
  refine z_iconst (pc := 0) (x := (-1)) dX0_firstYearOf_0 zc_iconst_m1 ?_
  refine z_istore_n (pc := 1) (lv' := [(3, .int (-1)), (0, .ref v0), (1, .int v1), (2, .int v2)]) dX0_firstYearOf_1 rfl (by decide) rfl ?_
  refine z_aload_n (pc := 2) 1 dX0_firstYearOf_2 rfl rfl ?_
  obtain ⟨z1, H⟩ := zifE H
  obtain ⟨h2, eh2, H⟩ := zbind H
  refine z_callV (pc := 3) (mc := 0) (ms := 0) (d' := 1) (mc' := 0) (ms' := 0) (rest := []) [] dX0_firstYearOf_3 md_X0_keepAll ml_X0_35 im_X0_keepAll se_X0_keepAll rfl z1 rfl rfl (Nat.le_of_ble_eq_true rfl) (by omega) (k_X0_keepAll eh2) ?_
  refine z_iload_n (pc := 6) 3 dX0_firstYearOf_6 rfl rfl ?_
  refine z_istore (pc := 7) (lv' := [(4, .int v2), (3, .int (-1)), (0, .ref v0), (1, .int v1), (2, .int v2)]) dX0_firstYearOf_7 (by decide) rfl ?_
  obtain ⟨m11, em11, H⟩ := zbind H
  refine z_sub [2, 3, 1, 0] rfl (s_X0_firstYearOf_L9 (by omega) N (-1) v2 h2 _ em11 ?_)
  refine z_iload_n (pc := 46) 0 dX0_firstYearOf_46 rfl rfl ?_
  cases H
  exact z_ireturn rfl dX0_firstYearOf_47

theorem zc_bipush_32 : (Int8.ofInt (32)).toInt32 = (32 : Int32) := by decide
theorem ml_X1_3 : Cond.methodLink RX1 3 objectInit ∈ zB := zmem 309 (by decide +kernel) rfl
theorem ck_X1_11 : Cond.classLink RX1 11 RX4 ∈ zB := zmem 310 (by decide +kernel) rfl
theorem fd_X1_13 : zFd RX1 13 1 0 (.array (.object "WhoseStreet$Law")) true "WhoseStreet$Book" := zFd.of cl_1 (by decide) (zmem 312 (by decide +kernel) rfl) rfl rfl rfl
theorem fd_X1_19 : zFd RX1 19 1 1 (.array .int) true "WhoseStreet$Book" := zFd.of cl_1 (by decide) (zmem 313 (by decide +kernel) rfl) rfl rfl rfl
theorem fd_X1_23 : zFd RX1 23 1 2 (.array .int) true "WhoseStreet$Book" := zFd.of cl_1 (by decide) (zmem 314 (by decide +kernel) rfl) rfl rfl rfl
def f_X1_init (N : Nat) (v0 : Nat) (h : zH) : Option (zH) := zlet (znew h (zblank 5 16) : zH) fun h1 => (pF h1 v0 1 0 (.ref h.1.1)).bind fun h2 => zlet (znew h2 (zblank 0 8) : zH) fun h3 => (pF h3 v0 1 1 (.ref h2.1.1)).bind fun h4 => zlet (znew h4 (zblank 0 32) : zH) fun h5 => (pF h5 v0 1 2 (.ref h4.1.1)).bind fun h6 => some h6
set_option maxRecDepth 100000 in
set_option maxHeartbeats 4000000 in
theorem k_X1_init {N : Nat} {v0 : Nat} {h : zH} {r : zH} (H : f_X1_init N v0 h = some r) : zOk 1 3 56 yX1_init cX1_init 1 none [.ref v0] h none r := by
  refine zOk.of (by decide) (Nat.le_of_ble_eq_true rfl) ?_
  unfold f_X1_init at H
  refine z_aload_n (pc := 0) 0 dX1_init_0 rfl rfl ?_
  refine z_objInit (pc := 1) dX1_init_1 ml_X1_3 im_object cd_object (by omega) (Nat.le_of_ble_eq_true rfl) ?_
  refine z_aload_n (pc := 4) 0 dX1_init_4 rfl rfl ?_
  refine z_bipush (pc := 5) (x := 16) dX1_init_5 zc_bipush_16 ?_
  refine z_anewarray (pc := 7) (mc := 2) (ms := 40) (N := 16) 5 (Or.inr ⟨rfl, rfl⟩) dX1_init_7 ck_X1_11 (by decide) (by decide) (by decide) ?_
  obtain ⟨h1, eh1, H⟩ := zletE H
  refine z_nmH eh1 ?_
  obtain ⟨h2, eh2, H⟩ := zbind H
  refine z_putF (pc := 10) dX1_init_10 fd_X1_13 rfl rfl rfl eh2 ?_
  refine z_aload_n (pc := 13) 0 dX1_init_13 rfl rfl ?_
  refine z_bipush (pc := 14) (x := 8) dX1_init_14 zc_bipush_8 ?_
  refine z_newarray (pc := 16) (mc := 1) (ms := 32) (N := 8) 0 (by decide) dX1_init_16 rfl ac_int (by decide) (by decide) (by decide) ?_
  obtain ⟨h3, eh3, H⟩ := zletE H
  refine z_nmH eh3 ?_
  obtain ⟨h4, eh4, H⟩ := zbind H
  refine z_putF (pc := 18) dX1_init_18 fd_X1_19 rfl rfl rfl eh4 ?_
  refine z_aload_n (pc := 21) 0 dX1_init_21 rfl rfl ?_
  refine z_bipush (pc := 22) (x := 32) dX1_init_22 zc_bipush_32 ?_
  refine z_newarray (pc := 24) (mc := 0) (ms := 0) (N := 32) 0 (by decide) dX1_init_24 rfl ac_int (by decide) (by decide) (by decide) ?_
  obtain ⟨h5, eh5, H⟩ := zletE H
  refine z_nmH eh5 ?_
  obtain ⟨h6, eh6, H⟩ := zbind H
  refine z_putF (pc := 26) dX1_init_26 fd_X1_23 rfl rfl rfl eh6 ?_
  cases H
  exact z_return rfl dX1_init_29

theorem fd_X1_26 : zFd RX1 26 1 3 (.int) false "WhoseStreet$Book" := zFd.of cl_1 (by decide) (zmem 315 (by decide +kernel) rfl) rfl rfl rfl
def f_X1_isFull (N : Nat) (v0 : Nat) (h : zH) : Option (Int32) := (gI h v0 1 3).bind fun x1 => if x1 < 16 then (some 0) else (some 1)
set_option maxRecDepth 100000 in
set_option maxHeartbeats 4000000 in
theorem k_X1_isFull {N : Nat} {v0 : Nat} {h : zH} {r : Int32} (H : f_X1_isFull N v0 h = some r) : zOk 0 0 0 yX1_isFull cX1_isFull 1 (some .boolean) [.ref v0] h (some (.int r)) h := by
  refine zOk.of (by decide) (Nat.le_of_ble_eq_true rfl) ?_
  unfold f_X1_isFull at H
  refine z_aload_n (pc := 0) 0 dX1_isFull_0 rfl rfl ?_
  obtain ⟨x1, ex1, H⟩ := zbind H
  refine z_getI (pc := 1) dX1_isFull_1 fd_X1_26 ex1 ?_
  refine z_bipush (pc := 4) (x := 16) dX1_isFull_4 zc_bipush_16 ?_
  refine z_icmp_lt (pc := 6) 13 dX1_isFull_6 (by decide) (fun c2 => ?_) (fun c2 => ?_)
  · rw [if_pos c2] at H
    refine z_iconst (pc := 13) (x := 0) dX1_isFull_13 zc_iconst_0 ?_
    cases H
    exact z_zreturn rfl dX1_isFull_14 (by decide)
  · rw [if_neg c2] at H
    refine z_iconst (pc := 9) (x := 1) dX1_isFull_9 zc_iconst_1 ?_
    refine z_goto (pc := 10) 14 dX1_isFull_10 (by decide) ?_
    cases H
    exact z_zreturn rfl dX1_isFull_14 (by decide)

def f_X1_add (N : Nat) (v0 : Nat) (v1 : Nat) (h : zH) : Option (zH) := (gI h v0 1 3).bind fun x1 => if 16 ≤ x1 then (some h) else ((gR h v0 1 0).bind fun r3 => (gI h v0 1 3).bind fun x4 => (sQ h r3 x4 v1).bind fun h5 => (gI h5 v0 1 3).bind fun x6 => (pF h5 v0 1 3 (.int (x6 + 1))).bind fun h7 => some h7)
set_option maxRecDepth 100000 in
set_option maxHeartbeats 4000000 in
theorem k_X1_add {N : Nat} {v0 : Nat} {v1 : Nat} {h : zH} {r : zH} (H : f_X1_add N v0 v1 h = some r) : zOk 0 0 0 yX1_add cX1_add 2 none [.ref v0, .ref v1] h none r := by
  refine zOk.of (by decide) (Nat.le_of_ble_eq_true rfl) ?_
  unfold f_X1_add at H
  refine z_aload_n (pc := 0) 0 dX1_add_0 rfl rfl ?_
  obtain ⟨x1, ex1, H⟩ := zbind H
  refine z_getI (pc := 1) dX1_add_1 fd_X1_26 ex1 ?_
  refine z_bipush (pc := 4) (x := 16) dX1_add_4 zc_bipush_16 ?_
  refine z_icmp_ge (pc := 6) 29 dX1_add_6 (by decide) (fun c2 => ?_) (fun c2 => ?_)
  · rw [if_pos c2] at H
    cases H
    exact z_return rfl dX1_add_29
  · rw [if_neg c2] at H
    refine z_aload_n (pc := 9) 0 dX1_add_9 rfl rfl ?_
    obtain ⟨r3, er3, H⟩ := zbind H
    refine z_getR (pc := 10) dX1_add_10 fd_X1_13 er3 ?_
    refine z_aload_n (pc := 13) 0 dX1_add_13 rfl rfl ?_
    obtain ⟨x4, ex4, H⟩ := zbind H
    refine z_getI (pc := 14) dX1_add_14 fd_X1_26 ex4 ?_
    refine z_aload_n (pc := 17) 1 dX1_add_17 rfl rfl ?_
    obtain ⟨h5, eh5, H⟩ := zbind H
    refine z_aastore (pc := 18) dX1_add_18 eh5 ?_
    refine z_aload_n (pc := 19) 0 dX1_add_19 rfl rfl ?_
    refine z_dup (pc := 20) dX1_add_20 rfl ?_
    obtain ⟨x6, ex6, H⟩ := zbind H
    refine z_getI (pc := 21) dX1_add_21 fd_X1_26 ex6 ?_
    refine z_iconst (pc := 24) (x := 1) dX1_add_24 zc_iconst_1 ?_
    refine z_iadd (pc := 25) dX1_add_25 ?_
    obtain ⟨h7, eh7, H⟩ := zbind H
    refine z_put (pc := 26) dX1_add_26 fd_X1_26 rfl rfl eh7 ?_
    cases H
    exact z_return rfl dX1_add_29

theorem fd_X1_62 : zFd RX1 62 4 0 (.int) true "WhoseStreet$Law" := zFd.of cl_4 (by decide) (zmem 905 (by decide +kernel) rfl) rfl rfl rfl
theorem fd_X1_64 : zFd RX1 64 4 1 (.int) true "WhoseStreet$Law" := zFd.of cl_4 (by decide) (zmem 907 (by decide +kernel) rfl) rfl rfl rfl
def f_X1_lawOf_L8 (N : Nat) (v0 : Nat) (v1 : Int32) (v2 : Int32) (h : zH) : Nat → Int32 → Int32 → Int32 → Option (Int32)
  | 0, _, _, _ => none
  | n + 1, v3, v4, v5 => (gI h v0 1 3).bind fun x1 => if x1 ≤ v5 then (some v3) else (if 16 ≤ v5 then (some v3) else ((gR h v0 1 0).bind fun r4 => (aQ h r4 v5).bind fun x5 => zopt x5 (f_X1_lawOf_L8 N v0 v1 v2 h n v3 v4 (v5 + 1)) (fun a6 => (gI h a6 4 0).bind fun x8 => if v2 < x8 then (f_X1_lawOf_L8 N v0 v1 v2 h n v3 v4 (v5 + 1)) else ((gI h a6 4 1).bind fun x10 => if v1 < x10 then (f_X1_lawOf_L8 N v0 v1 v2 h n v3 v4 (v5 + 1)) else ((gI h a6 4 1).bind fun x12 => if x12 < v4 then (f_X1_lawOf_L8 N v0 v1 v2 h n v3 v4 (v5 + 1)) else ((gI h a6 4 1).bind fun x14 => f_X1_lawOf_L8 N v0 v1 v2 h n v5 x14 (v5 + 1)))))))
set_option maxRecDepth 100000 in
set_option maxHeartbeats 4000000 in
theorem s_X1_lawOf_L8 {d mc ms N : Nat} {vv : Option Value} {hh : zH} {v0 : Nat} {v1 : Int32} {v2 : Int32} {h : zH} (hd0 : 0 ≤ d) : ∀ (n : Nat) (v3 : Int32) (v4 : Int32) (v5 : Int32) (m : Int32), f_X1_lawOf_L8 N v0 v1 v2 h n v3 v4 v5 = some m → (zW yX1_lawOf cX1_lawOf 7 (some .int) d mc ms 82 [(3, .int m)] [] h vv hh) → zW yX1_lawOf cX1_lawOf 7 (some .int) d mc ms 8 [(0, .ref v0), (1, .int v1), (2, .int v2), (3, .int v3), (4, .int v4), (5, .int v5)] [] h vv hh := by
  intro n
  induction n with
  | zero =>
    intro v3 v4 v5 m H
    cases H
  | succ n ih =>
    intro v3 v4 v5 m H KE
    unfold f_X1_lawOf_L8 at H
    refine z_iload (pc := 8) 5 dX1_lawOf_8 rfl ?_
    refine z_aload_n (pc := 10) 0 dX1_lawOf_10 rfl rfl ?_
    obtain ⟨x1, ex1, H⟩ := zbind H
    refine z_getI (pc := 11) dX1_lawOf_11 fd_X1_26 ex1 ?_
    refine z_icmp_ge (pc := 14) 82 dX1_lawOf_14 (by decide) (fun c2 => ?_) (fun c2 => ?_)
    · rw [if_pos c2] at H
      cases H
      exact z_sub [3] rfl (KE)
    · rw [if_neg c2] at H
      refine z_iload (pc := 17) 5 dX1_lawOf_17 rfl ?_
      refine z_bipush (pc := 19) (x := 16) dX1_lawOf_19 zc_bipush_16 ?_
      refine z_icmp_ge (pc := 21) 82 dX1_lawOf_21 (by decide) (fun c3 => ?_) (fun c3 => ?_)
      · rw [if_pos c3] at H
        cases H
        exact z_sub [3] rfl (KE)
      · rw [if_neg c3] at H
        refine z_aload_n (pc := 24) 0 dX1_lawOf_24 rfl rfl ?_
        obtain ⟨r4, er4, H⟩ := zbind H
        refine z_getR (pc := 25) dX1_lawOf_25 fd_X1_13 er4 ?_
        refine z_iload (pc := 28) 5 dX1_lawOf_28 rfl ?_
        obtain ⟨x5, ex5, H⟩ := zbind H
        refine z_aaload (pc := 30) dX1_lawOf_30 ex5 ?_
        refine z_astoreQ (pc := 31) (lv' := [(6, va_rf x5), (0, .ref v0), (1, .int v1), (2, .int v2), (3, .int v3), (4, .int v4), (5, .int v5)]) dX1_lawOf_31 (by decide) rfl ?_
        refine z_aloadQ (pc := 33) 0 dX1_lawOf_33 rfl ?_
        refine z_ifnull (pc := 35) 76 dX1_lawOf_35 (by decide) (fun c7 => ?_) (fun a6 c7 => ?_)
        · subst c7
          have H := zoptN H
          refine z_iinc (pc := 76) (x' := v5 + 1) (lv' := [(5, .int (v5 + 1)), (6, va_rf none), (0, .ref v0), (1, .int v1), (2, .int v2), (3, .int v3), (4, .int v4)]) 6 dX1_lawOf_76 rfl (by rfl) (by decide) rfl ?_
          refine z_goto (pc := 79) 8 dX1_lawOf_79 (by decide) ?_
          exact z_sub [2, 3, 4, 5, 6, 0] rfl (ih v3 v4 (v5 + 1) _ H KE)
        · subst c7
          have H := zoptS H
          refine z_sub (lv' := [(6, .ref a6), (0, .ref v0), (1, .int v1), (2, .int v2), (3, .int v3), (4, .int v4), (5, .int v5)]) [0, 1, 2, 3, 4, 5, 6] rfl ?_
          refine z_aload (pc := 38) 0 dX1_lawOf_38 rfl ?_
          obtain ⟨x8, ex8, H⟩ := zbind H
          refine z_getI (pc := 40) dX1_lawOf_40 fd_X1_62 ex8 ?_
          refine z_iload_n (pc := 43) 3 dX1_lawOf_43 rfl rfl ?_
          refine z_icmp_gt (pc := 44) 76 dX1_lawOf_44 (by decide) (fun c9 => ?_) (fun c9 => ?_)
          · rw [if_pos c9] at H
            refine z_iinc (pc := 76) (x' := v5 + 1) (lv' := [(5, .int (v5 + 1)), (6, .ref a6), (0, .ref v0), (1, .int v1), (2, .int v2), (3, .int v3), (4, .int v4)]) 6 dX1_lawOf_76 rfl (by rfl) (by decide) rfl ?_
            refine z_goto (pc := 79) 8 dX1_lawOf_79 (by decide) ?_
            exact z_sub [2, 3, 4, 5, 6, 0] rfl (ih v3 v4 (v5 + 1) _ H KE)
          · rw [if_neg c9] at H
            refine z_aload (pc := 47) 0 dX1_lawOf_47 rfl ?_
            obtain ⟨x10, ex10, H⟩ := zbind H
            refine z_getI (pc := 49) dX1_lawOf_49 fd_X1_64 ex10 ?_
            refine z_iload_n (pc := 52) 2 dX1_lawOf_52 rfl rfl ?_
            refine z_icmp_gt (pc := 53) 76 dX1_lawOf_53 (by decide) (fun c11 => ?_) (fun c11 => ?_)
            · rw [if_pos c11] at H
              refine z_iinc (pc := 76) (x' := v5 + 1) (lv' := [(5, .int (v5 + 1)), (6, .ref a6), (0, .ref v0), (1, .int v1), (2, .int v2), (3, .int v3), (4, .int v4)]) 6 dX1_lawOf_76 rfl (by rfl) (by decide) rfl ?_
              refine z_goto (pc := 79) 8 dX1_lawOf_79 (by decide) ?_
              exact z_sub [2, 3, 4, 5, 6, 0] rfl (ih v3 v4 (v5 + 1) _ H KE)
            · rw [if_neg c11] at H
              refine z_aload (pc := 56) 0 dX1_lawOf_56 rfl ?_
              obtain ⟨x12, ex12, H⟩ := zbind H
              refine z_getI (pc := 58) dX1_lawOf_58 fd_X1_64 ex12 ?_
              refine z_iload (pc := 61) 5 dX1_lawOf_61 rfl ?_
              refine z_icmp_lt (pc := 63) 76 dX1_lawOf_63 (by decide) (fun c13 => ?_) (fun c13 => ?_)
              · rw [if_pos c13] at H
                refine z_iinc (pc := 76) (x' := v5 + 1) (lv' := [(5, .int (v5 + 1)), (6, .ref a6), (0, .ref v0), (1, .int v1), (2, .int v2), (3, .int v3), (4, .int v4)]) 6 dX1_lawOf_76 rfl (by rfl) (by decide) rfl ?_
                refine z_goto (pc := 79) 8 dX1_lawOf_79 (by decide) ?_
                exact z_sub [2, 3, 4, 5, 6, 0] rfl (ih v3 v4 (v5 + 1) _ H KE)
              · rw [if_neg c13] at H
                refine z_iload (pc := 66) 6 dX1_lawOf_66 rfl ?_
                refine z_istore_n (pc := 68) (lv' := [(3, .int v5), (6, .ref a6), (0, .ref v0), (1, .int v1), (2, .int v2), (4, .int v4), (5, .int v5)]) dX1_lawOf_68 rfl (by decide) rfl ?_
                refine z_aload (pc := 69) 1 dX1_lawOf_69 rfl ?_
                obtain ⟨x14, ex14, H⟩ := zbind H
                refine z_getI (pc := 71) dX1_lawOf_71 fd_X1_64 ex14 ?_
                refine z_istore (pc := 74) (lv' := [(4, .int x14), (3, .int v5), (6, .ref a6), (0, .ref v0), (1, .int v1), (2, .int v2), (5, .int v5)]) dX1_lawOf_74 (by decide) rfl ?_
                refine z_iinc (pc := 76) (x' := v5 + 1) (lv' := [(5, .int (v5 + 1)), (4, .int x14), (3, .int v5), (6, .ref a6), (0, .ref v0), (1, .int v1), (2, .int v2)]) 6 dX1_lawOf_76 rfl (by rfl) (by decide) rfl ?_
                refine z_goto (pc := 79) 8 dX1_lawOf_79 (by decide) ?_
                exact z_sub [4, 5, 6, 2, 1, 0] rfl (ih v5 x14 (v5 + 1) _ H KE)
def f_X1_lawOf (N : Nat) (v0 : Nat) (v1 : Int32) (v2 : Int32) (h : zH) : Option (Int32) := (f_X1_lawOf_L8 N v0 v1 v2 h N (-1) (-1) 0).bind fun m15 => some m15
set_option maxRecDepth 100000 in
set_option maxHeartbeats 4000000 in
theorem k_X1_lawOf {N : Nat} {v0 : Nat} {v1 : Int32} {v2 : Int32} {h : zH} {r : Int32} (H : f_X1_lawOf N v0 v1 v2 h = some r) : zOk 0 0 0 yX1_lawOf cX1_lawOf 7 (some .int) [.ref v0, .int v1, .int v2] h (some (.int r)) h := by
  refine zOk.of (by decide) (Nat.le_of_ble_eq_true rfl) ?_
  unfold f_X1_lawOf at H
  refine z_iconst (pc := 0) (x := (-1)) dX1_lawOf_0 zc_iconst_m1 ?_
  refine z_istore_n (pc := 1) (lv' := [(3, .int (-1)), (0, .ref v0), (1, .int v1), (2, .int v2)]) dX1_lawOf_1 rfl (by decide) rfl ?_
  refine z_iconst (pc := 2) (x := (-1)) dX1_lawOf_2 zc_iconst_m1 ?_
  refine z_istore (pc := 3) (lv' := [(4, .int (-1)), (3, .int (-1)), (0, .ref v0), (1, .int v1), (2, .int v2)]) dX1_lawOf_3 (by decide) rfl ?_
  refine z_iconst (pc := 5) (x := 0) dX1_lawOf_5 zc_iconst_0 ?_
  refine z_istore (pc := 6) (lv' := [(5, .int 0), (4, .int (-1)), (3, .int (-1)), (0, .ref v0), (1, .int v1), (2, .int v2)]) dX1_lawOf_6 (by decide) rfl ?_
  obtain ⟨m15, em15, H⟩ := zbind H
  refine z_sub [3, 4, 5, 2, 1, 0] rfl (s_X1_lawOf_L8 (by omega) N (-1) (-1) 0 _ em15 ?_)
  refine z_iload_n (pc := 82) 0 dX1_lawOf_82 rfl rfl ?_
  cases H
  exact z_ireturn rfl dX1_lawOf_83

theorem fd_X1_73 : zFd RX1 73 1 8 (.int) false "WhoseStreet$Book" := zFd.of cl_1 (by decide) (zmem 325 (by decide +kernel) rfl) rfl rfl rfl
def f_X1_pop (N : Nat) (v0 : Nat) (h : zH) : Option (Int32 × zH) := (gI h v0 1 8).bind fun x1 => if 0 < x1 then ((gI h v0 1 8).bind fun x3 => (pF h v0 1 8 (.int (x3 - 1))).bind fun h4 => (gR h4 v0 1 2).bind fun r5 => (gI h4 v0 1 8).bind fun x6 => (aI h4 r5 x6).bind fun x7 => some (x7, h4)) else (some (0, h))
set_option maxRecDepth 100000 in
set_option maxHeartbeats 4000000 in
theorem k_X1_pop {N : Nat} {v0 : Nat} {h : zH} {r : Int32 × zH} (H : f_X1_pop N v0 h = some r) : zOk 0 0 0 yX1_pop cX1_pop 1 (some .int) [.ref v0] h (some (.int r.1)) r.2 := by
  refine zOk.of (by decide) (Nat.le_of_ble_eq_true rfl) ?_
  unfold f_X1_pop at H
  refine z_aload_n (pc := 0) 0 dX1_pop_0 rfl rfl ?_
  obtain ⟨x1, ex1, H⟩ := zbind H
  refine z_getI (pc := 1) dX1_pop_1 fd_X1_73 ex1 ?_
  refine z_if_gt (pc := 4) 9 dX1_pop_4 (by decide) (fun c2 => ?_) (fun c2 => ?_)
  · rw [if_pos c2] at H
    refine z_aload_n (pc := 9) 0 dX1_pop_9 rfl rfl ?_
    refine z_dup (pc := 10) dX1_pop_10 rfl ?_
    obtain ⟨x3, ex3, H⟩ := zbind H
    refine z_getI (pc := 11) dX1_pop_11 fd_X1_73 ex3 ?_
    refine z_iconst (pc := 14) (x := 1) dX1_pop_14 zc_iconst_1 ?_
    refine z_isub (pc := 15) dX1_pop_15 ?_
    obtain ⟨h4, eh4, H⟩ := zbind H
    refine z_put (pc := 16) dX1_pop_16 fd_X1_73 rfl rfl eh4 ?_
    refine z_aload_n (pc := 19) 0 dX1_pop_19 rfl rfl ?_
    obtain ⟨r5, er5, H⟩ := zbind H
    refine z_getR (pc := 20) dX1_pop_20 fd_X1_23 er5 ?_
    refine z_aload_n (pc := 23) 0 dX1_pop_23 rfl rfl ?_
    obtain ⟨x6, ex6, H⟩ := zbind H
    refine z_getI (pc := 24) dX1_pop_24 fd_X1_73 ex6 ?_
    obtain ⟨x7, ex7, H⟩ := zbind H
    refine z_iaload (pc := 27) dX1_pop_27 ex7 ?_
    cases H
    exact z_ireturn rfl dX1_pop_28
  · rw [if_neg c2] at H
    refine z_iconst (pc := 7) (x := 0) dX1_pop_7 zc_iconst_0 ?_
    cases H
    exact z_ireturn rfl dX1_pop_8

def f_X1_push (N : Nat) (v0 : Nat) (v1 : Int32) (h : zH) : Option (zH) := (gI h v0 1 8).bind fun x1 => (gR h v0 1 2).bind fun r2 => (aN h r2).bind fun x3 => if x3 ≤ x1 then (some h) else ((gR h v0 1 2).bind fun r5 => (gI h v0 1 8).bind fun x6 => (sI h r5 x6 v1).bind fun h7 => (gI h7 v0 1 8).bind fun x8 => (pF h7 v0 1 8 (.int (x8 + 1))).bind fun h9 => some h9)
set_option maxRecDepth 100000 in
set_option maxHeartbeats 4000000 in
theorem k_X1_push {N : Nat} {v0 : Nat} {v1 : Int32} {h : zH} {r : zH} (H : f_X1_push N v0 v1 h = some r) : zOk 0 0 0 yX1_push cX1_push 2 none [.ref v0, .int v1] h none r := by
  refine zOk.of (by decide) (Nat.le_of_ble_eq_true rfl) ?_
  unfold f_X1_push at H
  refine z_aload_n (pc := 0) 0 dX1_push_0 rfl rfl ?_
  obtain ⟨x1, ex1, H⟩ := zbind H
  refine z_getI (pc := 1) dX1_push_1 fd_X1_73 ex1 ?_
  refine z_aload_n (pc := 4) 0 dX1_push_4 rfl rfl ?_
  obtain ⟨r2, er2, H⟩ := zbind H
  refine z_getR (pc := 5) dX1_push_5 fd_X1_23 er2 ?_
  obtain ⟨x3, ex3, H⟩ := zbind H
  refine z_alen (pc := 8) dX1_push_8 ex3 ?_
  refine z_icmp_ge (pc := 9) 32 dX1_push_9 (by decide) (fun c4 => ?_) (fun c4 => ?_)
  · rw [if_pos c4] at H
    cases H
    exact z_return rfl dX1_push_32
  · rw [if_neg c4] at H
    refine z_aload_n (pc := 12) 0 dX1_push_12 rfl rfl ?_
    obtain ⟨r5, er5, H⟩ := zbind H
    refine z_getR (pc := 13) dX1_push_13 fd_X1_23 er5 ?_
    refine z_aload_n (pc := 16) 0 dX1_push_16 rfl rfl ?_
    obtain ⟨x6, ex6, H⟩ := zbind H
    refine z_getI (pc := 17) dX1_push_17 fd_X1_73 ex6 ?_
    refine z_iload_n (pc := 20) 1 dX1_push_20 rfl rfl ?_
    obtain ⟨h7, eh7, H⟩ := zbind H
    refine z_iastore (pc := 21) dX1_push_21 eh7 ?_
    refine z_aload_n (pc := 22) 0 dX1_push_22 rfl rfl ?_
    refine z_dup (pc := 23) dX1_push_23 rfl ?_
    obtain ⟨x8, ex8, H⟩ := zbind H
    refine z_getI (pc := 24) dX1_push_24 fd_X1_73 ex8 ?_
    refine z_iconst (pc := 27) (x := 1) dX1_push_27 zc_iconst_1 ?_
    refine z_iadd (pc := 28) dX1_push_28 ?_
    obtain ⟨h9, eh9, H⟩ := zbind H
    refine z_put (pc := 29) dX1_push_29 fd_X1_73 rfl rfl eh9 ?_
    cases H
    exact z_return rfl dX1_push_32

theorem zc_bipush_9 : (Int8.ofInt (9)).toInt32 = (9 : Int32) := by decide
theorem md_X1_pop : zMd yX1_pop cX1_pop 1 0 (some .int) := ⟨zmw (zmt_4 _ (List.mem_of_getElem? (i := 121) rfl)) rfl, zmem 120 (by decide +kernel) rfl, by decide, by decide, by decide +kernel, by decide⟩
theorem ml_X1_87 : Cond.methodLink RX1 87 yX1_pop ∈ zB := zmem 949 (by decide +kernel) rfl
theorem im_X1_pop : Cond.instanceMethod yX1_pop ∈ zB := zmem 951 (by decide +kernel) rfl
theorem se_X1_pop : Cond.selects yX1_pop.cls yX1_pop yX1_pop ∈ zB := zmem 33 (by decide +kernel) rfl
theorem md_X1_push : zMd yX1_push cX1_push 2 1 none := ⟨zmw (zmt_4 _ (List.mem_of_getElem? (i := 125) rfl)) rfl, zmem 120 (by decide +kernel) rfl, by decide, by decide, by decide +kernel, by decide⟩
theorem ml_X1_80 : Cond.methodLink RX1 80 yX1_push ∈ zB := zmem 953 (by decide +kernel) rfl
theorem im_X1_push : Cond.instanceMethod yX1_push ∈ zB := zmem 955 (by decide +kernel) rfl
theorem se_X1_push : Cond.selects yX1_push.cls yX1_push yX1_push ∈ zB := zmem 34 (by decide +kernel) rfl
def f_X1_operate (N : Nat) (v0 : Nat) (v1 : Int32) (h : zH) : Option (zH) := zif (zob h v0 1) <| (f_X1_pop N v0 h).bind fun q2 => if v1 = 9 then ((if q2.1 = 0 then (some 1) else (some 0) : Option (Int32)).bind fun m36 => zif (zob q2.2 v0 1) <| (f_X1_push N v0 m36 q2.2).bind fun h39 => some h39) else (zif (zob q2.2 v0 1) <| (f_X1_pop N v0 q2.2).bind fun q5 => if v1 = 7 then ((if q5.1 = 0 then (some 0) else (if q2.1 = 0 then (some 0) else (some 1)) : Option (Int32)).bind fun m7 => zif (zob q5.2 v0 1) <| (f_X1_push N v0 m7 q5.2).bind fun h11 => some h11) else (if v1 = 8 then ((if q5.1 = 0 then (if q2.1 = 0 then (some 0) else (some 1)) else (some 1) : Option (Int32)).bind fun m13 => zif (zob q5.2 v0 1) <| (f_X1_push N v0 m13 q5.2).bind fun h17 => some h17) else (if v1 = 43 then (zif (zob q5.2 v0 1) <| (f_X1_push N v0 (q5.1 + q2.1) q5.2).bind fun h20 => some h20) else (if v1 = 45 then (zif (zob q5.2 v0 1) <| (f_X1_push N v0 (q5.1 - q2.1) q5.2).bind fun h23 => some h23) else (if v1 = 60 then ((if q2.1 ≤ q5.1 then (some 0) else (some 1) : Option (Int32)).bind fun m25 => zif (zob q5.2 v0 1) <| (f_X1_push N v0 m25 q5.2).bind fun h28 => some h28) else (if v1 = 61 then ((if q5.1 = q2.1 then (some 1) else (some 0) : Option (Int32)).bind fun m30 => zif (zob q5.2 v0 1) <| (f_X1_push N v0 m30 q5.2).bind fun h33 => some h33) else (zif (zob q5.2 v0 1) <| (f_X1_push N v0 (q5.1 * q2.1) q5.2).bind fun h35 => some h35)))))))
set_option maxRecDepth 100000 in
set_option maxHeartbeats 4000000 in
theorem k_X1_operate {N : Nat} {v0 : Nat} {v1 : Int32} {h : zH} {r : zH} (H : f_X1_operate N v0 v1 h = some r) : zOk 1 0 0 yX1_operate cX1_operate 4 none [.ref v0, .int v1] h none r := by
  refine zOk.of (by decide) (Nat.le_of_ble_eq_true rfl) ?_
  unfold f_X1_operate at H
  refine z_aload_n (pc := 0) 0 dX1_operate_0 rfl rfl ?_
  obtain ⟨z1, H⟩ := zifE H
  obtain ⟨q2, eq2, H⟩ := zbind H
  refine z_callV (pc := 1) (mc := 0) (ms := 0) (d' := 0) (mc' := 0) (ms' := 0) (rest := []) [] dX1_operate_1 md_X1_pop ml_X1_87 im_X1_pop se_X1_pop rfl z1 rfl rfl (Nat.le_of_ble_eq_true rfl) (by omega) (k_X1_pop eq2) ?_
  refine z_istore_n (pc := 4) (lv' := [(2, .int q2.1), (0, .ref v0), (1, .int v1)]) dX1_operate_4 rfl (by decide) rfl ?_
  refine z_iload_n (pc := 5) 2 dX1_operate_5 rfl rfl ?_
  refine z_bipush (pc := 6) (x := 9) dX1_operate_6 zc_bipush_9 ?_
  refine z_icmp_ne (pc := 8) 25 dX1_operate_8 (by decide) (fun c3 => ?_) (fun c3 => ?_)
  · rw [if_neg c3] at H
    refine z_aload_n (pc := 25) 1 dX1_operate_25 rfl rfl ?_
    obtain ⟨z4, H⟩ := zifE H
    obtain ⟨q5, eq5, H⟩ := zbind H
    refine z_callV (pc := 26) (mc := 0) (ms := 0) (d' := 0) (mc' := 0) (ms' := 0) (rest := []) [] dX1_operate_26 md_X1_pop ml_X1_87 im_X1_pop se_X1_pop rfl z4 rfl rfl (Nat.le_of_ble_eq_true rfl) (by omega) (k_X1_pop eq5) ?_
    refine z_istore_n (pc := 29) (lv' := [(3, .int q5.1), (2, .int q2.1), (0, .ref v0), (1, .int v1)]) dX1_operate_29 rfl (by decide) rfl ?_
    refine z_iload_n (pc := 30) 3 dX1_operate_30 rfl rfl ?_
    by_cases c6 : v1 = 7
    · rw [if_pos c6] at H
      refine z_lsw (pc := 31) (off := 57) 88 dX1_operate_31 (by decide) (by rw [c6]; decide) (by decide) ?_
      refine z_aload_n (pc := 88) 2 dX1_operate_88 rfl rfl ?_
      refine z_iload_n (pc := 89) 0 dX1_operate_89 rfl rfl ?_
      obtain ⟨m7, em7, H⟩ := zbind H
      have Jm7 : zW yX1_operate cX1_operate 4 none 1 0 0 102 [] [.int m7, .ref v0] q5.2 none r := by
        obtain ⟨z10, H⟩ := zifE H
        obtain ⟨h11, eh11, H⟩ := zbind H
        refine z_callV (pc := 102) (mc := 0) (ms := 0) (d' := 0) (mc' := 0) (ms' := 0) (rest := []) [.int m7] dX1_operate_102 md_X1_push ml_X1_80 im_X1_push se_X1_push rfl z10 rfl rfl (Nat.le_of_ble_eq_true rfl) (by omega) (k_X1_push eh11) ?_
        refine z_goto (pc := 105) 189 dX1_operate_105 (by decide) ?_
        cases H
        exact z_return rfl dX1_operate_189
      refine z_if_eq (pc := 90) 101 dX1_operate_90 (by decide) (fun c8 => ?_) (fun c8 => ?_)
      · rw [if_pos c8] at em7
        refine z_iconst (pc := 101) (x := 0) dX1_operate_101 zc_iconst_0 ?_
        cases em7
        exact z_sub [] rfl Jm7
      · rw [if_neg c8] at em7
        refine z_iload_n (pc := 93) 1 dX1_operate_93 rfl rfl ?_
        refine z_if_eq (pc := 94) 101 dX1_operate_94 (by decide) (fun c9 => ?_) (fun c9 => ?_)
        · rw [if_pos c9] at em7
          refine z_iconst (pc := 101) (x := 0) dX1_operate_101 zc_iconst_0 ?_
          cases em7
          exact z_sub [] rfl Jm7
        · rw [if_neg c9] at em7
          refine z_iconst (pc := 97) (x := 1) dX1_operate_97 zc_iconst_1 ?_
          refine z_goto (pc := 98) 102 dX1_operate_98 (by decide) ?_
          cases em7
          exact z_sub [] rfl Jm7
    rw [if_neg c6] at H
    by_cases c12 : v1 = 8
    · rw [if_pos c12] at H
      refine z_lsw (pc := 31) (off := 77) 108 dX1_operate_31 (by decide) (by rw [c12]; decide) (by decide) ?_
      refine z_aload_n (pc := 108) 2 dX1_operate_108 rfl rfl ?_
      refine z_iload_n (pc := 109) 0 dX1_operate_109 rfl rfl ?_
      obtain ⟨m13, em13, H⟩ := zbind H
      have Jm13 : zW yX1_operate cX1_operate 4 none 1 0 0 122 [] [.int m13, .ref v0] q5.2 none r := by
        obtain ⟨z16, H⟩ := zifE H
        obtain ⟨h17, eh17, H⟩ := zbind H
        refine z_callV (pc := 122) (mc := 0) (ms := 0) (d' := 0) (mc' := 0) (ms' := 0) (rest := []) [.int m13] dX1_operate_122 md_X1_push ml_X1_80 im_X1_push se_X1_push rfl z16 rfl rfl (Nat.le_of_ble_eq_true rfl) (by omega) (k_X1_push eh17) ?_
        refine z_goto (pc := 125) 189 dX1_operate_125 (by decide) ?_
        cases H
        exact z_return rfl dX1_operate_189
      refine z_if_ne (pc := 110) 117 dX1_operate_110 (by decide) (fun c14 => ?_) (fun c14 => ?_)
      · rw [if_neg c14] at em13
        refine z_iconst (pc := 117) (x := 1) dX1_operate_117 zc_iconst_1 ?_
        refine z_goto (pc := 118) 122 dX1_operate_118 (by decide) ?_
        cases em13
        exact z_sub [] rfl Jm13
      · rw [if_pos c14] at em13
        refine z_iload_n (pc := 113) 1 dX1_operate_113 rfl rfl ?_
        refine z_if_eq (pc := 114) 121 dX1_operate_114 (by decide) (fun c15 => ?_) (fun c15 => ?_)
        · rw [if_pos c15] at em13
          refine z_iconst (pc := 121) (x := 0) dX1_operate_121 zc_iconst_0 ?_
          cases em13
          exact z_sub [] rfl Jm13
        · rw [if_neg c15] at em13
          refine z_iconst (pc := 117) (x := 1) dX1_operate_117 zc_iconst_1 ?_
          refine z_goto (pc := 118) 122 dX1_operate_118 (by decide) ?_
          cases em13
          exact z_sub [] rfl Jm13
    rw [if_neg c12] at H
    by_cases c18 : v1 = 43
    · rw [if_pos c18] at H
      refine z_lsw (pc := 31) (off := 131) 162 dX1_operate_31 (by decide) (by rw [c18]; decide) (by decide) ?_
      refine z_aload_n (pc := 162) 2 dX1_operate_162 rfl rfl ?_
      refine z_iload_n (pc := 163) 0 dX1_operate_163 rfl rfl ?_
      refine z_iload_n (pc := 164) 1 dX1_operate_164 rfl rfl ?_
      refine z_iadd (pc := 165) dX1_operate_165 ?_
      obtain ⟨z19, H⟩ := zifE H
      obtain ⟨h20, eh20, H⟩ := zbind H
      refine z_callV (pc := 166) (mc := 0) (ms := 0) (d' := 0) (mc' := 0) (ms' := 0) (rest := []) [.int (q5.1 + q2.1)] dX1_operate_166 md_X1_push ml_X1_80 im_X1_push se_X1_push rfl z19 rfl rfl (Nat.le_of_ble_eq_true rfl) (by omega) (k_X1_push eh20) ?_
      refine z_goto (pc := 169) 189 dX1_operate_169 (by decide) ?_
      cases H
      exact z_return rfl dX1_operate_189
    rw [if_neg c18] at H
    by_cases c21 : v1 = 45
    · rw [if_pos c21] at H
      refine z_lsw (pc := 31) (off := 141) 172 dX1_operate_31 (by decide) (by rw [c21]; decide) (by decide) ?_
      refine z_aload_n (pc := 172) 2 dX1_operate_172 rfl rfl ?_
      refine z_iload_n (pc := 173) 0 dX1_operate_173 rfl rfl ?_
      refine z_iload_n (pc := 174) 1 dX1_operate_174 rfl rfl ?_
      refine z_isub (pc := 175) dX1_operate_175 ?_
      obtain ⟨z22, H⟩ := zifE H
      obtain ⟨h23, eh23, H⟩ := zbind H
      refine z_callV (pc := 176) (mc := 0) (ms := 0) (d' := 0) (mc' := 0) (ms' := 0) (rest := []) [.int (q5.1 - q2.1)] dX1_operate_176 md_X1_push ml_X1_80 im_X1_push se_X1_push rfl z22 rfl rfl (Nat.le_of_ble_eq_true rfl) (by omega) (k_X1_push eh23) ?_
      refine z_goto (pc := 179) 189 dX1_operate_179 (by decide) ?_
      cases H
      exact z_return rfl dX1_operate_189
    rw [if_neg c21] at H
    by_cases c24 : v1 = 60
    · rw [if_pos c24] at H
      refine z_lsw (pc := 31) (off := 97) 128 dX1_operate_31 (by decide) (by rw [c24]; decide) (by decide) ?_
      refine z_aload_n (pc := 128) 2 dX1_operate_128 rfl rfl ?_
      refine z_iload_n (pc := 129) 0 dX1_operate_129 rfl rfl ?_
      refine z_iload_n (pc := 130) 1 dX1_operate_130 rfl rfl ?_
      obtain ⟨m25, em25, H⟩ := zbind H
      have Jm25 : zW yX1_operate cX1_operate 4 none 1 0 0 139 [] [.int m25, .ref v0] q5.2 none r := by
        obtain ⟨z27, H⟩ := zifE H
        obtain ⟨h28, eh28, H⟩ := zbind H
        refine z_callV (pc := 139) (mc := 0) (ms := 0) (d' := 0) (mc' := 0) (ms' := 0) (rest := []) [.int m25] dX1_operate_139 md_X1_push ml_X1_80 im_X1_push se_X1_push rfl z27 rfl rfl (Nat.le_of_ble_eq_true rfl) (by omega) (k_X1_push eh28) ?_
        refine z_goto (pc := 142) 189 dX1_operate_142 (by decide) ?_
        cases H
        exact z_return rfl dX1_operate_189
      refine z_icmp_ge (pc := 131) 138 dX1_operate_131 (by decide) (fun c26 => ?_) (fun c26 => ?_)
      · rw [if_pos c26] at em25
        refine z_iconst (pc := 138) (x := 0) dX1_operate_138 zc_iconst_0 ?_
        cases em25
        exact z_sub [] rfl Jm25
      · rw [if_neg c26] at em25
        refine z_iconst (pc := 134) (x := 1) dX1_operate_134 zc_iconst_1 ?_
        refine z_goto (pc := 135) 139 dX1_operate_135 (by decide) ?_
        cases em25
        exact z_sub [] rfl Jm25
    rw [if_neg c24] at H
    by_cases c29 : v1 = 61
    · rw [if_pos c29] at H
      refine z_lsw (pc := 31) (off := 114) 145 dX1_operate_31 (by decide) (by rw [c29]; decide) (by decide) ?_
      refine z_aload_n (pc := 145) 2 dX1_operate_145 rfl rfl ?_
      refine z_iload_n (pc := 146) 0 dX1_operate_146 rfl rfl ?_
      refine z_iload_n (pc := 147) 1 dX1_operate_147 rfl rfl ?_
      obtain ⟨m30, em30, H⟩ := zbind H
      have Jm30 : zW yX1_operate cX1_operate 4 none 1 0 0 156 [] [.int m30, .ref v0] q5.2 none r := by
        obtain ⟨z32, H⟩ := zifE H
        obtain ⟨h33, eh33, H⟩ := zbind H
        refine z_callV (pc := 156) (mc := 0) (ms := 0) (d' := 0) (mc' := 0) (ms' := 0) (rest := []) [.int m30] dX1_operate_156 md_X1_push ml_X1_80 im_X1_push se_X1_push rfl z32 rfl rfl (Nat.le_of_ble_eq_true rfl) (by omega) (k_X1_push eh33) ?_
        refine z_goto (pc := 159) 189 dX1_operate_159 (by decide) ?_
        cases H
        exact z_return rfl dX1_operate_189
      refine z_icmp_ne (pc := 148) 155 dX1_operate_148 (by decide) (fun c31 => ?_) (fun c31 => ?_)
      · rw [if_neg c31] at em30
        refine z_iconst (pc := 155) (x := 0) dX1_operate_155 zc_iconst_0 ?_
        cases em30
        exact z_sub [] rfl Jm30
      · rw [if_pos c31] at em30
        refine z_iconst (pc := 151) (x := 1) dX1_operate_151 zc_iconst_1 ?_
        refine z_goto (pc := 152) 156 dX1_operate_152 (by decide) ?_
        cases em30
        exact z_sub [] rfl Jm30
    rw [if_neg c29] at H
    refine z_lsw (pc := 31) (off := 151) 182 dX1_operate_31 (by decide) (by show Op.lookupswitch.offset [(7, 57), (8, 77), (43, 131), (45, 141), (60, 97), (61, 114)] 151 v1.toInt = 151; rw [lv_osw c6 (by decide), lv_osw c12 (by decide), lv_osw c18 (by decide), lv_osw c21 (by decide), lv_osw c24 (by decide), lv_osw c29 (by decide)]; rfl) (by decide) ?_
    refine z_aload_n (pc := 182) 2 dX1_operate_182 rfl rfl ?_
    refine z_iload_n (pc := 183) 0 dX1_operate_183 rfl rfl ?_
    refine z_iload_n (pc := 184) 1 dX1_operate_184 rfl rfl ?_
    refine z_imul (pc := 185) dX1_operate_185 ?_
    obtain ⟨z34, H⟩ := zifE H
    obtain ⟨h35, eh35, H⟩ := zbind H
    refine z_callV (pc := 186) (mc := 0) (ms := 0) (d' := 0) (mc' := 0) (ms' := 0) (rest := []) [.int (q5.1 * q2.1)] dX1_operate_186 md_X1_push ml_X1_80 im_X1_push se_X1_push rfl z34 rfl rfl (Nat.le_of_ble_eq_true rfl) (by omega) (k_X1_push eh35) ?_
    cases H
    exact z_return rfl dX1_operate_189
  · rw [if_pos c3] at H
    refine z_aload_n (pc := 11) 1 dX1_operate_11 rfl rfl ?_
    refine z_iload_n (pc := 12) 0 dX1_operate_12 rfl rfl ?_
    obtain ⟨m36, em36, H⟩ := zbind H
    have Jm36 : zW yX1_operate cX1_operate 4 none 1 0 0 21 [] [.int m36, .ref v0] q2.2 none r := by
      obtain ⟨z38, H⟩ := zifE H
      obtain ⟨h39, eh39, H⟩ := zbind H
      refine z_callV (pc := 21) (mc := 0) (ms := 0) (d' := 0) (mc' := 0) (ms' := 0) (rest := []) [.int m36] dX1_operate_21 md_X1_push ml_X1_80 im_X1_push se_X1_push rfl z38 rfl rfl (Nat.le_of_ble_eq_true rfl) (by omega) (k_X1_push eh39) ?_
      cases H
      exact z_return rfl dX1_operate_24
    refine z_if_ne (pc := 13) 20 dX1_operate_13 (by decide) (fun c37 => ?_) (fun c37 => ?_)
    · rw [if_neg c37] at em36
      refine z_iconst (pc := 20) (x := 0) dX1_operate_20 zc_iconst_0 ?_
      cases em36
      exact z_sub [] rfl Jm36
    · rw [if_pos c37] at em36
      refine z_iconst (pc := 16) (x := 1) dX1_operate_16 zc_iconst_1 ?_
      refine z_goto (pc := 17) 21 dX1_operate_17 (by decide) ?_
      cases em36
      exact z_sub [] rfl Jm36

theorem fd_X6_27 : zFd RX6 27 6 4 (.int) true "WhoseStreet$Meeting" := zFd.of cl_6 (by decide) (zmem 572 (by decide +kernel) rfl) rfl rfl rfl
def f_X6_fact (N : Nat) (v0 : Nat) (v1 : Int32) (h : zH) : Option (Int32) := if v1 = 10 then ((gI h v0 6 1).bind fun x2 => some x2) else (if v1 = 11 then ((gI h v0 6 4).bind fun x4 => some x4) else (if v1 = 12 then (zif (zob h v0 6) <| (f_X6_seen N v0 h).bind fun q7 => some q7) else (if v1 = 13 then ((gI h v0 6 11).bind fun x9 => if x9 = (-1) then (some 0) else (some 1)) else (if v1 = 14 then ((gI h v0 6 5).bind fun x12 => if x12 = 0 then (some 0) else (some 1)) else (if v1 = 15 then ((gI h v0 6 6).bind fun x15 => some x15) else (if v1 = 16 then ((gI h v0 6 9).bind fun x17 => some x17) else (if v1 = 17 then ((gI h v0 6 10).bind fun x19 => some x19) else (if v1 = 18 then ((gI h v0 6 7).bind fun x21 => if x21 = 0 then (some 0) else (some 1)) else (some 0)))))))))
set_option maxRecDepth 100000 in
set_option maxHeartbeats 4000000 in
theorem k_X6_fact {N : Nat} {v0 : Nat} {v1 : Int32} {h : zH} {r : Int32} (H : f_X6_fact N v0 v1 h = some r) : zOk 2 0 0 yX6_fact cX6_fact 2 (some .int) [.ref v0, .int v1] h (some (.int r)) h := by
  refine zOk.of (by decide) (Nat.le_of_ble_eq_true rfl) ?_
  unfold f_X6_fact at H
  refine z_iload_n (pc := 0) 1 dX6_fact_0 rfl rfl ?_
  by_cases c1 : v1 = 10
  · rw [if_pos c1] at H
    refine z_tswIn (pc := 1) (off := 51) 52 dX6_fact_1 (by rw [c1]; decide) (by rw [c1]; decide) (by rw [c1]; decide) (by decide) ?_
    refine z_aload_n (pc := 52) 0 dX6_fact_52 rfl rfl ?_
    obtain ⟨x2, ex2, H⟩ := zbind H
    refine z_getI (pc := 53) dX6_fact_53 fd_X6_18 ex2 ?_
    cases H
    exact z_ireturn rfl dX6_fact_56
  rw [if_neg c1] at H
  by_cases c3 : v1 = 11
  · rw [if_pos c3] at H
    refine z_tswIn (pc := 1) (off := 56) 57 dX6_fact_1 (by rw [c3]; decide) (by rw [c3]; decide) (by rw [c3]; decide) (by decide) ?_
    refine z_aload_n (pc := 57) 0 dX6_fact_57 rfl rfl ?_
    obtain ⟨x4, ex4, H⟩ := zbind H
    refine z_getI (pc := 58) dX6_fact_58 fd_X6_27 ex4 ?_
    cases H
    exact z_ireturn rfl dX6_fact_61
  rw [if_neg c3] at H
  by_cases c5 : v1 = 12
  · rw [if_pos c5] at H
    refine z_tswIn (pc := 1) (off := 61) 62 dX6_fact_1 (by rw [c5]; decide) (by rw [c5]; decide) (by rw [c5]; decide) (by decide) ?_
    refine z_aload_n (pc := 62) 0 dX6_fact_62 rfl rfl ?_
    obtain ⟨z6, H⟩ := zifE H
    obtain ⟨q7, eq7, H⟩ := zbind H
    refine z_callV (pc := 63) (mc := 0) (ms := 0) (d' := 1) (mc' := 0) (ms' := 0) (rest := []) [] dX6_fact_63 md_X6_seen ml_X6_53 im_X6_seen se_X6_seen rfl z6 rfl rfl (Nat.le_of_ble_eq_true rfl) (by omega) (k_X6_seen eq7) ?_
    cases H
    exact z_ireturn rfl dX6_fact_66
  rw [if_neg c5] at H
  by_cases c8 : v1 = 13
  · rw [if_pos c8] at H
    refine z_tswIn (pc := 1) (off := 66) 67 dX6_fact_1 (by rw [c8]; decide) (by rw [c8]; decide) (by rw [c8]; decide) (by decide) ?_
    refine z_aload_n (pc := 67) 0 dX6_fact_67 rfl rfl ?_
    obtain ⟨x9, ex9, H⟩ := zbind H
    refine z_getI (pc := 68) dX6_fact_68 fd_X6_37 ex9 ?_
    refine z_iconst (pc := 71) (x := (-1)) dX6_fact_71 zc_iconst_m1 ?_
    refine z_icmp_ne (pc := 72) 79 dX6_fact_72 (by decide) (fun c10 => ?_) (fun c10 => ?_)
    · rw [if_neg c10] at H
      refine z_iconst (pc := 79) (x := 1) dX6_fact_79 zc_iconst_1 ?_
      cases H
      exact z_ireturn rfl dX6_fact_80
    · rw [if_pos c10] at H
      refine z_iconst (pc := 75) (x := 0) dX6_fact_75 zc_iconst_0 ?_
      refine z_goto (pc := 76) 80 dX6_fact_76 (by decide) ?_
      cases H
      exact z_ireturn rfl dX6_fact_80
  rw [if_neg c8] at H
  by_cases c11 : v1 = 14
  · rw [if_pos c11] at H
    refine z_tswIn (pc := 1) (off := 80) 81 dX6_fact_1 (by rw [c11]; decide) (by rw [c11]; decide) (by rw [c11]; decide) (by decide) ?_
    refine z_aload_n (pc := 81) 0 dX6_fact_81 rfl rfl ?_
    obtain ⟨x12, ex12, H⟩ := zbind H
    refine z_getI (pc := 82) dX6_fact_82 fd_X6_30 ex12 ?_
    refine z_if_eq (pc := 85) 92 dX6_fact_85 (by decide) (fun c13 => ?_) (fun c13 => ?_)
    · rw [if_pos c13] at H
      refine z_iconst (pc := 92) (x := 0) dX6_fact_92 zc_iconst_0 ?_
      cases H
      exact z_ireturn rfl dX6_fact_93
    · rw [if_neg c13] at H
      refine z_iconst (pc := 88) (x := 1) dX6_fact_88 zc_iconst_1 ?_
      refine z_goto (pc := 89) 93 dX6_fact_89 (by decide) ?_
      cases H
      exact z_ireturn rfl dX6_fact_93
  rw [if_neg c11] at H
  by_cases c14 : v1 = 15
  · rw [if_pos c14] at H
    refine z_tswIn (pc := 1) (off := 93) 94 dX6_fact_1 (by rw [c14]; decide) (by rw [c14]; decide) (by rw [c14]; decide) (by decide) ?_
    refine z_aload_n (pc := 94) 0 dX6_fact_94 rfl rfl ?_
    obtain ⟨x15, ex15, H⟩ := zbind H
    refine z_getI (pc := 95) dX6_fact_95 fd_X6_34 ex15 ?_
    cases H
    exact z_ireturn rfl dX6_fact_98
  rw [if_neg c14] at H
  by_cases c16 : v1 = 16
  · rw [if_pos c16] at H
    refine z_tswIn (pc := 1) (off := 98) 99 dX6_fact_1 (by rw [c16]; decide) (by rw [c16]; decide) (by rw [c16]; decide) (by decide) ?_
    refine z_aload_n (pc := 99) 0 dX6_fact_99 rfl rfl ?_
    obtain ⟨x17, ex17, H⟩ := zbind H
    refine z_getI (pc := 100) dX6_fact_100 fd_X6_59 ex17 ?_
    cases H
    exact z_ireturn rfl dX6_fact_103
  rw [if_neg c16] at H
  by_cases c18 : v1 = 17
  · rw [if_pos c18] at H
    refine z_tswIn (pc := 1) (off := 103) 104 dX6_fact_1 (by rw [c18]; decide) (by rw [c18]; decide) (by rw [c18]; decide) (by decide) ?_
    refine z_aload_n (pc := 104) 0 dX6_fact_104 rfl rfl ?_
    obtain ⟨x19, ex19, H⟩ := zbind H
    refine z_getI (pc := 105) dX6_fact_105 fd_X6_9 ex19 ?_
    cases H
    exact z_ireturn rfl dX6_fact_108
  rw [if_neg c18] at H
  by_cases c20 : v1 = 18
  · rw [if_pos c20] at H
    refine z_tswIn (pc := 1) (off := 108) 109 dX6_fact_1 (by rw [c20]; decide) (by rw [c20]; decide) (by rw [c20]; decide) (by decide) ?_
    refine z_aload_n (pc := 109) 0 dX6_fact_109 rfl rfl ?_
    obtain ⟨x21, ex21, H⟩ := zbind H
    refine z_getI (pc := 110) dX6_fact_110 fd_X6_56 ex21 ?_
    refine z_if_ne (pc := 113) 120 dX6_fact_113 (by decide) (fun c22 => ?_) (fun c22 => ?_)
    · rw [if_neg c22] at H
      refine z_iconst (pc := 120) (x := 1) dX6_fact_120 zc_iconst_1 ?_
      cases H
      exact z_ireturn rfl dX6_fact_121
    · rw [if_pos c22] at H
      refine z_iconst (pc := 116) (x := 0) dX6_fact_116 zc_iconst_0 ?_
      refine z_goto (pc := 117) 121 dX6_fact_117 (by decide) ?_
      cases H
      exact z_ireturn rfl dX6_fact_121
  rw [if_neg c20] at H
  refine z_tswOut (pc := 1) 122 dX6_fact_1 (by have := lv_neT (a := 10) c1 (by decide); have := lv_neT (a := 11) c3 (by decide); have := lv_neT (a := 12) c5 (by decide); have := lv_neT (a := 13) c8 (by decide); have := lv_neT (a := 14) c11 (by decide); have := lv_neT (a := 15) c14 (by decide); have := lv_neT (a := 16) c16 (by decide); have := lv_neT (a := 17) c18 (by decide); have := lv_neT (a := 18) c20 (by decide); omega) (by decide) ?_
  refine z_iconst (pc := 122) (x := 0) dX6_fact_122 zc_iconst_0 ?_
  cases H
  exact z_ireturn rfl dX6_fact_123

theorem zc_bipush_19 : (Int8.ofInt (19)).toInt32 = (19 : Int32) := by decide
theorem zc_bipush_20 : (Int8.ofInt (20)).toInt32 = (20 : Int32) := by decide
theorem md_X6_fact : zMd yX6_fact cX6_fact 2 1 (some .int) := ⟨zmw (zmt_4 _ (List.mem_of_getElem? (i := 133) rfl)) rfl, zmem 128 (by decide +kernel) rfl, by decide, by decide, by decide +kernel, by decide⟩
theorem ml_X1_91 : Cond.methodLink RX1 91 yX6_fact ∈ zB := zmem 961 (by decide +kernel) rfl
theorem im_X6_fact : Cond.instanceMethod yX6_fact ∈ zB := zmem 962 (by decide +kernel) rfl
theorem se_X6_fact : Cond.selects yX6_fact.cls yX6_fact yX6_fact ∈ zB := zmem 963 (by decide +kernel) rfl
theorem fd_X1_52 : zFd RX1 52 1 10 (.int) false "WhoseStreet$Book" := zFd.of cl_1 (by decide) (zmem 327 (by decide +kernel) rfl) rfl rfl rfl
theorem fd_X1_49 : zFd RX1 49 1 9 (.int) false "WhoseStreet$Book" := zFd.of cl_1 (by decide) (zmem 326 (by decide +kernel) rfl) rfl rfl rfl
def f_X1_fact (N : Nat) (v0 : Nat) (v1 : Int32) (v2 : Nat) (h : zH) : Option (Int32) := if v1 = 19 then ((gI h v0 1 9).bind fun x6 => some x6) else (if v1 = 20 then ((gI h v0 1 10).bind fun x5 => some x5) else (zif (zob h v2 6) <| (f_X6_fact N v2 v1 h).bind fun q4 => some q4))
set_option maxRecDepth 100000 in
set_option maxHeartbeats 4000000 in
theorem k_X1_fact {N : Nat} {v0 : Nat} {v1 : Int32} {v2 : Nat} {h : zH} {r : Int32} (H : f_X1_fact N v0 v1 v2 h = some r) : zOk 3 0 0 yX1_fact cX1_fact 3 (some .int) [.ref v0, .int v1, .ref v2] h (some (.int r)) h := by
  refine zOk.of (by decide) (Nat.le_of_ble_eq_true rfl) ?_
  unfold f_X1_fact at H
  refine z_iload_n (pc := 0) 1 dX1_fact_0 rfl rfl ?_
  refine z_bipush (pc := 1) (x := 19) dX1_fact_1 zc_bipush_19 ?_
  refine z_icmp_ne (pc := 3) 11 dX1_fact_3 (by decide) (fun c1 => ?_) (fun c1 => ?_)
  · rw [if_neg c1] at H
    refine z_iload_n (pc := 11) 1 dX1_fact_11 rfl rfl ?_
    refine z_bipush (pc := 12) (x := 20) dX1_fact_12 zc_bipush_20 ?_
    refine z_icmp_ne (pc := 14) 24 dX1_fact_14 (by decide) (fun c2 => ?_) (fun c2 => ?_)
    · rw [if_neg c2] at H
      refine z_aload_n (pc := 24) 2 dX1_fact_24 rfl rfl ?_
      refine z_iload_n (pc := 25) 1 dX1_fact_25 rfl rfl ?_
      obtain ⟨z3, H⟩ := zifE H
      obtain ⟨q4, eq4, H⟩ := zbind H
      refine z_callV (pc := 26) (mc := 0) (ms := 0) (d' := 2) (mc' := 0) (ms' := 0) (rest := []) [.int v1] dX1_fact_26 md_X6_fact ml_X1_91 im_X6_fact se_X6_fact rfl z3 rfl rfl (Nat.le_of_ble_eq_true rfl) (by omega) (k_X6_fact eq4) ?_
      cases H
      exact z_ireturn rfl dX1_fact_29
    · rw [if_pos c2] at H
      refine z_aload_n (pc := 17) 0 dX1_fact_17 rfl rfl ?_
      obtain ⟨x5, ex5, H⟩ := zbind H
      refine z_getI (pc := 18) dX1_fact_18 fd_X1_52 ex5 ?_
      refine z_goto (pc := 21) 29 dX1_fact_21 (by decide) ?_
      cases H
      exact z_ireturn rfl dX1_fact_29
  · rw [if_pos c1] at H
    refine z_aload_n (pc := 6) 0 dX1_fact_6 rfl rfl ?_
    obtain ⟨x6, ex6, H⟩ := zbind H
    refine z_getI (pc := 7) dX1_fact_7 fd_X1_49 ex6 ?_
    cases H
    exact z_ireturn rfl dX1_fact_10

theorem zc_sipush_30000 : (Int16.ofInt (30000)).toInt32 = (30000 : Int32) := by decide
theorem zc_sipush_20000 : (Int16.ofInt (20000)).toInt32 = (20000 : Int32) := by decide
theorem zc_sipush_10000 : (Int16.ofInt (10000)).toInt32 = (10000 : Int32) := by decide
theorem md_X1_fact : zMd yX1_fact cX1_fact 3 2 (some .int) := ⟨zmw (zmt_4 _ (List.mem_of_getElem? (i := 129) rfl)) rfl, zmem 120 (by decide +kernel) rfl, by decide, by decide, by decide +kernel, by decide⟩
theorem ml_X1_83 : Cond.methodLink RX1 83 yX1_fact ∈ zB := zmem 957 (by decide +kernel) rfl
theorem im_X1_fact : Cond.instanceMethod yX1_fact ∈ zB := zmem 959 (by decide +kernel) rfl
theorem se_X1_fact : Cond.selects yX1_fact.cls yX1_fact yX1_fact ∈ zB := zmem 35 (by decide +kernel) rfl
theorem md_X1_operate : zMd yX1_operate cX1_operate 4 1 none := ⟨zmw (zmt_4 _ (List.mem_of_getElem? (i := 117) rfl)) rfl, zmem 120 (by decide +kernel) rfl, by decide, by decide, by decide +kernel, by decide⟩
theorem ml_X1_76 : Cond.methodLink RX1 76 yX1_operate ∈ zB := zmem 945 (by decide +kernel) rfl
theorem im_X1_operate : Cond.instanceMethod yX1_operate ∈ zB := zmem 947 (by decide +kernel) rfl
theorem se_X1_operate : Cond.selects yX1_operate.cls yX1_operate yX1_operate ∈ zB := zmem 32 (by decide +kernel) rfl
def f_X1_work_L8 (N : Nat) (v0 : Nat) (v1 : Nat) (v3 : Int32) (v4 : Nat) : Nat → Int32 → zH → Option (zH)
  | 0, _, _ => none
  | n + 1, v5, h => if v3 ≤ v5 then (some h) else ((aN h v1).bind fun x3 => if x3 ≤ v5 then (some h) else ((aI h v1 v5).bind fun x5 => if x5 < 30000 then (if x5 < 20000 then (if x5 < 10000 then (zif (zob h v0 1) <| (f_X1_push N v0 x5 h).bind fun h10 => f_X1_work_L8 N v0 v1 v3 v4 n (v5 + 1) h10) else (zif (zob h v0 1) <| (f_X1_fact N v0 (x5 - 10000) v4 h).bind fun q12 => zif (zob h v0 1) <| (f_X1_push N v0 q12 h).bind fun h14 => f_X1_work_L8 N v0 v1 v3 v4 n (v5 + 1) h14)) else (zlet (x5 - 20000 : Int32) fun x15 => (gR h v0 1 1).bind fun r16 => (aN h r16).bind fun x17 => (if x17 ≤ x15 then (some 0) else ((gR h v0 1 1).bind fun r20 => (aI h r20 x15).bind fun x21 => some x21) : Option (Int32)).bind fun m18 => zif (zob h v0 1) <| (f_X1_push N v0 m18 h).bind fun h23 => f_X1_work_L8 N v0 v1 v3 v4 n (v5 + 1) h23)) else (zif (zob h v0 1) <| (f_X1_operate N v0 (x5 - 30000) h).bind fun h25 => f_X1_work_L8 N v0 v1 v3 v4 n (v5 + 1) h25)))
set_option maxRecDepth 100000 in
set_option maxHeartbeats 4000000 in
theorem s_X1_work_L8 {d mc ms N : Nat} {vv : Option Value} {hh : zH} {v0 : Nat} {v1 : Nat} {v3 : Int32} {v4 : Nat} (hd0 : 4 ≤ d) : ∀ (n : Nat) (v5 : Int32) (h : zH) (m : zH), f_X1_work_L8 N v0 v1 v3 v4 n v5 h = some m → (zW yX1_work cX1_work 8 (some .int) d mc ms 131 [(0, .ref v0)] [] m vv hh) → zW yX1_work cX1_work 8 (some .int) d mc ms 8 [(0, .ref v0), (1, .ref v1), (3, .int v3), (4, .ref v4), (5, .int v5)] [] h vv hh := by
  intro n
  induction n with
  | zero =>
    intro v5 h m H
    cases H
  | succ n ih =>
    intro v5 h m H KE
    unfold f_X1_work_L8 at H
    refine z_iload (pc := 8) 4 dX1_work_8 rfl ?_
    refine z_iload_n (pc := 10) 2 dX1_work_10 rfl rfl ?_
    refine z_icmp_ge (pc := 11) 131 dX1_work_11 (by decide) (fun c2 => ?_) (fun c2 => ?_)
    · rw [if_pos c2] at H
      cases H
      exact z_sub [0] rfl (KE)
    · rw [if_neg c2] at H
      refine z_iload (pc := 14) 4 dX1_work_14 rfl ?_
      refine z_aload_n (pc := 16) 1 dX1_work_16 rfl rfl ?_
      obtain ⟨x3, ex3, H⟩ := zbind H
      refine z_alen (pc := 17) dX1_work_17 ex3 ?_
      refine z_icmp_ge (pc := 18) 131 dX1_work_18 (by decide) (fun c4 => ?_) (fun c4 => ?_)
      · rw [if_pos c4] at H
        cases H
        exact z_sub [0] rfl (KE)
      · rw [if_neg c4] at H
        refine z_aload_n (pc := 21) 1 dX1_work_21 rfl rfl ?_
        refine z_iload (pc := 22) 4 dX1_work_22 rfl ?_
        obtain ⟨x5, ex5, H⟩ := zbind H
        refine z_iaload (pc := 24) dX1_work_24 ex5 ?_
        refine z_istore (pc := 25) (lv' := [(6, .int x5), (0, .ref v0), (1, .ref v1), (3, .int v3), (4, .ref v4), (5, .int v5)]) dX1_work_25 (by decide) rfl ?_
        refine z_iload (pc := 27) 0 dX1_work_27 rfl ?_
        refine z_sipush (pc := 29) (x := 30000) dX1_work_29 zc_sipush_30000 ?_
        refine z_icmp_lt (pc := 32) 48 dX1_work_32 (by decide) (fun c6 => ?_) (fun c6 => ?_)
        · rw [if_pos c6] at H
          refine z_iload (pc := 48) 0 dX1_work_48 rfl ?_
          refine z_sipush (pc := 50) (x := 20000) dX1_work_50 zc_sipush_20000 ?_
          refine z_icmp_lt (pc := 53) 92 dX1_work_53 (by decide) (fun c7 => ?_) (fun c7 => ?_)
          · rw [if_pos c7] at H
            refine z_iload (pc := 92) 0 dX1_work_92 rfl ?_
            refine z_sipush (pc := 94) (x := 10000) dX1_work_94 zc_sipush_10000 ?_
            refine z_icmp_lt (pc := 97) 119 dX1_work_97 (by decide) (fun c8 => ?_) (fun c8 => ?_)
            · rw [if_pos c8] at H
              refine z_aload_n (pc := 119) 1 dX1_work_119 rfl rfl ?_
              refine z_iload (pc := 120) 0 dX1_work_120 rfl ?_
              obtain ⟨z9, H⟩ := zifE H
              obtain ⟨h10, eh10, H⟩ := zbind H
              refine z_callV (pc := 122) (mc := mc) (ms := ms) (d' := 0) (mc' := 0) (ms' := 0) (rest := []) [.int x5] dX1_work_122 md_X1_push ml_X1_80 im_X1_push se_X1_push rfl z9 rfl rfl (Nat.le_of_ble_eq_true rfl) (by omega) (k_X1_push eh10) ?_
              refine z_iinc (pc := 125) (x' := v5 + 1) (lv' := [(5, .int (v5 + 1)), (6, .int x5), (0, .ref v0), (1, .ref v1), (3, .int v3), (4, .ref v4)]) 5 dX1_work_125 rfl (by rfl) (by decide) rfl ?_
              refine z_goto (pc := 128) 8 dX1_work_128 (by decide) ?_
              exact z_sub [2, 3, 4, 5, 0] rfl (ih (v5 + 1) h10 _ H KE)
            · rw [if_neg c8] at H
              refine z_aload_n (pc := 100) 1 dX1_work_100 rfl rfl ?_
              refine z_aload_n (pc := 101) 1 dX1_work_101 rfl rfl ?_
              refine z_iload (pc := 102) 0 dX1_work_102 rfl ?_
              refine z_sipush (pc := 104) (x := 10000) dX1_work_104 zc_sipush_10000 ?_
              refine z_isub (pc := 107) dX1_work_107 ?_
              refine z_aload (pc := 108) 4 dX1_work_108 rfl ?_
              obtain ⟨z11, H⟩ := zifE H
              obtain ⟨q12, eq12, H⟩ := zbind H
              refine z_callV (pc := 110) (mc := mc) (ms := ms) (d' := 3) (mc' := 0) (ms' := 0) (rest := [.ref v0]) [.int (x5 - 10000), .ref v4] dX1_work_110 md_X1_fact ml_X1_83 im_X1_fact se_X1_fact rfl z11 rfl rfl (Nat.le_of_ble_eq_true rfl) (by omega) (k_X1_fact eq12) ?_
              obtain ⟨z13, H⟩ := zifE H
              obtain ⟨h14, eh14, H⟩ := zbind H
              refine z_callV (pc := 113) (mc := mc) (ms := ms) (d' := 0) (mc' := 0) (ms' := 0) (rest := []) [.int q12] dX1_work_113 md_X1_push ml_X1_80 im_X1_push se_X1_push rfl z13 rfl rfl (Nat.le_of_ble_eq_true rfl) (by omega) (k_X1_push eh14) ?_
              refine z_goto (pc := 116) 125 dX1_work_116 (by decide) ?_
              refine z_iinc (pc := 125) (x' := v5 + 1) (lv' := [(5, .int (v5 + 1)), (6, .int x5), (0, .ref v0), (1, .ref v1), (3, .int v3), (4, .ref v4)]) 5 dX1_work_125 rfl (by rfl) (by decide) rfl ?_
              refine z_goto (pc := 128) 8 dX1_work_128 (by decide) ?_
              exact z_sub [2, 3, 4, 5, 0] rfl (ih (v5 + 1) h14 _ H KE)
          · rw [if_neg c7] at H
            refine z_iload (pc := 56) 0 dX1_work_56 rfl ?_
            refine z_sipush (pc := 58) (x := 20000) dX1_work_58 zc_sipush_20000 ?_
            refine z_isub (pc := 61) dX1_work_61 ?_
            obtain ⟨x15, ex15, H⟩ := zletE H
            refine z_nmI ex15 ?_
            refine z_istore (pc := 62) (lv' := [(7, .int x15), (6, .int x5), (0, .ref v0), (1, .ref v1), (3, .int v3), (4, .ref v4), (5, .int v5)]) dX1_work_62 (by decide) rfl ?_
            refine z_aload_n (pc := 64) 2 dX1_work_64 rfl rfl ?_
            refine z_iload (pc := 65) 0 dX1_work_65 rfl ?_
            refine z_aload_n (pc := 67) 2 dX1_work_67 rfl rfl ?_
            obtain ⟨r16, er16, H⟩ := zbind H
            refine z_getR (pc := 68) dX1_work_68 fd_X1_19 er16 ?_
            obtain ⟨x17, ex17, H⟩ := zbind H
            refine z_alen (pc := 71) dX1_work_71 ex17 ?_
            obtain ⟨m18, em18, H⟩ := zbind H
            have Jm18 : zW yX1_work cX1_work 8 (some .int) d mc ms 86 [(0, .ref v0), (1, .ref v1), (3, .int v3), (4, .ref v4), (5, .int v5)] [.int m18, .ref v0] h vv hh := by
              obtain ⟨z22, H⟩ := zifE H
              obtain ⟨h23, eh23, H⟩ := zbind H
              refine z_callV (pc := 86) (mc := mc) (ms := ms) (d' := 0) (mc' := 0) (ms' := 0) (rest := []) [.int m18] dX1_work_86 md_X1_push ml_X1_80 im_X1_push se_X1_push rfl z22 rfl rfl (Nat.le_of_ble_eq_true rfl) (by omega) (k_X1_push eh23) ?_
              refine z_goto (pc := 89) 125 dX1_work_89 (by decide) ?_
              refine z_iinc (pc := 125) (x' := v5 + 1) (lv' := [(5, .int (v5 + 1)), (0, .ref v0), (1, .ref v1), (3, .int v3), (4, .ref v4)]) 4 dX1_work_125 rfl (by rfl) (by decide) rfl ?_
              refine z_goto (pc := 128) 8 dX1_work_128 (by decide) ?_
              exact z_sub [1, 2, 3, 4, 0] rfl (ih (v5 + 1) h23 _ H KE)
            refine z_icmp_ge (pc := 72) 85 dX1_work_72 (by decide) (fun c19 => ?_) (fun c19 => ?_)
            · rw [if_pos c19] at em18
              refine z_iconst (pc := 85) (x := 0) dX1_work_85 zc_iconst_0 ?_
              cases em18
              exact z_sub [2, 3, 4, 5, 6] rfl Jm18
            · rw [if_neg c19] at em18
              refine z_aload_n (pc := 75) 2 dX1_work_75 rfl rfl ?_
              obtain ⟨r20, er20, em18⟩ := zbind em18
              refine z_getR (pc := 76) dX1_work_76 fd_X1_19 er20 ?_
              refine z_iload (pc := 79) 0 dX1_work_79 rfl ?_
              obtain ⟨x21, ex21, em18⟩ := zbind em18
              refine z_iaload (pc := 81) dX1_work_81 ex21 ?_
              refine z_goto (pc := 82) 86 dX1_work_82 (by decide) ?_
              cases em18
              exact z_sub [2, 3, 4, 5, 6] rfl Jm18
        · rw [if_neg c6] at H
          refine z_aload_n (pc := 35) 1 dX1_work_35 rfl rfl ?_
          refine z_iload (pc := 36) 0 dX1_work_36 rfl ?_
          refine z_sipush (pc := 38) (x := 30000) dX1_work_38 zc_sipush_30000 ?_
          refine z_isub (pc := 41) dX1_work_41 ?_
          obtain ⟨z24, H⟩ := zifE H
          obtain ⟨h25, eh25, H⟩ := zbind H
          refine z_callV (pc := 42) (mc := mc) (ms := ms) (d' := 1) (mc' := 0) (ms' := 0) (rest := []) [.int (x5 - 30000)] dX1_work_42 md_X1_operate ml_X1_76 im_X1_operate se_X1_operate rfl z24 rfl rfl (Nat.le_of_ble_eq_true rfl) (by omega) (k_X1_operate eh25) ?_
          refine z_goto (pc := 45) 125 dX1_work_45 (by decide) ?_
          refine z_iinc (pc := 125) (x' := v5 + 1) (lv' := [(5, .int (v5 + 1)), (6, .int x5), (0, .ref v0), (1, .ref v1), (3, .int v3), (4, .ref v4)]) 5 dX1_work_125 rfl (by rfl) (by decide) rfl ?_
          refine z_goto (pc := 128) 8 dX1_work_128 (by decide) ?_
          exact z_sub [2, 3, 4, 5, 0] rfl (ih (v5 + 1) h25 _ H KE)
def f_X1_work (N : Nat) (v0 : Nat) (v1 : Nat) (v2 : Int32) (v3 : Int32) (v4 : Nat) (h : zH) : Option (Int32 × zH) := (pF h v0 1 8 (.int 0)).bind fun h1 => (f_X1_work_L8 N v0 v1 v3 v4 N v2 h1).bind fun m26 => zif (zob m26 v0 1) <| (f_X1_pop N v0 m26).bind fun q28 => some (q28.1, q28.2)
set_option maxRecDepth 100000 in
set_option maxHeartbeats 4000000 in
theorem k_X1_work {N : Nat} {v0 : Nat} {v1 : Nat} {v2 : Int32} {v3 : Int32} {v4 : Nat} {h : zH} {r : Int32 × zH} (H : f_X1_work N v0 v1 v2 v3 v4 h = some r) : zOk 4 0 0 yX1_work cX1_work 8 (some .int) [.ref v0, .ref v1, .int v2, .int v3, .ref v4] h (some (.int r.1)) r.2 := by
  refine zOk.of (by decide) (Nat.le_of_ble_eq_true rfl) ?_
  unfold f_X1_work at H
  refine z_aload_n (pc := 0) 0 dX1_work_0 rfl rfl ?_
  refine z_iconst (pc := 1) (x := 0) dX1_work_1 zc_iconst_0 ?_
  obtain ⟨h1, eh1, H⟩ := zbind H
  refine z_put (pc := 2) dX1_work_2 fd_X1_73 rfl rfl eh1 ?_
  refine z_iload_n (pc := 5) 2 dX1_work_5 rfl rfl ?_
  refine z_istore (pc := 6) (lv' := [(5, .int v2), (0, .ref v0), (1, .ref v1), (2, .int v2), (3, .int v3), (4, .ref v4)]) dX1_work_6 (by decide) rfl ?_
  obtain ⟨m26, em26, H⟩ := zbind H
  refine z_sub [1, 2, 4, 5, 0] rfl (s_X1_work_L8 (by omega) N v2 h1 _ em26 ?_)
  refine z_aload_n (pc := 131) 0 dX1_work_131 rfl rfl ?_
  obtain ⟨z27, H⟩ := zifE H
  obtain ⟨q28, eq28, H⟩ := zbind H
  refine z_callV (pc := 132) (mc := 0) (ms := 0) (d' := 0) (mc' := 0) (ms' := 0) (rest := []) [] dX1_work_132 md_X1_pop ml_X1_87 im_X1_pop se_X1_pop rfl z27 rfl rfl (Nat.le_of_ble_eq_true rfl) (by omega) (k_X1_pop eq28) ?_
  cases H
  exact z_ireturn rfl dX1_work_135

theorem md_X1_work : zMd yX1_work cX1_work 8 4 (some .int) := ⟨zmw (zmt_4 _ (List.mem_of_getElem? (i := 113) rfl)) rfl, zmem 120 (by decide +kernel) rfl, by decide, by decide, by decide +kernel, by decide⟩
theorem ml_X1_69 : Cond.methodLink RX1 69 yX1_work ∈ zB := zmem 941 (by decide +kernel) rfl
theorem im_X1_work : Cond.instanceMethod yX1_work ∈ zB := zmem 943 (by decide +kernel) rfl
theorem se_X1_work : Cond.selects yX1_work.cls yX1_work yX1_work ∈ zB := zmem 31 (by decide +kernel) rfl
theorem fd_X1_36 : zFd RX1 36 1 6 (.int) false "WhoseStreet$Book" := zFd.of cl_1 (by decide) (zmem 321 (by decide +kernel) rfl) rfl rfl rfl
def f_X1_workNamesAndLimit_L5 (N : Nat) (v0 : Nat) (v1 : Nat) (v2 : Nat) : Nat → Int32 → Int32 → zH → Option (zH)
  | 0, _, _, _ => none
  | n + 1, v3, v4, h => if 20 ≤ v4 then (some h) else ((aN h v1).bind fun x2 => if x2 < (v3 + 3) then (some h) else ((aI h v1 (v3 + 1)).bind fun x4 => (aI h v1 (v3 + 2)).bind fun x5 => zlet ((v3 + 3) + x5 : Int32) fun x6 => (aI h v1 v3).bind fun x7 => (if x7 = 4 then (if x4 < 0 then (some (.inl (v3, v4, h))) else ((gR h v0 1 1).bind fun r12 => (aN h r12).bind fun x13 => if x13 ≤ x4 then (some (.inl (v3, v4, h))) else ((gR h v0 1 1).bind fun r15 => zif (zob h v0 1) <| (f_X1_work N v0 v1 (v3 + 3) x6 v2 h).bind fun q17 => (sI q17.2 r15 x4 q17.1).bind fun h18 => (f_X1_workNamesAndLimit_L5 N v0 v1 v2 n x6 (v4 + 1) h18).map .inr))) else (some (.inl (v3, v4, h))) : Option ((Int32 × Int32 × zH) ⊕ (zH))).bind fun m8 => zsum m8 fun s9 => (aI s9.2.2 v1 s9.1).bind fun x20 => if x20 = 20 then ((gI s9.2.2 v0 1 6).bind fun x22 => if x22 = 0 then (zif (zob s9.2.2 v0 1) <| (f_X1_work N v0 v1 (s9.1 + 3) x6 v2 s9.2.2).bind fun q25 => if q25.1 = 0 then (f_X1_workNamesAndLimit_L5 N v0 v1 v2 n x6 (s9.2.1 + 1) q25.2) else ((pF q25.2 v0 1 6 (.int x4)).bind fun h27 => f_X1_workNamesAndLimit_L5 N v0 v1 v2 n x6 (s9.2.1 + 1) h27)) else (f_X1_workNamesAndLimit_L5 N v0 v1 v2 n x6 (s9.2.1 + 1) s9.2.2)) else (f_X1_workNamesAndLimit_L5 N v0 v1 v2 n x6 (s9.2.1 + 1) s9.2.2)))
set_option maxRecDepth 100000 in
set_option maxHeartbeats 4000000 in
theorem s_X1_workNamesAndLimit_L5 {d mc ms N : Nat} {vv : Option Value} {hh : zH} {v0 : Nat} {v1 : Nat} {v2 : Nat} (hd0 : 5 ≤ d) : ∀ (n : Nat) (v3 : Int32) (v4 : Int32) (h : zH) (m : zH), f_X1_workNamesAndLimit_L5 N v0 v1 v2 n v3 v4 h = some m → (zW yX1_workNamesAndLimit cX1_workNamesAndLimit 7 none d mc ms 125 [] [] m vv hh) → zW yX1_workNamesAndLimit cX1_workNamesAndLimit 7 none d mc ms 5 [(0, .ref v0), (1, .ref v1), (2, .ref v2), (3, .int v3), (4, .int v4)] [] h vv hh := by
  intro n
  induction n with
  | zero =>
    intro v3 v4 h m H
    cases H
  | succ n ih =>
    intro v3 v4 h m H KE
    unfold f_X1_workNamesAndLimit_L5 at H
    refine z_iload (pc := 5) 4 dX1_workNamesAndLimit_5 rfl ?_
    refine z_bipush (pc := 7) (x := 20) dX1_workNamesAndLimit_7 zc_bipush_20 ?_
    refine z_icmp_ge (pc := 9) 125 dX1_workNamesAndLimit_9 (by decide) (fun c1 => ?_) (fun c1 => ?_)
    · rw [if_pos c1] at H
      cases H
      exact z_sub [] rfl (KE)
    · rw [if_neg c1] at H
      refine z_iload_n (pc := 12) 3 dX1_workNamesAndLimit_12 rfl rfl ?_
      refine z_iconst (pc := 13) (x := 3) dX1_workNamesAndLimit_13 zc_iconst_3 ?_
      refine z_iadd (pc := 14) dX1_workNamesAndLimit_14 ?_
      refine z_aload_n (pc := 15) 1 dX1_workNamesAndLimit_15 rfl rfl ?_
      obtain ⟨x2, ex2, H⟩ := zbind H
      refine z_alen (pc := 16) dX1_workNamesAndLimit_16 ex2 ?_
      refine z_icmp_gt (pc := 17) 125 dX1_workNamesAndLimit_17 (by decide) (fun c3 => ?_) (fun c3 => ?_)
      · rw [if_pos c3] at H
        cases H
        exact z_sub [] rfl (KE)
      · rw [if_neg c3] at H
        refine z_aload_n (pc := 20) 1 dX1_workNamesAndLimit_20 rfl rfl ?_
        refine z_iload_n (pc := 21) 3 dX1_workNamesAndLimit_21 rfl rfl ?_
        refine z_iconst (pc := 22) (x := 1) dX1_workNamesAndLimit_22 zc_iconst_1 ?_
        refine z_iadd (pc := 23) dX1_workNamesAndLimit_23 ?_
        obtain ⟨x4, ex4, H⟩ := zbind H
        refine z_iaload (pc := 24) dX1_workNamesAndLimit_24 ex4 ?_
        refine z_istore (pc := 25) (lv' := [(5, .int x4), (0, .ref v0), (1, .ref v1), (2, .ref v2), (3, .int v3), (4, .int v4)]) dX1_workNamesAndLimit_25 (by decide) rfl ?_
        refine z_iload_n (pc := 27) 4 dX1_workNamesAndLimit_27 rfl rfl ?_
        refine z_iconst (pc := 28) (x := 3) dX1_workNamesAndLimit_28 zc_iconst_3 ?_
        refine z_iadd (pc := 29) dX1_workNamesAndLimit_29 ?_
        refine z_aload_n (pc := 30) 2 dX1_workNamesAndLimit_30 rfl rfl ?_
        refine z_iload_n (pc := 31) 4 dX1_workNamesAndLimit_31 rfl rfl ?_
        refine z_iconst (pc := 32) (x := 2) dX1_workNamesAndLimit_32 zc_iconst_2 ?_
        refine z_iadd (pc := 33) dX1_workNamesAndLimit_33 ?_
        obtain ⟨x5, ex5, H⟩ := zbind H
        refine z_iaload (pc := 34) dX1_workNamesAndLimit_34 ex5 ?_
        refine z_iadd (pc := 35) dX1_workNamesAndLimit_35 ?_
        obtain ⟨x6, ex6, H⟩ := zletE H
        refine z_nmI ex6 ?_
        refine z_istore (pc := 36) (lv' := [(6, .int x6), (5, .int x4), (0, .ref v0), (1, .ref v1), (2, .ref v2), (3, .int v3), (4, .int v4)]) dX1_workNamesAndLimit_36 (by decide) rfl ?_
        refine z_aload_n (pc := 38) 3 dX1_workNamesAndLimit_38 rfl rfl ?_
        refine z_iload_n (pc := 39) 5 dX1_workNamesAndLimit_39 rfl rfl ?_
        obtain ⟨x7, ex7, H⟩ := zbind H
        refine z_iaload (pc := 40) dX1_workNamesAndLimit_40 ex7 ?_
        refine z_iconst (pc := 41) (x := 4) dX1_workNamesAndLimit_41 zc_iconst_4 ?_
        obtain ⟨m8, em8, H⟩ := zbind H
        have Jm8 : ∀ s9, m8 = .inl s9 → zW yX1_workNamesAndLimit cX1_workNamesAndLimit 7 none d mc ms 81 [(0, .ref v0), (1, .ref v1), (2, .ref v2), (3, .int s9.1), (4, .int s9.2.1), (5, .int x4), (6, .int x6)] [] s9.2.2 vv hh := by
          intro s9 e9
          subst e9
          have H := zsumL H
          refine z_aload_n (pc := 81) 1 dX1_workNamesAndLimit_81 rfl rfl ?_
          refine z_iload_n (pc := 82) 3 dX1_workNamesAndLimit_82 rfl rfl ?_
          obtain ⟨x20, ex20, H⟩ := zbind H
          refine z_iaload (pc := 83) dX1_workNamesAndLimit_83 ex20 ?_
          refine z_bipush (pc := 84) (x := 20) dX1_workNamesAndLimit_84 zc_bipush_20 ?_
          refine z_icmp_ne (pc := 86) 116 dX1_workNamesAndLimit_86 (by decide) (fun c21 => ?_) (fun c21 => ?_)
          · rw [if_neg c21] at H
            refine z_iload (pc := 116) 6 dX1_workNamesAndLimit_116 rfl ?_
            refine z_istore_n (pc := 118) (lv' := [(3, .int x6), (0, .ref v0), (1, .ref v1), (2, .ref v2), (4, .int s9.2.1), (5, .int x4), (6, .int x6)]) dX1_workNamesAndLimit_118 rfl (by decide) rfl ?_
            refine z_iinc (pc := 119) (x' := s9.2.1 + 1) (lv' := [(4, .int (s9.2.1 + 1)), (3, .int x6), (0, .ref v0), (1, .ref v1), (2, .ref v2), (5, .int x4), (6, .int x6)]) 4 dX1_workNamesAndLimit_119 rfl (by rfl) (by decide) rfl ?_
            refine z_goto (pc := 122) 5 dX1_workNamesAndLimit_122 (by decide) ?_
            exact z_sub [2, 3, 4, 1, 0] rfl (ih x6 (s9.2.1 + 1) s9.2.2 _ H KE)
          · rw [if_pos c21] at H
            refine z_aload_n (pc := 89) 0 dX1_workNamesAndLimit_89 rfl rfl ?_
            obtain ⟨x22, ex22, H⟩ := zbind H
            refine z_getI (pc := 90) dX1_workNamesAndLimit_90 fd_X1_36 ex22 ?_
            refine z_if_ne (pc := 93) 116 dX1_workNamesAndLimit_93 (by decide) (fun c23 => ?_) (fun c23 => ?_)
            · rw [if_neg c23] at H
              refine z_iload (pc := 116) 6 dX1_workNamesAndLimit_116 rfl ?_
              refine z_istore_n (pc := 118) (lv' := [(3, .int x6), (0, .ref v0), (1, .ref v1), (2, .ref v2), (4, .int s9.2.1), (5, .int x4), (6, .int x6)]) dX1_workNamesAndLimit_118 rfl (by decide) rfl ?_
              refine z_iinc (pc := 119) (x' := s9.2.1 + 1) (lv' := [(4, .int (s9.2.1 + 1)), (3, .int x6), (0, .ref v0), (1, .ref v1), (2, .ref v2), (5, .int x4), (6, .int x6)]) 4 dX1_workNamesAndLimit_119 rfl (by rfl) (by decide) rfl ?_
              refine z_goto (pc := 122) 5 dX1_workNamesAndLimit_122 (by decide) ?_
              exact z_sub [2, 3, 4, 1, 0] rfl (ih x6 (s9.2.1 + 1) s9.2.2 _ H KE)
            · rw [if_pos c23] at H
              refine z_aload_n (pc := 96) 0 dX1_workNamesAndLimit_96 rfl rfl ?_
              refine z_aload_n (pc := 97) 1 dX1_workNamesAndLimit_97 rfl rfl ?_
              refine z_iload_n (pc := 98) 3 dX1_workNamesAndLimit_98 rfl rfl ?_
              refine z_iconst (pc := 99) (x := 3) dX1_workNamesAndLimit_99 zc_iconst_3 ?_
              refine z_iadd (pc := 100) dX1_workNamesAndLimit_100 ?_
              refine z_iload (pc := 101) 6 dX1_workNamesAndLimit_101 rfl ?_
              refine z_aload_n (pc := 103) 2 dX1_workNamesAndLimit_103 rfl rfl ?_
              obtain ⟨z24, H⟩ := zifE H
              obtain ⟨q25, eq25, H⟩ := zbind H
              refine z_callV (pc := 104) (mc := mc) (ms := ms) (d' := 4) (mc' := 0) (ms' := 0) (rest := []) [.ref v1, .int (s9.1 + 3), .int x6, .ref v2] dX1_workNamesAndLimit_104 md_X1_work ml_X1_69 im_X1_work se_X1_work rfl z24 rfl rfl (Nat.le_of_ble_eq_true rfl) (by omega) (k_X1_work eq25) ?_
              refine z_if_eq (pc := 107) 116 dX1_workNamesAndLimit_107 (by decide) (fun c26 => ?_) (fun c26 => ?_)
              · rw [if_pos c26] at H
                refine z_iload (pc := 116) 6 dX1_workNamesAndLimit_116 rfl ?_
                refine z_istore_n (pc := 118) (lv' := [(3, .int x6), (0, .ref v0), (1, .ref v1), (2, .ref v2), (4, .int s9.2.1), (5, .int x4), (6, .int x6)]) dX1_workNamesAndLimit_118 rfl (by decide) rfl ?_
                refine z_iinc (pc := 119) (x' := s9.2.1 + 1) (lv' := [(4, .int (s9.2.1 + 1)), (3, .int x6), (0, .ref v0), (1, .ref v1), (2, .ref v2), (5, .int x4), (6, .int x6)]) 4 dX1_workNamesAndLimit_119 rfl (by rfl) (by decide) rfl ?_
                refine z_goto (pc := 122) 5 dX1_workNamesAndLimit_122 (by decide) ?_
                exact z_sub [2, 3, 4, 1, 0] rfl (ih x6 (s9.2.1 + 1) q25.2 _ H KE)
              · rw [if_neg c26] at H
                refine z_aload_n (pc := 110) 0 dX1_workNamesAndLimit_110 rfl rfl ?_
                refine z_iload (pc := 111) 5 dX1_workNamesAndLimit_111 rfl ?_
                obtain ⟨h27, eh27, H⟩ := zbind H
                refine z_put (pc := 113) dX1_workNamesAndLimit_113 fd_X1_36 rfl rfl eh27 ?_
                refine z_iload (pc := 116) 6 dX1_workNamesAndLimit_116 rfl ?_
                refine z_istore_n (pc := 118) (lv' := [(3, .int x6), (0, .ref v0), (1, .ref v1), (2, .ref v2), (4, .int s9.2.1), (5, .int x4), (6, .int x6)]) dX1_workNamesAndLimit_118 rfl (by decide) rfl ?_
                refine z_iinc (pc := 119) (x' := s9.2.1 + 1) (lv' := [(4, .int (s9.2.1 + 1)), (3, .int x6), (0, .ref v0), (1, .ref v1), (2, .ref v2), (5, .int x4), (6, .int x6)]) 4 dX1_workNamesAndLimit_119 rfl (by rfl) (by decide) rfl ?_
                refine z_goto (pc := 122) 5 dX1_workNamesAndLimit_122 (by decide) ?_
                exact z_sub [2, 3, 4, 1, 0] rfl (ih x6 (s9.2.1 + 1) h27 _ H KE)
        refine z_icmp_ne (pc := 42) 81 dX1_workNamesAndLimit_42 (by decide) (fun c10 => ?_) (fun c10 => ?_)
        · rw [if_neg c10] at em8
          cases em8
          exact z_sub [2, 3, 4, 5, 6, 1, 0] rfl (Jm8 _ rfl)
        · rw [if_pos c10] at em8
          refine z_iload (pc := 45) 1 dX1_workNamesAndLimit_45 rfl ?_
          refine z_if_lt (pc := 47) 81 dX1_workNamesAndLimit_47 (by decide) (fun c11 => ?_) (fun c11 => ?_)
          · rw [if_pos c11] at em8
            cases em8
            exact z_sub [2, 3, 4, 5, 6, 1, 0] rfl (Jm8 _ rfl)
          · rw [if_neg c11] at em8
            refine z_iload (pc := 50) 1 dX1_workNamesAndLimit_50 rfl ?_
            refine z_aload_n (pc := 52) 2 dX1_workNamesAndLimit_52 rfl rfl ?_
            obtain ⟨r12, er12, em8⟩ := zbind em8
            refine z_getR (pc := 53) dX1_workNamesAndLimit_53 fd_X1_19 er12 ?_
            obtain ⟨x13, ex13, em8⟩ := zbind em8
            refine z_alen (pc := 56) dX1_workNamesAndLimit_56 ex13 ?_
            refine z_icmp_ge (pc := 57) 81 dX1_workNamesAndLimit_57 (by decide) (fun c14 => ?_) (fun c14 => ?_)
            · rw [if_pos c14] at em8
              cases em8
              exact z_sub [2, 3, 4, 5, 6, 1, 0] rfl (Jm8 _ rfl)
            · rw [if_neg c14] at em8
              refine z_aload_n (pc := 60) 2 dX1_workNamesAndLimit_60 rfl rfl ?_
              obtain ⟨r15, er15, em8⟩ := zbind em8
              refine z_getR (pc := 61) dX1_workNamesAndLimit_61 fd_X1_19 er15 ?_
              refine z_iload (pc := 64) 1 dX1_workNamesAndLimit_64 rfl ?_
              refine z_aload_n (pc := 66) 2 dX1_workNamesAndLimit_66 rfl rfl ?_
              refine z_aload_n (pc := 67) 3 dX1_workNamesAndLimit_67 rfl rfl ?_
              refine z_iload_n (pc := 68) 5 dX1_workNamesAndLimit_68 rfl rfl ?_
              refine z_iconst (pc := 69) (x := 3) dX1_workNamesAndLimit_69 zc_iconst_3 ?_
              refine z_iadd (pc := 70) dX1_workNamesAndLimit_70 ?_
              refine z_iload (pc := 71) 0 dX1_workNamesAndLimit_71 rfl ?_
              refine z_aload_n (pc := 73) 4 dX1_workNamesAndLimit_73 rfl rfl ?_
              obtain ⟨z16, em8⟩ := zifE em8
              obtain ⟨q17, eq17, em8⟩ := zbind em8
              refine z_callV (pc := 74) (mc := mc) (ms := ms) (d' := 4) (mc' := 0) (ms' := 0) (rest := [.int x4, .ref r15]) [.ref v1, .int (v3 + 3), .int x6, .ref v2] dX1_workNamesAndLimit_74 md_X1_work ml_X1_69 im_X1_work se_X1_work rfl z16 rfl rfl (Nat.le_of_ble_eq_true rfl) (by omega) (k_X1_work eq17) ?_
              obtain ⟨h18, eh18, em8⟩ := zbind em8
              refine z_iastore (pc := 77) dX1_workNamesAndLimit_77 eh18 ?_
              refine z_goto (pc := 78) 116 dX1_workNamesAndLimit_78 (by decide) ?_
              refine z_iload (pc := 116) 0 dX1_workNamesAndLimit_116 rfl ?_
              refine z_istore_n (pc := 118) (lv' := [(3, .int x6), (6, .int x6), (5, .int x4), (0, .ref v0), (1, .ref v1), (2, .ref v2), (4, .int v4)]) dX1_workNamesAndLimit_118 rfl (by decide) rfl ?_
              refine z_iinc (pc := 119) (x' := v4 + 1) (lv' := [(4, .int (v4 + 1)), (3, .int x6), (6, .int x6), (5, .int x4), (0, .ref v0), (1, .ref v1), (2, .ref v2)]) 6 dX1_workNamesAndLimit_119 rfl (by rfl) (by decide) rfl ?_
              refine z_goto (pc := 122) 5 dX1_workNamesAndLimit_122 (by decide) ?_
              obtain ⟨o19, H9, e9⟩ := zmapR em8
              subst e9
              have H9 := H9.trans (zsumR H)
              exact z_sub [4, 5, 6, 1, 0] rfl (ih x6 (v4 + 1) h18 _ H9 KE)
def f_X1_workNamesAndLimit (N : Nat) (v0 : Nat) (v1 : Nat) (v2 : Nat) (h : zH) : Option (zH) := (f_X1_workNamesAndLimit_L5 N v0 v1 v2 N 0 0 h).bind fun m28 => some m28
set_option maxRecDepth 100000 in
set_option maxHeartbeats 4000000 in
theorem k_X1_workNamesAndLimit {N : Nat} {v0 : Nat} {v1 : Nat} {v2 : Nat} {h : zH} {r : zH} (H : f_X1_workNamesAndLimit N v0 v1 v2 h = some r) : zOk 5 0 0 yX1_workNamesAndLimit cX1_workNamesAndLimit 7 none [.ref v0, .ref v1, .ref v2] h none r := by
  refine zOk.of (by decide) (Nat.le_of_ble_eq_true rfl) ?_
  unfold f_X1_workNamesAndLimit at H
  refine z_iconst (pc := 0) (x := 0) dX1_workNamesAndLimit_0 zc_iconst_0 ?_
  refine z_istore_n (pc := 1) (lv' := [(3, .int 0), (0, .ref v0), (1, .ref v1), (2, .ref v2)]) dX1_workNamesAndLimit_1 rfl (by decide) rfl ?_
  refine z_iconst (pc := 2) (x := 0) dX1_workNamesAndLimit_2 zc_iconst_0 ?_
  refine z_istore (pc := 3) (lv' := [(4, .int 0), (3, .int 0), (0, .ref v0), (1, .ref v1), (2, .ref v2)]) dX1_workNamesAndLimit_3 (by decide) rfl ?_
  obtain ⟨m28, em28, H⟩ := zbind H
  refine z_sub [2, 3, 4, 1, 0] rfl (s_X1_workNamesAndLimit_L5 (by omega) N 0 0 h _ em28 ?_)
  cases H
  exact z_return rfl dX1_workNamesAndLimit_125

theorem fd_X1_30 : zFd RX1 30 1 4 (.int) false "WhoseStreet$Book" := zFd.of cl_1 (by decide) (zmem 317 (by decide +kernel) rfl) rfl rfl rfl
theorem fd_X1_33 : zFd RX1 33 1 5 (.int) false "WhoseStreet$Book" := zFd.of cl_1 (by decide) (zmem 319 (by decide +kernel) rfl) rfl rfl rfl
def f_X1_findFault_L5 (N : Nat) (v0 : Nat) (v1 : Nat) (v2 : Nat) : Nat → Int32 → Int32 → zH → Option ((zH) ⊕ (zH))
  | 0, _, _, _ => none
  | n + 1, v3, v4, h => if 20 ≤ v4 then (some (.inl h)) else ((aN h v1).bind fun x2 => if x2 < (v3 + 3) then (some (.inl h)) else ((aI h v1 (v3 + 2)).bind fun x4 => zlet ((v3 + 3) + x4 : Int32) fun x5 => (aI h v1 v3).bind fun x6 => if x6 = 5 then (zif (zob h v0 1) <| (f_X1_work N v0 v1 (v3 + 3) x5 v2 h).bind fun q9 => if q9.1 = 0 then (f_X1_findFault_L5 N v0 v1 v2 n x5 (v4 + 1) q9.2) else ((aI q9.2 v1 (v3 + 1)).bind fun x11 => (pF q9.2 v0 1 4 (.int x11)).bind fun h12 => (pF h12 v0 1 5 (.int v4)).bind fun h13 => some (.inr h13))) else (f_X1_findFault_L5 N v0 v1 v2 n x5 (v4 + 1) h)))
set_option maxRecDepth 100000 in
set_option maxHeartbeats 4000000 in
theorem s_X1_findFault_L5 {d mc ms N : Nat} {vv : Option Value} {hh : zH} {v0 : Nat} {v1 : Nat} {v2 : Nat} (hd0 : 5 ≤ d) : ∀ (n : Nat) (v3 : Int32) (v4 : Int32) (h : zH) (m : (zH) ⊕ (zH)), f_X1_findFault_L5 N v0 v1 v2 n v3 v4 h = some m → (∀ s, m = .inl s → zW yX1_findFault cX1_findFault 6 none d mc ms 77 [] [] s vv hh) → (∀ r, m = .inr r → vv = none ∧ hh = r) → zW yX1_findFault cX1_findFault 6 none d mc ms 5 [(0, .ref v0), (1, .ref v1), (2, .ref v2), (3, .int v3), (4, .int v4)] [] h vv hh := by
  intro n
  induction n with
  | zero =>
    intro v3 v4 h m H
    cases H
  | succ n ih =>
    intro v3 v4 h m H KE KR
    unfold f_X1_findFault_L5 at H
    refine z_iload (pc := 5) 4 dX1_findFault_5 rfl ?_
    refine z_bipush (pc := 7) (x := 20) dX1_findFault_7 zc_bipush_20 ?_
    refine z_icmp_ge (pc := 9) 77 dX1_findFault_9 (by decide) (fun c1 => ?_) (fun c1 => ?_)
    · rw [if_pos c1] at H
      cases H
      exact z_sub [] rfl (KE _ rfl)
    · rw [if_neg c1] at H
      refine z_iload_n (pc := 12) 3 dX1_findFault_12 rfl rfl ?_
      refine z_iconst (pc := 13) (x := 3) dX1_findFault_13 zc_iconst_3 ?_
      refine z_iadd (pc := 14) dX1_findFault_14 ?_
      refine z_aload_n (pc := 15) 1 dX1_findFault_15 rfl rfl ?_
      obtain ⟨x2, ex2, H⟩ := zbind H
      refine z_alen (pc := 16) dX1_findFault_16 ex2 ?_
      refine z_icmp_gt (pc := 17) 77 dX1_findFault_17 (by decide) (fun c3 => ?_) (fun c3 => ?_)
      · rw [if_pos c3] at H
        cases H
        exact z_sub [] rfl (KE _ rfl)
      · rw [if_neg c3] at H
        refine z_iload_n (pc := 20) 3 dX1_findFault_20 rfl rfl ?_
        refine z_iconst (pc := 21) (x := 3) dX1_findFault_21 zc_iconst_3 ?_
        refine z_iadd (pc := 22) dX1_findFault_22 ?_
        refine z_aload_n (pc := 23) 1 dX1_findFault_23 rfl rfl ?_
        refine z_iload_n (pc := 24) 3 dX1_findFault_24 rfl rfl ?_
        refine z_iconst (pc := 25) (x := 2) dX1_findFault_25 zc_iconst_2 ?_
        refine z_iadd (pc := 26) dX1_findFault_26 ?_
        obtain ⟨x4, ex4, H⟩ := zbind H
        refine z_iaload (pc := 27) dX1_findFault_27 ex4 ?_
        refine z_iadd (pc := 28) dX1_findFault_28 ?_
        obtain ⟨x5, ex5, H⟩ := zletE H
        refine z_nmI ex5 ?_
        refine z_istore (pc := 29) (lv' := [(5, .int x5), (0, .ref v0), (1, .ref v1), (2, .ref v2), (3, .int v3), (4, .int v4)]) dX1_findFault_29 (by decide) rfl ?_
        refine z_aload_n (pc := 31) 2 dX1_findFault_31 rfl rfl ?_
        refine z_iload_n (pc := 32) 4 dX1_findFault_32 rfl rfl ?_
        obtain ⟨x6, ex6, H⟩ := zbind H
        refine z_iaload (pc := 33) dX1_findFault_33 ex6 ?_
        refine z_iconst (pc := 34) (x := 5) dX1_findFault_34 zc_iconst_5 ?_
        refine z_icmp_ne (pc := 35) 68 dX1_findFault_35 (by decide) (fun c7 => ?_) (fun c7 => ?_)
        · rw [if_neg c7] at H
          refine z_iload (pc := 68) 0 dX1_findFault_68 rfl ?_
          refine z_istore_n (pc := 70) (lv' := [(3, .int x5), (5, .int x5), (0, .ref v0), (1, .ref v1), (2, .ref v2), (4, .int v4)]) dX1_findFault_70 rfl (by decide) rfl ?_
          refine z_iinc (pc := 71) (x' := v4 + 1) (lv' := [(4, .int (v4 + 1)), (3, .int x5), (5, .int x5), (0, .ref v0), (1, .ref v1), (2, .ref v2)]) 5 dX1_findFault_71 rfl (by rfl) (by decide) rfl ?_
          refine z_goto (pc := 74) 5 dX1_findFault_74 (by decide) ?_
          exact z_sub [3, 4, 5, 1, 0] rfl (ih x5 (v4 + 1) h _ H KE KR)
        · rw [if_pos c7] at H
          refine z_aload_n (pc := 38) 1 dX1_findFault_38 rfl rfl ?_
          refine z_aload_n (pc := 39) 2 dX1_findFault_39 rfl rfl ?_
          refine z_iload_n (pc := 40) 4 dX1_findFault_40 rfl rfl ?_
          refine z_iconst (pc := 41) (x := 3) dX1_findFault_41 zc_iconst_3 ?_
          refine z_iadd (pc := 42) dX1_findFault_42 ?_
          refine z_iload (pc := 43) 0 dX1_findFault_43 rfl ?_
          refine z_aload_n (pc := 45) 3 dX1_findFault_45 rfl rfl ?_
          obtain ⟨z8, H⟩ := zifE H
          obtain ⟨q9, eq9, H⟩ := zbind H
          refine z_callV (pc := 46) (mc := mc) (ms := ms) (d' := 4) (mc' := 0) (ms' := 0) (rest := []) [.ref v1, .int (v3 + 3), .int x5, .ref v2] dX1_findFault_46 md_X1_work ml_X1_69 im_X1_work se_X1_work rfl z8 rfl rfl (Nat.le_of_ble_eq_true rfl) (by omega) (k_X1_work eq9) ?_
          refine z_if_eq (pc := 49) 68 dX1_findFault_49 (by decide) (fun c10 => ?_) (fun c10 => ?_)
          · rw [if_pos c10] at H
            refine z_iload (pc := 68) 0 dX1_findFault_68 rfl ?_
            refine z_istore_n (pc := 70) (lv' := [(3, .int x5), (5, .int x5), (0, .ref v0), (1, .ref v1), (2, .ref v2), (4, .int v4)]) dX1_findFault_70 rfl (by decide) rfl ?_
            refine z_iinc (pc := 71) (x' := v4 + 1) (lv' := [(4, .int (v4 + 1)), (3, .int x5), (5, .int x5), (0, .ref v0), (1, .ref v1), (2, .ref v2)]) 5 dX1_findFault_71 rfl (by rfl) (by decide) rfl ?_
            refine z_goto (pc := 74) 5 dX1_findFault_74 (by decide) ?_
            exact z_sub [3, 4, 5, 1, 0] rfl (ih x5 (v4 + 1) q9.2 _ H KE KR)
          · rw [if_neg c10] at H
            refine z_aload_n (pc := 52) 1 dX1_findFault_52 rfl rfl ?_
            refine z_aload_n (pc := 53) 2 dX1_findFault_53 rfl rfl ?_
            refine z_iload_n (pc := 54) 4 dX1_findFault_54 rfl rfl ?_
            refine z_iconst (pc := 55) (x := 1) dX1_findFault_55 zc_iconst_1 ?_
            refine z_iadd (pc := 56) dX1_findFault_56 ?_
            obtain ⟨x11, ex11, H⟩ := zbind H
            refine z_iaload (pc := 57) dX1_findFault_57 ex11 ?_
            obtain ⟨h12, eh12, H⟩ := zbind H
            refine z_put (pc := 58) dX1_findFault_58 fd_X1_30 rfl rfl eh12 ?_
            refine z_aload_n (pc := 61) 1 dX1_findFault_61 rfl rfl ?_
            refine z_iload (pc := 62) 5 dX1_findFault_62 rfl ?_
            obtain ⟨h13, eh13, H⟩ := zbind H
            refine z_put (pc := 64) dX1_findFault_64 fd_X1_33 rfl rfl eh13 ?_
            cases H
            obtain ⟨e8, e9⟩ := KR _ rfl
            subst e8
            subst e9
            exact z_return rfl dX1_findFault_67
def f_X1_findFault (N : Nat) (v0 : Nat) (v1 : Nat) (v2 : Nat) (h : zH) : Option (zH) := (f_X1_findFault_L5 N v0 v1 v2 N 0 0 h).bind fun m14 => zsum m14 fun s15 => some s15
set_option maxRecDepth 100000 in
set_option maxHeartbeats 4000000 in
theorem k_X1_findFault {N : Nat} {v0 : Nat} {v1 : Nat} {v2 : Nat} {h : zH} {r : zH} (H : f_X1_findFault N v0 v1 v2 h = some r) : zOk 5 0 0 yX1_findFault cX1_findFault 6 none [.ref v0, .ref v1, .ref v2] h none r := by
  refine zOk.of (by decide) (Nat.le_of_ble_eq_true rfl) ?_
  unfold f_X1_findFault at H
  refine z_iconst (pc := 0) (x := 0) dX1_findFault_0 zc_iconst_0 ?_
  refine z_istore_n (pc := 1) (lv' := [(3, .int 0), (0, .ref v0), (1, .ref v1), (2, .ref v2)]) dX1_findFault_1 rfl (by decide) rfl ?_
  refine z_iconst (pc := 2) (x := 0) dX1_findFault_2 zc_iconst_0 ?_
  refine z_istore (pc := 3) (lv' := [(4, .int 0), (3, .int 0), (0, .ref v0), (1, .ref v1), (2, .ref v2)]) dX1_findFault_3 (by decide) rfl ?_
  obtain ⟨m14, em14, H⟩ := zbind H
  refine z_sub [2, 3, 4, 1, 0] rfl (s_X1_findFault_L5 (by omega) N 0 0 h _ em14 ?_ ?_)
  · intro s15 e9
    subst e9
    have H := zsumL H
    cases H
    exact z_return rfl dX1_findFault_77
  · intro r e9
    subst e9
    have H := zsumR H
    cases H
    exact ⟨rfl, rfl⟩

