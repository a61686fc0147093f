/-! each call of the law keeps the invariant -/
theorem init_eq {sz : Nat} {cc : Nat → Nat} {b L : Nat} {xs : Nat → Int32} (had : zad sz cc b) : c_L_init 10000 b (zh0 sz cc b L xs) = some (sz, sz + 42, sz + 99, hF sz cc b xs L) := by
  have hw : zwd (zh0 sz cc b L xs) := by
    obtain ⟨a1, a2, a3, a4, a5, a6, a7, a8, a9, a10, -⟩ := had
    show (if cc 4 = b then _ else if cc 4 = cc 0 then _ else if cc 4 = cc 4 then _ else _) = _
    rw [if_neg a8, if_neg a10, if_pos rfl]
  unfold c_L_init zlet
  have e1 : ∀ c, znew (zh0 sz cc b L xs) c = hL (zh0 sz cc b L xs) [c] := fun c => by
    conv => lhs; rw [← zh0_nil had]
    rw [hL_new]; rfl
  rw [e1]
  show (f_X11_init 10000 (zh0 sz cc b L xs).1.1 (hL (zh0 sz cc b L xs) _)).bind _ = _
  rw [i_X11 hw had.2.2.2.2.1]
  show (f_X12_init 10000 (hL (zh0 sz cc b L xs) (L11 sz)).1.1 (znew (hL (zh0 sz cc b L xs) (L11 sz)) (.inr (12, zF0)))).bind _ = _
  have e2 : ∀ c, znew (hL (zh0 sz cc b L xs) (L11 sz)) c = hL (hL (zh0 sz cc b L xs) (L11 sz)) [c] := fun c => by
    conv => lhs; rw [← hL_nil2]
    rw [hL_new]; rfl
  rw [e2, i_X12]
  show some (sz, _, _, znew (hL (hL (zh0 sz cc b L xs) (L11 sz)) (L12 (sz + 42))) (zblank 1 1)) = _
  rw [hL_new]
  rfl
theorem sc_ {n b L : Nat} {xs : Nat → Int32} {τ : Nat → Nat} {g : zGh} {h : zH} {i : Nat} (w : WT n b L xs τ g h) (j : Nat) (hj : i + j < L) (hL : L ≤ 4096) : aI h b (nI i + nI j) = some (xs (i + j)) := by
  rw [nI_add]
  have e := w.2.2.2.1.1
  have r := aI_of (i := nI (i + j)) e (by decide) (nI_pos (by omega)) (by rw [nI_clamp (by omega)]; exact hj)
  rw [nI_clamp (by omega)] at r
  exact r
section MK
variable {n b L : Nat} {xs : Nat → Int32} {h : zH} {i : Nat}
theorem sc_1 {τ : Nat → Nat} {g : zGh} {h : zH} (w : WT n b L xs τ g h) (hi : i + 8 ≤ L) (hL : L ≤ 4096) : aI h b (nI i + 1) = some (xs (i + 1)) := sc_ w 1 (by omega) hL
theorem sc_2 {τ : Nat → Nat} {g : zGh} {h : zH} (w : WT n b L xs τ g h) (hi : i + 8 ≤ L) (hL : L ≤ 4096) : aI h b (nI i + 2) = some (xs (i + 2)) := sc_ w 2 (by omega) hL
theorem sc_3 {τ : Nat → Nat} {g : zGh} {h : zH} (w : WT n b L xs τ g h) (hi : i + 8 ≤ L) (hL : L ≤ 4096) : aI h b (nI i + 3) = some (xs (i + 3)) := sc_ w 3 (by omega) hL
theorem sc_4 {τ : Nat → Nat} {g : zGh} {h : zH} (w : WT n b L xs τ g h) (hi : i + 8 ≤ L) (hL : L ≤ 4096) : aI h b (nI i + 4) = some (xs (i + 4)) := sc_ w 4 (by omega) hL
theorem sc_5 {τ : Nat → Nat} {g : zGh} {h : zH} (w : WT n b L xs τ g h) (hi : i + 8 ≤ L) (hL : L ≤ 4096) : aI h b (nI i + 5) = some (xs (i + 5)) := sc_ w 5 (by omega) hL
theorem sc_6 {τ : Nat → Nat} {g : zGh} {h : zH} (w : WT n b L xs τ g h) (hi : i + 8 ≤ L) (hL : L ≤ 4096) : aI h b (nI i + 6) = some (xs (i + 6)) := sc_ w 6 (by omega) hL
theorem sc_7 {τ : Nat → Nat} {g : zGh} {h : zH} (w : WT n b L xs τ g h) (hi : i + 8 ≤ L) (hL : L ≤ 4096) : aI h b (nI i + 7) = some (xs (i + 7)) := sc_ w 7 (by omega) hL
theorem m_0 (I : IV n b L xs h) (hi : i + 8 ≤ L) (hL : L ≤ 4096) : wp (c_L_0 10000 b n (n + 42) (nI i) h) (fun r => IV n b L xs r) := by
  obtain ⟨τ, g, w, c⟩ := I
  unfold c_L_0
  refine wp_eq (sc_1 w hi hL) ?_
  refine wp_zif (ob_0 w) ?_
  refine wp_bind (pr_0 w c) fun q3 p_q3 => ?_
  obtain ⟨τ1, g1, w1, p_q3⟩ := p_q3
  refine wp_eq (sc_1 w1 hi hL) ?_
  refine wp_zif (ob_42 w1) ?_
  refine wp_bind p_q3 fun q6 p_q6 => ?_
  exact wp_some p_q6.2
theorem m_1 (I : IV n b L xs h) (hi : i + 8 ≤ L) (hL : L ≤ 4096) : wp (c_L_1 10000 b n (n + 42) (nI i) h) (fun r => IV n b L xs r) := by
  obtain ⟨τ, g, w, c⟩ := I
  unfold c_L_1
  refine wp_eq (sc_1 w hi hL) ?_
  refine wp_zif (ob_0 w) ?_
  refine wp_bind (pr_1 w c) fun q3 p_q3 => ?_
  obtain ⟨τ1, g1, w1, p_q3⟩ := p_q3
  refine wp_eq (sc_1 w1 hi hL) ?_
  refine wp_zif (ob_42 w1) ?_
  refine wp_bind p_q3 fun q6 p_q6 => ?_
  exact wp_some p_q6.2
theorem m_2 (I : IV n b L xs h) (hi : i + 8 ≤ L) (hL : L ≤ 4096) : wp (c_L_2 10000 b n (n + 42) (nI i) h) (fun r => IV n b L xs r) := by
  obtain ⟨τ, g, w, c⟩ := I
  unfold c_L_2
  refine wp_eq (sc_1 w hi hL) ?_
  refine wp_eq (sc_2 w hi hL) ?_
  refine wp_eq (sc_3 w hi hL) ?_
  refine wp_eq (sc_4 w hi hL) ?_
  refine wp_eq (sc_5 w hi hL) ?_
  refine wp_eq (sc_6 w hi hL) ?_
  refine wp_eq (sc_7 w hi hL) ?_
  refine wp_zif (ob_0 w) ?_
  refine wp_bind (pr_2 w c) fun q9 p_q9 => ?_
  obtain ⟨τ1, g1, w1, p_q9⟩ := p_q9
  refine wp_eq (sc_1 w1 hi hL) ?_
  refine wp_eq (sc_2 w1 hi hL) ?_
  refine wp_eq (sc_3 w1 hi hL) ?_
  refine wp_eq (sc_4 w1 hi hL) ?_
  refine wp_eq (sc_5 w1 hi hL) ?_
  refine wp_eq (sc_6 w1 hi hL) ?_
  refine wp_eq (sc_7 w1 hi hL) ?_
  refine wp_zif (ob_42 w1) ?_
  refine wp_bind p_q9 fun q18 p_q18 => ?_
  exact wp_some p_q18.2
theorem m_3 (I : IV n b L xs h) (hi : i + 8 ≤ L) (hL : L ≤ 4096) : wp (c_L_3 10000 b n (n + 42) (nI i) h) (fun r => IV n b L xs r) := by
  obtain ⟨τ, g, w, c⟩ := I
  unfold c_L_3
  refine wp_eq (sc_1 w hi hL) ?_
  refine wp_eq (sc_2 w hi hL) ?_
  refine wp_eq (sc_3 w hi hL) ?_
  refine wp_eq (sc_4 w hi hL) ?_
  refine wp_eq (sc_5 w hi hL) ?_
  refine wp_zif (ob_0 w) ?_
  refine wp_bind (pr_3 w c) fun q7 p_q7 => ?_
  obtain ⟨τ1, g1, w1, p_q7⟩ := p_q7
  refine wp_eq (sc_1 w1 hi hL) ?_
  refine wp_eq (sc_2 w1 hi hL) ?_
  refine wp_eq (sc_3 w1 hi hL) ?_
  refine wp_eq (sc_4 w1 hi hL) ?_
  refine wp_eq (sc_5 w1 hi hL) ?_
  refine wp_zif (ob_42 w1) ?_
  refine wp_bind p_q7 fun q14 p_q14 => ?_
  exact wp_some p_q14.2
theorem m_4 (I : IV n b L xs h) (hi : i + 8 ≤ L) (hL : L ≤ 4096) : wp (c_L_4 10000 b n (n + 42) (nI i) h) (fun r => IV n b L xs r) := by
  obtain ⟨τ, g, w, c⟩ := I
  unfold c_L_4
  refine wp_eq (sc_1 w hi hL) ?_
  refine wp_eq (sc_2 w hi hL) ?_
  refine wp_zif (ob_0 w) ?_
  refine wp_bind (pr_4 w c) fun q4 p_q4 => ?_
  obtain ⟨τ1, g1, w1, p_q4⟩ := p_q4
  refine wp_eq (sc_1 w1 hi hL) ?_
  refine wp_eq (sc_2 w1 hi hL) ?_
  refine wp_zif (ob_42 w1) ?_
  refine wp_bind p_q4 fun q8 p_q8 => ?_
  exact wp_some p_q8
theorem m_6 (I : IV n b L xs h) (hi : i + 8 ≤ L) (hL : L ≤ 4096) : wp (c_L_6 10000 b n (n + 42) (nI i) h) (fun r => IV n b L xs r) := by
  obtain ⟨τ, g, w, c⟩ := I
  unfold c_L_6
  refine wp_eq (sc_1 w hi hL) ?_
  refine wp_eq (sc_2 w hi hL) ?_
  refine wp_eq (sc_3 w hi hL) ?_
  refine wp_eq (sc_4 w hi hL) ?_
  refine wp_eq (sc_5 w hi hL) ?_
  refine wp_eq (sc_6 w hi hL) ?_
  refine wp_zif (ob_0 w) ?_
  refine wp_bind (pr_6 w c) fun q8 p_q8 => ?_
  obtain ⟨τ1, g1, w1, p_q8⟩ := p_q8
  refine wp_eq (sc_1 w1 hi hL) ?_
  refine wp_eq (sc_2 w1 hi hL) ?_
  refine wp_eq (sc_3 w1 hi hL) ?_
  refine wp_eq (sc_4 w1 hi hL) ?_
  refine wp_eq (sc_5 w1 hi hL) ?_
  refine wp_eq (sc_6 w1 hi hL) ?_
  refine wp_zif (ob_42 w1) ?_
  refine wp_bind p_q8 fun q16 p_q16 => ?_
  rw [if_pos p_q16.1]
  exact wp_some p_q16.2
theorem m_7 (I : IV n b L xs h) (hi : i + 8 ≤ L) (hL : L ≤ 4096) : wp (c_L_7 10000 b n (n + 42) (nI i) h) (fun r => IV n b L xs r) := by
  obtain ⟨τ, g, w, c⟩ := I
  unfold c_L_7
  refine wp_eq (sc_1 w hi hL) ?_
  refine wp_zif (ob_0 w) ?_
  refine wp_bind (pr_7 w c) fun q3 p_q3 => ?_
  obtain ⟨τ1, g1, w1, p_q3⟩ := p_q3
  refine wp_eq (sc_1 w1 hi hL) ?_
  refine wp_zif (ob_42 w1) ?_
  refine wp_bind p_q3 fun q6 p_q6 => ?_
  exact wp_some p_q6
theorem m_8 (I : IV n b L xs h) (hi : i + 8 ≤ L) (hL : L ≤ 4096) : wp (c_L_8 10000 b n (n + 42) (nI i) h) (fun r => IV n b L xs r) := by
  obtain ⟨τ, g, w, c⟩ := I
  unfold c_L_8
  refine wp_eq (sc_1 w hi hL) ?_
  refine wp_eq (sc_2 w hi hL) ?_
  refine wp_eq (sc_3 w hi hL) ?_
  refine wp_zif (ob_0 w) ?_
  refine wp_bind (pr_8 w c) fun q5 p_q5 => ?_
  obtain ⟨τ1, g1, w1, p_q5⟩ := p_q5
  refine wp_eq (sc_1 w1 hi hL) ?_
  refine wp_eq (sc_2 w1 hi hL) ?_
  refine wp_eq (sc_3 w1 hi hL) ?_
  refine wp_zif (ob_42 w1) ?_
  refine wp_bind p_q5 fun q10 p_q10 => ?_
  exact wp_some p_q10
theorem m_9 (I : IV n b L xs h) (hi : i + 8 ≤ L) (hL : L ≤ 4096) : wp (c_L_9 10000 b n (n + 42) (nI i) h) (fun r => IV n b L xs r) := by
  obtain ⟨τ, g, w, c⟩ := I
  unfold c_L_9
  refine wp_eq (sc_1 w hi hL) ?_
  refine wp_eq (sc_2 w hi hL) ?_
  refine wp_zif (ob_0 w) ?_
  refine wp_bind (pr_9 w c) fun q4 p_q4 => ?_
  obtain ⟨τ1, g1, w1, p_q4⟩ := p_q4
  refine wp_eq (sc_1 w1 hi hL) ?_
  refine wp_eq (sc_2 w1 hi hL) ?_
  refine wp_zif (ob_42 w1) ?_
  refine wp_bind p_q4 fun q8 p_q8 => ?_
  exact wp_some p_q8
theorem m_10 (I : IV n b L xs h) (hi : i + 8 ≤ L) (hL : L ≤ 4096) : wp (c_L_10 10000 b n (n + 42) (nI i) h) (fun r => IV n b L xs r) := by
  obtain ⟨τ, g, w, c⟩ := I
  unfold c_L_10
  refine wp_eq (sc_1 w hi hL) ?_
  refine wp_eq (sc_2 w hi hL) ?_
  refine wp_bind (R := fun r => r = (if xs (i + 2) = 0 then 0 else 1)) ?_ (fun m3 p_m3 => ?_)
  · exact wp_ite (fun z => wp_some (by rw [if_pos z])) (fun z => wp_some (by rw [if_neg z]))
  subst p_m3
  refine wp_zif (ob_0 w) ?_
  refine wp_bind (pr_10 w c (by by_cases z : xs (i + 2) = 0 <;> simp [z])) fun q6 p_q6 => ?_
  obtain ⟨τ1, g1, w1, p_q6⟩ := p_q6
  refine wp_eq (sc_1 w1 hi hL) ?_
  refine wp_eq (sc_2 w1 hi hL) ?_
  refine wp_bind (R := fun r => r = (if xs (i + 2) = 0 then 0 else 1)) ?_ (fun m9 p_m9 => ?_)
  · exact wp_ite (fun z => wp_some (by rw [if_pos z])) (fun z => wp_some (by rw [if_neg z]))
  subst p_m9
  refine wp_zif (ob_42 w1) ?_
  refine wp_bind p_q6 fun q12 p_q12 => ?_
  exact wp_some p_q12.2
theorem m_11 (I : IV n b L xs h) (hi : i + 8 ≤ L) (hL : L ≤ 4096) : wp (c_L_11 10000 b n (n + 42) (nI i) h) (fun r => IV n b L xs r) := by
  obtain ⟨τ, g, w, c⟩ := I
  unfold c_L_11
  refine wp_eq (sc_1 w hi hL) ?_
  refine wp_zif (ob_0 w) ?_
  refine wp_bind (pr_11 w c) fun q3 p_q3 => ?_
  obtain ⟨τ1, g1, w1, p_q3⟩ := p_q3
  refine wp_eq (sc_1 w1 hi hL) ?_
  refine wp_zif (ob_42 w1) ?_
  refine wp_bind p_q3 fun q6 p_q6 => ?_
  exact wp_some p_q6
theorem m_12 (I : IV n b L xs h) (hi : i + 8 ≤ L) (hL : L ≤ 4096) : wp (c_L_12 10000 b n (n + 42) (nI i) h) (fun r => IV n b L xs r) := by
  obtain ⟨τ, g, w, c⟩ := I
  unfold c_L_12
  refine wp_eq (sc_1 w hi hL) ?_
  refine wp_eq (sc_2 w hi hL) ?_
  refine wp_zif (ob_0 w) ?_
  refine wp_bind (pr_12 w c) fun q4 p_q4 => ?_
  obtain ⟨τ1, g1, w1, p_q4⟩ := p_q4
  refine wp_eq (sc_1 w1 hi hL) ?_
  refine wp_eq (sc_2 w1 hi hL) ?_
  refine wp_zif (ob_42 w1) ?_
  refine wp_bind p_q4 fun q8 p_q8 => ?_
  exact wp_some p_q8
theorem m_13 (I : IV n b L xs h) (hi : i + 8 ≤ L) (hL : L ≤ 4096) : wp (c_L_13 10000 b n (n + 42) (nI i) h) (fun r => IV n b L xs r) := by
  obtain ⟨τ, g, w, c⟩ := I
  unfold c_L_13
  refine wp_eq (sc_1 w hi hL) ?_
  refine wp_zif (ob_0 w) ?_
  refine wp_bind (pr_13 w c) fun q3 p_q3 => ?_
  obtain ⟨τ1, g1, w1, p_q3⟩ := p_q3
  refine wp_eq (sc_1 w1 hi hL) ?_
  refine wp_zif (ob_42 w1) ?_
  refine wp_bind p_q3 fun q6 p_q6 => ?_
  exact wp_some p_q6
theorem m_14 (I : IV n b L xs h) (hi : i + 8 ≤ L) (hL : L ≤ 4096) : wp (c_L_14 10000 b n (n + 42) (nI i) h) (fun r => IV n b L xs r) := by
  obtain ⟨τ, g, w, c⟩ := I
  unfold c_L_14
  refine wp_eq (sc_1 w hi hL) ?_
  refine wp_eq (sc_2 w hi hL) ?_
  refine wp_eq (sc_3 w hi hL) ?_
  refine wp_eq (sc_4 w hi hL) ?_
  refine wp_eq (sc_5 w hi hL) ?_
  refine wp_zif (ob_0 w) ?_
  refine wp_bind (pr_14 w c) fun q7 p_q7 => ?_
  obtain ⟨τ1, g1, w1, p_q7⟩ := p_q7
  refine wp_eq (sc_1 w1 hi hL) ?_
  refine wp_eq (sc_2 w1 hi hL) ?_
  refine wp_eq (sc_3 w1 hi hL) ?_
  refine wp_eq (sc_4 w1 hi hL) ?_
  refine wp_eq (sc_5 w1 hi hL) ?_
  refine wp_zif (ob_42 w1) ?_
  refine wp_bind p_q7 fun q14 p_q14 => ?_
  exact wp_some p_q14.2
theorem m_15 (I : IV n b L xs h) (hi : i + 8 ≤ L) (hL : L ≤ 4096) : wp (c_L_15 10000 b n (n + 42) (nI i) h) (fun r => IV n b L xs r) := by
  obtain ⟨τ, g, w, c⟩ := I
  unfold c_L_15
  refine wp_eq (sc_1 w hi hL) ?_
  refine wp_eq (sc_2 w hi hL) ?_
  refine wp_eq (sc_3 w hi hL) ?_
  refine wp_bind (R := fun r => r = (if xs (i + 3) = 0 then 0 else 1)) ?_ (fun m4 p_m4 => ?_)
  · exact wp_ite (fun z => wp_some (by rw [if_pos z])) (fun z => wp_some (by rw [if_neg z]))
  subst p_m4
  refine wp_zif (ob_0 w) ?_
  refine wp_bind (pr_15 w c (by by_cases z : xs (i + 3) = 0 <;> simp [z])) fun q7 p_q7 => ?_
  obtain ⟨τ1, g1, w1, p_q7⟩ := p_q7
  refine wp_eq (sc_1 w1 hi hL) ?_
  refine wp_eq (sc_2 w1 hi hL) ?_
  refine wp_eq (sc_3 w1 hi hL) ?_
  refine wp_bind (R := fun r => r = (if xs (i + 3) = 0 then 0 else 1)) ?_ (fun m11 p_m11 => ?_)
  · exact wp_ite (fun z => wp_some (by rw [if_pos z])) (fun z => wp_some (by rw [if_neg z]))
  subst p_m11
  refine wp_zif (ob_42 w1) ?_
  refine wp_bind p_q7 fun q14 p_q14 => ?_
  exact wp_some p_q14.2
theorem m_16 (I : IV n b L xs h) (hi : i + 8 ≤ L) (hL : L ≤ 4096) : wp (c_L_16 10000 b n (n + 42) (nI i) h) (fun r => IV n b L xs r) := by
  obtain ⟨τ, g, w, c⟩ := I
  unfold c_L_16
  refine wp_eq (sc_1 w hi hL) ?_
  refine wp_eq (sc_2 w hi hL) ?_
  refine wp_zif (ob_0 w) ?_
  refine wp_bind (pr_16 w c) fun q4 p_q4 => ?_
  obtain ⟨τ1, g1, w1, p_q4⟩ := p_q4
  refine wp_eq (sc_1 w1 hi hL) ?_
  refine wp_eq (sc_2 w1 hi hL) ?_
  refine wp_zif (ob_42 w1) ?_
  refine wp_bind p_q4 fun q8 p_q8 => ?_
  exact wp_some p_q8.2
theorem m_17 (I : IV n b L xs h) (hi : i + 8 ≤ L) (hL : L ≤ 4096) : wp (c_L_17 10000 b n (n + 42) (nI i) h) (fun r => IV n b L xs r) := by
  obtain ⟨τ, g, w, c⟩ := I
  unfold c_L_17
  refine wp_eq (sc_1 w hi hL) ?_
  refine wp_zif (ob_0 w) ?_
  refine wp_bind (pr_17 w c) fun q3 p_q3 => ?_
  obtain ⟨τ1, g1, w1, p_q3⟩ := p_q3
  refine wp_eq (sc_1 w1 hi hL) ?_
  refine wp_zif (ob_42 w1) ?_
  refine wp_bind p_q3 fun q6 p_q6 => ?_
  exact wp_some p_q6.2
theorem m_18 (I : IV n b L xs h) (hi : i + 8 ≤ L) (hL : L ≤ 4096) : wp (c_L_18 10000 b n (n + 42) (nI i) h) (fun r => IV n b L xs r) := by
  obtain ⟨τ, g, w, c⟩ := I
  unfold c_L_18
  refine wp_eq (sc_1 w hi hL) ?_
  refine wp_eq (sc_2 w hi hL) ?_
  refine wp_eq (sc_3 w hi hL) ?_
  refine wp_zif (ob_0 w) ?_
  refine wp_bind (pr_18 w c) fun q5 p_q5 => ?_
  obtain ⟨τ1, g1, w1, p_q5⟩ := p_q5
  refine wp_eq (sc_1 w1 hi hL) ?_
  refine wp_eq (sc_2 w1 hi hL) ?_
  refine wp_eq (sc_3 w1 hi hL) ?_
  refine wp_zif (ob_42 w1) ?_
  refine wp_bind p_q5 fun q10 p_q10 => ?_
  exact wp_some p_q10.2
theorem m_19 (I : IV n b L xs h) (hi : i + 8 ≤ L) (hL : L ≤ 4096) : wp (c_L_19 10000 b n (n + 42) (nI i) h) (fun r => IV n b L xs r) := by
  obtain ⟨τ, g, w, c⟩ := I
  unfold c_L_19
  refine wp_eq (sc_1 w hi hL) ?_
  refine wp_zif (ob_0 w) ?_
  refine wp_bind (pr_19 w c) fun q3 p_q3 => ?_
  obtain ⟨τ1, g1, w1, p_q3⟩ := p_q3
  refine wp_eq (sc_1 w1 hi hL) ?_
  refine wp_zif (ob_42 w1) ?_
  refine wp_bind p_q3 fun q6 p_q6 => ?_
  exact wp_some p_q6.2
theorem m_20 (I : IV n b L xs h) (hi : i + 8 ≤ L) (hL : L ≤ 4096) : wp (c_L_20 10000 b n (n + 42) (nI i) h) (fun r => IV n b L xs r) := by
  obtain ⟨τ, g, w, c⟩ := I
  unfold c_L_20
  refine wp_eq (sc_1 w hi hL) ?_
  refine wp_zif (ob_0 w) ?_
  refine wp_bind (pr_20 w c) fun q3 p_q3 => ?_
  obtain ⟨τ1, g1, w1, p_q3⟩ := p_q3
  refine wp_eq (sc_1 w1 hi hL) ?_
  refine wp_zif (ob_42 w1) ?_
  refine wp_bind p_q3 fun q6 p_q6 => ?_
  exact wp_some p_q6.2
theorem m_21 (I : IV n b L xs h) (hi : i + 8 ≤ L) (hL : L ≤ 4096) : wp (c_L_21 10000 b n (n + 42) (nI i) h) (fun r => IV n b L xs r) := by
  obtain ⟨τ, g, w, c⟩ := I
  unfold c_L_21
  refine wp_eq (sc_1 w hi hL) ?_
  refine wp_eq (sc_2 w hi hL) ?_
  refine wp_eq (sc_3 w hi hL) ?_
  refine wp_eq (sc_4 w hi hL) ?_
  refine wp_zif (ob_0 w) ?_
  refine wp_bind (pr_21 w c) fun q6 p_q6 => ?_
  obtain ⟨τ1, g1, w1, p_q6⟩ := p_q6
  refine wp_eq (sc_1 w1 hi hL) ?_
  refine wp_eq (sc_2 w1 hi hL) ?_
  refine wp_eq (sc_3 w1 hi hL) ?_
  refine wp_eq (sc_4 w1 hi hL) ?_
  refine wp_zif (ob_42 w1) ?_
  refine wp_bind p_q6 fun q12 p_q12 => ?_
  exact wp_some p_q12.2
theorem m_22 (I : IV n b L xs h) (hi : i + 8 ≤ L) (hL : L ≤ 4096) : wp (c_L_22 10000 b n (n + 42) (nI i) h) (fun r => IV n b L xs r) := by
  obtain ⟨τ, g, w, c⟩ := I
  unfold c_L_22
  refine wp_eq (sc_1 w hi hL) ?_
  refine wp_eq (sc_2 w hi hL) ?_
  refine wp_eq (sc_3 w hi hL) ?_
  refine wp_zif (ob_0 w) ?_
  refine wp_bind (pr_22 w c) fun q5 p_q5 => ?_
  refine wp_eq (sc_1 w hi hL) ?_
  refine wp_eq (sc_2 w hi hL) ?_
  refine wp_eq (sc_3 w hi hL) ?_
  refine wp_zif (ob_42 w) ?_
  refine wp_bind p_q5 fun q10 p_q10 => ?_
  exact wp_some p_q10.2
theorem m_23 (I : IV n b L xs h) (hi : i + 8 ≤ L) (hL : L ≤ 4096) : wp (c_L_23 10000 b n (n + 42) (nI i) h) (fun r => IV n b L xs r) := by
  obtain ⟨τ, g, w, c⟩ := I
  unfold c_L_23
  refine wp_eq (sc_1 w hi hL) ?_
  refine wp_eq (sc_2 w hi hL) ?_
  refine wp_eq (sc_3 w hi hL) ?_
  refine wp_eq (sc_4 w hi hL) ?_
  refine wp_eq (sc_5 w hi hL) ?_
  refine wp_eq (sc_6 w hi hL) ?_
  refine wp_zif (ob_0 w) ?_
  refine wp_bind (pr_23 w c) fun q8 p_q8 => ?_
  obtain ⟨τ1, g1, w1, p_q8⟩ := p_q8
  refine wp_eq (sc_1 w1 hi hL) ?_
  refine wp_eq (sc_2 w1 hi hL) ?_
  refine wp_eq (sc_3 w1 hi hL) ?_
  refine wp_eq (sc_4 w1 hi hL) ?_
  refine wp_eq (sc_5 w1 hi hL) ?_
  refine wp_eq (sc_6 w1 hi hL) ?_
  refine wp_zif (ob_42 w1) ?_
  refine wp_bind p_q8 fun q16 p_q16 => ?_
  exact wp_some p_q16.2
theorem m_24 (I : IV n b L xs h) (hi : i + 8 ≤ L) (hL : L ≤ 4096) : wp (c_L_24 10000 b n (n + 42) (nI i) h) (fun r => IV n b L xs r) := by
  obtain ⟨τ, g, w, c⟩ := I
  unfold c_L_24
  refine wp_eq (sc_1 w hi hL) ?_
  refine wp_eq (sc_2 w hi hL) ?_
  refine wp_zif (ob_0 w) ?_
  refine wp_bind (pr_24 w c) fun q4 p_q4 => ?_
  obtain ⟨τ1, g1, w1, p_q4⟩ := p_q4
  refine wp_eq (sc_1 w1 hi hL) ?_
  refine wp_eq (sc_2 w1 hi hL) ?_
  refine wp_zif (ob_42 w1) ?_
  refine wp_bind p_q4 fun q8 p_q8 => ?_
  exact wp_some p_q8.2
theorem m_25 (I : IV n b L xs h) (hi : i + 8 ≤ L) (hL : L ≤ 4096) : wp (c_L_25 10000 b n (n + 42) (nI i) h) (fun r => IV n b L xs r) := by
  obtain ⟨τ, g, w, c⟩ := I
  unfold c_L_25
  refine wp_eq (sc_1 w hi hL) ?_
  refine wp_eq (sc_2 w hi hL) ?_
  refine wp_zif (ob_0 w) ?_
  refine wp_bind (pr_25 w c) fun q4 p_q4 => ?_
  obtain ⟨τ1, g1, w1, p_q4⟩ := p_q4
  refine wp_eq (sc_1 w1 hi hL) ?_
  refine wp_eq (sc_2 w1 hi hL) ?_
  refine wp_zif (ob_42 w1) ?_
  refine wp_bind p_q4 fun q8 p_q8 => ?_
  exact wp_some p_q8
theorem m_26 (I : IV n b L xs h) (hi : i + 8 ≤ L) (hL : L ≤ 4096) : wp (c_L_26 10000 b n (n + 42) (nI i) h) (fun r => IV n b L xs r) := by
  obtain ⟨τ, g, w, c⟩ := I
  unfold c_L_26
  refine wp_eq (sc_1 w hi hL) ?_
  refine wp_zif (ob_0 w) ?_
  refine wp_bind (pr_26 w c) fun q3 p_q3 => ?_
  refine wp_eq (sc_1 w hi hL) ?_
  refine wp_zif (ob_42 w) ?_
  refine wp_bind p_q3 fun q6 p_q6 => ?_
  exact wp_some p_q6
theorem WT.push {τ : Nat → Nat} {g : zGh} (w : WT n b L xs τ g h) : WT n b L xs τ g (zpush h) := by
  obtain ⟨w1, w2, w3, w4⟩ := w
  refine ⟨w1, fun a ha => ?_, Nat.le_succ_of_le w3, w4⟩
  obtain ⟨a1, a2, a3⟩ := w2 a ha
  exact ⟨a1, Nat.lt_succ_of_lt a2, a3⟩
theorem m_5b (I : IV n b L xs h) (hi : i + 8 ≤ L) (hL : L ≤ 4096) : wp (c_L_5b 10000 b (n + 42) (nI i) h) (fun r => IV n b L xs r) := by
  obtain ⟨τ, g, w, c⟩ := I
  unfold c_L_5b
  refine wp_eq (sc_1 w hi hL) ?_
  refine wp_eq (sc_2 w hi hL) ?_
  refine wp_eq (sc_3 w hi hL) ?_
  refine wp_zif (ob_42 w) ?_
  exact wp_bind (t_X12_at w c.2.2.2.2.2.2.2.1) fun q p => wp_some ⟨_, _, p, c⟩
theorem m_5 (I : IV n b L xs h) (hi : i + 8 ≤ L) (hL : L ≤ 4096) : (∃ h2, t_X11_at 10000 n (xs (i + 1)) (xs (i + 2)) (xs (i + 3)) h = some true ∧ c_L_5b 10000 b (n + 42) (nI i) (zpush h) = some h2 ∧ IV n b L xs h2) ∨ (∃ q h1 h2, f_X11_at 10000 n (xs (i + 1)) (xs (i + 2)) (xs (i + 3)) h = some q ∧ sL q.2 (n + 99) 0 q.1.toInt64 = some h1 ∧ c_L_5b 10000 b (n + 42) (nI i) h1 = some h2 ∧ IV n b L xs h2) := by
  obtain ⟨τ, g, w, c⟩ := I
  rcases u_X11_at (v1 := xs (i + 1)) (v2 := xs (i + 2)) (v3 := xs (i + 3)) w with e | ⟨-, q, e, w1⟩
  · obtain ⟨h2, e2, I2⟩ := m_5b ⟨τ, g, w.push, c⟩ hi hL
    exact Or.inl ⟨h2, e, e2, I2⟩
  · obtain ⟨h1, e1, w2⟩ := sL_99 (i := 0) (x := q.1.toInt64) w1 (by decide) (by decide)
    obtain ⟨h2, e2, I2⟩ := m_5b ⟨τ, g, w2, c⟩ hi hL
    exact Or.inr ⟨q, h1, h2, e, e1, e2, I2⟩
end MK
