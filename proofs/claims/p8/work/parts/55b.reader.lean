/-! the class's reader over a typed heap: code written and operators that wait are never more than the signs taken -/
def Sm (g g' : zGh) : Prop := (∀ j, j ≠ 3 → j ≠ 6 → g'.1 j = g.1 j) ∧ g'.1 3 2 = g.1 3 2 ∧ g'.2 = g.2
theorem Sm_6 {g g' : zGh} {k : Nat} {x : Int32} (s : Sm g g') : Sm g (gset g' 6 k x) := ⟨fun j a c => (gset_out c).trans (s.1 j a c), s.2.1, s.2.2⟩
theorem Sm_T {g g' : zGh} {nx tk pl nu : Int32} (s : Sm g g') : Sm g (gT g' nx tk pl nu) := by
  refine ⟨fun j a c => ?_, s.2.1, s.2.2⟩
  unfold gT
  rw [gset_out a, gset_out a, gset_out a, gset_out a]
  exact s.1 j a c
theorem ti_1 {a : Int32} (h0 : 0 ≤ a) (h1 : a ≤ 100000) : (a + 1).toInt = a.toInt + 1 := by
  have x := i32_0 h0
  have y : a.toInt ≤ 100000 := by simpa using Int32.le_iff_toInt_le.mp h1
  rw [Int32.toInt_add]
  show (a.toInt + 1).bmod (2 ^ 32) = _
  exact Int.bmod_eq_of_le (by omega) (by omega)
theorem ti_d {a : Int32} (h0 : 1 ≤ a) (h1 : a ≤ 100000) : (a - 1).toInt = a.toInt - 1 := by
  have x : (1 : Int) ≤ a.toInt := by simpa using Int32.le_iff_toInt_le.mp h0
  have y : a.toInt ≤ 100000 := by simpa using Int32.le_iff_toInt_le.mp h1
  rw [Int32.toInt_sub]
  show (a.toInt - 1).bmod (2 ^ 32) = _
  exact Int.bmod_eq_of_le (by omega) (by omega)
theorem rank_r (x : Int32) : 0 ≤ p_X7_rank x ∧ p_X7_rank x ≤ 4 := by
  unfold p_X7_rank
  by_cases c1 : x = 7
  · rw [if_pos c1]; decide
  rw [if_neg c1]
  by_cases c2 : x = 8
  · rw [if_pos c2]; decide
  rw [if_neg c2]
  by_cases c3 : x = 42
  · rw [if_pos c3]; decide
  rw [if_neg c3]
  by_cases c4 : x = 43
  · rw [if_pos c4]; decide
  rw [if_neg c4]
  by_cases c5 : x = 45
  · rw [if_pos c5]; decide
  rw [if_neg c5]
  by_cases c6 : x = 60
  · rw [if_pos c6]; decide
  rw [if_neg c6]
  by_cases c7 : x = 61
  · rw [if_pos c7]; decide
  rw [if_neg c7]; decide
def RP (n b L : Nat) (xs : Nat → Int32) (τ : Nat → Nat) (g : zGh) (k : Int) (w m t : Int32) (h : zH) : Prop := ∃ g' : zGh, WT n b L xs τ g' h ∧ Sm g g' ∧ g'.1 6 3 = 1 ∧ g'.1 6 6 = w ∧ g'.1 6 4 = m ∧ g'.1 3 4 = t ∧ (g'.1 6 8 = 0 → (g'.1 6 5).toInt + w.toInt + k ≤ (g'.1 3 5).toInt) ∧ 0 ≤ g'.1 3 3 ∧ g'.1 3 5 ≤ g'.1 3 3 ∧ g'.1 3 3 ≤ g'.1 3 2 ∧ (t = 202 ∨ g'.1 3 5 < g'.1 3 3)
section RDR
variable {n b L : Nat} {xs : Nat → Int32} {τ : Nat → Nat} {g : zGh} {h : zH} {k : Int} {w m t : Int32}
theorem RP.mono {k' : Int} (p : RP n b L xs τ g k w m t h) (hk : k' ≤ k) : RP n b L xs τ g k' w m t h := by
  obtain ⟨g', W, s, a3, a4, a5, a6, a7, a8⟩ := p
  exact ⟨g', W, s, a3, a4, a5, a6, fun q => by have := a7 q; omega, a8⟩
theorem R_tape (p : RP n b L xs τ g k w m t h) : gR h (n + 6) 7 3 = some (n + 3) := by
  obtain ⟨g', W, s, a3, -⟩ := p
  exact gR_6_3 W a3
theorem R_ob6 (p : RP n b L xs τ g k w m t h) : zob h (n + 6) 7 = true := by
  obtain ⟨g', W, -⟩ := p
  exact ob_6 W
theorem R_ob3 (p : RP n b L xs τ g k w m t h) : zob h (n + 3) 9 = true := by
  obtain ⟨g', W, -⟩ := p
  exact ob_3 W
theorem R_tok (p : RP n b L xs τ g k w m t h) : gI h (n + 3) 9 4 = some t := by
  obtain ⟨g', W, s, a3, a4, a5, a6, -⟩ := p
  rw [T4 W, a6]
theorem R_t (p : RP n b L xs τ g k w m t h) : 0 ≤ t ∧ t ≤ 203 := by
  obtain ⟨g', W, s, a3, a4, a5, a6, -⟩ := p
  rw [← a6]
  exact gr_3_4 W
theorem R_num (p : RP n b L xs τ g k w m t h) : wp (gI h (n + 3) 9 6) (fun x => 0 ≤ x ∧ x ≤ 9999) := by
  obtain ⟨g', W, -⟩ := p
  exact wp_mono (gI_3_6 W) fun x q => q.2
theorem R_key (p : RP n b L xs τ g k w m t h) : wp (gL h (n + 3) 9 7) (fun _ => True) := by
  obtain ⟨g', W, -⟩ := p
  exact gL_3_7 W
theorem R_nm (p : RP n b L xs τ g k w m t h) : gI h (n + 6) 7 4 = some m := by
  obtain ⟨g', W, s, a3, a4, a5, -⟩ := p
  obtain ⟨x, e, q⟩ := gI_6_4 W
  rw [e, q.1, a5]
theorem R_m (p : RP n b L xs τ g k w m t h) : 0 ≤ m ∧ m ≤ 100 := by
  obtain ⟨g', W, s, a3, a4, a5, -⟩ := p
  rw [← a5]
  exact gr_6_4 W
theorem R_sz (p : RP n b L xs τ g k w m t h) : wp (gI h (n + 6) 7 5) (fun x => 0 ≤ x ∧ x ≤ 1000) := by
  obtain ⟨g', W, -⟩ := p
  exact wp_mono (gI_6_5 W) fun x q => q.2
theorem R_w (p : RP n b L xs τ g k w m t h) : gI h (n + 6) 7 6 = some w := by
  obtain ⟨g', W, s, a3, a4, -⟩ := p
  obtain ⟨x, e, q⟩ := gI_6_6 W
  rw [e, q.1, a4]
theorem R_w0 (p : RP n b L xs τ g k w m t h) : 0 ≤ w ∧ w ≤ 32 := by
  obtain ⟨g', W, s, a3, a4, -⟩ := p
  rw [← a4]
  exact gr_6_6 W
theorem R_ar (p : RP n b L xs τ g k w m t h) : wp (gI h (n + 6) 7 7) (fun _ => True) := by
  obtain ⟨g', W, -⟩ := p
  exact gI_6_7 W
theorem R_ft (p : RP n b L xs τ g k w m t h) : wp (gI h (n + 6) 7 8) (fun x => ¬ x = 0 → ∀ k' : Int, RP n b L xs τ g k' w m t h) := by
  obtain ⟨g', W, s, a3, a4, a5, a6, a7, a8⟩ := p
  refine wp_mono (gI_6_8 W) fun x q c k' => ⟨g', W, s, a3, a4, a5, a6, fun z => absurd (q.trans z) c, a8⟩
theorem R_0 (p : RP n b L xs τ g k w m t h) : gR h (n + 6) 7 0 = some (n + 7) := by
  obtain ⟨g', W, -⟩ := p
  exact gR_6_0 W
theorem R_1 (p : RP n b L xs τ g k w m t h) : gR h (n + 6) 7 1 = some (n + 8) := by
  obtain ⟨g', W, -⟩ := p
  exact gR_6_1 W
theorem R_2 (p : RP n b L xs τ g k w m t h) : gR h (n + 6) 7 2 = some (n + 9) := by
  obtain ⟨g', W, -⟩ := p
  exact gR_6_2 W
theorem R_n9 (p : RP n b L xs τ g k w m t h) : aN h (n + 9) = some 32 := by
  obtain ⟨g', W, -⟩ := p
  exact aN_9 W
theorem R_a7 {i : Int32} (p : RP n b L xs τ g k w m t h) (i0 : 0 ≤ i) (i1 : i < 8) : wp (aL h (n + 7) i) (fun _ => True) := by
  obtain ⟨g', W, -⟩ := p
  exact aL_7 W i0 i1
theorem R_a9 {i : Int32} (p : RP n b L xs τ g k w m t h) (i0 : 0 ≤ i) (i1 : i < 32) : wp (aI h (n + 9) i) (fun x => 0 ≤ x ∧ x ≤ 203) := by
  obtain ⟨g', W, -⟩ := p
  exact aI_9 W i0 i1
theorem W_nm {x : Int32} (p : RP n b L xs τ g k w m t h) (h0 : 0 ≤ x) (h1 : x ≤ 100) : wp (pF h (n + 6) 7 4 (.int x)) (fun r => RP n b L xs τ g k w x t r) := by
  obtain ⟨g', W, s, a3, a4, a5, a6, a7, a8⟩ := p
  refine wp_mono (pI_6_4 W h0 h1) fun r w2 => ⟨_, w2, Sm_6 s, a3, a4, rfl, a6, a7, a8⟩
theorem W_w {x : Int32} (p : RP n b L xs τ g k w m t h) (h0 : 0 ≤ x) (h1 : x ≤ 32) : wp (pF h (n + 6) 7 6 (.int x)) (fun r => RP n b L xs τ g (k + w.toInt - x.toInt) x m t r) := by
  obtain ⟨g', W, s, a3, a4, a5, a6, a7, a8⟩ := p
  refine wp_mono (pI_6_6 W h0 h1) fun r w2 => ⟨_, w2, Sm_6 s, a3, rfl, a5, a6, fun q => ?_, a8⟩
  have z := a7 q
  show (g'.1 6 5).toInt + x.toInt + (k + w.toInt - x.toInt) ≤ (g'.1 3 5).toInt
  omega
theorem W_ar {x : Int32} (p : RP n b L xs τ g k w m t h) : wp (pF h (n + 6) 7 7 (.int x)) (fun r => RP n b L xs τ g k w m t r) := by
  obtain ⟨g', W, s, a8⟩ := p
  exact wp_mono (pI_6_7 W) fun r w2 => ⟨g', w2, s, a8⟩
theorem W_8 {i x : Int32} (p : RP n b L xs τ g k w m t h) (i0 : 0 ≤ i) (i1 : i < 1000) (h0 : 0 ≤ x) (h1 : x ≤ 40000) : wp (sI h (n + 8) i x) (fun r => RP n b L xs τ g k w m t r) := by
  obtain ⟨g', W, s, a8⟩ := p
  exact wp_mono (sI_8 W i0 i1 h0 h1) fun r w2 => ⟨g', w2, s, a8⟩
theorem W_9 {i x : Int32} (p : RP n b L xs τ g k w m t h) (i0 : 0 ≤ i) (i1 : i < 32) (h0 : 0 ≤ x) (h1 : x ≤ 203) : wp (sI h (n + 9) i x) (fun r => RP n b L xs τ g k w m t r) := by
  obtain ⟨g', W, s, a8⟩ := p
  exact wp_mono (sI_9 W i0 i1 h0 h1) fun r w2 => ⟨g', w2, s, a8⟩
theorem W_7 {i : Int32} {x : Int64} (p : RP n b L xs τ g k w m t h) (i0 : 0 ≤ i) (i1 : i < 8) : wp (sL h (n + 7) i x) (fun r => RP n b L xs τ g k w m t r) := by
  obtain ⟨g', W, s, a8⟩ := p
  exact wp_mono (sL_7 W i0 i1) fun r w2 => ⟨g', w2, s, a8⟩
theorem t_X7_wrong {v1 : Int32} (p : RP n b L xs τ g k w m t h) (h1 : 1 ≤ v1) (h2 : v1 ≤ 5) (k' : Int) : wp (f_X7_wrong 10000 (n + 6) v1 h) (fun r => RP n b L xs τ g k' w m t r) := by
  obtain ⟨g', W, s, a3, a4, a5, a6, a7, a8⟩ := p
  unfold f_X7_wrong
  refine wp_bind (gI_6_8 W) fun x1 p1 => ?_
  refine wp_ite (fun c => ?_) (fun c => wp_some ⟨g', W, s, a3, a4, a5, a6, fun q => absurd (p1.trans q) c, a8⟩)
  refine wp_eq (gR_6_3 W a3) ?_
  refine wp_bind (gI_3_5 W) fun x4 p4 => ?_
  refine wp_bind (pI_6_8 W) fun h5 w5 => wp_some ⟨_, w5, Sm_6 s, a3, a4, a5, a6, fun q => ?_, a8⟩
  have q' : v1 + 16 * x4 = 0 := q
  obtain ⟨-, p40, p41⟩ := p4
  exact (by lia : False).elim
theorem t_X7_write {v1 : Int32} (p : RP n b L xs τ g k w m t h) (h0 : 0 ≤ v1) (h1 : v1 ≤ 40000) : wp (f_X7_write 10000 (n + 6) v1 h) (fun r => RP n b L xs τ g (k - 1) w m t r) := by
  obtain ⟨g', W, s, a3, a4, a5, a6, a7, a8⟩ := p
  unfold f_X7_write
  refine wp_bind (gI_6_5 W) fun x1 p1 => ?_
  refine wp_eq (gR_6_1 W) ?_
  refine wp_eq (aN_8 W) ?_
  refine wp_ite (fun c => wp_some ⟨g', W, s, a3, a4, a5, a6, fun q => by have := a7 q; omega, a8⟩) (fun c => ?_)
  refine wp_eq (gR_6_1 W) ?_
  refine wp_bind (gI_6_5 W) fun x6 p6 => ?_
  have e6 : x6 = x1 := p6.1.trans p1.1.symm
  refine wp_bind (sI_8 W (i := x6) (x := v1) p6.2.1 (by lia) h0 h1) fun h7 w7 => ?_
  refine wp_bind (gI_6_5 w7) fun x8 p8 => ?_
  have e8 : x8 = x1 := p8.1.trans p1.1.symm
  refine wp_bind (pI_6_5 w7 (x := x8 + 1) (by lia) (by lia)) fun h9 w9 => wp_some ⟨_, w9, Sm_6 s, a3, a4, a5, a6, fun q => ?_, a8⟩
  have z := a7 q
  show (x8 + 1).toInt + w.toInt + (k - 1) ≤ (g'.1 3 5).toInt
  rw [ti_1 (by lia) (by lia), p8.1]
  omega
theorem t_X7_nameOf_L2 {v1 : Int64} (p : RP n b L xs τ g k w m t h) : ∀ (q : Nat) {v3 : Int32}, 0 ≤ v3 → (9000 - v3.toInt).toNat < q → wp (f_X7_nameOf_L2 10000 (n + 6) v1 h q v3) (fun r => ∀ a, r = .inr a → 0 ≤ a ∧ a ≤ 7) := by
  intro q
  induction q with
  | zero => intro v3 i0 hm; exact absurd hm (Nat.not_lt_zero _)
  | succ q ih =>
    intro v3 i0 hm
    rw [f_X7_nameOf_L2.eq_2]
    refine wp_eq (R_nm p) ?_
    refine wp_ite (fun c => wp_some (fun a e => by cases e)) (fun c => ?_)
    refine wp_ite (fun c2 => wp_some (fun a e => by cases e)) (fun c2 => ?_)
    refine wp_eq (R_0 p) ?_
    refine wp_bind (R_a7 p i0 (by lia)) fun x5 _ => ?_
    refine wp_ite (fun c3 => wp_some (fun a e => ?_)) (fun c3 => ih (by lia) (mu_up (by lia) (by lia) hm))
    cases e
    exact ⟨i0, by lia⟩
theorem t_X7_nameOf {v1 : Int64} (p : RP n b L xs τ g k w m t h) : wp (f_X7_nameOf 10000 (n + 6) v1 h) (fun r => -1 ≤ r ∧ r ≤ 7) := by
  unfold f_X7_nameOf
  refine wp_bind (t_X7_nameOf_L2 p _ (by decide) (mu_0 (by decide))) fun m7 q => ?_
  refine wp_zsum (fun a e => wp_some (by decide)) (fun a e => ?_)
  have z := q a e
  exact ⟨by lia, z.2⟩
theorem t_X7_lastWaiting (p : RP n b L xs τ g k w m t h) : wp (f_X7_lastWaiting 10000 (n + 6) h) (fun r => r = -1 ∨ (0 ≤ r ∧ r ≤ 203 ∧ 1 ≤ w)) := by
  unfold f_X7_lastWaiting
  have z := R_w0 p
  refine wp_eq (R_w p) ?_
  refine wp_ite (fun c => wp_some (Or.inl rfl)) (fun c => ?_)
  refine wp_eq (R_w p) ?_
  refine wp_eq (R_2 p) ?_
  refine wp_eq (R_n9 p) ?_
  refine wp_ite (fun c2 => wp_some (Or.inl rfl)) (fun c2 => ?_)
  refine wp_eq (R_2 p) ?_
  refine wp_eq (R_w p) ?_
  refine wp_bind (R_a9 p (i := w - 1) (by lia) (by lia)) fun x9 p9 => wp_some (Or.inr ⟨p9.1, p9.2, by lia⟩)
theorem t_X7_hold {v1 : Int32} (p : RP n b L xs τ g k w m t h) (h0 : 0 ≤ v1) (h1 : v1 ≤ 203) : wp (f_X7_hold 10000 (n + 6) v1 h) (fun r => ∃ w', RP n b L xs τ g (k - 1) w' m t r) := by
  unfold f_X7_hold
  have z := R_w0 p
  refine wp_eq (R_w p) ?_
  refine wp_eq (R_2 p) ?_
  refine wp_eq (R_n9 p) ?_
  refine wp_ite (fun c => wp_some ⟨w, p.mono (by omega)⟩) (fun c => ?_)
  refine wp_eq (R_2 p) ?_
  refine wp_eq (R_w p) ?_
  refine wp_bind (W_9 p (i := w) (x := v1) z.1 (by lia) h0 h1) fun h7 p7 => ?_
  refine wp_eq (R_w p7) ?_
  refine wp_bind (W_w p7 (x := w + 1) (by lia) (by lia)) fun h9 p9 => wp_some ⟨w + 1, p9.mono ?_⟩
  rw [ti_1 z.1 (by lia)]
  omega
theorem t_X7_drop (p : RP n b L xs τ g k w m t h) (c : 1 ≤ w) : wp (pF h (n + 6) 7 6 (.int (w - 1))) (fun r => RP n b L xs τ g (k + 1) (w - 1) m t r) := by
  have z := R_w0 p
  refine wp_mono (W_w p (x := w - 1) (by lia) (by lia)) fun r q => q.mono ?_
  rw [ti_d c (by lia)]
  omega
theorem t_X7_writeNots_L2 : ∀ (q : Nat) {v1 w : Int32} {h : zH}, RP n b L xs τ g k w m t h → 0 ≤ v1 → (9000 - v1.toInt).toNat < q → wp (f_X7_writeNots_L2 10000 (n + 6) q v1 h) (fun r => ∃ w', RP n b L xs τ g k w' m t r) := by
  intro q
  induction q with
  | zero => intro v1 w h p i0 hm; exact absurd hm (Nat.not_lt_zero _)
  | succ q ih =>
    intro v1 w h p i0 hm
    rw [f_X7_writeNots_L2.eq_2]
    refine wp_ite (fun c => wp_some ⟨w, p⟩) (fun c => ?_)
    refine wp_zif (R_ob6 p) ?_
    refine wp_bind (t_X7_lastWaiting p) fun q3 p3 => ?_
    refine wp_ite (fun c2 => ?_) (fun c2 => wp_some ⟨w, p⟩)
    have hw : 1 ≤ w := by
      rcases p3 with p3 | p3
      · rw [c2] at p3; exact absurd p3 (by decide)
      · exact p3.2.2
    refine wp_zif (R_ob6 p) ?_
    refine wp_bind (t_X7_write p (by decide) (by decide)) fun h6 p6 => ?_
    refine wp_eq (R_w p6) ?_
    refine wp_bind (t_X7_drop p6 hw) fun h8 p8 => ?_
    refine wp_bind (R_ar p8) fun x9 _ => ?_
    refine wp_bind (W_ar p8) fun h10 p10 => ?_
    exact ih (p10.mono (by omega)) (by lia) (mu_up (by lia) (by lia) hm)
theorem t_X7_writeNots (p : RP n b L xs τ g k w m t h) : wp (f_X7_writeNots 10000 (n + 6) h) (fun r => ∃ w', RP n b L xs τ g k w' m t r) := by
  unfold f_X7_writeNots
  exact wp_bind (t_X7_writeNots_L2 _ p (by decide) (mu_0 (by decide))) fun r q => wp_some q
theorem t_X7_writeWaiting_L2 {v1 : Int32} (hv : 1 ≤ v1) : ∀ (q : Nat) {v2 w : Int32} {h : zH}, RP n b L xs τ g k w m t h → 0 ≤ v2 → (9000 - v2.toInt).toNat < q → wp (f_X7_writeWaiting_L2 10000 (n + 6) v1 q v2 h) (fun r => ∃ w', RP n b L xs τ g k w' m t r) := by
  intro q
  induction q with
  | zero => intro v2 w h p i0 hm; exact absurd hm (Nat.not_lt_zero _)
  | succ q ih =>
    intro v2 w h p i0 hm
    rw [f_X7_writeWaiting_L2.eq_2]
    refine wp_eq (R_2 p) ?_
    refine wp_eq (R_n9 p) ?_
    refine wp_ite (fun c => wp_some ⟨w, p⟩) (fun c => ?_)
    refine wp_zif (R_ob6 p) ?_
    refine wp_bind (t_X7_lastWaiting p) fun q5 p5 => ?_
    refine wp_ite (fun c2 => wp_some ⟨w, p⟩) (fun c2 => ?_)
    have hw : 1 ≤ w := by
      rcases p5 with p5 | p5
      · rw [p5] at c2
        have e : p_X7_rank (-1) = 0 := by decide
        rw [e] at c2
        exact absurd (show (0 : Int32) < v1 by lia) c2
      · exact p5.2.2
    refine wp_zif (R_ob6 p) ?_
    refine wp_bind (t_X7_lastWaiting p) fun q8 p8 => ?_
    refine wp_zif (R_ob6 p) ?_
    have r8 : 0 ≤ 30000 + q8 ∧ 30000 + q8 ≤ 40000 := by
      rcases p8 with p8 | p8
      · rw [p8]; decide
      · obtain ⟨u1, u2, -⟩ := p8
        exact ⟨by lia, by lia⟩
    refine wp_bind (t_X7_write p r8.1 r8.2) fun h10 p10 => ?_
    refine wp_eq (R_w p10) ?_
    refine wp_bind (t_X7_drop p10 hw) fun h12 p12 => ?_
    exact ih (p12.mono (by omega)) (by lia) (mu_up (by lia) (by lia) hm)
theorem t_X7_writeWaiting {v1 : Int32} (p : RP n b L xs τ g k w m t h) (hv : 1 ≤ v1) : wp (f_X7_writeWaiting 10000 (n + 6) v1 h) (fun r => ∃ w', RP n b L xs τ g k w' m t r) := by
  unfold f_X7_writeWaiting
  exact wp_bind (t_X7_writeWaiting_L2 hv _ p (by decide) (mu_0 (by decide))) fun r q => wp_some q
theorem t_adv (p : RP n b L xs τ g k w m t h) : wp (f_X9_advance 10000 (n + 3) h) (fun r => ∃ t', RP n b L xs τ g k w m t' r ∧ (¬ t = 202 → RP n b L xs τ g (k + 1) w m t' r)) := by
  obtain ⟨g', W, s, a3, a4, a5, a6, a7, a8, a9, b1, b2⟩ := p
  have W2 : WT n b L xs τ (gT g' (g'.1 3 3) (g'.1 3 4) (g'.1 3 5) (g'.1 3 6)) h := by rw [gT_id]; exact W
  refine wp_mono (t_X9_advance W2 a8 b1 (gr_3_2 W).2) fun r q => ?_
  obtain ⟨nx', tk', pl', nu', w3, c1, c2, c3, c4⟩ := q
  have l1 := Int32.le_iff_toInt_le.mp c1
  have l2 := Int32.le_iff_toInt_le.mp a9
  refine ⟨tk', ⟨_, w3, Sm_T s, a3, a4, a5, rfl, fun q => ?_, ?_, c2, c3, c4⟩, fun ht => ⟨_, w3, Sm_T s, a3, a4, a5, rfl, fun q => ?_, ?_, c2, c3, c4⟩⟩
  · have z := a7 q
    show (g'.1 6 5).toInt + w.toInt + k ≤ pl'.toInt
    omega
  · show 0 ≤ nx'
    lia
  · have z := a7 q
    have l3 := Int32.lt_iff_toInt_lt.mp (b2.resolve_left ht)
    show (g'.1 6 5).toInt + w.toInt + (k + 1) ≤ pl'.toInt
    omega
  · show 0 ≤ nx'
    lia
theorem t_X7_readNewName (p : RP n b L xs τ g k w m t h) : wp (f_X7_readNewName 10000 (n + 6) h) (fun r => ∃ t', RP n b L xs τ g k w m t' r) := by
  unfold f_X7_readNewName
  have hm := R_m p
  refine wp_eq (R_tape p) ?_
  refine wp_eq (R_tok p) ?_
  refine wp_ite (fun c => ?_) (fun c => ?_)
  · refine wp_eq (R_tape p) ?_
    refine wp_bind (R_key p) fun x5 _ => ?_
    refine wp_zif (R_ob6 p) ?_
    refine wp_bind (t_X7_nameOf p) fun q7 p7 => ?_
    refine wp_ite (fun c2 => ?_) (fun c2 => ?_)
    · refine wp_eq (R_nm p) ?_
      refine wp_ite (fun c3 => ?_) (fun c3 => ?_)
      · refine wp_eq (R_0 p) ?_
        refine wp_eq (R_nm p) ?_
        refine wp_eq (R_tape p) ?_
        refine wp_bind (R_key p) fun x14 _ => ?_
        refine wp_bind (W_7 p hm.1 c3) fun h15 p15 => ?_
        refine wp_eq (R_nm p15) ?_
        refine wp_zif (R_ob6 p15) ?_
        refine wp_bind (t_X7_write p15 (v1 := m) hm.1 (by lia)) fun h18 p18 => ?_
        refine wp_eq (R_tape p18) ?_
        refine wp_zif (R_ob3 p18) ?_
        refine wp_bind (t_adv p18) fun h21 p21 => ?_
        obtain ⟨t', -, q⟩ := p21
        exact wp_some ⟨t', (q (by lia)).mono (by omega)⟩
      · refine wp_zif (R_ob6 p) ?_
        exact wp_bind (t_X7_wrong p (by decide) (by decide) k) fun r q => wp_some ⟨t, q⟩
    · refine wp_zif (R_ob6 p) ?_
      exact wp_bind (t_X7_wrong p (by decide) (by decide) k) fun r q => wp_some ⟨t, q⟩
  · refine wp_zif (R_ob6 p) ?_
    exact wp_bind (t_X7_wrong p (by decide) (by decide) k) fun r q => wp_some ⟨t, q⟩
theorem t_X7_readLimit (p : RP n b L xs τ g k w m t h) : wp (f_X7_readLimit 10000 (n + 6) h) (fun r => ∃ t', RP n b L xs τ g k w m t' r) := by
  unfold f_X7_readLimit
  refine wp_eq (R_tape p) ?_
  refine wp_eq (R_tok p) ?_
  refine wp_ite (fun c => ?_) (fun c => ?_)
  · refine wp_eq (R_tape p) ?_
    refine wp_bind (R_num p) fun x5 p5 => ?_
    refine in11 (fun c2 => ?_) (fun c2 => ?_)
    · refine wp_zif (R_ob6 p) ?_
      exact wp_bind (t_X7_wrong p (by decide) (by decide) k) fun r q => wp_some ⟨t, q⟩
    · refine wp_eq (R_tape p) ?_
      refine wp_bind (R_num p) fun x8 p8 => ?_
      refine wp_zif (R_ob6 p) ?_
      refine wp_bind (t_X7_write p (v1 := x8) p8.1 (by lia)) fun h10 p10 => ?_
      refine wp_eq (R_tape p10) ?_
      refine wp_zif (R_ob3 p10) ?_
      refine wp_bind (t_adv p10) fun h21 p21 => ?_
      obtain ⟨t', -, q⟩ := p21
      exact wp_some ⟨t', (q (by lia)).mono (by omega)⟩
  · refine wp_zif (R_ob6 p) ?_
    exact wp_bind (t_X7_wrong p (by decide) (by decide) k) fun r q => wp_some ⟨t, q⟩
theorem t_X7_readWho (p : RP n b L xs τ g k w m t h) : wp (f_X7_readWho 10000 (n + 6) h) (fun r => ∃ t', RP n b L xs τ g k w m t' r) := by
  unfold f_X7_readWho
  refine wp_eq (R_tape p) ?_
  refine wp_eq (R_tok p) ?_
  refine in11 (fun c2 => ?_) (fun c2 => ?_)
  · refine wp_zif (R_ob6 p) ?_
    exact wp_bind (t_X7_wrong p (by decide) (by decide) k) fun r q => wp_some ⟨t, q⟩
  · refine wp_eq (R_tape p) ?_
    refine wp_eq (R_tok p) ?_
    refine wp_zif (R_ob6 p) ?_
    refine wp_bind (t_X7_write p (v1 := t) c2.1 (by lia)) fun h10 p10 => ?_
    refine wp_eq (R_tape p10) ?_
    refine wp_zif (R_ob3 p10) ?_
    refine wp_bind (t_adv p10) fun h21 p21 => ?_
    obtain ⟨t', -, q⟩ := p21
    exact wp_some ⟨t', (q (by lia)).mono (by omega)⟩
theorem t_X7_readWhatFor {v1 : Int32} (p : RP n b L xs τ g k w m t h) : wp (f_X7_readWhatFor 10000 (n + 6) v1 h) (fun r => ∃ t', RP n b L xs τ g k w m t' r) := by
  unfold f_X7_readWhatFor
  refine wp_ite (fun c => ?_) (fun c => ?_)
  · refine wp_zif (R_ob6 p) ?_
    exact wp_bind (t_X7_readNewName p) fun r q => wp_some q
  · refine wp_ite (fun c => ?_) (fun c => ?_)
    · refine wp_zif (R_ob6 p) ?_
      exact wp_bind (t_X7_readLimit p) fun r q => wp_some q
    · refine wp_zif (R_ob6 p) ?_
      exact wp_bind (t_X7_readWho p) fun r q => wp_some q
theorem t_X7_expect {v1 : Int32} (p : RP n b L xs τ g k w m t h) (hv : ¬ v1 = 202) : wp (f_X7_expect 10000 (n + 6) v1 h) (fun r => ∃ t', RP n b L xs τ g (k + 1) w m t' r) := by
  unfold f_X7_expect
  refine wp_eq (R_tape p) ?_
  refine wp_eq (R_tok p) ?_
  refine wp_ite (fun c => ?_) (fun c => ?_)
  · refine wp_bind (R_ft p) fun x4 p4 => ?_
    refine wp_ite (fun c2 => ?_) (fun c2 => wp_some ⟨t, p4 c2 _⟩)
    refine wp_eq (R_tape p) ?_
    refine wp_zif (R_ob3 p) ?_
    refine wp_bind (t_adv p) fun h8 p8 => ?_
    obtain ⟨t', -, q⟩ := p8
    exact wp_some ⟨t', q (by rw [c]; exact hv)⟩
  · refine wp_zif (R_ob6 p) ?_
    exact wp_bind (t_X7_wrong p (by decide) (by decide) (k + 1)) fun r q => wp_some ⟨t, q⟩
end RDR
