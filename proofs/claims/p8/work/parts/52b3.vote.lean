/-! the house's votes -/
section VOTE
variable {n b L : Nat} {xs : Nat → Int32} {τ : Nat → Nat} {g : zGh} {h : zH}
theorem h_isCarried {s : Nat} (hs : s < 512) (w : WT n b L xs τ g h) (hc : HC g) : wp (f_X3_isCarried 10000 (n + 25) (nI s) h) (fun r => ∃ g', WT n b L xs τ g' r.2 ∧ HG g g' ∧ HC g' ∧ ∀ C, g.1 25 6 = nI C → C ≤ 8 → r.1 = (if yesS (g.2.1 26) (g.2.1 27) s C ≤ noS (g.2.1 26) (g.2.1 27) s C then 0 else 1)) := by
  unfold f_X3_isCarried
  refine wp_zif (ob_25 w) ?_
  refine wp_bind (h_yesFor hs w hc) fun q2 p2 => ?_
  obtain ⟨g', w2, hg, hc2, k2⟩ := p2
  obtain ⟨C, hC, eC, eA, eY⟩ := hc
  have e26 : g'.2.1 26 = g.2.1 26 := hg.2.2.1 26 (by decide) (by decide)
  have e27 : g'.2.1 27 = g.2.1 27 := hg.2.2.1 27 (by decide) (by decide)
  have eA' : g'.1 25 5 = allS (g'.2.1 26) C := by rw [hg.2.1 5 (by decide), e26]; exact eA
  have im := h_isMore (s := s) w2 eA'
  rw [e26, e27] at im
  refine wp_zif (ob_25 w2) ?_
  rw [k2 C eC hC]
  refine wp_eq im ?_
  refine wp_rZ ?_ ⟨g', w2, hg, hc2, fun C' e l => ?_⟩
  · by_cases c : yesS (g.2.1 26) (g.2.1 27) s C ≤ noS (g.2.1 26) (g.2.1 27) s C
    · rw [if_pos c]; exact Or.inl rfl
    · rw [if_neg c]; exact Or.inr rfl
  · have z : nI C' = nI C := e.symm.trans eC
    have y : (nI C').toNatClampNeg = (nI C).toNatClampNeg := by rw [z]
    rw [nI_clamp (by omega), nI_clamp (by omega)] at y
    rw [y]
theorem h_lean {v1 v2 v3 : Int32} (w : WT n b L xs τ g h) (c1 : 0 ≤ v1 ∧ v1 ≤ 7) (c2 : 0 ≤ v2 ∧ v2 ≤ 8) : wp (f_X3_lean 10000 (n + 25) v1 v2 v3 h) (fun r => WT n b L xs τ (gset (gsA g 27 (upd (g.2.1 27) (v1 * 9 + v2).toNatClampNeg v3)) 25 4 1) r) := by
  unfold f_X3_lean
  refine in11 (fun z => absurd c1 z) (fun _ => ?_)
  refine in11 (fun z => absurd c2 z) (fun _ => ?_)
  refine wp_eq (gR_25_1 w) ?_
  refine wp_bind (sI_27 w (i := v1 * 9 + v2) (by lia) (by lia)) fun h4 w4 => ?_
  exact wp_bind (pZ_25_4 w4 (x := 1) (Or.inr rfl)) fun h5 w5 => wp_some w5
theorem h_mostLeft_L12 {v1 : Int32} : ∀ (m : Nat) {v2 v3 v4 v5 : Int32} {g : zGh} {h : zH}, WT n b L xs τ g h → HC g → v5 ≤ 511 → (v5.toInt + 1).toNat < m → wp (f_X3_mostLeft_L12 10000 (n + 25) v1 m v2 v3 v4 v5 h) (fun r => ∃ g', WT n b L xs τ g' r.2 ∧ HG g g' ∧ HC g') := by
  intro m
  induction m with
  | zero => intro v2 v3 v4 v5 g h w hc i0 hm; exact absurd hm (Nat.not_lt_zero _)
  | succ m ih =>
    intro v2 v3 v4 v5 g h w hc i0 hm
    rw [f_X3_mostLeft_L12.eq_2]
    refine wp_ite (fun c => wp_some ⟨g, w, HG_id g, hc⟩) (fun c => ?_)
    have c0 : 0 ≤ v5 := Int32.not_lt.mp c
    have mu := mu_dp c0 (by lia) hm
    refine wp_zlet ?_
    refine wp_ite (fun c1 => ?_) (fun c1 => ih w hc (by lia) mu)
    refine wp_ite (fun c2 => ih w hc (by lia) mu) (fun c2 => ?_)
    have cl := i32_clamp (i := v5) c0 (N := 512) (by decide) (by show v5 < 512; lia)
    have e5 : v5 = nI v5.toNatClampNeg := (i32_nI c0).symm
    refine wp_zif (ob_25 w) ?_
    refine wp_bind (R := fun r => ∃ g', WT n b L xs τ g' r.2 ∧ HG g g' ∧ HC g') ?_ (fun q6 p6 => ?_)
    · rw [e5]
      exact wp_mono (h_yesFor cl.2 w hc) fun r p => ⟨p.choose, p.choose_spec.1, p.choose_spec.2.1, p.choose_spec.2.2.1⟩
    obtain ⟨g', w6, hg, hc6⟩ := p6
    refine wp_zif (ob_25 w6) ?_
    refine wp_bind (t_X3_isMore w6) fun q8 _ => ?_
    have tr : ∀ {o : Option (Int32 × zH)}, wp o (fun r => ∃ g2, WT n b L xs τ g2 r.2 ∧ HG g' g2 ∧ HC g2) → wp o (fun r => ∃ g2, WT n b L xs τ g2 r.2 ∧ HG g g2 ∧ HC g2) := fun p => wp_mono p fun r q => by
      obtain ⟨g2, q1, q2, q3⟩ := q
      exact ⟨g2, q1, HG_trans hg q2, q3⟩
    refine wp_ite (fun _ => tr (ih w6 hc6 (by lia) mu)) (fun _ => ?_)
    refine wp_bind (R := fun r => match r with | .inl a => a = v5 | .inr a => ∃ g2, WT n b L xs τ g2 a.2 ∧ HG g g2 ∧ HC g2) ?_ (fun m10 p10 => ?_)
    · refine wp_ite (fun _ => wp_some rfl) (fun _ => ?_)
      refine wp_ite (fun _ => wp_map (tr (ih w6 hc6 (by lia) mu))) (fun _ => wp_some rfl)
    rcases m10 with a | a
    · have ea : a = v5 := p10
      subst ea
      exact wp_zsL (tr (ih w6 hc6 (by lia) mu))
    · exact wp_zsR p10
theorem v_X11_most {v : Int32} (w : WT n b L xs τ g h) (hc : HC g) : wp (f_X11_most 10000 n v h) (fun r => ∃ g', WT n b L xs τ g' r.2 ∧ HG g g' ∧ HC g') := by
  unfold f_X11_most
  refine in11 (fun _ => wp_some ⟨g, w, HG_id g, hc⟩) (fun _ => ?_)
  refine wp_eq (gR_0_7 w) ?_
  refine wp_zif (ob_25 w) ?_
  refine wp_bind (R := fun r => ∃ g', WT n b L xs τ g' r.2 ∧ HG g g' ∧ HC g') ?_ (fun q4 p4 => wp_some p4)
  unfold f_X3_mostLeft
  exact wp_bind (h_mostLeft_L12 10000 w hc (by decide) (by decide)) fun r p => wp_some p
theorem v_X11_passes {v : Int32} (w : WT n b L xs τ g h) (hc : HC g) : wp (f_X11_passes 10000 n v h) (fun r => ∃ g', WT n b L xs τ g' r.2 ∧ HG g g' ∧ HC g' ∧ (¬ (0 ≤ v ∧ v ≤ 511) → r.1 = -1) ∧ (0 ≤ v ∧ v ≤ 511 → ∀ C, g.1 25 6 = nI C → C ≤ 8 → r.1 = (if yesS (g.2.1 26) (g.2.1 27) v.toNatClampNeg C ≤ noS (g.2.1 26) (g.2.1 27) v.toNatClampNeg C then 0 else 1))) := by
  unfold f_X11_passes
  refine in11 (fun c => wp_some ⟨g, w, HG_id g, hc, fun _ => rfl, fun z => absurd z c⟩) (fun c => ?_)
  have cl := i32_clamp (i := v) c.1 (N := 512) (by decide) (by show v < 512; lia)
  have e5 : nI v.toNatClampNeg = v := i32_nI c.1
  refine wp_eq (gR_0_7 w) ?_
  refine wp_zif (ob_25 w) ?_
  have k := h_isCarried cl.2 w hc
  rw [e5] at k
  refine wp_bind k fun q4 p4 => ?_
  obtain ⟨g', w4, hg, hc4, k4⟩ := p4
  refine wp_ite (fun z => wp_some ⟨g', w4, hg, hc4, fun y => absurd c y, fun _ C e l => ?_⟩) (fun z => wp_some ⟨g', w4, hg, hc4, fun y => absurd c y, fun _ C e l => ?_⟩)
  · have y := k4 C e l
    rw [z] at y
    exact y
  · have y := k4 C e l
    by_cases cc : yesS (g.2.1 26) (g.2.1 27) v.toNatClampNeg C ≤ noS (g.2.1 26) (g.2.1 27) v.toNatClampNeg C
    · rw [if_pos cc] at y
      exact absurd y z
    · rw [if_neg cc]
end VOTE
