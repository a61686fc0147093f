/-! answers of the methods that change nothing that is tracked -/
def sdOK (v1 v2 v3 v4 v5 c : Int32) : Prop := (0 ≤ v1 ∧ v1 < c) ∧ (v2 = 0 ∨ (-9999 ≤ v2 ∧ v2 ≤ -1) ∧ (-999 ≤ v3 ∧ v3 ≤ -1)) ∧ (0 ≤ v4 ∧ v4 ≤ 2) ∧ (0 ≤ v5 ∧ v5 ≤ 99)
def tgOK (v1 v2 : Int32) : Prop := (0 ≤ v1 ∧ v1 ≤ 3) ∧ (0 ≤ v2 ∧ v2 ≤ 3) ∧ ¬ v1 = v2
def lnOK (v1 v2 v3 c : Int32) : Prop := (0 ≤ v1 ∧ v1 ≤ c - 1) ∧ (0 ≤ v2 ∧ v2 ≤ 8) ∧ (-99 ≤ v3 ∧ v3 ≤ 99)
section ANS
variable {n b L : Nat} {xs : Nat → Int32} {τ : Nat → Nat} {g : zGh} {h : zH}
theorem u_X11_stand {v1 v2 v3 v4 v5 : Int32} (w : WT n b L xs τ g h) (e1 : g.1 1 0 = g.1 0 10) : wp (f_X11_stand 10000 n v1 v2 v3 v4 v5 h) (fun r => yn (sdOK v1 v2 v3 v4 v5 (g.1 0 10)) (r.1 = 1 ∧ WT n b L xs τ g r.2) (r.1 = 0 ∧ WT n b L xs τ g r.2)) := by
  unfold f_X11_stand
  refine wp_zif (ob_0 w) ?_
  by_cases c : 0 ≤ v1 ∧ v1 < g.1 0 10
  · obtain ⟨a, e, ta⟩ := u_mOf_y w e1 c.1 c.2
    refine wp_eq e ?_
    refine wp_bind (R := fun r => (r = 0 ∧ ¬ (v2 = 0 ∨ (-9999 ≤ v2 ∧ v2 ≤ -1) ∧ (-999 ≤ v3 ∧ v3 ≤ -1))) ∨ (r = 1 ∧ (v2 = 0 ∨ (-9999 ≤ v2 ∧ v2 ≤ -1) ∧ (-999 ≤ v3 ∧ v3 ≤ -1)))) ?_ (fun m3 p3 => ?_)
    · refine wp_ite (fun c => wp_some (Or.inr ⟨rfl, Or.inl c⟩)) (fun c => ?_)
      refine in11 (fun c2 => wp_some (Or.inl ⟨rfl, fun q => q.elim c (fun q => c2 q.1)⟩)) (fun c2 => ?_)
      exact in11 (fun c3 => wp_some (Or.inl ⟨rfl, fun q => q.elim c (fun q => c3 q.2)⟩)) (fun c3 => wp_some (Or.inr ⟨rfl, Or.inr ⟨c2, c3⟩⟩))
    show wp (if m3 = 0 then _ else _) _
    refine wp_ite (fun c1 => wp_some (yn_n (fun q => ?_) ⟨rfl, w⟩)) (fun c1 => ?_)
    · rcases p3 with p3 | p3
      · exact p3.2 q.2.1
      · rw [c1] at p3
        exact absurd p3.1 (by decide)
    have q3 := (p3.resolve_left (fun z => c1 z.1)).2
    refine in11 (fun c2 => wp_some (yn_n (fun q => c2 q.2.2.1) ⟨rfl, w⟩)) (fun c2 => ?_)
    refine in11 (fun c4 => wp_some (yn_n (fun q => c4 q.2.2.2) ⟨rfl, w⟩)) (fun c4 => ?_)
    refine wp_bind (pI_m_7 w ta) fun h12 w => ?_
    refine wp_bind (pI_m_8 w ta) fun h13 w => ?_
    refine wp_bind (pI_m_9 w ta c2.1 c2.2) fun h14 w => ?_
    refine wp_bind (pI_m_10 w ta) fun h15 w => ?_
    refine wp_eq (gR_0_1 w) ?_
    refine wp_zif (ob_2 w) ?_
    exact wp_bind (t_X8_settle w ta) fun h18 w => wp_some (yn_y ⟨c, q3, c2, c4⟩ ⟨rfl, w⟩)
  · refine wp_eq (u_mOf_n w c) ?_
    refine wp_bind (R := fun _ => True) ?_ (fun m3 _ => wp_some (yn_n (fun q => c q.1) ⟨rfl, w⟩))
    refine wp_ite (fun _ => wp_some trivial) (fun _ => ?_)
    refine in11 (fun _ => wp_some trivial) (fun _ => ?_)
    exact in11 (fun _ => wp_some trivial) (fun _ => wp_some trivial)
theorem u_X12_stand {v1 v2 v3 v4 v5 : Int32} (w : WT n b L xs τ g h) : wp (f_X12_stand 10000 (n + 42) v1 v2 v3 v4 v5 h) (fun r => yn (sdOK v1 v2 v3 v4 v5 (g.1 42 27)) (r.1 = 1 ∧ WT n b L xs τ g r.2) (r.1 = 0 ∧ WT n b L xs τ g r.2)) := by
  unfold f_X12_stand
  refine wp_bind (pI_42_0 w) fun h1 w => ?_
  have r27 := gr_42_27 w
  refine wp_bind (R := fun r => (r = 0 ∧ ¬ (v2 = 0 ∨ (-9999 ≤ v2 ∧ v2 ≤ -1) ∧ (-999 ≤ v3 ∧ v3 ≤ -1))) ∨ (r = 1 ∧ (v2 = 0 ∨ (-9999 ≤ v2 ∧ v2 ≤ -1) ∧ (-999 ≤ v3 ∧ v3 ≤ -1)))) ?_ (fun m3 p3 => ?_)
  · refine wp_ite (fun c => wp_some (Or.inr ⟨rfl, Or.inl c⟩)) (fun c => ?_)
    refine in12 (fun c2 => wp_some (Or.inl ⟨rfl, fun q => q.elim c (fun q => c2 q.1)⟩)) (fun c2 => ?_)
    exact in12 (fun c3 => wp_some (Or.inl ⟨rfl, fun q => q.elim c (fun q => c3 q.2)⟩)) (fun c3 => wp_some (Or.inr ⟨rfl, Or.inr ⟨c2, c3⟩⟩))
  refine wp_zif (ob_42 w) ?_
  refine wp_bind (t_X12_isMeeting w) fun q7 p7 => ?_
  refine wp_ite (fun c => wp_some (yn_n (fun q => ?_) ⟨rfl, w⟩)) (fun c => ?_)
  · rcases p7 with p7 | p7
    · exact p7.2 q.1
    · rw [c] at p7; exact absurd p7.1 (by decide)
  have c7 := (p7.resolve_left (fun z => c z.1)).2
  refine wp_ite (fun c1 => wp_some (yn_n (fun q => ?_) ⟨rfl, w⟩)) (fun c1 => ?_)
  · rcases p3 with p3 | p3
    · exact p3.2 q.2.1
    · rw [c1] at p3
      exact absurd p3.1 (by decide)
  have q3 := (p3.resolve_left (fun z => c1 z.1)).2
  refine in12 (fun c2 => wp_some (yn_n (fun q => c2 q.2.2.1) ⟨rfl, w⟩)) (fun c2 => ?_)
  refine in12 (fun c4 => wp_some (yn_n (fun q => c4 q.2.2.2) ⟨rfl, w⟩)) (fun c4 => ?_)
  have k40 : v1 < 40 := by lia
  refine wp_eq (gR_42_35 w) ?_
  refine wp_bind (sI_67 w c7.1 k40) fun h13 w => ?_
  refine wp_eq (gR_42_36 w) ?_
  refine wp_bind (R := fun _ => True) ?_ (fun m15 _ => ?_)
  · exact wp_ite (fun _ => wp_some trivial) (fun _ => wp_some trivial)
  refine wp_bind (sI_68 w c7.1 k40) fun h17 w => ?_
  refine wp_eq (gR_42_37 w) ?_
  refine wp_bind (sI_69 w c7.1 k40) fun h19 w => ?_
  refine wp_eq (gR_42_38 w) ?_
  exact wp_bind (sI_70 w c7.1 k40) fun h21 w => wp_some (yn_y ⟨c7, q3, c2, c4⟩ ⟨rfl, w⟩)
theorem u_X11_stream {v1 v2 v3 v4 v5 : Int32} (w : WT n b L xs τ g h) : wp (f_X11_stream 10000 n v1 v2 v3 v4 v5 h) (fun r => yn (srOK v1 v2 v3 v4 v5) (r.1 = 1 ∧ WT n b L xs τ (gsA (gsA g 21 (upd (g.2.1 21) v1.toNatClampNeg (needC v2 v3 v4))) 22 (upd (g.2.1 22) v1.toNatClampNeg v5)) r.2) (r.1 = 0 ∧ WT n b L xs τ g r.2)) := by
  unfold f_X11_stream
  refine wp_bind (R := fun r => (r = 1 ∧ v2 = 0) ∨ (r = 0 ∧ ¬ v2 = 0)) ?_ (fun m1 p1 => ?_)
  · exact wp_ite (fun c => wp_some (Or.inl ⟨rfl, c⟩)) (fun c => wp_some (Or.inr ⟨rfl, c⟩))
  refine wp_bind (R := fun r => (r = 0 ∧ ¬ ((1 ≤ v2 ∧ v2 ≤ 99) ∧ (1 ≤ v3 ∧ v3 ≤ 60))) ∨ (r = 1 ∧ ((1 ≤ v2 ∧ v2 ≤ 99) ∧ (1 ≤ v3 ∧ v3 ≤ 60)))) ?_ (fun m3 p3 => ?_)
  · refine in11 (fun c => wp_some (Or.inl ⟨rfl, fun q => c q.1⟩)) (fun c => ?_)
    exact in11 (fun c2 => wp_some (Or.inl ⟨rfl, fun q => c2 q.2⟩)) (fun c2 => wp_some (Or.inr ⟨rfl, c, c2⟩))
  refine in11 (fun c => wp_some (yn_n (fun q => c q.1) ⟨rfl, w⟩)) (fun c => ?_)
  refine wp_bind (R := fun r => match r with | .inl _ => (v2 = 0 ∨ (1 ≤ v2 ∧ v2 ≤ 99) ∧ (1 ≤ v3 ∧ v3 ≤ 60)) | .inr a => a = (0, h) ∧ ¬ (v2 = 0 ∨ (1 ≤ v2 ∧ v2 ≤ 99) ∧ (1 ≤ v3 ∧ v3 ≤ 60))) ?_ (fun m7 p7 => ?_)
  · refine wp_ite (fun c1 => ?_) (fun c1 => wp_some ?_)
    · refine wp_ite (fun c3 => wp_map (wp_some ⟨rfl, ?_⟩)) (fun c3 => wp_some ?_)
      · rcases p1 with p1 | p1
        · rw [c1] at p1; exact absurd p1.1 (by decide)
        · rcases p3 with p3 | p3
          · exact fun q => q.elim p1.2 p3.2
          · rw [c3] at p3; exact absurd p3.1 (by decide)
      · exact Or.inr (p3.resolve_left (fun z => c3 z.1)).2
    · rcases p1 with p1 | p1
      · exact Or.inl p1.2
      · exact absurd p1.1 c1
  rcases m7 with a | a
  · refine wp_zsL ?_
    refine in11 (fun c2 => wp_some (yn_n (fun q => c2 q.2.2.1) ⟨rfl, w⟩)) (fun c2 => ?_)
    refine in11 (fun c4 => wp_some (yn_n (fun q => c4 q.2.2.2) ⟨rfl, w⟩)) (fun c4 => ?_)
    refine wp_eq (gR_0_6 w) ?_
    refine wp_bind (R := fun r => r.2 = h ∧ r.1 = needC v2 v3 v4) ?_ (fun m15 p15 => ?_)
    · refine wp_ite (fun z => ?_) (fun z => wp_some ⟨rfl, ?_⟩)
      · have nv : ¬ v2 = 0 := by
          rcases p1 with q | q
          · rw [z] at q; exact absurd q.1 (by decide)
          · exact q.2
        have p7' : v2 = 0 ∨ (1 ≤ v2 ∧ v2 ≤ 99) ∧ (1 ≤ v3 ∧ v3 ≤ 60) := p7
        have k3 := (p7'.resolve_left nv).2
        refine wp_bind (R := fun q => q = ((v2 * 10 + v3) - 1) / v3) ?_ (fun q17 p17 => wp_some ⟨rfl, ?_⟩)
        · unfold f_X11_up
          rw [if_pos (by lia)]
          exact wp_zdiv (by lia) (wp_some rfl)
        · rw [p17]
          unfold needC
          rw [if_neg nv]
      · have ev : v2 = 0 := by
          rcases p1 with q | q
          · exact q.2
          · exact absurd q.1 z
        unfold needC
        rw [if_pos ev]
    rw [p15.1, p15.2]
    refine wp_zif (ob_20 w) ?_
    exact wp_bind (c_tell w c) fun h19 w => wp_some (yn_y ⟨c, p7, c2, c4⟩ ⟨rfl, w⟩)
  · obtain ⟨rfl, p7⟩ := p7
    exact wp_zsR (yn_n (fun q => p7 q.2.1) ⟨rfl, w⟩)
theorem u_X11_together {v1 v2 v3 : Int32} (w : WT n b L xs τ g h) : wp (f_X11_together 10000 n v1 v2 v3 h) (fun r => yn (tgOK v1 v2) (r.1 = 1 ∧ WT n b L xs τ (gsA g 23 (upd (upd (g.2.1 23) v1.toNatClampNeg (prS v3 (g.2.1 23 v1.toNatClampNeg) v2)) v2.toNatClampNeg (prS v3 (g.2.1 23 v2.toNatClampNeg) v1))) r.2) (r.1 = 0 ∧ WT n b L xs τ g r.2)) := by
  unfold f_X11_together
  refine in11 (fun c => wp_some (yn_n (fun q => c q.1) ⟨rfl, w⟩)) (fun c => ?_)
  refine in11 (fun c2 => wp_some (yn_n (fun q => c2 q.2.1) ⟨rfl, w⟩)) (fun c2 => ?_)
  refine wp_ite (fun c3 => wp_some (yn_n (fun q => q.2.2 c3) ⟨rfl, w⟩)) (fun c3 => ?_)
  have a4 : v1.toNatClampNeg < 4 := (i32_clamp c.1 (N := 4) (by decide) (by show v1 < 4; lia)).2
  have b4 : v2.toNatClampNeg < 4 := (i32_clamp c2.1 (N := 4) (by decide) (by show v2 < 4; lia)).2
  have ea : nI v1.toNatClampNeg = v1 := i32_nI c.1
  have eb : nI v2.toNatClampNeg = v2 := i32_nI c2.1
  have ne : v2.toNatClampNeg ≠ v1.toNatClampNeg := fun z => c3 (by rw [← ea, ← eb, z])
  have P1 := c_pair (v3 := v3) w a4 b4
  rw [ea, eb] at P1
  refine wp_eq (gR_0_6 w) ?_
  refine wp_zif (ob_20 w) ?_
  refine wp_bind P1 fun h6 w6 => ?_
  have P2 := c_pair (v3 := v3) w6 b4 a4
  rw [ea, eb] at P2
  refine wp_eq (gR_0_6 w6) ?_
  refine wp_zif (ob_20 w6) ?_
  refine wp_bind P2 fun h9 w9 => ?_
  rw [gA_over] at w9
  have e1 : (gsA g 23 (upd (g.2.1 23) v1.toNatClampNeg (prS v3 (g.2.1 23 v1.toNatClampNeg) v2))).2.1 23 = upd (g.2.1 23) v1.toNatClampNeg (prS v3 (g.2.1 23 v1.toNatClampNeg) v2) := rfl
  rw [e1, hu_ne ne] at w9
  exact wp_some (yn_y ⟨c, c2, c3⟩ ⟨rfl, w9⟩)
theorem u_X12_together {v1 v2 v3 : Int32} (w : WT n b L xs τ g h) (h3 : v3 = 0 ∨ v3 = 1) : wp (f_X12_together 10000 (n + 42) v1 v2 v3 h) (fun r => yn (tgOK v1 v2) (r.1 = 1 ∧ WT n b L xs τ (gsA g 86 (upd (upd (g.2.1 86) (4 * v1 + v2).toNatClampNeg v3) (4 * v2 + v1).toNatClampNeg v3)) r.2) (r.1 = 0 ∧ WT n b L xs τ g r.2)) := by
  unfold f_X12_together
  refine wp_bind (pI_42_0 w) fun h1 w => ?_
  refine wp_bind (t_X12_isStreamNumber w) fun q2 p2 => ?_
  refine wp_ite (fun c => wp_some (yn_n (fun q => ?_) ⟨rfl, w⟩)) (fun c => ?_)
  · rcases p2 with p2 | p2
    · exact p2.2 q.1
    · rw [c] at p2; exact absurd p2.1 (by decide)
  have c2 := (p2.resolve_left (fun z => c z.1)).2
  refine wp_bind (t_X12_isStreamNumber w) fun q4 p4 => ?_
  refine wp_ite (fun c => wp_some (yn_n (fun q => ?_) ⟨rfl, w⟩)) (fun c => ?_)
  · rcases p4 with p4 | p4
    · exact p4.2 q.2.1
    · rw [c] at p4; exact absurd p4.1 (by decide)
  have c4 := (p4.resolve_left (fun z => c z.1)).2
  refine wp_ite (fun c3 => wp_some (yn_n (fun q => q.2.2 c3) ⟨rfl, w⟩)) (fun c3 => ?_)
  refine wp_eq (gR_42_62 w) ?_
  refine wp_bind (sZ_86 w (by lia) (by lia) h3) fun h8 w => ?_
  refine wp_eq (gR_42_62 w) ?_
  refine wp_bind (sZ_86 w (by lia) (by lia) h3) fun h10 w => ?_
  rw [gA_over] at w
  exact wp_some (yn_y ⟨c2, c4, c3⟩ ⟨rfl, w⟩)
theorem u_X11_leans {v1 v2 v3 : Int32} (w : WT n b L xs τ g h) : wp (f_X11_leans 10000 n v1 v2 v3 h) (fun r => yn (lnOK v1 v2 v3 (g.1 25 6)) (r.1 = 1 ∧ WT n b L xs τ (gset (gsA g 27 (upd (g.2.1 27) (v1 * 9 + v2).toNatClampNeg v3)) 25 4 1) r.2) (r.1 = 0 ∧ WT n b L xs τ g r.2)) := by
  unfold f_X11_leans
  have rr := gr_25_6 w
  refine wp_eq (gR_0_7 w) ?_
  refine wp_eq (E_25_6 w) ?_
  refine in11 (fun c => wp_some (yn_n (fun q => c q.1) ⟨rfl, w⟩)) (fun c => ?_)
  refine in11 (fun c2 => wp_some (yn_n (fun q => c2 q.2.1) ⟨rfl, w⟩)) (fun c2 => ?_)
  refine in11 (fun c3 => wp_some (yn_n (fun q => c3 q.2.2) ⟨rfl, w⟩)) (fun c3 => ?_)
  refine wp_eq (gR_0_7 w) ?_
  refine wp_zif (ob_25 w) ?_
  exact wp_bind (h_lean w ⟨c.1, by lia⟩ c2) fun h8 w => wp_some (yn_y ⟨c, c2, c3⟩ ⟨rfl, w⟩)
theorem u_X12_leans {v1 v2 v3 : Int32} (w : WT n b L xs τ g h) : wp (f_X12_leans 10000 (n + 42) v1 v2 v3 h) (fun r => yn (lnOK v1 v2 v3 (g.1 42 67)) (r.1 = 1 ∧ WT n b L xs τ (gsA g 89 (upd (g.2.1 89) (9 * v1 + v2).toNatClampNeg v3)) r.2) (r.1 = 0 ∧ WT n b L xs τ g r.2)) := by
  unfold f_X12_leans
  refine wp_bind (pI_42_0 w) fun h1 w => ?_
  have rr := gr_42_67 w
  refine wp_eq (E_42_67 w) ?_
  refine in12 (fun c => wp_some (yn_n (fun q => c q.1) ⟨rfl, w⟩)) (fun c => ?_)
  refine in12 (fun c2 => wp_some (yn_n (fun q => c2 q.2.1) ⟨rfl, w⟩)) (fun c2 => ?_)
  refine in12 (fun c3 => wp_some (yn_n (fun q => c3 q.2.2) ⟨rfl, w⟩)) (fun c3 => ?_)
  refine wp_eq (gR_42_69 w) ?_
  exact wp_bind (sI_89 w (by lia) (by lia)) fun h7 w => wp_some (yn_y ⟨c, c2, c3⟩ ⟨rfl, w⟩)
theorem u_X12_street {v1 v2 v3 v4 v5 v6 : Int32} (w : WT n b L xs τ g h) : wp (f_X12_street 10000 (n + 42) v1 v2 v3 v4 v5 v6 h) (fun r => yn (stOK v1 v2 v3 v4 v5 v6) (r.1 = 1 ∧ WT n b L xs τ g r.2) (r.1 = 0 ∧ WT n b L xs τ g r.2)) := by
  unfold f_X12_street
  refine wp_bind (pI_42_0 w) fun h1 w => ?_
  refine wp_bind (R := fun r => (r = 0 ∧ ¬ ((0 ≤ v4 ∧ v4 ≤ 999) ∧ (0 ≤ v5 ∧ v5 ≤ 999) ∧ (0 ≤ v6 ∧ v6 ≤ 999))) ∨ (r = 1 ∧ ((0 ≤ v4 ∧ v4 ≤ 999) ∧ (0 ≤ v5 ∧ v5 ≤ 999) ∧ (0 ≤ v6 ∧ v6 ≤ 999)))) ?_ (fun m5 p5 => ?_)
  · refine in12 (fun c => wp_some (Or.inl ⟨rfl, fun q => c q.1⟩)) (fun c => ?_)
    refine in12 (fun c2 => wp_some (Or.inl ⟨rfl, fun q => c2 q.2.1⟩)) (fun c2 => ?_)
    exact in12 (fun c3 => wp_some (Or.inl ⟨rfl, fun q => c3 q.2.2⟩)) (fun c3 => wp_some (Or.inr ⟨rfl, c, c2, c3⟩))
  refine in12 (fun c => wp_some (yn_n (fun q => c q.1) ⟨rfl, w⟩)) (fun c => ?_)
  refine wp_bind (t_X12_isPlace w) fun q2 p2 => ?_
  refine wp_ite (fun c => wp_some (yn_n (fun q => ?_) ⟨rfl, w⟩)) (fun c2 => ?_)
  · rcases p2 with p2 | p2
    · exact p2.2 q.2.1.1
    · rw [c] at p2; exact absurd p2.1 (by decide)
  have d2 := (p2.resolve_left (fun z => c2 z.1)).2
  refine wp_bind (t_X12_isPlace w) fun q4 p4 => ?_
  refine wp_ite (fun c => wp_some (yn_n (fun q => ?_) ⟨rfl, w⟩)) (fun c4 => ?_)
  · rcases p4 with p4 | p4
    · exact p4.2 q.2.1.2.1
    · rw [c] at p4; exact absurd p4.1 (by decide)
  have d4 := (p4.resolve_left (fun z => c4 z.1)).2
  refine wp_ite (fun c3 => wp_some (yn_n (fun q => q.2.1.2.2 c3) ⟨rfl, w⟩)) (fun c3 => ?_)
  refine wp_ite (fun c5 => wp_some (yn_n (fun q => ?_) ⟨rfl, w⟩)) (fun c5 => ?_)
  · rcases p5 with p5 | p5
    · exact p5.2 q.2.2
    · rw [c5] at p5
      exact absurd p5.1 (by decide)
  have q5 := (p5.resolve_left (fun z => c5 z.1)).2
  refine wp_eq (gR_42_72 w) ?_
  refine wp_bind (sZ_92 w c.1 (by lia) (Or.inr rfl)) fun h14 w => ?_
  refine wp_eq (gR_42_73 w) ?_
  refine wp_bind (sI_93 w c.1 (by lia) d2.1 d2.2) fun h16 w => ?_
  refine wp_eq (gR_42_74 w) ?_
  refine wp_bind (sI_94 w c.1 (by lia) d4.1 d4.2) fun h18 w => ?_
  refine wp_eq (gR_42_75 w) ?_
  refine wp_bind (sI_95 w (by lia) (by lia)) fun h20 w => ?_
  refine wp_eq (gR_42_75 w) ?_
  refine wp_bind (sI_95 w (by lia) (by lia)) fun h22 w => ?_
  refine wp_eq (gR_42_75 w) ?_
  exact wp_bind (sI_95 w (by lia) (by lia)) fun h24 w => wp_some (yn_y ⟨c, ⟨d2, d4, c3⟩, q5⟩ ⟨rfl, w⟩)
end ANS
