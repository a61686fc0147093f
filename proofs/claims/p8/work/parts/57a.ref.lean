/-! the reference's methods that change what is tracked -/
section REF
variable {n b L : Nat} {xs : Nat → Int32} {τ : Nat → Nat} {g : zGh} {h : zH}
theorem u_X12_years {v : Int32} (w : WT n b L xs τ g h) : wp (f_X12_years 10000 (n + 42) v h) (fun r => yn (yOK v (g.1 42 25)) (r.1 = g.1 42 25 + v ∧ WT n b L xs τ (gset g 42 25 (g.1 42 25 + v)) r.2) (r.1 = -1 ∧ WT n b L xs τ g r.2)) := by
  unfold f_X12_years
  refine wp_bind (pI_42_0 w) fun h1 w => ?_
  have r := gr_42_25 w
  refine wp_bind (t_X12_isYear w) fun q2 p2 => ?_
  refine wp_ite (fun c => wp_some (yn_n (fun q => ?_) ⟨rfl, w⟩)) (fun c => ?_)
  · rcases p2 with p2 | p2
    · exact p2.2 q.1
    · rw [c] at p2; exact absurd p2.1 (by decide)
  have c' := (p2.resolve_left (fun z => c z.1)).2
  refine wp_eq (E_42_25 w) ?_
  refine wp_ite (fun c2 => ?_) (fun c2 => wp_some (yn_n (fun q => c2 q.2) ⟨rfl, w⟩))
  refine wp_eq (E_42_25 w) ?_
  refine wp_bind (pI_42_25 w (x := g.1 42 25 + v) (by lia) c2) fun h5 w5 => ?_
  refine wp_eq (E_42_25 w5) ?_
  exact wp_some (yn_y ⟨c', c2⟩ ⟨rfl, w5⟩)
theorem u_X12_view {v : Int32} (w : WT n b L xs τ g h) : wp (f_X12_view 10000 (n + 42) v h) (fun r => yn (vOK v (g.1 42 25)) (r.1 = 1 ∧ WT n b L xs τ (gset g 42 26 (if v = g.1 42 25 then -1 else v)) r.2) (r.1 = 0 ∧ WT n b L xs τ g r.2)) := by
  unfold f_X12_view
  refine wp_bind (pI_42_0 w) fun h1 w => ?_
  have r := gr_42_25 w
  refine wp_eq (E_42_25 w) ?_
  refine in12 (fun c => wp_some (yn_n (fun q => c q) ⟨rfl, w⟩)) (fun c => ?_)
  refine wp_eq (E_42_25 w) ?_
  refine wp_ite (fun c2 => ?_) (fun c2 => ?_)
  · refine wp_bind (pI_42_26 w (x := -1) (by decide) (by decide)) fun h5 w5 => wp_some (yn_y c ⟨rfl, ?_⟩)
    rw [if_pos c2]
    exact w5
  · refine wp_bind (pI_42_26 w (x := v) (by lia) (by lia)) fun h5 w5 => wp_some (yn_y c ⟨rfl, ?_⟩)
    rw [if_neg c2]
    exact w5
set_option maxHeartbeats 4000000 in
theorem u_X12_meeting {v1 v2 v3 v4 v5 v6 v7 : Int32} (w : WT n b L xs τ g h) : wp (f_X12_meeting 10000 (n + 42) v1 v2 v3 v4 v5 v6 v7 h) (fun r => yn (mOK v1 v2 v3 v4 v5 v6 v7 (g.1 42 25) (g.1 42 27)) (r.1 = g.1 42 27 ∧ WT n b L xs τ (gset (gsA g 65 (upd (g.2.1 65) (g.1 42 27).toNatClampNeg v6)) 42 27 (g.1 42 27 + 1)) r.2) (r.1 = -1 ∧ WT n b L xs τ g r.2)) := by
  unfold f_X12_meeting
  refine wp_bind (pI_42_0 w) fun h1 w => ?_
  have rr := gr_42_27 w
  refine wp_bind (R := fun r => (r = 0 ∧ ¬ ((-9999 ≤ v2 ∧ v2 ≤ -1) ∧ (1 ≤ v3 ∧ v3 ≤ 300) ∧ (0 ≤ v4 ∧ v4 ≤ 5))) ∨ (r = 1 ∧ ((-9999 ≤ v2 ∧ v2 ≤ -1) ∧ (1 ≤ v3 ∧ v3 ≤ 300) ∧ (0 ≤ v4 ∧ v4 ≤ 5)))) ?_ (fun m1 p1 => ?_)
  · refine in12 (fun c => wp_some (Or.inl ⟨rfl, fun q => c q.1⟩)) (fun c => ?_)
    refine in12 (fun c2 => wp_some (Or.inl ⟨rfl, fun q => c2 q.2.1⟩)) (fun c2 => ?_)
    exact in12 (fun c3 => wp_some (Or.inl ⟨rfl, fun q => c3 q.2.2⟩)) (fun c3 => wp_some (Or.inr ⟨rfl, c, c2, c3⟩))
  refine wp_bind (R := fun r => (r = 0 ∧ ¬ ((-999 ≤ v5 ∧ v5 ≤ -1) ∧ (1 ≤ v6 ∧ v6 ≤ 60) ∧ (0 ≤ v7 ∧ v7 ≤ 5))) ∨ (r = 1 ∧ ((-999 ≤ v5 ∧ v5 ≤ -1) ∧ (1 ≤ v6 ∧ v6 ≤ 60) ∧ (0 ≤ v7 ∧ v7 ≤ 5)))) ?_ (fun m5 p5 => ?_)
  · refine in12 (fun c => wp_some (Or.inl ⟨rfl, fun q => c q.1⟩)) (fun c => ?_)
    refine in12 (fun c2 => wp_some (Or.inl ⟨rfl, fun q => c2 q.2.1⟩)) (fun c2 => ?_)
    exact in12 (fun c3 => wp_some (Or.inl ⟨rfl, fun q => c3 q.2.2⟩)) (fun c3 => wp_some (Or.inr ⟨rfl, c, c2, c3⟩))
  refine wp_eq (E_42_25 w) ?_
  refine in12 (fun c => wp_some (yn_n (fun q => c q.2.2.1) ⟨rfl, w⟩)) (fun c => ?_)
  refine wp_ite (fun c1 => wp_some (yn_n (fun q => ?_) ⟨rfl, w⟩)) (fun c1 => ?_)
  · rcases p1 with p1 | p1
    · exact p1.2 q.1
    · rw [c1] at p1
      exact absurd p1.1 (by decide)
  have q1 := (p1.resolve_left (fun z => c1 z.1)).2
  refine wp_ite (fun c5 => wp_some (yn_n (fun q => ?_) ⟨rfl, w⟩)) (fun c5 => ?_)
  · rcases p5 with p5 | p5
    · exact p5.2 q.2.1
    · rw [c5] at p5
      exact absurd p5.1 (by decide)
  have q5 := (p5.resolve_left (fun z => c5 z.1)).2
  refine wp_eq (E_42_27 w) ?_
  refine wp_ite (fun c9 => wp_some (yn_n (fun q => ?_) ⟨rfl, w⟩)) (fun c9 => ?_)
  · have := q.2.2.2
    lia
  have c8 : g.1 42 27 < 40 := by lia
  refine wp_eq (gR_42_28 w) ?_
  refine wp_eq (E_42_27 w) ?_
  refine wp_bind (sI_60 w rr.1 c8) fun h18 w => ?_
  refine wp_eq (gR_42_29 w) ?_
  refine wp_eq (E_42_27 w) ?_
  refine wp_bind (sI_61 w rr.1 c8) fun h21 w => ?_
  refine wp_eq (gR_42_30 w) ?_
  refine wp_eq (E_42_27 w) ?_
  refine wp_bind (sI_62 w rr.1 c8 (by lia) q1.2.1.2) fun h24 w => ?_
  refine wp_eq (gR_42_31 w) ?_
  refine wp_eq (E_42_27 w) ?_
  refine wp_bind (sI_63 w rr.1 c8) fun h27 w => ?_
  refine wp_eq (gR_42_32 w) ?_
  refine wp_eq (E_42_27 w) ?_
  refine wp_bind (sI_64 w rr.1 c8) fun h30 w => ?_
  refine wp_eq (gR_42_33 w) ?_
  refine wp_eq (E_42_27 w) ?_
  refine wp_bind (sI_65 w rr.1 c8) fun h33 w => ?_
  refine wp_eq (gR_42_34 w) ?_
  refine wp_eq (E_42_27 w) ?_
  refine wp_bind (sI_66 w rr.1 c8) fun h36 w => ?_
  refine wp_eq (gR_42_35 w) ?_
  refine wp_eq (E_42_27 w) ?_
  refine wp_bind (sI_67 w rr.1 c8) fun h39 w => ?_
  refine wp_eq (gR_42_36 w) ?_
  refine wp_eq (E_42_27 w) ?_
  refine wp_bind (sI_68 w rr.1 c8) fun h42 w => ?_
  refine wp_eq (gR_42_37 w) ?_
  refine wp_eq (E_42_27 w) ?_
  refine wp_bind (sI_69 w rr.1 c8) fun h45 w => ?_
  refine wp_eq (gR_42_38 w) ?_
  refine wp_eq (E_42_27 w) ?_
  refine wp_bind (sI_70 w rr.1 c8) fun h48 w => ?_
  refine wp_eq (E_42_27 w) ?_
  have ee : (gsA g 65 (upd (g.2.1 65) (g.1 42 27).toNatClampNeg v6)).1 42 27 = g.1 42 27 := rfl
  rw [ee]
  refine wp_bind (pI_42_27 w (x := g.1 42 27 + 1) (by lia) (by lia)) fun h50 w => ?_
  refine wp_eq (E_42_27 w) ?_
  refine wp_some (yn_y ⟨q1, q5, c, c8⟩ ⟨?_, w⟩)
  show g.1 42 27 + 1 - 1 = g.1 42 27
  lia
theorem gset2_over {s x : Int32} : gset (gset g 42 2 s) 42 2 x = gset g 42 2 x := gset_over _ _ _ _ _
set_option maxHeartbeats 4000000 in
theorem u_X12_lay_L3 (v : Int64) : ∀ (m j : Nat) {s : Int32} {h : zH}, j ≤ 8 → j < m → WT n b L xs τ (gset g 42 2 s) h → wp (f_X12_lay_L3 10000 (n + 42) v m (nI (8 * j) - 8) h) (fun r => WT n b L xs τ (gset g 42 2 (fz v j s)) r) := by
  intro m
  induction m with
  | zero => intro j s h _ hm w; exact absurd hm (Nat.not_lt_zero _)
  | succ m ih =>
    intro j s h hj hm w
    rw [f_X12_lay_L3.eq_2]
    cases j with
    | zero =>
      rw [if_pos (by decide)]
      exact wp_some w
    | succ j =>
      rw [sh8, if_neg (nI_pos (by omega))]
      have rs : 0 ≤ s ∧ s ≤ 1000 := gr_42_2 w
      have es : (gset g 42 2 s).1 42 2 = s := rfl
      refine wp_zletE fun x ex => ?_
      have ex2 : byr v (nI (8 * j)) = x := ex.symm
      have ex' : byc v (nI (8 * j)) = x := (by_eq v j (by omega)).trans ex2
      have efz : fz v (j + 1) s = fz v j (if (x = 10 ∨ 32 ≤ x ∧ x ≤ 126) ∧ ¬ 1000 ≤ s then s + 1 else s) := by
        rw [← ex']
        rfl
      rw [efz]
      rw [sh8']
      refine wp_bind (R := fun r => match r with | .inl a => a = nI (8 * j) ∧ (x = 10 ∨ 32 ≤ x ∧ x ≤ 126) | .inr a => WT n b L xs τ (gset g 42 2 (fz v j (if (x = 10 ∨ 32 ≤ x ∧ x ≤ 126) ∧ ¬ 1000 ≤ s then s + 1 else s))) a) ?_ (fun m3 p3 => ?_)
      · refine wp_ite (fun c => wp_some ⟨rfl, Or.inl c⟩) (fun c => ?_)
        refine wp_ite (fun c2 => ?_) (fun c2 => ?_)
        · rw [if_neg (fun q => q.1.elim c (fun z => absurd z.1 (Int32.not_le.mpr c2)))]
          exact wp_map (ih j (by omega) (by omega) w)
        · refine wp_ite (fun c3 => ?_) (fun c3 => wp_some ⟨rfl, Or.inr ⟨Int32.not_lt.mp c2, Int32.not_lt.mp c3⟩⟩)
          rw [if_neg (fun q => q.1.elim c (fun z => absurd z.2 (Int32.not_le.mpr c3)))]
          exact wp_map (ih j (by omega) (by omega) w)
      rcases m3 with a | a
      · obtain ⟨rfl, cx⟩ := p3
        refine wp_zsL ?_
        rw [sh8']
        refine wp_eq (E_42_2 w) ?_
        rw [es]
        refine wp_ite (fun c => ?_) (fun c => ?_)
        · rw [if_neg (fun q => q.2 c)]
          exact ih j (by omega) (by omega) w
        · rw [if_pos ⟨cx, c⟩]
          refine wp_eq (gR_42_1 w) ?_
          refine wp_eq (E_42_2 w) ?_
          rw [es]
          refine wp_bind (sI_43 w (i := s) (x := x) rs.1 (by lia)) fun h12 w12 => ?_
          refine wp_eq (E_42_2 w12) ?_
          refine wp_bind (pI_42_2 w12 (x := s + 1) (by lia) (by lia)) fun h14 w14 => ?_
          rw [gset2_over] at w14
          exact ih j (by omega) (by omega) w14
      · exact wp_zsR p3
theorem u_X12_lay (v : Int64) {s : Int32} (w : WT n b L xs τ (gset g 42 2 s) h) : wp (f_X12_lay 10000 (n + 42) v h) (fun r => WT n b L xs τ (gset g 42 2 (fz v 8 s)) r) := by
  unfold f_X12_lay
  exact wp_bind (u_X12_lay_L3 v 10000 8 (by decide) (by decide) w) fun r q => wp_some q
theorem u_X12_feed {u v z : Int64} (w : WT n b L xs τ g h) : wp (f_X12_feed 10000 (n + 42) u v z h) (fun r => r.1 = fz z 8 (fz v 8 (fz u 8 (g.1 42 2))) ∧ WT n b L xs τ (gset g 42 2 (fz z 8 (fz v 8 (fz u 8 (g.1 42 2))))) r.2) := by
  unfold f_X12_feed
  refine wp_bind (pI_42_0 w) fun h1 w1 => ?_
  have w0 : WT n b L xs τ (gset g 42 2 (g.1 42 2)) h1 := by rw [gset_id]; exact w1
  refine wp_zif (ob_42 w0) ?_
  refine wp_bind (u_X12_lay u w0) fun h3 w3 => ?_
  refine wp_zif (ob_42 w3) ?_
  refine wp_bind (u_X12_lay v w3) fun h6 w6 => ?_
  refine wp_zif (ob_42 w6) ?_
  refine wp_bind (u_X12_lay z w6) fun h9 w9 => ?_
  refine wp_eq (E_42_2 w9) ?_
  exact wp_some ⟨rfl, w9⟩
theorem u_X12_ruling {v1 v2 : Int32} (w : WT n b L xs τ g h) (h2 : v2 = 0 ∨ v2 = 1) : wp (f_X12_ruling 10000 (n + 42) v1 v2 h) (fun r => yn (rOK v1 (g.1 42 27) (g.1 42 49)) (r.1 = 1 ∧ WT n b L xs τ (gset g 42 49 (g.1 42 49 + 1)) r.2) (r.1 = 0 ∧ WT n b L xs τ g r.2)) := by
  unfold f_X12_ruling
  refine wp_bind (pI_42_0 w) fun h1 w => ?_
  have rr := gr_42_49 w
  have r27 := gr_42_27 w
  refine wp_zif (ob_42 w) ?_
  refine wp_bind (t_X12_isMeeting w) fun q3 p3 => ?_
  refine wp_ite (fun c => wp_some (yn_n (fun q => ?_) ⟨rfl, w⟩)) (fun c => ?_)
  · rcases p3 with p3 | p3
    · exact p3.2 q.1
    · rw [c] at p3; exact absurd p3.1 (by decide)
  have c' := (p3.resolve_left (fun z => c z.1)).2
  refine wp_eq (E_42_49 w) ?_
  refine wp_ite (fun c2 => wp_some (yn_n (fun q => ?_) ⟨rfl, w⟩)) (fun c2 => ?_)
  · have := q.2
    lia
  have c8 : g.1 42 49 < 80 := by lia
  refine wp_eq (gR_42_50 w) ?_
  refine wp_eq (E_42_49 w) ?_
  refine wp_bind (sI_74 w rr.1 c8 c'.1 (by lia)) fun h9 w => ?_
  refine wp_eq (gR_42_51 w) ?_
  refine wp_eq (E_42_49 w) ?_
  refine wp_bind (sZ_75 w rr.1 c8 h2) fun h12 w => ?_
  refine wp_eq (gR_42_52 w) ?_
  refine wp_eq (E_42_49 w) ?_
  refine wp_eq (E_42_25 w) ?_
  refine wp_bind (sI_76 w rr.1 c8) fun h16 w => ?_
  refine wp_eq (E_42_49 w) ?_
  exact wp_bind (pI_42_49 w (x := g.1 42 49 + 1) (by lia) (by lia)) fun h18 w => wp_some (yn_y ⟨c', c8⟩ ⟨rfl, w⟩)
def srOK (v1 v2 v3 v4 v5 : Int32) : Prop := (0 ≤ v1 ∧ v1 ≤ 3) ∧ (v2 = 0 ∨ (1 ≤ v2 ∧ v2 ≤ 99) ∧ (1 ≤ v3 ∧ v3 ≤ 60)) ∧ (1 ≤ v4 ∧ v4 ≤ 60) ∧ (0 ≤ v5 ∧ v5 ≤ 999)
theorem u_X12_stream {v1 v2 v3 v4 v5 : Int32} (w : WT n b L xs τ g h) : wp (f_X12_stream 10000 (n + 42) v1 v2 v3 v4 v5 h) (fun r => yn (srOK v1 v2 v3 v4 v5) (r.1 = 1 ∧ WT n b L xs τ (gsA (gsA (gsA (gsA (gsA g 81 (upd (g.2.1 81) v1.toNatClampNeg 1)) 82 (upd (g.2.1 82) v1.toNatClampNeg v2)) 83 (upd (g.2.1 83) v1.toNatClampNeg v3)) 84 (upd (g.2.1 84) v1.toNatClampNeg v4)) 85 (upd (g.2.1 85) v1.toNatClampNeg v5)) r.2) (r.1 = 0 ∧ WT n b L xs τ g r.2)) := by
  unfold f_X12_stream
  refine wp_bind (pI_42_0 w) fun h1 w => ?_
  refine wp_bind (R := fun r => (r = 0 ∧ ¬ (v2 = 0 ∨ (1 ≤ v2 ∧ v2 ≤ 99) ∧ (1 ≤ v3 ∧ v3 ≤ 60))) ∨ (r = 1 ∧ (v2 = 0 ∨ (1 ≤ v2 ∧ v2 ≤ 99) ∧ (1 ≤ v3 ∧ v3 ≤ 60)))) ?_ (fun m1 p1 => ?_)
  · refine wp_ite (fun c => wp_some (Or.inr ⟨rfl, Or.inl c⟩)) (fun c => ?_)
    refine in12 (fun c2 => wp_some (Or.inl ⟨rfl, fun q => q.elim c (fun q => c2 q.1)⟩)) (fun c2 => ?_)
    exact in12 (fun c3 => wp_some (Or.inl ⟨rfl, fun q => q.elim c (fun q => c3 q.2)⟩)) (fun c3 => wp_some (Or.inr ⟨rfl, Or.inr ⟨c2, c3⟩⟩))
  refine wp_bind (t_X12_isStreamNumber w) fun q6 p6 => ?_
  refine wp_ite (fun c => wp_some (yn_n (fun q => ?_) ⟨rfl, w⟩)) (fun c => ?_)
  · rcases p6 with p6 | p6
    · exact p6.2 q.1
    · rw [c] at p6; exact absurd p6.1 (by decide)
  have c6 := (p6.resolve_left (fun z => c z.1)).2
  refine wp_ite (fun c1 => wp_some (yn_n (fun q => ?_) ⟨rfl, w⟩)) (fun c1 => ?_)
  · rcases p1 with p1 | p1
    · exact p1.2 q.2.1
    · rw [c1] at p1
      exact absurd p1.1 (by decide)
  have q1 := (p1.resolve_left (fun z => c1 z.1)).2
  refine in12 (fun c2 => wp_some (yn_n (fun q => c2 q.2.2.1) ⟨rfl, w⟩)) (fun c2 => ?_)
  refine in12 (fun c3 => wp_some (yn_n (fun q => c3 q.2.2.2) ⟨rfl, w⟩)) (fun c3 => ?_)
  have k1 : v1 < 4 := by lia
  refine wp_eq (gR_42_57 w) ?_
  refine wp_bind (sZ_81 w c6.1 k1 (Or.inr rfl)) fun h12 w => ?_
  refine wp_eq (gR_42_58 w) ?_
  refine wp_bind (sI_82 w c6.1 k1) fun h14 w => ?_
  refine wp_eq (gR_42_59 w) ?_
  refine wp_bind (sI_83 w c6.1 k1) fun h16 w => ?_
  refine wp_eq (gR_42_60 w) ?_
  refine wp_bind (sI_84 w c6.1 k1) fun h18 w => ?_
  refine wp_eq (gR_42_61 w) ?_
  exact wp_bind (sI_85 w c6.1 k1) fun h20 w => wp_some (yn_y ⟨c6, q1, c2, c3⟩ ⟨rfl, w⟩)
theorem u_X12_voters_L39 {C : Nat} (eC : g.1 42 67 = nI C) (hC : C < 8) : ∀ (m c : Nat) {F : Nat → Int32} {h : zH}, WT n b L xs τ (gsA g 89 F) h → c ≤ 9 → 9 - c < m → (∀ k, 9 * C ≤ k → k < 9 * C + c → F k = 0) → (∀ k, ¬ (9 * C ≤ k ∧ k < 9 * C + 9) → F k = g.2.1 89 k) → wp (f_X12_voters_L39 10000 (n + 42) m (nI c) h) (fun r => ∃ F', WT n b L xs τ (gsA g 89 F') r ∧ (∀ k, 9 * C ≤ k → k < 9 * C + 9 → F' k = 0) ∧ (∀ k, ¬ (9 * C ≤ k ∧ k < 9 * C + 9) → F' k = g.2.1 89 k)) := by
  intro m
  induction m with
  | zero => intro c F h w hc hm a1 a2; exact absurd hm (Nat.not_lt_zero _)
  | succ m ih =>
    intro c F h w hc hm a1 a2
    rw [f_X12_voters_L39.eq_2]
    by_cases ec : c = 9
    · subst ec
      rw [if_pos (by decide)]
      exact wp_some ⟨F, w, a1, a2⟩
    · have l9 : nI c < 9 := hI_lt (k := 9) (by omega) (by omega)
      rw [if_neg (Int32.not_le.mpr l9)]
      refine wp_eq (gR_42_69 w) ?_
      refine wp_eq (E_42_67 w) ?_
      have i1 : (9 : Int32) * (gsA g 89 F).1 42 67 + nI c = nI (9 * C + c) := by
        show (9 : Int32) * g.1 42 67 + nI c = _
        have e9 : (9 : Int32) = nI 9 := rfl
        rw [eC, e9, hI_mul, nI_add]
      rw [i1]
      have q := h_ix (m := 72) (j := 9 * C + c) (by omega) (by omega)
      have e72 : nI 72 = 72 := rfl
      rw [e72] at q
      refine wp_bind (sI_89 w (i := nI (9 * C + c)) (x := 0) q.1 q.2.1) fun h11 w11 => ?_
      rw [gA_over, q.2.2] at w11
      rw [nI_1]
      refine ih (c + 1) w11 (by omega) (by omega) (fun k k1 k2 => ?_) (fun k hk => ?_)
      · show upd F (9 * C + c) 0 k = 0
        by_cases e : k = 9 * C + c
        · rw [e, hu_at]
        · rw [hu_ne e]
          exact a1 k k1 (by omega)
      · show upd F (9 * C + c) 0 k = _
        rw [hu_ne (by omega)]
        exact a2 k hk
theorem u_X12_voters {v : Int32} (w : WT n b L xs τ g h) : wp (f_X12_voters 10000 (n + 42) v h) (fun r => yn (voOK v (g.1 42 67)) (r.1 = g.1 42 67 ∧ ∃ F, WT n b L xs τ (gset (gsA (gsA g 88 (upd (g.2.1 88) (g.1 42 67).toNatClampNeg v)) 89 F) 42 67 (g.1 42 67 + 1)) r.2 ∧ (∀ k, 9 * (g.1 42 67).toNatClampNeg ≤ k → k < 9 * (g.1 42 67).toNatClampNeg + 9 → F k = 0) ∧ (∀ k, ¬ (9 * (g.1 42 67).toNatClampNeg ≤ k ∧ k < 9 * (g.1 42 67).toNatClampNeg + 9) → F k = g.2.1 89 k)) (r.1 = -1 ∧ WT n b L xs τ g r.2)) := by
  unfold f_X12_voters
  refine wp_bind (pI_42_0 w) fun h1 w => ?_
  have rr := gr_42_67 w
  refine in12 (fun c => wp_some (yn_n (fun q => c q.1) ⟨rfl, w⟩)) (fun c => ?_)
  refine wp_eq (E_42_67 w) ?_
  refine wp_ite (fun c2 => wp_some (yn_n (fun q => ?_) ⟨rfl, w⟩)) (fun c2 => ?_)
  · have := q.2
    lia
  have c8 : g.1 42 67 < 8 := by lia
  have eC : g.1 42 67 = nI (g.1 42 67).toNatClampNeg := (i32_nI rr.1).symm
  have hC : (g.1 42 67).toNatClampNeg < 8 := (i32_clamp rr.1 (N := 8) (by decide) c8).2
  refine wp_eq (gR_42_68 w) ?_
  refine wp_eq (E_42_67 w) ?_
  refine wp_bind (sI_88 w rr.1 c8) fun h7 w7 => ?_
  have w7' : WT n b L xs τ (gsA (gsA g 88 (upd (g.2.1 88) (g.1 42 67).toNatClampNeg v)) 89 (g.2.1 89)) h7 := by
    have e : gsA (gsA g 88 (upd (g.2.1 88) (g.1 42 67).toNatClampNeg v)) 89 (g.2.1 89) = gsA g 88 (upd (g.2.1 88) (g.1 42 67).toNatClampNeg v) := gA_id _ 89
    rw [e]
    exact w7
  refine wp_bind (u_X12_voters_L39 (g := gsA g 88 (upd (g.2.1 88) (g.1 42 67).toNatClampNeg v)) eC hC 10000 0 w7' (by omega) (by omega) (fun k k1 k2 => absurd k2 (by omega)) (fun k _ => rfl)) fun m12 p12 => ?_
  obtain ⟨F, w12, k1, k2⟩ := p12
  refine wp_eq (E_42_67 w12) ?_
  refine wp_bind (pI_42_67 w12 (x := g.1 42 67 + 1) (by lia) (by lia)) fun h14 w14 => ?_
  refine wp_eq (E_42_67 w14) ?_
  refine wp_some (yn_y ⟨c, c8⟩ ⟨?_, F, w14, k1, k2⟩)
  show g.1 42 67 + 1 - 1 = g.1 42 67
  lia
theorem u_X12_counted {v1 v2 v3 v4 : Int32} (w : WT n b L xs τ g h) : wp (f_X12_counted 10000 (n + 42) v1 v2 v3 v4 h) (fun r => yn (coOK v1 v2 v3 v4) (r.1 = 1 ∧ WT n b L xs τ (gsA (gsA g 90 (upd (g.2.1 90) (31 * v1 + v2).toNatClampNeg v3)) 91 (upd (g.2.1 91) (31 * v1 + v2).toNatClampNeg (if v3 = -1 then 0 else v4))) r.2) (r.1 = 0 ∧ WT n b L xs τ g r.2)) := by
  unfold f_X12_counted
  refine wp_bind (pI_42_0 w) fun h1 w => ?_
  refine in12 (fun c => wp_some (yn_n (fun q => c q.1) ⟨rfl, w⟩)) (fun c => ?_)
  refine wp_bind (t_X12_isYear w) fun q3 p3 => ?_
  refine wp_ite (fun c2 => wp_some (yn_n (fun q => ?_) ⟨rfl, w⟩)) (fun c2 => ?_)
  · rcases p3 with p3 | p3
    · exact p3.2 q.2.1
    · rw [c2] at p3; exact absurd p3.1 (by decide)
  have c3 := (p3.resolve_left (fun z => c2 z.1)).2
  refine wp_bind (R := fun r => match r with | .inl _ => (v3 = -1 ∨ (0 ≤ v3 ∧ v3 ≤ 9999) ∧ (0 ≤ v4 ∧ v4 ≤ 99999)) | .inr a => a = (0, h1) ∧ ¬ (v3 = -1 ∨ (0 ≤ v3 ∧ v3 ≤ 9999) ∧ (0 ≤ v4 ∧ v4 ≤ 99999))) ?_ (fun m5 p5 => ?_)
  · refine wp_ite (fun c => wp_some (Or.inl c)) (fun c => ?_)
    refine in12 (fun c2 => wp_map (wp_some ⟨rfl, fun q => q.elim c (fun q => c2 q.1)⟩)) (fun c2 => ?_)
    exact in12 (fun c3 => wp_map (wp_some ⟨rfl, fun q => q.elim c (fun q => c3 q.2)⟩)) (fun c3 => wp_some (Or.inr ⟨c2, c3⟩))
  rcases m5 with a | a
  · refine wp_zsL ?_
    have k0 : 0 ≤ 31 * v1 + v2 := by lia
    have k1 : 31 * v1 + v2 < 248 := by lia
    refine wp_eq (gR_42_70 w) ?_
    refine wp_bind (sI_90 w k0 k1) fun h13 w => ?_
    refine wp_eq (gR_42_71 w) ?_
    refine wp_ite (fun c4 => ?_) (fun c4 => ?_)
    · rw [if_pos c4]
      exact wp_bind (sI_91 w k0 k1) fun h17 w => wp_some (yn_y ⟨c, c3, p5⟩ ⟨rfl, w⟩)
    · rw [if_neg c4]
      exact wp_bind (sI_91 w k0 k1) fun h17 w => wp_some (yn_y ⟨c, c3, p5⟩ ⟨rfl, w⟩)
  · obtain ⟨rfl, p5⟩ := p5
    exact wp_zsR (yn_n (fun q => p5 q.2.2) ⟨rfl, w⟩)
theorem u_X12_trip {v1 v2 : Int32} (w : WT n b L xs τ g h) : wp (f_X12_trip 10000 (n + 42) v1 v2 h) (fun r => yn (trOK v1 v2 (g.1 42 76)) (r.1 = g.1 42 76 ∧ WT n b L xs τ (gset g 42 76 (g.1 42 76 + 1)) r.2) (r.1 = -1 ∧ WT n b L xs τ g r.2)) := by
  unfold f_X12_trip
  refine wp_bind (pI_42_0 w) fun h1 w => ?_
  have rr := gr_42_76 w
  refine wp_bind (t_X12_isPlace w) fun q2 p2 => ?_
  refine wp_ite (fun c => wp_some (yn_n (fun q => ?_) ⟨rfl, w⟩)) (fun c => ?_)
  · rcases p2 with p2 | p2
    · exact p2.2 q.1
    · rw [c] at p2; exact absurd p2.1 (by decide)
  have c2 := (p2.resolve_left (fun z => c z.1)).2
  refine wp_bind (t_X12_isPlace w) fun q4 p4 => ?_
  refine wp_ite (fun c => wp_some (yn_n (fun q => ?_) ⟨rfl, w⟩)) (fun c => ?_)
  · rcases p4 with p4 | p4
    · exact p4.2 q.2.1
    · rw [c] at p4; exact absurd p4.1 (by decide)
  have c4 := (p4.resolve_left (fun z => c z.1)).2
  refine wp_ite (fun c5 => wp_some (yn_n (fun q => q.2.2.1 c5) ⟨rfl, w⟩)) (fun c5 => ?_)
  refine wp_eq (E_42_76 w) ?_
  refine wp_ite (fun c6 => wp_some (yn_n (fun q => ?_) ⟨rfl, w⟩)) (fun c6 => ?_)
  · have := q.2.2.2
    lia
  have c8 : g.1 42 76 < 8 := by lia
  refine wp_eq (gR_42_77 w) ?_
  refine wp_eq (E_42_76 w) ?_
  refine wp_bind (sI_96 w rr.1 c8 c2.1 c2.2) fun h11 w => ?_
  refine wp_eq (gR_42_78 w) ?_
  refine wp_eq (E_42_76 w) ?_
  refine wp_bind (sI_97 w rr.1 c8) fun h14 w => ?_
  refine wp_eq (E_42_76 w) ?_
  refine wp_bind (pI_42_76 w (x := g.1 42 76 + 1) (by lia) (by lia)) fun h16 w => ?_
  refine wp_eq (E_42_76 w) ?_
  refine wp_some (yn_y ⟨c2, c4, c5, c8⟩ ⟨?_, w⟩)
  show g.1 42 76 + 1 - 1 = g.1 42 76
  lia
end REF
