/-! class and reference side by side -/
def PA (g : zGh) : Prop := ∀ i : Int32, 0 ≤ i → i < g.1 42 27 → 1 ≤ g.2.1 65 i.toNatClampNeg
def HS (g : zGh) : Prop := ∀ i : Int32, 0 ≤ i → i < 4 → g.2.1 82 i.toNatClampNeg = 0 ∨ ¬ g.2.1 83 i.toNatClampNeg = 0
def HU (g : zGh) : Prop := g.2.1 90 = g.2.1 31 ∧ (∀ i, ¬ g.2.1 31 i = -1 → g.2.1 91 i = g.2.1 32 i) ∧ (∀ i, g.2.1 31 i = -1 ∨ 0 ≤ g.2.1 31 i)
/-- the house: class and reference have the same heads and leanings -/
def HQ (g : zGh) : Prop := HC g ∧ (∀ v, v < 8 → g.2.1 88 v = g.2.1 26 v) ∧ (∀ k, k < 72 → g.2.1 89 k = g.2.1 27 k) ∧ (∀ C k, g.1 25 6 = nI C → C ≤ 8 → 9 * C ≤ k → g.2.1 27 k = 0)
/-- the corner: class and reference have the same streams -/
def CQ (g : zGh) : Prop := CR (g.2.1 21) (g.2.1 22) (mtS (g.2.1 23)) g
def CP (g : zGh) : Prop := (g.1 1 0 = g.1 0 10 ∧ g.1 42 27 = g.1 0 10) ∧ g.1 42 25 = g.1 0 11 ∧ g.1 42 49 = g.1 14 5 ∧ g.1 42 67 = g.1 25 6 ∧ g.1 42 76 = g.1 33 10 ∧ g.1 42 2 = g.1 3 2 ∧ HU g ∧ PA g ∧ HS g ∧ LWI g ∧ HQ g ∧ CQ g
def IV (n b L : Nat) (xs : Nat → Int32) (h : zH) : Prop := ∃ τ g, WT n b L xs τ g h ∧ CP g
theorem LWI_of {g g' : zGh} (l : LWI g) (h1 : g'.1 42 10 = g.1 42 10) (h2 : ∀ j, j = 50 ∨ j = 51 ∨ j = 53 ∨ j = 55 ∨ j = 56 → g'.2.1 j = g.2.1 j) : LWI g' := by
  obtain ⟨N, hN, e, l⟩ := l
  refine ⟨N, hN, h1.trans e, fun bb hb => ?_⟩
  rw [h2 50 (by omega), h2 51 (by omega), h2 53 (by omega), h2 55 (by omega), h2 56 (by omega)]
  exact l bb hb
theorem LWI_1 {g g' : zGh} (l : LWI g) (h1 : g'.1 42 10 = g.1 42 10) (h2 : g'.2.1 = g.2.1) : LWI g' := LWI_of l h1 (fun j _ => congrFun h2 j)
def fl (hu wa : Nat → Int32) (v1 v2 v3 : Int32) : Int32 := if hu (v1 * 31 + v2).toNatClampNeg = -1 then -1 else if hu (v1 * 31 + v3).toNatClampNeg = -1 then -1 else if hu (v1 * 31 + v3).toNatClampNeg < hu (v1 * 31 + v2).toNatClampNeg then (if lg_cmp ((hu (v1 * 31 + v3).toNatClampNeg).toInt64 * (wa (v1 * 31 + v2).toNatClampNeg).toInt64) ((hu (v1 * 31 + v2).toNatClampNeg).toInt64 * (wa (v1 * 31 + v3).toNatClampNeg).toInt64) < 0 then 2 else 1) else 0
def flOK (v1 v2 v3 : Int32) : Prop := (0 ≤ v1 ∧ v1 ≤ 7) ∧ (0 ≤ v2 ∧ v2 ≤ 30) ∧ (0 ≤ v3 ∧ v3 ≤ 30) ∧ v2 < v3
theorem CP_HG {g g' : zGh} (c : CP g) (hg : HG g g') (hc : HC g') : CP g' := by
  obtain ⟨⟨c1, c2⟩, c3, c4, c5, c6, c7, c8, c9, cA, cB, cC, cD⟩ := c
  obtain ⟨h1, h2, h3, h4⟩ := hg
  have a0 := h1 0 (by decide)
  have a1 := h1 1 (by decide)
  have a42 := h1 42 (by decide)
  have a14 := h1 14 (by decide)
  have a33 := h1 33 (by decide)
  have a3 := h1 3 (by decide)
  have a25 := h2 6 (by decide)
  refine ⟨⟨by rw [a1, a0]; exact c1, by rw [a42, a0]; exact c2⟩, by rw [a42, a0]; exact c3, by rw [a42, a14]; exact c4, by rw [a42, a25]; exact c5, by rw [a42, a33]; exact c6, by rw [a42, a3]; exact c7, ?_, ?_, ?_, LWI_of cB (by rw [a42]) (fun j hj => h3 j (by omega) (by omega)), ⟨hc, ?_, ?_, ?_⟩, ?_⟩
  · unfold HU
    rw [h3 90 (by decide) (by decide), h3 91 (by decide) (by decide), h3 31 (by decide) (by decide), h3 32 (by decide) (by decide)]
    exact c8
  · unfold PA
    rw [a42, h3 65 (by decide) (by decide)]
    exact c9
  · unfold HS
    rw [h3 82 (by decide) (by decide), h3 83 (by decide) (by decide)]
    exact cA
  · rw [h3 88 (by decide) (by decide), h3 26 (by decide) (by decide)]
    exact cC.2.1
  · rw [h3 89 (by decide) (by decide), h3 27 (by decide) (by decide)]
    exact cC.2.2.1
  · rw [a25, h3 27 (by decide) (by decide)]
    exact cC.2.2.2
  · unfold CQ CR
    rw [h3 21 (by decide) (by decide), h3 22 (by decide) (by decide), h3 23 (by decide) (by decide), h3 81 (by decide) (by decide), h3 82 (by decide) (by decide), h3 83 (by decide) (by decide), h3 84 (by decide) (by decide), h3 85 (by decide) (by decide), h3 86 (by decide) (by decide)]
    exact cD
theorem CP_CG {g g' : zGh} (c : CP g) (p : CG g g') : CP g' := by
  obtain ⟨⟨c1, c2⟩, c3, c4, c5, c6, c7, c8, c9, cA, cB, cC, cD⟩ := c
  obtain ⟨h1, h3, h4⟩ := p
  have a (j k : Nat) (e1 : j ≠ 20 := by decide) (e2 : ¬ (j = 42 ∧ 63 ≤ k ∧ k ≤ 65) := by decide) : g'.1 j k = g.1 j k := h1 j k (fun z => e1 z.1) e2
  refine ⟨⟨by rw [a 1 0, a 0 10]; exact c1, by rw [a 42 27, a 0 10]; exact c2⟩, by rw [a 42 25, a 0 11]; exact c3, by rw [a 42 49, a 14 5]; exact c4, by rw [a 42 67, a 25 6]; exact c5, by rw [a 42 76, a 33 10]; exact c6, by rw [a 42 2, a 3 2]; exact c7, ?_, ?_, ?_, LWI_of cB (a 42 10) (fun j hj => h3 j (by omega) (by omega)), ⟨?_, ?_, ?_, ?_⟩, ?_⟩
  · unfold HU
    rw [h3 90 (by decide) (by decide), h3 91 (by decide) (by decide), h3 31 (by decide) (by decide), h3 32 (by decide) (by decide)]
    exact c8
  · unfold PA
    rw [a 42 27, h3 65 (by decide) (by decide)]
    exact c9
  · unfold HS
    rw [h3 82 (by decide) (by decide), h3 83 (by decide) (by decide)]
    exact cA
  · unfold HC
    rw [a 25 6, a 25 5, a 25 4, h3 26 (by decide) (by decide), h3 27 (by decide) (by decide), h3 28 (by decide) (by decide)]
    exact cC.1
  · rw [h3 88 (by decide) (by decide), h3 26 (by decide) (by decide)]
    exact cC.2.1
  · rw [h3 89 (by decide) (by decide), h3 27 (by decide) (by decide)]
    exact cC.2.2.1
  · rw [a 25 6, h3 27 (by decide) (by decide)]
    exact cC.2.2.2
  · unfold CQ
    rw [h3 21 (by decide) (by decide), h3 22 (by decide) (by decide), h3 23 (by decide) (by decide)]
    exact CR_CG cD ⟨h1, h3, h4⟩
section PAIR
variable {n b L : Nat} {xs : Nat → Int32} {τ : Nat → Nat} {g : zGh} {h : zH}
theorem u_X11_fell {v1 v2 v3 : Int32} (w : WT n b L xs τ g h) : wp (f_X11_fell 10000 n v1 v2 v3 h) (fun r => yn (flOK v1 v2 v3) (r = fl (g.2.1 31) (g.2.1 32) v1 v2 v3) (r = -1)) := by
  unfold f_X11_fell
  refine in11 (fun c => wp_some (yn_n (fun q => c q.1) rfl)) (fun c => ?_)
  refine in11 (fun c2 => wp_some (yn_n (fun q => c2 q.2.1) rfl)) (fun c2 => ?_)
  refine in11 (fun c3 => wp_some (yn_n (fun q => c3 q.2.2.1) rfl)) (fun c3 => ?_)
  refine wp_ite (fun c4 => ?_) (fun c4 => wp_some (yn_n (fun q => c4 q.2.2.2) rfl))
  refine wp_eq (gR_0_8 w) ?_
  refine wp_zif (ob_30 w) ?_
  refine wp_bind (R := fun r => r = fl (g.2.1 31) (g.2.1 32) v1 v2 v3) ?_ (fun q7 p7 => wp_some (yn_y ⟨c, c2, c3, c4⟩ p7))
  unfold f_X5_compare fl
  refine wp_zletE fun x1 e1 => ?_
  refine wp_zletE fun x2 e2 => ?_
  rw [← e1, ← e2]
  have i0 : 0 ≤ x1 := by lia
  have i1 : x1 < 248 := by lia
  have j0 : 0 ≤ x2 := by lia
  have j1 : x2 < 248 := by lia
  refine wp_eq (gR_30_0 w) ?_
  refine wp_eq (aN_31 w) ?_
  refine in11 (fun z => absurd (show 0 ≤ x1 ∧ x1 ≤ 248 - 1 from ⟨i0, by lia⟩) z) (fun _ => ?_)
  refine wp_eq (gR_30_0 w) ?_
  refine wp_eq (aN_31 w) ?_
  refine in11 (fun z => absurd (show 0 ≤ x2 ∧ x2 ≤ 248 - 1 from ⟨j0, by lia⟩) z) (fun _ => ?_)
  have a1 := A_31 w i0 i1
  have a2 := A_31 w j0 j1
  have b1 := A_32 w i0 i1
  have b2 := A_32 w j0 j1
  generalize g.2.1 31 x1.toNatClampNeg = h1 at a1 ⊢
  generalize g.2.1 31 x2.toNatClampNeg = h2 at a2 ⊢
  generalize g.2.1 32 x1.toNatClampNeg = w1 at b1 ⊢
  generalize g.2.1 32 x2.toNatClampNeg = w2 at b2 ⊢
  refine wp_eq (gR_30_0 w) ?_
  refine wp_eq a1 ?_
  refine wp_ite (fun z => wp_some (by rw [if_pos z])) (fun z => ?_)
  rw [if_neg z]
  refine wp_eq (gR_30_0 w) ?_
  refine wp_eq a2 ?_
  refine wp_ite (fun z => wp_some (by rw [if_pos z])) (fun z => ?_)
  rw [if_neg z]
  refine wp_eq (gR_30_0 w) ?_
  refine wp_eq a2 ?_
  refine wp_eq (gR_30_0 w) ?_
  refine wp_eq a1 ?_
  refine wp_ite (fun z => ?_) (fun z => wp_some (by rw [if_neg z]))
  rw [if_pos z]
  refine wp_eq (gR_30_0 w) ?_
  refine wp_eq a2 ?_
  refine wp_eq (gR_30_1 w) ?_
  refine wp_eq b1 ?_
  refine wp_eq (gR_30_0 w) ?_
  refine wp_eq a1 ?_
  refine wp_eq (gR_30_1 w) ?_
  refine wp_eq b2 ?_
  exact wp_ite (fun z => wp_some (by rw [if_pos z])) (fun z => wp_some (by rw [if_neg z]))
theorem u_X12_fell {v1 v2 v3 : Int32} (w : WT n b L xs τ g h) (hu : HU g) : wp (f_X12_fell 10000 (n + 42) v1 v2 v3 h) (fun r => yn (flOK v1 v2 v3) (r.1 = fl (g.2.1 31) (g.2.1 32) v1 v2 v3 ∧ WT n b L xs τ g r.2) (r.1 = -1 ∧ WT n b L xs τ g r.2)) := by
  obtain ⟨u1, u2, u3⟩ := hu
  unfold f_X12_fell
  refine wp_bind (pI_42_0 w) fun h1 w => ?_
  refine in12 (fun c => wp_some (yn_n (fun q => c q.1) ⟨rfl, w⟩)) (fun c => ?_)
  refine wp_bind (t_X12_isYear w) fun q3 p3 => ?_
  refine wp_ite (fun c2 => wp_some (yn_n (fun q => ?_) ⟨rfl, w⟩)) (fun c2 => ?_)
  · rcases p3 with p3 | p3
    · exact p3.2 q.2.1
    · rw [c2] at p3; exact absurd p3.1 (by decide)
  have d2 := (p3.resolve_left (fun z => c2 z.1)).2
  refine wp_bind (t_X12_isYear w) fun q5 p5 => ?_
  refine wp_ite (fun c3 => wp_some (yn_n (fun q => ?_) ⟨rfl, w⟩)) (fun c3 => ?_)
  · rcases p5 with p5 | p5
    · exact p5.2 q.2.2.1
    · rw [c3] at p5; exact absurd p5.1 (by decide)
  have d3 := (p5.resolve_left (fun z => c3 z.1)).2
  refine wp_ite (fun c4 => ?_) (fun c4 => wp_some (yn_n (fun q => c4 q.2.2.2) ⟨rfl, w⟩))
  refine wp_mono (R := fun r => r.1 = fl (g.2.1 31) (g.2.1 32) v1 v2 v3 ∧ WT n b L xs τ g r.2) ?_ (fun r p => yn_y ⟨c, d2, d3, c4⟩ p)
  unfold fl
  have m1 : v1 * 31 = 31 * v1 := Int32.mul_comm _ _
  rw [m1]
  refine wp_zletE fun x1 e1 => ?_
  refine wp_zletE fun x2 e2 => ?_
  rw [← e1, ← e2]
  have i0 : 0 ≤ x1 := by lia
  have i1 : x1 < 248 := by lia
  have j0 : 0 ≤ x2 := by lia
  have j1 : x2 < 248 := by lia
  have a1 := A_90 w i0 i1
  have a2 := A_90 w j0 j1
  have b1 := A_91 w i0 i1
  have b2 := A_91 w j0 j1
  rw [u1] at a1 a2
  have r1 := u3 x1.toNatClampNeg
  have r2 := u3 x2.toNatClampNeg
  have s1 := u2 x1.toNatClampNeg
  have s2 := u2 x2.toNatClampNeg
  generalize g.2.1 31 x1.toNatClampNeg = h1' at a1 r1 s1 ⊢
  generalize g.2.1 31 x2.toNatClampNeg = h2' at a2 r2 s2 ⊢
  refine wp_eq (gR_42_70 w) ?_
  refine wp_eq a1 ?_
  refine wp_ite (fun z => wp_some ⟨?_, w⟩) (fun z => ?_)
  · have : h1' = -1 := by lia
    rw [if_pos this]
  have z1 : ¬ h1' = -1 := by lia
  rw [if_neg z1]
  refine wp_eq (gR_42_70 w) ?_
  refine wp_eq a2 ?_
  refine wp_ite (fun z => ?_) (fun z => wp_some ⟨?_, w⟩)
  · have z2 : ¬ h2' = -1 := by lia
    rw [if_neg z2]
    rw [s1 z1] at b1
    rw [s2 z2] at b2
    refine wp_eq (gR_42_70 w) ?_
    refine wp_eq a2 ?_
    refine wp_eq (gR_42_70 w) ?_
    refine wp_eq a1 ?_
    refine wp_ite (fun z => ?_) (fun z => wp_some ⟨by rw [if_neg z], w⟩)
    rw [if_pos z]
    refine wp_eq (gR_42_70 w) ?_
    refine wp_eq a2 ?_
    refine wp_eq (gR_42_71 w) ?_
    refine wp_eq b1 ?_
    refine wp_eq (gR_42_70 w) ?_
    refine wp_eq a1 ?_
    refine wp_eq (gR_42_71 w) ?_
    refine wp_eq b2 ?_
    exact wp_ite (fun z => wp_some ⟨by rw [if_pos z], w⟩) (fun z => wp_some ⟨by rw [if_neg z], w⟩)
  · have : h2' = -1 := by lia
    rw [if_pos this]
theorem pr_0 {v : Int32} (w : WT n b L xs τ g h) (c : CP g) : wp (f_X11_years 10000 n v h) (fun r => ∃ τ1 g1, WT n b L xs τ1 g1 r.2 ∧ wp (f_X12_years 10000 (n + 42) v r.2) (fun s => r.1 = s.1 ∧ IV n b L xs s.2)) := by
  have hc := c
  obtain ⟨⟨c1, c2⟩, c3, c4, c5, c6, c7, c8, c9, cA, cB, cC, cD⟩ := c
  refine wp_mono (u_X11_years w) fun r p => ?_
  by_cases y : yOK v (g.1 0 11)
  · obtain ⟨p1, p2⟩ := p.1 y
    refine ⟨_, _, p2, wp_mono (u_X12_years p2) fun s q => ?_⟩
    obtain ⟨q1, q2⟩ := q.1 (by show yOK v (g.1 42 25); rw [c3]; exact y)
    refine ⟨?_, _, _, q2, ⟨c1, c2⟩, ?_, c4, c5, c6, c7, c8, c9, cA, LWI_1 cB rfl rfl, cC, cD⟩
    · rw [p1, q1]
      show g.1 0 11 + v = g.1 42 25 + v
      rw [c3]
    · show g.1 42 25 + v = g.1 0 11 + v
      rw [c3]
  · obtain ⟨p1, p2⟩ := p.2 y
    refine ⟨_, _, p2, wp_mono (u_X12_years p2) fun s q => ?_⟩
    obtain ⟨q1, q2⟩ := q.2 (by rw [c3]; exact y)
    exact ⟨by rw [p1, q1], _, _, q2, hc⟩
theorem pr_1 {v : Int32} (w : WT n b L xs τ g h) (c : CP g) : wp (f_X11_view 10000 n v h) (fun r => ∃ τ1 g1, WT n b L xs τ1 g1 r.2 ∧ wp (f_X12_view 10000 (n + 42) v r.2) (fun s => r.1 = s.1 ∧ IV n b L xs s.2)) := by
  have hc := c
  obtain ⟨⟨c1, c2⟩, c3, c4, c5, c6, c7, c8, c9, cA, cB, cC, cD⟩ := c
  refine wp_mono (u_X11_view w) fun r p => ?_
  by_cases y : vOK v (g.1 0 11)
  · obtain ⟨p1, p2⟩ := p.1 y
    refine ⟨_, _, p2, wp_mono (u_X12_view p2) fun s q => ?_⟩
    obtain ⟨q1, q2⟩ := q.1 (by show vOK v (g.1 42 25); rw [c3]; exact y)
    exact ⟨by rw [p1, q1], _, _, q2, ⟨c1, c2⟩, c3, c4, c5, c6, c7, c8, c9, cA, LWI_1 cB rfl rfl, cC, cD⟩
  · obtain ⟨p1, p2⟩ := p.2 y
    refine ⟨_, _, p2, wp_mono (u_X12_view p2) fun s q => ?_⟩
    obtain ⟨q1, q2⟩ := q.2 (by rw [c3]; exact y)
    exact ⟨by rw [p1, q1], _, _, q2, hc⟩
theorem pr_2 {v1 v2 v3 v4 v5 v6 v7 : Int32} (w : WT n b L xs τ g h) (c : CP g) : wp (f_X11_meeting 10000 n v1 v2 v3 v4 v5 v6 v7 h) (fun r => ∃ τ1 g1, WT n b L xs τ1 g1 r.2 ∧ wp (f_X12_meeting 10000 (n + 42) v1 v2 v3 v4 v5 v6 v7 r.2) (fun s => r.1 = s.1 ∧ IV n b L xs s.2)) := by
  have hc := c
  obtain ⟨⟨c1, c2⟩, c3, c4, c5, c6, c7, c8, c9, cA, cB, cC, cD⟩ := c
  refine wp_mono (u_X11_meeting w c1) fun r p => ?_
  by_cases y : mOK v1 v2 v3 v4 v5 v6 v7 (g.1 0 11) (g.1 0 10)
  · obtain ⟨p1, τ1, p2⟩ := p.1 y
    refine ⟨_, _, p2, wp_mono (u_X12_meeting p2) fun s q => ?_⟩
    obtain ⟨q1, q2⟩ := q.1 (by show mOK v1 v2 v3 v4 v5 v6 v7 (g.1 42 25) (g.1 42 27); rw [c3, c2]; exact y)
    refine ⟨?_, _, _, q2, ⟨rfl, ?_⟩, c3, c4, c5, c6, c7, c8, ?_, cA, LWI_of cB rfl (fun j hj => ?_), cC, cD⟩
    · rw [p1, q1]
      show g.1 0 10 = g.1 42 27
      rw [c2]
    · show g.1 42 27 + 1 = g.1 0 10 + 1
      rw [c2]
    · intro i i0 i1
      have i1' : i < g.1 42 27 + 1 := i1
      show 1 ≤ upd (g.2.1 65) (g.1 42 27).toNatClampNeg v6 i.toNatClampNeg
      have r27 := gr_42_27 w
      by_cases e : i = g.1 42 27
      · rw [e, upd_at]
        exact y.2.1.2.1.1
      · have lt : i < g.1 42 27 := by lia
        rw [upd_ne (Nat.ne_of_lt (clamp_lt i0 lt))]
        exact c9 i i0 lt
    · exact gsA_out (by omega)
  · obtain ⟨p1, p2⟩ := p.2 y
    refine ⟨_, _, p2, wp_mono (u_X12_meeting p2) fun s q => ?_⟩
    obtain ⟨q1, q2⟩ := q.2 (by rw [c3, c2]; exact y)
    exact ⟨by rw [p1, q1], _, _, q2, hc⟩
theorem pr_3 {v1 v2 v3 v4 v5 : Int32} (w : WT n b L xs τ g h) (c : CP g) : wp (f_X11_stand 10000 n v1 v2 v3 v4 v5 h) (fun r => ∃ τ1 g1, WT n b L xs τ1 g1 r.2 ∧ wp (f_X12_stand 10000 (n + 42) v1 v2 v3 v4 v5 r.2) (fun s => r.1 = s.1 ∧ IV n b L xs s.2)) := by
  have hc := c
  obtain ⟨⟨c1, c2⟩, c3, c4, c5, c6, c7, c8, c9, cA, cB, cC, cD⟩ := c
  refine wp_mono (u_X11_stand w c1) fun r p => ?_
  by_cases y : sdOK v1 v2 v3 v4 v5 (g.1 0 10)
  · obtain ⟨p1, p2⟩ := p.1 y
    refine ⟨_, _, p2, wp_mono (u_X12_stand p2) fun s q => ?_⟩
    obtain ⟨q1, q2⟩ := q.1 (by rw [c2]; exact y)
    exact ⟨by rw [p1, q1], _, _, q2, hc⟩
  · obtain ⟨p1, p2⟩ := p.2 y
    refine ⟨_, _, p2, wp_mono (u_X12_stand p2) fun s q => ?_⟩
    obtain ⟨q1, q2⟩ := q.2 (by rw [c2]; exact y)
    exact ⟨by rw [p1, q1], _, _, q2, hc⟩
theorem pr_4 {v1 v2 : Int32} (w : WT n b L xs τ g h) (c : CP g) : wp (f_X11_look 10000 n v1 v2 h) (fun r => ∃ τ1 g1, WT n b L xs τ1 g1 r.2 ∧ wp (f_X12_look 10000 (n + 42) v1 v2 r.2) (fun s => IV n b L xs s.2)) := by
  have hc := c
  obtain ⟨⟨c1, c2⟩, c3, c4, c5, c6, c7, c8, c9, cA, cB, cC, cD⟩ := c
  refine wp_mono (t_X11_look w) fun r p => ?_
  have w1 := p
  exact ⟨_, _, w1, wp_mono (t_X12_look w1 c9) fun s q => ⟨_, _, q, hc⟩⟩
theorem pr_6 {v1 v2 v3 : Int64} (w : WT n b L xs τ g h) (c : CP g) : wp (f_X11_feed 10000 n v1 v2 v3 h) (fun r => ∃ τ1 g1, WT n b L xs τ1 g1 r.2 ∧ wp (f_X12_feed 10000 (n + 42) v1 v2 v3 r.2) (fun s => r.1 = s.1 ∧ IV n b L xs s.2)) := by
  have hc := c
  obtain ⟨⟨c1, c2⟩, c3, c4, c5, c6, c7, c8, c9, cA, cB, cC, cD⟩ := c
  refine wp_mono (u_X11_feed w) fun r p => ?_
  obtain ⟨p1, f, p2⟩ := p
  refine ⟨_, _, p2, wp_mono (u_X12_feed p2) fun s q => ?_⟩
  obtain ⟨q1, q2⟩ := q
  refine ⟨?_, _, _, q2, ⟨c1, c2⟩, c3, c4, c5, c6, ?_, c8, c9, cA, LWI_of cB rfl (fun j hj => ?_), cC, cD⟩
  · rw [p1, q1]
    show _ = fz v3 8 (fz v2 8 (fz v1 8 (g.1 42 2)))
    rw [c7]
  · show fz v3 8 (fz v2 8 (fz v1 8 (g.1 42 2))) = fz v3 8 (fz v2 8 (fz v1 8 (g.1 3 2)))
    rw [c7]
  · show (gsA (gset g 3 2 _) 4 f).2.1 j = _
    exact gsA_out (by omega)
theorem pr_7 {v : Int32} (w : WT n b L xs τ g h) (c : CP g) : wp (f_X11_law 10000 n v h) (fun r => ∃ τ1 g1, WT n b L xs τ1 g1 r.2 ∧ wp (f_X12_law 10000 (n + 42) v r.2) (fun s => IV n b L xs s.2)) := by
  have hc := c
  obtain ⟨⟨c1, c2⟩, c3, c4, c5, c6, c7, c8, c9, cA, cB, cC, cD⟩ := c
  refine wp_mono (u_X11_law w) fun r p => ?_
  obtain ⟨τ1, g1, w1, s1, s2, s3⟩ := p
  have s3' : g1.2.1 = g.2.1 := by rw [s3]
  have l1 : LWI g1 := LWI_1 cB (by rw [s1 42 (by decide) (by decide) (by decide)]) s3'
  refine ⟨τ1, g1, w1, wp_mono (u_X12_law w1 l1) fun s q => ?_⟩
  obtain ⟨g2, w2, ⟨r1, r2, r3, r4⟩, l2⟩ := q
  have e0 : g2.1 0 = g.1 0 := (r1 0 (by decide)).trans (s1 0 (by decide) (by decide) (by decide))
  have e1 : g2.1 1 = g.1 1 := (r1 1 (by decide)).trans (s1 1 (by decide) (by decide) (by decide))
  have e14 : g2.1 14 = g.1 14 := (r1 14 (by decide)).trans (s1 14 (by decide) (by decide) (by decide))
  have e25 : g2.1 25 = g.1 25 := (r1 25 (by decide)).trans (s1 25 (by decide) (by decide) (by decide))
  have e33 : g2.1 33 = g.1 33 := (r1 33 (by decide)).trans (s1 33 (by decide) (by decide) (by decide))
  have e3 : g2.1 3 2 = 0 := (congrFun (r1 3 (by decide)) 2).trans s2
  have e42 : ∀ k, k ≠ 2 → k ≠ 7 → k ≠ 8 → k ≠ 10 → k ≠ 17 → k ≠ 19 → g2.1 42 k = g.1 42 k := fun k a1 a2 a3 a4 a5 a6 => (r2 k a1 a2 a3 a4 a5 a6).trans (by rw [s1 42 (by decide) (by decide) (by decide)])
  have f27 := e42 27 (by decide) (by decide) (by decide) (by decide) (by decide) (by decide)
  have ar : ∀ j, j ≠ 44 → j ≠ 50 → j ≠ 51 → j ≠ 53 → j ≠ 55 → j ≠ 56 → g2.2.1 j = g.2.1 j := fun j a1 a2 a3 a4 a5 a6 => (r4 j a1 a2 a3 a4 a5 a6).trans (by rw [s3'])
  refine ⟨_, g2, w2, ⟨by rw [e1, e0]; exact c1, by rw [f27, e0]; exact c2⟩, ?_, ?_, ?_, ?_, by rw [r3, e3], ?_, ?_, ?_, l2, ?_, ?_⟩
  · rw [e42 25 (by decide) (by decide) (by decide) (by decide) (by decide) (by decide), e0]; exact c3
  · rw [e42 49 (by decide) (by decide) (by decide) (by decide) (by decide) (by decide), e14]; exact c4
  · rw [e42 67 (by decide) (by decide) (by decide) (by decide) (by decide) (by decide), e25]; exact c5
  · rw [e42 76 (by decide) (by decide) (by decide) (by decide) (by decide) (by decide), e33]; exact c6
  · unfold HU
    rw [ar 90 (by decide) (by decide) (by decide) (by decide) (by decide) (by decide), ar 91 (by decide) (by decide) (by decide) (by decide) (by decide) (by decide), ar 31 (by decide) (by decide) (by decide) (by decide) (by decide) (by decide), ar 32 (by decide) (by decide) (by decide) (by decide) (by decide) (by decide)]
    exact c8
  · unfold PA
    rw [f27, ar 65 (by decide) (by decide) (by decide) (by decide) (by decide) (by decide)]
    exact c9
  · unfold HS
    rw [ar 82 (by decide) (by decide) (by decide) (by decide) (by decide) (by decide), ar 83 (by decide) (by decide) (by decide) (by decide) (by decide) (by decide)]
    exact cA
  · unfold HQ HC
    rw [e25, ar 26 (by decide) (by decide) (by decide) (by decide) (by decide) (by decide), ar 27 (by decide) (by decide) (by decide) (by decide) (by decide) (by decide), ar 28 (by decide) (by decide) (by decide) (by decide) (by decide) (by decide), ar 88 (by decide) (by decide) (by decide) (by decide) (by decide) (by decide), ar 89 (by decide) (by decide) (by decide) (by decide) (by decide) (by decide)]
    exact cC
  · unfold CQ CR
    rw [ar 21 (by decide) (by decide) (by decide) (by decide) (by decide) (by decide), ar 22 (by decide) (by decide) (by decide) (by decide) (by decide) (by decide), ar 23 (by decide) (by decide) (by decide) (by decide) (by decide) (by decide), ar 81 (by decide) (by decide) (by decide) (by decide) (by decide) (by decide), ar 82 (by decide) (by decide) (by decide) (by decide) (by decide) (by decide), ar 83 (by decide) (by decide) (by decide) (by decide) (by decide) (by decide), ar 84 (by decide) (by decide) (by decide) (by decide) (by decide) (by decide), ar 85 (by decide) (by decide) (by decide) (by decide) (by decide) (by decide), ar 86 (by decide) (by decide) (by decide) (by decide) (by decide) (by decide)]
    exact cD
theorem pr_8 {v1 v2 v3 : Int32} (w : WT n b L xs τ g h) (c : CP g) : wp (f_X11_whose 10000 n v1 v2 v3 h) (fun r => ∃ τ1 g1, WT n b L xs τ1 g1 r.2 ∧ wp (f_X12_whose 10000 (n + 42) v1 v2 v3 r.2) (fun s => IV n b L xs s.2)) := by
  have hc := c
  obtain ⟨⟨c1, c2⟩, c3, c4, c5, c6, c7, c8, c9, cA, cB, cC, cD⟩ := c
  refine wp_mono (t_X11_whose w) fun r p => ?_
  have w1 := p
  exact ⟨_, _, w1, wp_mono (u_X12_whose w1 cB c9) fun s q => ⟨_, _, q, hc⟩⟩
theorem pr_9 {v1 v2 : Int32} (w : WT n b L xs τ g h) (c : CP g) : wp (f_X11_changes 10000 n v1 v2 h) (fun r => ∃ τ1 g1, WT n b L xs τ1 g1 r.2 ∧ wp (f_X12_changes 10000 (n + 42) v1 v2 r.2) (fun s => IV n b L xs s.2)) := by
  have hc := c
  obtain ⟨⟨c1, c2⟩, c3, c4, c5, c6, c7, c8, c9, cA, cB, cC, cD⟩ := c
  refine wp_mono (t_X11_changes w) fun r p => ?_
  have w1 := p
  exact ⟨_, _, w1, wp_mono (u_X12_changes w1 cB c9) fun s q => ⟨_, _, q, hc⟩⟩
theorem pr_10 {v1 v2 : Int32} (w : WT n b L xs τ g h) (c : CP g) (hb : v2 = 0 ∨ v2 = 1) : wp (f_X11_ruling 10000 n v1 v2 h) (fun r => ∃ τ1 g1, WT n b L xs τ1 g1 r.2 ∧ wp (f_X12_ruling 10000 (n + 42) v1 v2 r.2) (fun s => r.1 = s.1 ∧ IV n b L xs s.2)) := by
  have hc := c
  obtain ⟨⟨c1, c2⟩, c3, c4, c5, c6, c7, c8, c9, cA, cB, cC, cD⟩ := c
  refine wp_mono (u_X11_ruling w c1 hb) fun r p => ?_
  by_cases y : rOK v1 (g.1 0 10) (g.1 14 5)
  · obtain ⟨p1, p2⟩ := p.1 y
    refine ⟨_, _, p2, wp_mono (u_X12_ruling p2 hb) fun s q => ?_⟩
    obtain ⟨q1, q2⟩ := q.1 (by show rOK v1 (g.1 42 27) (g.1 42 49); rw [c2, c4]; exact y)
    refine ⟨by rw [p1, q1], _, _, q2, ⟨c1, c2⟩, c3, ?_, c5, c6, c7, c8, c9, cA, LWI_1 cB rfl rfl, cC, cD⟩
    show g.1 42 49 + 1 = g.1 14 5 + 1
    rw [c4]
  · obtain ⟨p1, p2⟩ := p.2 y
    refine ⟨_, _, p2, wp_mono (u_X12_ruling p2 hb) fun s q => ?_⟩
    obtain ⟨q1, q2⟩ := q.2 (by rw [c2, c4]; exact y)
    exact ⟨by rw [p1, q1], _, _, q2, hc⟩
theorem pr_11 {v1 : Int32} (w : WT n b L xs τ g h) (c : CP g) : wp (f_X11_customs 10000 n v1 h) (fun r => ∃ τ1 g1, WT n b L xs τ1 g1 r.2 ∧ wp (f_X12_customs 10000 (n + 42) v1 r.2) (fun s => IV n b L xs s.2)) := by
  have hc := c
  obtain ⟨⟨c1, c2⟩, c3, c4, c5, c6, c7, c8, c9, cA, cB, cC, cD⟩ := c
  refine wp_mono (t_X11_customs w) fun r p => ?_
  have w1 := p
  exact ⟨_, _, w1, wp_mono (t_X12_customs w1 c9) fun s q => ⟨_, _, q, hc⟩⟩
theorem pr_12 {v1 v2 : Int32} (w : WT n b L xs τ g h) (c : CP g) : wp (f_X11_held 10000 n v1 v2 h) (fun r => ∃ τ1 g1, WT n b L xs τ1 g1 r.2 ∧ wp (f_X12_held 10000 (n + 42) v1 v2 r.2) (fun s => IV n b L xs s.2)) := by
  have hc := c
  obtain ⟨⟨c1, c2⟩, c3, c4, c5, c6, c7, c8, c9, cA, cB, cC, cD⟩ := c
  refine wp_mono (t_X11_held w) fun r p => ?_
  have w1 := p
  exact ⟨_, _, w1, wp_mono (t_X12_held w1 c9) fun s q => ⟨_, _, q.2, hc⟩⟩
theorem pr_13 {v1 : Int32} (w : WT n b L xs τ g h) (c : CP g) : wp (f_X11_since 10000 n v1 h) (fun r => ∃ τ1 g1, WT n b L xs τ1 g1 r.2 ∧ wp (f_X12_since 10000 (n + 42) v1 r.2) (fun s => IV n b L xs s.2)) := by
  have hc := c
  obtain ⟨⟨c1, c2⟩, c3, c4, c5, c6, c7, c8, c9, cA, cB, cC, cD⟩ := c
  refine wp_mono (t_X11_since w) fun r p => ?_
  have w1 := p
  exact ⟨_, _, w1, wp_mono (t_X12_since w1 c9) fun s q => ⟨_, _, q, hc⟩⟩
theorem pr_14 {v1 v2 v3 v4 v5 : Int32} (w : WT n b L xs τ g h) (c : CP g) : wp (f_X11_stream 10000 n v1 v2 v3 v4 v5 h) (fun r => ∃ τ1 g1, WT n b L xs τ1 g1 r.2 ∧ wp (f_X12_stream 10000 (n + 42) v1 v2 v3 v4 v5 r.2) (fun s => r.1 = s.1 ∧ IV n b L xs s.2)) := by
  have hc := c
  obtain ⟨⟨c1, c2⟩, c3, c4, c5, c6, c7, c8, c9, cA, cB, cC, cD⟩ := c
  refine wp_mono (u_X11_stream w) fun r p => ?_
  by_cases y : srOK v1 v2 v3 v4 v5
  · obtain ⟨p1, p2⟩ := p.1 y
    refine ⟨_, _, p2, wp_mono (u_X12_stream p2) fun s q => ?_⟩
    obtain ⟨q1, q2⟩ := q.1 y
    refine ⟨by rw [p1, q1], _, _, q2, ⟨c1, c2⟩, c3, c4, c5, c6, c7, c8, c9, ?_, LWI_of cB rfl (fun j hj => ?_), cC, ?_, ?_, ?_⟩
    · intro i i0 i1
      show upd (g.2.1 82) v1.toNatClampNeg v2 i.toNatClampNeg = 0 ∨ ¬ upd (g.2.1 83) v1.toNatClampNeg v3 i.toNatClampNeg = 0
      by_cases e : i.toNatClampNeg = v1.toNatClampNeg
      · rw [e, upd_at, upd_at]
        rcases y.2.1 with z | z
        · exact Or.inl z
        · exact Or.inr (by have := z.2.1; lia)
      · rw [upd_ne e, upd_ne e]
        exact cA i i0 i1
    · exact (gsA_out (by omega)).trans ((gsA_out (by omega)).trans ((gsA_out (by omega)).trans ((gsA_out (by omega)).trans ((gsA_out (by omega)).trans ((gsA_out (by omega)).trans (gsA_out (by omega)))))))
    · intro s hs
      show upd (g.2.1 81) v1.toNatClampNeg 1 s = (if 0 < upd (g.2.1 21) v1.toNatClampNeg (needC v2 v3 v4) s then 1 else 0)
      by_cases e : s = v1.toNatClampNeg
      · rw [e, upd_at, upd_at, if_pos (need_pos y.2.2.1.1)]
      · rw [upd_ne e, upd_ne e]
        exact cD.1 s hs
    · intro s hs t
      have t' : 0 < upd (g.2.1 21) v1.toNatClampNeg (needC v2 v3 v4) s := t
      show needS (upd (g.2.1 82) v1.toNatClampNeg v2 s) (upd (g.2.1 83) v1.toNatClampNeg v3 s) (upd (g.2.1 84) v1.toNatClampNeg v4 s) = upd (g.2.1 21) v1.toNatClampNeg (needC v2 v3 v4) s ∧ (upd (g.2.1 82) v1.toNatClampNeg v2 s = 0 ∨ ¬ upd (g.2.1 83) v1.toNatClampNeg v3 s = 0) ∧ upd (g.2.1 85) v1.toNatClampNeg v5 s = upd (g.2.1 22) v1.toNatClampNeg v5 s
      by_cases e : s = v1.toNatClampNeg
      · rw [e, upd_at, upd_at, upd_at, upd_at, upd_at, upd_at]
        refine ⟨need_eq y.2.2.1.1, ?_, rfl⟩
        rcases y.2.1 with z | z
        · exact Or.inl z
        · exact Or.inr (by have := z.2.1; lia)
      · rw [upd_ne e] at t'
        rw [upd_ne e, upd_ne e, upd_ne e, upd_ne e, upd_ne e, upd_ne e]
        exact cD.2.1 s hs t'
    · exact cD.2.2
  · obtain ⟨p1, p2⟩ := p.2 y
    refine ⟨_, _, p2, wp_mono (u_X12_stream p2) fun s q => ?_⟩
    obtain ⟨q1, q2⟩ := q.2 y
    exact ⟨by rw [p1, q1], _, _, q2, hc⟩
theorem pr_15 {v1 v2 v3 : Int32} (w : WT n b L xs τ g h) (c : CP g) (hb : v3 = 0 ∨ v3 = 1) : wp (f_X11_together 10000 n v1 v2 v3 h) (fun r => ∃ τ1 g1, WT n b L xs τ1 g1 r.2 ∧ wp (f_X12_together 10000 (n + 42) v1 v2 v3 r.2) (fun s => r.1 = s.1 ∧ IV n b L xs s.2)) := by
  have hc := c
  obtain ⟨⟨c1, c2⟩, c3, c4, c5, c6, c7, c8, c9, cA, cB, cC, cD⟩ := c
  refine wp_mono (u_X11_together w) fun r p => ?_
  by_cases y : tgOK v1 v2
  · obtain ⟨p1, p2⟩ := p.1 y
    refine ⟨_, _, p2, wp_mono (u_X12_together p2 hb) fun s q => ?_⟩
    obtain ⟨q1, q2⟩ := q.1 (by exact y)
    obtain ⟨y1, y2, y3⟩ := y
    have a4 : v1.toNatClampNeg < 4 := (i32_clamp y1.1 (N := 4) (by decide) (by show v1 < 4; lia)).2
    have b4 : v2.toNatClampNeg < 4 := (i32_clamp y2.1 (N := 4) (by decide) (by show v2 < 4; lia)).2
    have ea : nI v1.toNatClampNeg = v1 := i32_nI y1.1
    have eb : nI v2.toNatClampNeg = v2 := i32_nI y2.1
    have ne : v1.toNatClampNeg ≠ v2.toNatClampNeg := fun z => y3 (by rw [← ea, ← eb, z])
    have i1 : (4 * v1 + v2).toNatClampNeg = 4 * v1.toNatClampNeg + v2.toNatClampNeg := by
      have e4 : (4 : Int32) = nI 4 := rfl
      rw [← nI_clamp (show 4 * v1.toNatClampNeg + v2.toNatClampNeg < 2 ^ 31 by omega), ← nI_add, ← hI_mul, ea, eb, ← e4]
    have i2 : (4 * v2 + v1).toNatClampNeg = 4 * v2.toNatClampNeg + v1.toNatClampNeg := by
      have e4 : (4 : Int32) = nI 4 := rfl
      rw [← nI_clamp (show 4 * v2.toNatClampNeg + v1.toNatClampNeg < 2 ^ 31 by omega), ← nI_add, ← hI_mul, ea, eb, ← e4]
    have mb := mates_both (v := v3) a4 b4 ne (fun s hs => rg_23 w hs) cD.2.2
    rw [ea, eb] at mb
    refine ⟨by rw [p1, q1], _, _, q2, ⟨c1, c2⟩, c3, c4, c5, c6, c7, c8, c9, cA, LWI_of cB rfl (fun j hj => ?_), cC, cD.1, cD.2.1, ?_⟩
    · exact (gsA_out (by omega)).trans (gsA_out (by omega))
    · intro s q hs hq sq
      show upd (upd (g.2.1 86) (4 * v1 + v2).toNatClampNeg v3) (4 * v2 + v1).toNatClampNeg v3 (4 * s + q) = 0 ↔ _
      rw [i1, i2]
      exact mb s q hs hq sq
  · obtain ⟨p1, p2⟩ := p.2 y
    refine ⟨_, _, p2, wp_mono (u_X12_together p2 hb) fun s q => ?_⟩
    obtain ⟨q1, q2⟩ := q.2 (by exact y)
    exact ⟨by rw [p1, q1], _, _, q2, hc⟩
theorem pr_16 {v1 v2 : Int32} (w : WT n b L xs τ g h) (c : CP g) : wp (f_X11_lights 10000 n v1 v2 h) (fun r => ∃ τ1 g1, WT n b L xs τ1 g1 r.2 ∧ wp (f_X12_lights 10000 (n + 42) v1 v2 r.2) (fun s => r.1 = s.1 ∧ IV n b L xs s.2)) := by
  have hc := c
  obtain ⟨⟨c1, c2⟩, c3, c4, c5, c6, c7, c8, c9, cA, cB, cC, cD⟩ := c
  refine wp_mono (v_X11_lights w ⟨rfl, rfl, rfl⟩) fun r p => ?_
  obtain ⟨g1, w1, cg, p1, p2⟩ := p
  refine ⟨_, g1, w1, wp_mono (v_X12_lights w1 (CR_CG cD cg)) fun s q => ?_⟩
  obtain ⟨g2, w2, cg2, q1, q2⟩ := q
  refine ⟨?_, _, g2, w2, CP_CG (CP_CG hc cg) cg2⟩
  by_cases y : (0 ≤ v1 ∧ v1 ≤ 9) ∧ (0 ≤ v2 ∧ v2 ≤ 9)
  · rw [p2 y, q2 y]
  · rw [p1 y, q1 y]
theorem pr_17 {v : Int32} (w : WT n b L xs τ g h) (c : CP g) : wp (f_X11_voters 10000 n v h) (fun r => ∃ τ1 g1, WT n b L xs τ1 g1 r.2 ∧ wp (f_X12_voters 10000 (n + 42) v r.2) (fun s => r.1 = s.1 ∧ IV n b L xs s.2)) := by
  have hc := c
  obtain ⟨⟨c1, c2⟩, c3, c4, c5, c6, c7, c8, c9, cA, cB, cC, cD⟩ := c
  obtain ⟨⟨C, hC, eC, eA, eY⟩, k1, k2, k3⟩ := cC
  refine wp_mono (u_X11_voters w) fun r p => ?_
  by_cases y : voOK v (g.1 25 6)
  · obtain ⟨p1, p2⟩ := p.1 y
    refine ⟨_, _, p2, wp_mono (u_X12_voters p2) fun s q => ?_⟩
    obtain ⟨q1, F, q2, f1, f2⟩ := q.1 (by show voOK v (g.1 42 67); rw [c5]; exact y)
    have clC : (g.1 25 6).toNatClampNeg = C := by rw [eC, nI_clamp (by omega)]
    have cl42 : (g.1 42 67).toNatClampNeg = C := by rw [c5]; exact clC
    have C8 : C < 8 := by
      have : C ≠ 8 := fun e => by
        have z := y.2
        rw [eC, e] at z
        exact absurd z (by decide)
      omega
    have f1' : ∀ k, 9 * C ≤ k → k < 9 * C + 9 → F k = 0 := fun k a1 a2 => f1 k (by show 9 * (g.1 42 67).toNatClampNeg ≤ k; rw [cl42]; exact a1) (by show k < 9 * (g.1 42 67).toNatClampNeg + 9; rw [cl42]; exact a2)
    have f2' : ∀ k, ¬ (9 * C ≤ k ∧ k < 9 * C + 9) → F k = g.2.1 89 k := fun k a => f2 k (by show ¬ (9 * (g.1 42 67).toNatClampNeg ≤ k ∧ k < 9 * (g.1 42 67).toNatClampNeg + 9); rw [cl42]; exact a)
    refine ⟨?_, _, _, q2, ⟨c1, c2⟩, c3, c4, ?_, c6, c7, c8, c9, cA, LWI_of cB rfl (fun j hj => ?_), ⟨⟨C + 1, by omega, ?_, ?_, fun z => ?_⟩, fun v hv => ?_, fun k hk => ?_, fun C' k e l hk => ?_⟩, cD⟩
    · rw [p1, q1]
      show g.1 25 6 = g.1 42 67
      rw [c5]
    · show g.1 42 67 + 1 = g.1 25 6 + 1
      rw [c5]
    · exact (gsA_out (by omega)).trans ((gsA_out (by omega)).trans (gsA_out (by omega)))
    · show g.1 25 6 + 1 = nI (C + 1)
      rw [eC, nI_1]
    · show g.1 25 5 + v = allS (upd (g.2.1 26) (g.1 25 6).toNatClampNeg v) (C + 1)
      rw [clC]
      show _ = allS (upd (g.2.1 26) C v) C + upd (g.2.1 26) C v C
      rw [hu_at, allS_congr C (fun u hu => hu_ne (by omega)), eA]
    · have z' : (1 : Int32) = 0 := z
      exact absurd z' (by decide)
    · show upd (g.2.1 88) (g.1 42 67).toNatClampNeg _ v = upd (g.2.1 26) (g.1 25 6).toNatClampNeg _ v
      rw [clC, cl42]
      by_cases e : v = C
      · rw [e, hu_at, hu_at]
      · rw [hu_ne e, hu_ne e]
        exact k1 v hv
    · show F k = g.2.1 27 k
      by_cases e : 9 * C ≤ k ∧ k < 9 * C + 9
      · rw [f1' k e.1 e.2, k3 C k eC hC e.1]
      · rw [f2' k e]
        exact k2 k hk
    · have e' : nI (C + 1) = nI C' := by
        have z : g.1 25 6 + 1 = nI C' := e
        rw [eC, nI_1] at z
        exact z
      have y2 : (nI (C + 1)).toNatClampNeg = (nI C').toNatClampNeg := by rw [e']
      rw [nI_clamp (by omega), nI_clamp (by omega)] at y2
      show g.2.1 27 k = 0
      exact k3 C k eC hC (by omega)
  · obtain ⟨p1, p2⟩ := p.2 y
    refine ⟨_, _, p2, wp_mono (u_X12_voters p2) fun s q => ?_⟩
    obtain ⟨q1, q2⟩ := q.2 (by rw [c5]; exact y)
    exact ⟨by rw [p1, q1], _, _, q2, hc⟩
theorem pr_18 {v1 v2 v3 : Int32} (w : WT n b L xs τ g h) (c : CP g) : wp (f_X11_leans 10000 n v1 v2 v3 h) (fun r => ∃ τ1 g1, WT n b L xs τ1 g1 r.2 ∧ wp (f_X12_leans 10000 (n + 42) v1 v2 v3 r.2) (fun s => r.1 = s.1 ∧ IV n b L xs s.2)) := by
  have hc := c
  obtain ⟨⟨c1, c2⟩, c3, c4, c5, c6, c7, c8, c9, cA, cB, cC, cD⟩ := c
  obtain ⟨⟨C, hC, eC, eA, eY⟩, k1, k2, k3⟩ := cC
  refine wp_mono (u_X11_leans w) fun r p => ?_
  by_cases y : lnOK v1 v2 v3 (g.1 25 6)
  · obtain ⟨p1, p2⟩ := p.1 y
    refine ⟨_, _, p2, wp_mono (u_X12_leans p2) fun s q => ?_⟩
    obtain ⟨q1, q2⟩ := q.1 (by show lnOK v1 v2 v3 (g.1 42 67); rw [c5]; exact y)
    have m1 : v1 * 9 = 9 * v1 := Int32.mul_comm _ _
    have rr := gr_25_6 w
    refine ⟨by rw [p1, q1], _, _, q2, ⟨c1, c2⟩, c3, c4, c5, c6, c7, c8, c9, cA, LWI_of cB rfl (fun j hj => ?_), ⟨⟨C, hC, eC, eA, fun z => ?_⟩, k1, fun k hk => ?_, fun C' k e l hk => ?_⟩, cD⟩
    · exact (gsA_out (by omega)).trans (gsA_out (by omega))
    · have z' : (1 : Int32) = 0 := z
      exact absurd z' (by decide)
    · show upd (g.2.1 89) (9 * v1 + v2).toNatClampNeg v3 k = upd (g.2.1 27) (v1 * 9 + v2).toNatClampNeg v3 k
      rw [m1]
      by_cases e : k = (9 * v1 + v2).toNatClampNeg
      · rw [e, hu_at, hu_at]
      · rw [hu_ne e, hu_ne e]
        exact k2 k hk
    · show upd (g.2.1 27) (v1 * 9 + v2).toNatClampNeg v3 k = 0
      have e1 : g.1 25 6 = nI C' := e
      have ix : (v1 * 9 + v2).toNatClampNeg < 9 * C' := by
        have y1 := y.1
        have y2 := y.2.1
        rw [e1] at y1
        have l1 : v1 * 9 + v2 < nI (9 * C') := by
          have e9 : nI (9 * C') = 9 * nI C' := by rw [show (9 : Int32) = nI 9 from rfl, hI_mul]
          have rC := nI_r l (by decide : 8 < 2 ^ 31)
          have e8 : nI 8 = 8 := rfl
          rw [e9]
          lia
        have l0 : 0 ≤ v1 * 9 + v2 := by
          have rC := nI_r l (by decide : 8 < 2 ^ 31)
          have e8 : nI 8 = 8 := rfl
          lia
        have z := clamp_lt l0 l1
        rwa [nI_clamp (by omega)] at z
      rw [hu_ne (by omega)]
      exact k3 C' k e1 l hk
  · obtain ⟨p1, p2⟩ := p.2 y
    refine ⟨_, _, p2, wp_mono (u_X12_leans p2) fun s q => ?_⟩
    obtain ⟨q1, q2⟩ := q.2 (by rw [c5]; exact y)
    exact ⟨by rw [p1, q1], _, _, q2, hc⟩
theorem pr_19 {v1 : Int32} (w : WT n b L xs τ g h) (c : CP g) : wp (f_X11_passes 10000 n v1 h) (fun r => ∃ τ1 g1, WT n b L xs τ1 g1 r.2 ∧ wp (f_X12_passes 10000 (n + 42) v1 r.2) (fun s => r.1 = s.1 ∧ IV n b L xs s.2)) := by
  have hc := c
  obtain ⟨⟨c1, c2⟩, c3, c4, c5, c6, c7, c8, c9, cA, cB, cC, cD⟩ := c
  refine wp_mono (v_X11_passes w cC.1) fun r p => ?_
  obtain ⟨g', w1, hg, hc1, p1, p2⟩ := p
  have c' := CP_HG hc hg hc1
  obtain ⟨⟨C, hC, eC, eA, eY⟩, k1, k2, k3⟩ := cC
  have e42 : g'.1 42 67 = nI C := by rw [hg.1 42 (by decide), c5, eC]
  refine ⟨_, g', w1, wp_mono (v_X12_passes e42 hC w1) fun s q => ?_⟩
  obtain ⟨w2, q1, q2⟩ := q
  refine ⟨?_, _, _, w2, c'⟩
  by_cases y : 0 ≤ v1 ∧ v1 ≤ 511
  · rw [p2 y C eC hC, q2 y, hg.2.2.1 88 (by decide) (by decide), hg.2.2.1 89 (by decide) (by decide)]
    have z := yesS_congr (heads := g.2.1 26) (heads' := g.2.1 88) (lean := g.2.1 27) (lean' := g.2.1 89) (s := v1.toNatClampNeg) C (fun v hv => k1 v (by omega)) (fun k hk => k2 k (by omega))
    rw [z.1, z.2]
  · rw [p1 y, q1 y]
theorem pr_20 {v1 : Int32} (w : WT n b L xs τ g h) (c : CP g) : wp (f_X11_most 10000 n v1 h) (fun r => ∃ τ1 g1, WT n b L xs τ1 g1 r.2 ∧ wp (f_X12_most 10000 (n + 42) v1 r.2) (fun s => r.1 = s.1 ∧ IV n b L xs s.2)) := by
  have hc := c
  obtain ⟨⟨c1, c2⟩, c3, c4, c5, c6, c7, c8, c9, cA, cB, cC, cD⟩ := c
  obtain ⟨⟨C, hC, eC, eA, eY⟩, k1, k2, k3⟩ := cC
  refine wp_mono (e_X11_most w ⟨C, hC, eC, eA, eY⟩ eC hC) fun r p => ?_
  obtain ⟨g', w1, hg, hc1, p1, p2⟩ := p
  have c' := CP_HG hc hg hc1
  have e42 : g'.1 42 67 = nI C := by rw [hg.1 42 (by decide), c5, eC]
  refine ⟨_, g', w1, wp_mono (e_X12_most e42 hC w1) fun s q => ?_⟩
  obtain ⟨w2, q1, q2⟩ := q
  refine ⟨?_, _, _, w2, c'⟩
  by_cases y : 0 ≤ v1 ∧ v1 ≤ 511
  · have b1 := p2 y
    have b2 := q2 y
    rw [hg.2.2.1 88 (by decide) (by decide), hg.2.2.1 89 (by decide) (by decide)] at b2
    have eP : okS v1 (g.2.1 88) (g.2.1 89) C = okS v1 (g.2.1 26) (g.2.1 27) C := funext fun s => propext (okS_congr (fun v hv => k1 v (by omega)) (fun k hk => k2 k (by omega)) s)
    have eY : (fun s => yesS (g.2.1 88) (g.2.1 89) s C) = (fun s => yesS (g.2.1 26) (g.2.1 27) s C) := funext fun s => (yesS_congr C (fun v hv => k1 v (by omega)) (fun k hk => k2 k (by omega))).1
    rw [eP, eY] at b2
    have e5 : nI v1.toNatClampNeg = v1 := i32_nI y.1
    have cl := i32_clamp (i := v1) y.1 (N := 512) (by decide) (by show v1 < 512; lia)
    have b3 : Best (okS v1 (g.2.1 26) (g.2.1 27) C) (fun s => yesS (g.2.1 26) (g.2.1 27) s C) (fun s => s < 512) s.1 := by
      rcases b2 with ⟨d1, d2⟩ | ⟨m, d0, d1, d2, d3, d4⟩
      · refine Or.inl ⟨d1, fun s hs z => d2 s ?_ z⟩
        have zz := z.1
        rw [← e5] at zz
        exact Nat.lt_succ_of_le (sub_le hs cl.2 zz)
      · refine Or.inr ⟨m, d0, d1, d0, d3, fun s hs z => d4 s ?_ z⟩
        have zz := z.1
        rw [← e5] at zz
        exact Nat.lt_succ_of_le (sub_le hs cl.2 zz)
    exact Best_uniq (fun s _ => Iff.rfl) b1 b3
  · rw [p1 y, q1 y]
theorem pr_21 {v1 v2 v3 v4 : Int32} (w : WT n b L xs τ g h) (c : CP g) : wp (f_X11_counted 10000 n v1 v2 v3 v4 h) (fun r => ∃ τ1 g1, WT n b L xs τ1 g1 r.2 ∧ wp (f_X12_counted 10000 (n + 42) v1 v2 v3 v4 r.2) (fun s => r.1 = s.1 ∧ IV n b L xs s.2)) := by
  have hc := c
  obtain ⟨⟨c1, c2⟩, c3, c4, c5, c6, c7, c8, c9, cA, cB, cC, cD⟩ := c
  refine wp_mono (u_X11_counted w) fun r p => ?_
  by_cases y : coOK v1 v2 v3 v4
  · obtain ⟨p1, p2⟩ := p.1 y
    refine ⟨_, _, p2, wp_mono (u_X12_counted p2) fun s q => ?_⟩
    obtain ⟨q1, q2⟩ := q.1 y
    have m1 : v1 * 31 = 31 * v1 := Int32.mul_comm _ _
    refine ⟨by rw [p1, q1], _, _, q2, ⟨c1, c2⟩, c3, c4, c5, c6, c7, ⟨?_, fun i hi => ?_, fun i => ?_⟩, c9, cA, LWI_of cB rfl (fun j hj => ?_), cC, cD⟩
    · show upd (g.2.1 90) (31 * v1 + v2).toNatClampNeg v3 = upd (g.2.1 31) (v1 * 31 + v2).toNatClampNeg v3
      rw [m1, c8.1]
    · have hi' : ¬ upd (g.2.1 31) (v1 * 31 + v2).toNatClampNeg v3 i = -1 := hi
      show upd (g.2.1 91) (31 * v1 + v2).toNatClampNeg (if v3 = -1 then 0 else v4) i = upd (g.2.1 32) (v1 * 31 + v2).toNatClampNeg v4 i
      rw [m1] at hi' ⊢
      by_cases e : i = (31 * v1 + v2).toNatClampNeg
      · rw [e, upd_at] at hi'
        rw [e, upd_at, upd_at, if_neg hi']
      · rw [upd_ne e] at hi'
        rw [upd_ne e, upd_ne e]
        exact c8.2.1 i hi'
    · show upd (g.2.1 31) (v1 * 31 + v2).toNatClampNeg v3 i = -1 ∨ 0 ≤ upd (g.2.1 31) (v1 * 31 + v2).toNatClampNeg v3 i
      by_cases e : i = (v1 * 31 + v2).toNatClampNeg
      · rw [e, upd_at]
        exact y.2.2.imp id (fun z => z.1.1)
      · rw [upd_ne e]
        exact c8.2.2 i
    · exact (gsA_out (by omega)).trans ((gsA_out (by omega)).trans ((gsA_out (by omega)).trans (gsA_out (by omega))))
  · obtain ⟨p1, p2⟩ := p.2 y
    refine ⟨_, _, p2, wp_mono (u_X12_counted p2) fun s q => ?_⟩
    obtain ⟨q1, q2⟩ := q.2 y
    exact ⟨by rw [p1, q1], _, _, q2, hc⟩
theorem pr_22 {v1 v2 v3 : Int32} (w : WT n b L xs τ g h) (c : CP g) : wp (f_X11_fell 10000 n v1 v2 v3 h) (fun r => wp (f_X12_fell 10000 (n + 42) v1 v2 v3 h) (fun s => r = s.1 ∧ IV n b L xs s.2)) := by
  have hc := c
  obtain ⟨⟨c1, c2⟩, c3, c4, c5, c6, c7, c8, c9, cA, cB, cC, cD⟩ := c
  refine wp_mono (u_X11_fell w) fun r p => wp_mono (u_X12_fell w c8) fun s q => ?_
  by_cases y : flOK v1 v2 v3
  · obtain ⟨q1, q2⟩ := q.1 y
    exact ⟨by rw [p.1 y, q1], _, _, q2, hc⟩
  · obtain ⟨q1, q2⟩ := q.2 y
    exact ⟨by rw [p.2 y, q1], _, _, q2, hc⟩
theorem pr_23 {v1 v2 v3 v4 v5 v6 : Int32} (w : WT n b L xs τ g h) (c : CP g) : wp (f_X11_street 10000 n v1 v2 v3 v4 v5 v6 h) (fun r => ∃ τ1 g1, WT n b L xs τ1 g1 r.2 ∧ wp (f_X12_street 10000 (n + 42) v1 v2 v3 v4 v5 v6 r.2) (fun s => r.1 = s.1 ∧ IV n b L xs s.2)) := by
  have hc := c
  obtain ⟨⟨c1, c2⟩, c3, c4, c5, c6, c7, c8, c9, cA, cB, cC, cD⟩ := c
  refine wp_mono (u_X11_street w) fun r p => ?_
  by_cases y : stOK v1 v2 v3 v4 v5 v6
  · obtain ⟨p1, x, p2⟩ := p.1 y
    refine ⟨_, _, p2, wp_mono (u_X12_street p2) fun s q => ?_⟩
    obtain ⟨q1, q2⟩ := q.1 y
    exact ⟨by rw [p1, q1], _, _, q2, ⟨c1, c2⟩, c3, c4, c5, c6, c7, c8, c9, cA, LWI_1 cB rfl rfl, cC, cD⟩
  · obtain ⟨p1, p2⟩ := p.2 y
    refine ⟨_, _, p2, wp_mono (u_X12_street p2) fun s q => ?_⟩
    obtain ⟨q1, q2⟩ := q.2 y
    exact ⟨by rw [p1, q1], _, _, q2, hc⟩
theorem pr_24 {v1 v2 : Int32} (w : WT n b L xs τ g h) (c : CP g) : wp (f_X11_trip 10000 n v1 v2 h) (fun r => ∃ τ1 g1, WT n b L xs τ1 g1 r.2 ∧ wp (f_X12_trip 10000 (n + 42) v1 v2 r.2) (fun s => r.1 = s.1 ∧ IV n b L xs s.2)) := by
  have hc := c
  obtain ⟨⟨c1, c2⟩, c3, c4, c5, c6, c7, c8, c9, cA, cB, cC, cD⟩ := c
  refine wp_mono (u_X11_trip w) fun r p => ?_
  by_cases y : trOK v1 v2 (g.1 33 10)
  · obtain ⟨p1, p2⟩ := p.1 y
    refine ⟨_, _, p2, wp_mono (u_X12_trip p2) fun s q => ?_⟩
    obtain ⟨q1, q2⟩ := q.1 (by show trOK v1 v2 (g.1 42 76); rw [c6]; exact y)
    refine ⟨?_, _, _, q2, ⟨c1, c2⟩, c3, c4, c5, ?_, c7, c8, c9, cA, LWI_1 cB rfl rfl, cC, cD⟩
    · rw [p1, q1]
      show g.1 33 10 = g.1 42 76
      rw [c6]
    · show g.1 42 76 + 1 = g.1 33 10 + 1
      rw [c6]
  · obtain ⟨p1, p2⟩ := p.2 y
    refine ⟨_, _, p2, wp_mono (u_X12_trip p2) fun s q => ?_⟩
    obtain ⟨q1, q2⟩ := q.2 (by rw [c6]; exact y)
    exact ⟨by rw [p1, q1], _, _, q2, hc⟩
theorem pr_25 {v1 v2 : Int32} (w : WT n b L xs τ g h) (c : CP g) : wp (f_X11_plan 10000 n v1 v2 h) (fun r => ∃ τ1 g1, WT n b L xs τ1 g1 r.2 ∧ wp (f_X12_plan 10000 (n + 42) v1 v2 r.2) (fun s => IV n b L xs s.2)) := by
  have hc := c
  obtain ⟨⟨c1, c2⟩, c3, c4, c5, c6, c7, c8, c9, cA, cB, cC, cD⟩ := c
  refine wp_mono (t_X11_plan w) fun r p => ?_
  have w1 := p
  exact ⟨_, _, w1, wp_mono (t_X12_plan w1) fun s q => ⟨_, _, q, hc⟩⟩
theorem pr_26 {v : Int32} (w : WT n b L xs τ g h) (c : CP g) : wp (f_X11_count 10000 n v h) (fun r => wp (f_X12_count 10000 (n + 42) v h) (fun s => IV n b L xs s.2)) := by
  have hc := c
  obtain ⟨⟨c1, c2⟩, c3, c4, c5, c6, c7, c8, c9, cA, cB, cC, cD⟩ := c
  exact wp_mono (t_X11_count w) fun r _ => wp_mono (t_X12_count w c9) fun s q => ⟨_, _, q, hc⟩
end PAIR
