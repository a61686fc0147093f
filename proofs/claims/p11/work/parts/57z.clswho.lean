/-! the class's whose and changes, exactly -/
section CWH
variable {n b L : Nat} {xs : Nat → Int32} {τ : Nat → Nat} {g : zGh} {h : zH} {N : Nat} {LS : Nat → List LnT} {X Y : Nat → Int32}
def vwC (g : zGh) : Int32 := if g.1 0 12 = -1 then g.1 0 11 else g.1 0 12
def SetQ (g : zGh) : Prop := ∀ k, k < (g.1 0 10).toNatClampNeg → mRow g k 11 = mtF (mRow g k) ∧ mRow g k 12 = fiF (mRow g k)
theorem v_X11_whose {v1 v2 v3 : Int32} (w : WT n b L xs τ g h) (c : LWc τ g N LS X Y) (c1 : g.1 1 0 = g.1 0 10) (sq : SetQ g) : wp (f_X11_whose 10000 n v1 v2 v3 h) (fun r => WT n b L xs τ g r.2 ∧ (whOK v1 v2 v3 (g.1 0 10) → r.1 = sayA (sw g N LS X Y (vwC g) v1.toNatClampNeg v2) (lo1 X Y v2 (vwC g) N) v3) ∧ (¬ whOK v1 v2 v3 (g.1 0 10) → r.1 = -1)) := by
  unfold f_X11_whose
  refine wp_zif (ob_0 w) ?_
  by_cases cm : 0 ≤ v1 ∧ v1 < g.1 0 10
  · obtain ⟨a, ea, ta, ia⟩ := u_mOf_i w c1 cm.1 cm.2
    refine wp_eq ea ?_
    show wp (if p_X11_within v2 0 30 = 0 then _ else _) _
    refine in11 (fun c2 => wp_some ⟨w, fun z => absurd z.2.1 c2, fun _ => rfl⟩) (fun c2 => ?_)
    have hk := clamp_lt cm.1 cm.2
    obtain ⟨r, e, w9, x4, x5, x6, x7⟩ := c_judge (yr := v2) (vw := vwC g) w c ta (congrArg Int32.toNatClampNeg ia) (sq _ hk).1 (sq _ hk).2
    refine wp_eq (gR_0_4 w) ?_
    refine wp_zif (ob_0 w) ?_
    refine wp_eq (show f_X11_viewNow 10000 n h = some (vwC g) from v_view w) ?_
    refine wp_zif (ob_10 w) ?_
    refine wp_eq e ?_
    by_cases d0 : v3 = 0
    · have ok : whOK v1 v2 v3 (g.1 0 10) := ⟨cm, c2, by rw [d0]; decide, by rw [d0]; decide⟩
      rw [if_pos d0]
      refine wp_eq (gR_0_4 w9) ?_
      refine wp_eq x4 (wp_some ⟨w9, fun _ => ?_, fun z => absurd ok z⟩)
      unfold sayA
      rw [if_pos d0]
    rw [if_neg d0]
    by_cases d1 : v3 = 1
    · have ok : whOK v1 v2 v3 (g.1 0 10) := ⟨cm, c2, by rw [d1]; decide, by rw [d1]; decide⟩
      rw [if_pos d1]
      refine wp_eq (gR_0_4 w9) ?_
      refine wp_eq x5 (wp_some ⟨w9, fun _ => ?_, fun z => absurd ok z⟩)
      unfold sayA
      rw [if_neg d0, if_pos d1]
    rw [if_neg d1]
    by_cases d2 : v3 = 2
    · have ok : whOK v1 v2 v3 (g.1 0 10) := ⟨cm, c2, by rw [d2]; decide, by rw [d2]; decide⟩
      rw [if_pos d2]
      refine wp_eq (gR_0_4 w9) ?_
      refine wp_eq x6 (wp_some ⟨w9, fun _ => ?_, fun z => absurd ok z⟩)
      unfold sayA
      rw [if_neg d0, if_neg d1, if_pos d2]
    rw [if_neg d2]
    by_cases d3 : v3 = 3
    · have ok : whOK v1 v2 v3 (g.1 0 10) := ⟨cm, c2, by rw [d3]; decide, by rw [d3]; decide⟩
      rw [if_pos d3]
      refine wp_eq (gR_0_4 w9) ?_
      refine wp_eq x7 (wp_some ⟨w9, fun _ => ?_, fun z => absurd ok z⟩)
      unfold sayA
      rw [if_neg d0, if_neg d1, if_neg d2]
    rw [if_neg d3]
    refine wp_some ⟨w9, fun ok => ?_, fun _ => rfl⟩
    have o := ok.2.2
    exact absurd o.2 (by lia)
  · refine wp_eq (u_mOf_n w cm) ?_
    exact wp_some ⟨w, fun z => absurd z.1 cm, fun _ => rfl⟩
theorem c_changes_L44 {v2 : Int32} {a k : Nat} (c : LWc τ g N LS X Y) (t : τ a = 1) (ia : (g.2.1 1 a).toNatClampNeg = k) (m11 : mRow g k 11 = mtF (mRow g k)) (m12 : mRow g k 12 = fiF (mRow g k)) : ∀ (d y m : Nat) (l : Int32) (h : zH), WT n b L xs τ g h → 1 ≤ y → y + d = 31 → d < m → wp (f_X11_changes_L44 10000 n v2 (some a) m (wy g N LS X Y (vwC g) k (y - 1)) (v2 - l) (nI y) h) (fun r => match r with | .inl x => WT n b L xs τ g x ∧ chS (wy g N LS X Y (vwC g) k) d y l = -1 | .inr x => WT n b L xs τ g x.2 ∧ x.1 = chS (wy g N LS X Y (vwC g) k) d y l) := by
  intro d
  induction d with
  | zero =>
    intro y m l h w h1 hy hm'
    obtain ⟨m, rfl⟩ : ∃ m', m = m' + 1 := ⟨m - 1, by omega⟩
    have ey : y = 31 := by omega
    subst ey
    rw [f_X11_changes_L44.eq_2, if_pos (by decide)]
    exact wp_some ⟨w, rfl⟩
  | succ d ih =>
    intro y m l h w h1 hy hm'
    obtain ⟨m, rfl⟩ : ∃ m', m = m' + 1 := ⟨m - 1, by omega⟩
    have n30 : ¬ (30 : Int32) < nI y := by
      have := nle (show y ≤ 30 by omega) (by decide)
      have e30 : nI 30 = 30 := rfl
      rw [e30] at this
      exact Int32.not_lt.mpr this
    rw [f_X11_changes_L44.eq_2, if_neg n30]
    obtain ⟨r, e, w9, x4, -, -, -⟩ := c_judge (yr := nI y) (vw := vwC g) w c t ia m11 m12
    refine wp_eq (gR_0_4 w) ?_
    refine wp_eq (rfl : (some a : Option Nat) = some a) ?_
    refine wp_zif (ob_0 w) ?_
    refine wp_eq (show f_X11_viewNow 10000 n h = some (vwC g) from v_view w) ?_
    refine wp_zif (ob_10 w) ?_
    refine wp_eq e ?_
    refine wp_eq (gR_0_4 w9) ?_
    have x4' : gI r (n + 10) 1 4 = some (wy g N LS X Y (vwC g) k y) := x4
    refine wp_eq x4' ?_
    have go := fun l => ih (y + 1) m l r w9 (by omega) (by omega) (by omega)
    rw [Nat.add_sub_cancel] at go
    have ec : ∀ l, chS (wy g N LS X Y (vwC g) k) (d + 1) y l = if wy g N LS X Y (vwC g) k y = wy g N LS X Y (vwC g) k (y - 1) then chS (wy g N LS X Y (vwC g) k) d (y + 1) l else if l = 0 then nI y else chS (wy g N LS X Y (vwC g) k) d (y + 1) (l + (-1)) := fun l => rfl
    rw [ec l]
    by_cases z : wy g N LS X Y (vwC g) k y = wy g N LS X Y (vwC g) k (y - 1)
    · rw [if_pos z, if_pos z, Option.bind_some]
      show wp ((gR r n 11 4).bind _) _
      refine wp_eq (gR_0_4 w9) ?_
      refine wp_eq x4' ?_
      rw [nI_1]
      exact go l
    · rw [if_neg z, if_neg z]
      by_cases y0 : l = 0
      · have e0 : v2 - l = v2 := by rw [y0]; lia
        rw [if_pos e0, if_pos y0]
        exact wp_some ⟨w9, rfl⟩
      · have e0 : ¬ v2 - l = v2 := by lia
        rw [if_neg e0, if_neg y0, Option.bind_some]
        show wp ((gR r n 11 4).bind _) _
        refine wp_eq (gR_0_4 w9) ?_
        refine wp_eq x4' ?_
        have e1 : v2 - l + 1 = v2 - (l + (-1)) := by lia
        rw [nI_1, e1]
        exact go _
theorem v_X11_changes {v1 v2 : Int32} (w : WT n b L xs τ g h) (c : LWc τ g N LS X Y) (c1 : g.1 1 0 = g.1 0 10) (sq : SetQ g) : wp (f_X11_changes 10000 n v1 v2 h) (fun r => WT n b L xs τ g r.2 ∧ (chOK v1 v2 (g.1 0 10) → r.1 = chS (wy g N LS X Y (vwC g) v1.toNatClampNeg) 30 1 v2) ∧ (¬ chOK v1 v2 (g.1 0 10) → r.1 = -1)) := by
  unfold f_X11_changes
  refine wp_zif (ob_0 w) ?_
  by_cases cm : 0 ≤ v1 ∧ v1 < g.1 0 10
  · obtain ⟨a, ea, ta, ia⟩ := u_mOf_i w c1 cm.1 cm.2
    refine wp_eq ea ?_
    show wp (if 0 ≤ v2 then _ else _) _
    refine wp_ite (fun c2 => ?_) (fun c2 => wp_some ⟨w, fun ok => absurd ok.2 c2, fun _ => rfl⟩)
    have hk := clamp_lt cm.1 cm.2
    have ik := congrArg Int32.toNatClampNeg ia
    obtain ⟨r, e, w9, x4, -, -, -⟩ := c_judge (yr := nI 0) (vw := vwC g) w c ta ik (sq _ hk).1 (sq _ hk).2
    have x4' : gI r (n + 10) 1 4 = some (wy g N LS X Y (vwC g) v1.toNatClampNeg 0) := x4
    have lp := c_changes_L44 (n := n) (b := b) (L := L) (xs := xs) (v2 := v2) c ta ik (sq _ hk).1 (sq _ hk).2 30 1 10000 v2 r w9 (by decide) (by decide) (by decide)
    have e0 : v2 - v2 = 0 := by lia
    rw [e0] at lp
    have ok : chOK v1 v2 (g.1 0 10) := ⟨cm, c2⟩
    refine wp_eq (gR_0_4 w) ?_
    refine wp_zif (ob_0 w) ?_
    refine wp_eq (show f_X11_viewNow 10000 n h = some (vwC g) from v_view w) ?_
    refine wp_zif (ob_10 w) ?_
    refine wp_eq e ?_
    refine wp_eq (gR_0_4 w9) ?_
    refine wp_eq x4' ?_
    refine wp_bind lp fun m17 p17 => ?_
    rcases m17 with s | x
    · exact wp_zsL (wp_some ⟨p17.1, fun _ => p17.2.symm, fun z => absurd ok z⟩)
    · exact wp_zsR ⟨p17.1, fun _ => p17.2, fun z => absurd ok z⟩
  · refine wp_eq (u_mOf_n w cm) ?_
    exact wp_some ⟨w, fun z => absurd z.1 cm, fun _ => rfl⟩
end CWH
