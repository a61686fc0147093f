/-! whose and changes: the reference's and the class's -/
def sayA (s : Int32 × Int32 × Int32) (lo : Option Nat) (v3 : Int32) : Int32 := if v3 = 0 then s.1 else if v3 = 1 then s.2.1 else if v3 = 2 then s.2.2 else loI lo
def whOK (v1 v2 v3 M : Int32) : Prop := (0 ≤ v1 ∧ v1 < M) ∧ (0 ≤ v2 ∧ v2 ≤ 30) ∧ (0 ≤ v3 ∧ v3 ≤ 3)
/-- who, in the years one behind the other -/
def chS (s : Nat → Int32) : Nat → Nat → Int32 → Int32
  | 0, _, _ => -1
  | d + 1, y, l => if s y = s (y - 1) then chS s d (y + 1) l else if l = 0 then nI y else chS s d (y + 1) (l + (-1))
section WHO
variable {n b L : Nat} {xs : Nat → Int32} {τ : Nat → Nat} {g : zGh} {h : zH} {N M : Nat} {LS : Nat → List LnT}
/-- what the law of year y, as it is seen in year vw, says of meeting k -/
def sw (g : zGh) (N : Nat) (LS : Nat → List LnT) (X Y : Nat → Int32) (vw : Int32) (k : Nat) (yr : Int32) : Int32 × Int32 × Int32 := syO (fmF (mRow g k)) yr LS (lo1 X Y yr vw N)
theorem v_X12_whose {v1 v2 v3 : Int32} (w : WT n b L xs τ g h) (hm : HM g M) (hN : N ≤ 16) (e10 : g.1 42 10 = nI N) (ld : LWD N LS g) (ln : ∀ q, q < N → LNo (LS q) 0) : wp (f_X12_whose 10000 (n + 42) v1 v2 v3 h) (fun r => WT n b L xs τ g r.2 ∧ (whOK v1 v2 v3 (g.1 42 27) → r.1 = sayA (sw g N LS (g.2.1 49) (g.2.1 48) (vwR g) v1.toNatClampNeg v2) (lo1 (g.2.1 49) (g.2.1 48) v2 (vwR g) N) v3) ∧ (¬ whOK v1 v2 v3 (g.1 42 27) → r.1 = -1)) := by
  unfold f_X12_whose
  refine wp_bind (pI_42_0 w) fun h1 w1 => ?_
  refine wp_zif (ob_42 w1) ?_
  refine wp_bind (t_X12_isMeeting w1) fun q3 p3 => ?_
  refine wp_ite (fun c => wp_some ⟨w1, fun ok => ?_, fun _ => rfl⟩) (fun c => ?_)
  · rcases p3 with p3 | p3
    · exact absurd ok.1 p3.2
    · rw [c] at p3
      exact absurd p3.1 (by decide)
  have c' := (p3.resolve_left (fun z => c z.1)).2
  refine wp_bind (t_X12_isYear w1) fun q5 p5 => ?_
  refine wp_ite (fun c5 => wp_some ⟨w1, fun ok => ?_, fun _ => rfl⟩) (fun c5 => ?_)
  · rcases p5 with p5 | p5
    · exact absurd ok.2.1 p5.2
    · rw [c5] at p5
      exact absurd p5.1 (by decide)
  have c5' := (p5.resolve_left (fun z => c5 z.1)).2
  refine in12 (fun c6 => wp_some ⟨w1, fun ok => absurd ok.2.2 c6, fun _ => rfl⟩) (fun c6 => ?_)
  refine wp_zif (ob_42 w1) ?_
  have hk : v1.toNatClampNeg < M := by
    have := clamp_lt c'.1 c'.2
    rw [hm.2.1, nI_clamp (by have := hm.1; omega)] at this
    exact this
  have ek : nI v1.toNatClampNeg = v1 := i32_nI c'.1
  obtain ⟨r, e, w9, x6, x7, x8⟩ := v_says (yr := v2) w1 hm hk hN e10 ld ln
  rw [ek] at e
  have ok : whOK v1 v2 v3 (g.1 42 27) := ⟨c', c5', c6⟩
  refine wp_eq e ?_
  by_cases d0 : v3 = 0
  · rw [if_pos d0]
    refine wp_eq x6 (wp_some ⟨w9, fun _ => ?_, fun z => absurd ok z⟩)
    unfold sayA
    rw [if_pos d0]
    rfl
  rw [if_neg d0]
  by_cases d1 : v3 = 1
  · rw [if_pos d1]
    refine wp_eq x7 (wp_some ⟨w9, fun _ => ?_, fun z => absurd ok z⟩)
    unfold sayA
    rw [if_neg d0, if_pos d1]
    rfl
  rw [if_neg d1]
  by_cases d2 : v3 = 2
  · rw [if_pos d2]
    refine wp_eq x8 (wp_some ⟨w9, fun _ => ?_, fun z => absurd ok z⟩)
    unfold sayA
    rw [if_neg d0, if_neg d1, if_pos d2]
    rfl
  rw [if_neg d2]
  refine wp_zif (ob_42 w9) ?_
  refine wp_eq (v_lawIn w9 hN e10) (wp_some ⟨w9, fun _ => ?_, fun z => absurd ok z⟩)
  unfold sayA
  rw [if_neg d0, if_neg d1, if_neg d2]
  rfl
/-- who it was, year by year -/
def wy (g : zGh) (N : Nat) (LS : Nat → List LnT) (X Y : Nat → Int32) (vw : Int32) (k : Nat) (y : Nat) : Int32 := (sw g N LS X Y vw k (nI y)).1
theorem v_changes_L36 {k : Nat} (hm : HM g M) (hk : k < M) (hN : N ≤ 16) (e10 : g.1 42 10 = nI N) (ld : LWD N LS g) (ln : ∀ q, q < N → LNo (LS q) 0) : ∀ (d y m : Nat) (l : Int32) (h : zH), WT n b L xs τ g h → 1 ≤ y → y + d = 31 → d < m → wp (f_X12_changes_L36 10000 (n + 42) (nI k) m l (wy g N LS (g.2.1 49) (g.2.1 48) (vwR g) k (y - 1)) (nI y) h) (fun r => match r with | .inl x => WT n b L xs τ g x ∧ chS (wy g N LS (g.2.1 49) (g.2.1 48) (vwR g) k) d y l = -1 | .inr x => WT n b L xs τ g x.2 ∧ x.1 = chS (wy g N LS (g.2.1 49) (g.2.1 48) (vwR g) k) d y l) := by
  intro d
  induction d with
  | zero =>
    intro y m l h w h1 hy hm'
    obtain ⟨m, rfl⟩ : ∃ m', m = m' + 1 := ⟨m - 1, by omega⟩
    have ey : y = 31 := by omega
    subst ey
    rw [f_X12_changes_L36.eq_2, if_pos (by decide)]
    exact wp_some ⟨w, rfl⟩
  | succ d ih =>
    intro y m l h w h1 hy hm'
    obtain ⟨m, rfl⟩ : ∃ m', m = m' + 1 := ⟨m - 1, by omega⟩
    rw [f_X12_changes_L36.eq_2, if_neg (show ¬ (31 : Int32) ≤ nI y from nnle (a := 31) (by omega) (by decide))]
    refine wp_zif (ob_42 w) ?_
    obtain ⟨r, e, w9, x6, -, -⟩ := v_says (yr := nI y) w hm hk hN e10 ld ln
    refine wp_eq e ?_
    have x6' : gI r (n + 42) 12 46 = some (wy g N LS (g.2.1 49) (g.2.1 48) (vwR g) k y) := x6
    refine wp_eq x6' ?_
    have go := fun l => ih (y + 1) m l r w9 (by omega) (by omega) (by omega)
    rw [Nat.add_sub_cancel] at go
    have ec : ∀ l, chS (wy g N LS (g.2.1 49) (g.2.1 48) (vwR g) k) (d + 1) y l = if wy g N LS (g.2.1 49) (g.2.1 48) (vwR g) k y = wy g N LS (g.2.1 49) (g.2.1 48) (vwR g) k (y - 1) then chS (wy g N LS (g.2.1 49) (g.2.1 48) (vwR g) k) d (y + 1) l else if l = 0 then nI y else chS (wy g N LS (g.2.1 49) (g.2.1 48) (vwR g) k) d (y + 1) (l + (-1)) := fun l => rfl
    rw [ec l]
    by_cases c : wy g N LS (g.2.1 49) (g.2.1 48) (vwR g) k y = wy g N LS (g.2.1 49) (g.2.1 48) (vwR g) k (y - 1)
    · rw [if_pos c, if_pos c, nI_1]
      refine wp_eq x6' ?_
      exact go l
    · rw [if_neg c, if_neg c]
      by_cases z : l = 0
      · rw [if_pos z, if_pos z]
        exact wp_some ⟨w9, rfl⟩
      · rw [if_neg z, if_neg z, nI_1]
        refine wp_eq x6' ?_
        exact go _
def chOK (v1 v2 M : Int32) : Prop := (0 ≤ v1 ∧ v1 < M) ∧ 0 ≤ v2
theorem v_X12_changes {v1 v2 : Int32} (w : WT n b L xs τ g h) (hm : HM g M) (hN : N ≤ 16) (e10 : g.1 42 10 = nI N) (ld : LWD N LS g) (ln : ∀ q, q < N → LNo (LS q) 0) : wp (f_X12_changes 10000 (n + 42) v1 v2 h) (fun r => WT n b L xs τ g r.2 ∧ (chOK v1 v2 (g.1 42 27) → r.1 = chS (wy g N LS (g.2.1 49) (g.2.1 48) (vwR g) v1.toNatClampNeg) 30 1 v2) ∧ (¬ chOK v1 v2 (g.1 42 27) → r.1 = -1)) := by
  unfold f_X12_changes
  refine wp_bind (pI_42_0 w) fun h1 w1 => ?_
  refine wp_zif (ob_42 w1) ?_
  refine wp_bind (t_X12_isMeeting w1) fun q3 p3 => ?_
  refine wp_ite (fun c => wp_some ⟨w1, fun ok => ?_, fun _ => rfl⟩) (fun c => ?_)
  · rcases p3 with p3 | p3
    · exact absurd ok.1 p3.2
    · rw [c] at p3
      exact absurd p3.1 (by decide)
  have c' := (p3.resolve_left (fun z => c z.1)).2
  refine wp_ite (fun c2 => ?_) (fun c2 => wp_some ⟨w1, fun ok => absurd ok.2 c2, fun _ => rfl⟩)
  refine wp_zif (ob_42 w1) ?_
  have hk : v1.toNatClampNeg < M := by
    have := clamp_lt c'.1 c'.2
    rw [hm.2.1, nI_clamp (by have := hm.1; omega)] at this
    exact this
  have ek : nI v1.toNatClampNeg = v1 := i32_nI c'.1
  obtain ⟨r, e, w9, x6, -, -⟩ := v_says (yr := nI 0) w1 hm hk hN e10 ld ln
  have lp := v_changes_L36 (n := n) (b := b) (L := L) (xs := xs) (τ := τ) hm hk hN e10 ld ln 30 1 10000 v2 r w9 (by decide) (by decide) (by decide)
  rw [ek] at e lp
  have x6' : gI r (n + 42) 12 46 = some (wy g N LS (g.2.1 49) (g.2.1 48) (vwR g) v1.toNatClampNeg 0) := x6
  have ok : chOK v1 v2 (g.1 42 27) := ⟨c', c2⟩
  refine wp_eq e ?_
  refine wp_eq x6' ?_
  refine wp_bind lp fun m17 p17 => ?_
  rcases m17 with s | x
  · exact wp_zsL (wp_some ⟨p17.1, fun _ => p17.2.symm, fun z => absurd ok z⟩)
  · exact wp_zsR ⟨p17.1, fun _ => p17.2, fun z => absurd ok z⟩
/-! the class's -/
theorem BH_of (w : WT n b L xs τ g h) : ∃ q nm st, BH h n q nm st = h := by
  obtain ⟨c, e10, q, rfl, -⟩ := w.1 10 (by decide)
  obtain ⟨c2, e12, nm, rfl, -⟩ := w.1 12 (by decide)
  obtain ⟨c3, e13, st, rfl, -⟩ := w.1 13 (by decide)
  refine ⟨q, nm, st, ?_⟩
  unfold BH
  rw [show zset h (n + 10) (oX1 (rBk n) q) = h from zs_id e10, zs_id e12, zs_id e13]
def LWc (τ : Nat → Nat) (g : zGh) (N : Nat) (LS : Nat → List LnT) (X Y : Nat → Int32) : Prop := N ≤ 16 ∧ g.1 10 3 = nI N ∧ LK τ g N LS X Y ∧ ∀ k, k < N → LNo (LS k) 0 ∧ (LS k).length ≤ 20 ∧ 0 ≤ Y k
theorem BK_of {X Y : Nat → Int32} (w : WT n b L xs τ g h) (c : LWc τ g N LS X Y) : BK h n N X Y LS := by
  obtain ⟨hN, e3, ⟨e11, lk⟩, lo⟩ := c
  refine ⟨hN, fun i hi => ?_, fun i hi => (lo i hi).2.2⟩
  obtain ⟨i0, i1, i2⟩ := h_ix (m := N) (j := i) hi (by omega)
  obtain ⟨-, j1, -⟩ := h_ix (m := 16) (j := i) (by omega) (by omega)
  obtain ⟨a, a1, a2, a3⟩ := aQ_11E (i := nI i) w i0 j1 (by rw [e11]; exact i1)
  rw [i2] at a3
  obtain ⟨k, hk, k1, l1, l2, l3, l4, l5⟩ := lk a a2
  have eki : k = i := by
    have z : nI k = nI i := k1.symm.trans a3
    have z2 := congrArg Int32.toNatClampNeg z
    rw [nI_clamp (by omega), nI_clamp (by omega)] at z2
    exact z2
  subst eki
  obtain ⟨g1, g2, g3, g4⟩ := gR_lE w a2
  have ha := (w.2.1 a (by rw [a2]; decide)).1
  obtain ⟨x, n1, n2, -, -⟩ := aN_c w g2
  have el : τ (a + 1) - 3 = (ccL (LS k)).length := by omega
  refine ⟨a, by omega, a1, g3.trans (congrArg some l1), g4.trans (congrArg some l2), g1, ?_, by omega, fun j hj => ?_, (lo k hk).1, (lo k hk).2.1⟩
  · rw [n1, n2, el]
    rfl
  · obtain ⟨j0, j1, j2⟩ := h_ix (m := (ccL (LS k)).length) (j := j) hj (by omega)
    rw [aI_cE w g2 j0 (by rw [el]; exact j1), j2, l5 j hj]
theorem c_judge {X Y : Nat → Int32} {a k : Nat} {yr vw : Int32} (w : WT n b L xs τ g h) (c : LWc τ g N LS X Y) (t : τ a = 1) (ia : (g.2.1 1 a).toNatClampNeg = k) (m11 : mRow g k 11 = mtF (mRow g k)) (m12 : mRow g k 12 = fiF (mRow g k)) : ∃ r, f_X1_judge 10000 (n + 10) a yr vw h = some r ∧ WT n b L xs τ g r ∧ gI r (n + 10) 1 4 = some (sw g N LS X Y vw k yr).1 ∧ gI r (n + 10) 1 5 = some (sw g N LS X Y vw k yr).2.1 ∧ gI r (n + 10) 1 6 = some (sw g N LS X Y vw k yr).2.2 ∧ gI r (n + 10) 1 7 = some (loI (lo1 X Y yr vw N)) := by
  obtain ⟨r, er, wr⟩ := t_X1_judge (v2 := yr) (v3 := vw) w t
  refine ⟨r, er, wr, ?_⟩
  obtain ⟨q, nm, st, eh⟩ := BH_of w
  have bk := BK_of w c
  have q3 : q 3 = nI N := by
    have x := E_10_3 w
    rw [← eh, B_q3] at x
    exact (Option.some.inj x).trans c.2.1
  have ha := (w.2.1 a (by rw [t]; decide)).1
  have eF := v_X6_fact (F := mRow g k) w t (fun z hz => by rw [ia]; rfl) m11 m12
  obtain ⟨q', nm', st', e1, e7, e0, e2⟩ := b_judge (q := q) (nm := nm) (st := st) (yr := yr) (vw := vw) bk q3 (by omega) (ob_m w t) eF
  rw [eh, er] at e1
  have e1 := Option.some.inj e1
  rw [e1, B_q4, B_q5, B_q6, B_q7, e7]
  unfold sw
  cases hl : lo1 X Y yr vw N with
  | none =>
    obtain ⟨z4, z5, z6⟩ := e0 hl
    rw [z4, z5, z6]
    exact ⟨rfl, rfl, rfl, rfl⟩
  | some kk =>
    have z := e2 kk hl
    have lno := (c.2.2.2 kk (lo1_lt N kk hl)).1
    rw [sy1_2 lno, sy2_V (V := fun _ => 0) lno] at z
    show some (q' 4) = some (sy2 _ yr (fun _ => 0) (LS kk)).1 ∧ some (q' 5) = some (sy2 _ yr (fun _ => 0) (LS kk)).2.1 ∧ some (q' 6) = some (sy2 _ yr (fun _ => 0) (LS kk)).2.2 ∧ _
    rw [← z]
    exact ⟨rfl, rfl, rfl, rfl⟩
end WHO
