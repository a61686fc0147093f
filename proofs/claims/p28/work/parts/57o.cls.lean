/-! the class's law: what is read is lawQ -/
section CLW
variable {n b L : Nat} {xs : Nat → Int32} {τ : Nat → Nat} {g : zGh} {h : zH}
/-- the tape's signs as they stand -/
def sgT (g : zGh) (j : Nat) : Nat := (g.2.1 4 j).toNatClampNeg
/-- the class's keys of words -/
def WKc (g : zGh) : Prop := ∀ j, j < 21 → g.2.2 5 j = Int64.ofNat (wk0 j)
theorem wk0_40 : ∀ j, j < 21 → wk0 j < 2 ^ 40 := by decide +kernel
theorem sgT_r (w : WT n b L xs τ g h) {j : Nat} (hj : j < 1000) : nI (sgT g j) = g.2.1 4 j ∧ sgT g j ≤ 126 := by
  obtain ⟨i0, i1, i2⟩ := h_ix (m := 1000) hj (by omega)
  obtain ⟨x, e, q1, q2, q3⟩ := aB_4 w i0 i1
  rw [i2] at q1
  rw [q1] at q2 q3
  refine ⟨i32_nI q2, ?_⟩
  have c := i32_0 q2
  have d := Int32.le_iff_toInt_le.mp q3
  have d2 : (126 : Int32).toInt = 126 := rfl
  show (g.2.1 4 j).toInt.toNat ≤ 126
  omega
theorem TKT_of_WT (w : WT n b L xs τ g h) (k : WKc g) {h0 : zH} (e1 : h0.1 = h.1) (e2 : ∀ a, a ≠ n + 6 → h0.2 a = h.2 a) : TKT h0 n (sgT g) wk0 := by
  have aBe : ∀ i, aB h0 (n + 4) i = aB h (n + 4) i := fun i => by
    unfold aB
    rw [e2 _ (by omega)]
  have aLe : ∀ i, aL h0 (n + 5) i = aL h (n + 5) i := fun i => by
    unfold aL
    rw [e2 _ (by omega)]
  have aNe : aN h0 (n + 5) = aN h (n + 5) := by
    unfold aN
    rw [e2 _ (by omega)]
  refine ⟨fun j hj => ?_, fun j hj => ?_, aNe.trans (aN_5 w), ?_, ?_, ?_⟩
  · obtain ⟨i0, i1, i2⟩ := h_ix (m := 1000) hj (by omega)
    have a := A_4 w i0 i1
    rw [i2] at a
    exact ⟨(aBe _).trans (a.trans (congrArg some (sgT_r w hj).1.symm)), (sgT_r w hj).2⟩
  · obtain ⟨i0, i1, i2⟩ := h_ix (m := 21) hj (by omega)
    have a := A_5 w i0 i1
    rw [i2, k j hj] at a
    exact ⟨(aLe _).trans a, wk0_40 j hj⟩
  · rw [e1, e2 _ (by have := w.2.2.2.2.2.2.1; omega)]
    exact w.2.2.2.2.2.1
  · rw [e1]
    exact w.2.2.2.2.2.2.1
  · rw [e1]
    exact w.2.2.2.2.2.2.2
theorem QH_of (w : WT n b L xs τ g h) : ∃ h0 t l q nm cd wt, pF h (n + 6) 7 3 (.ref (n + 3)) = some (QH h0 n t l q nm cd wt) ∧ t 2 = g.1 3 2 ∧ h0.1 = h.1 ∧ ∀ a, a ≠ n + 6 → h0.2 a = h.2 a := by
  obtain ⟨c3, e3, t, lx, rfl, t2, -⟩ := w.1 3 (by decide)
  obtain ⟨c6, e6, q, rfl, -⟩ := w.1 6 (by decide)
  obtain ⟨c7, e7, nm, rfl, -⟩ := w.1 7 (by decide)
  obtain ⟨c8, e8, cd, rfl, -⟩ := w.1 8 (by decide)
  obtain ⟨c9, e9, wt, rfl, -⟩ := w.1 9 (by decide)
  have p := pF_of (k := 3) (v := .ref (n + 3)) e6 (Nat.le_of_ble_eq_true rfl)
  refine ⟨zset h (n + 6) (oX7 (rR n) q), t, fun _ => lx, q, nm, cd, wt, p.trans (congrArg some ?_), t2, rfl, fun a ha => zs_ne ha⟩
  show zset h (n + 6) (oX7 (rR n) q) = _
  unfold QH
  generalize eh : zset h (n + 6) (oX7 (rR n) q) = h1
  have f6 : h1.2 (n + 6) = some (oX7 (rR n) q) := by rw [← eh]; exact zs_same _ _ _
  have f3 : h1.2 (n + 3) = some (oX9 (rT n) t (fun _ => lx)) := by rw [← eh, zs_ne (by omega)]; exact e3
  have f7 : h1.2 (n + 7) = some (.inl (1, 8, .inr (.inl nm))) := by rw [← eh, zs_ne (by omega)]; exact e7
  have f8 : h1.2 (n + 8) = some (.inl (0, 1000, .inl cd)) := by rw [← eh, zs_ne (by omega)]; exact e8
  have f9 : h1.2 (n + 9) = some (.inl (0, 32, .inl wt)) := by rw [← eh, zs_ne (by omega)]; exact e9
  rw [zs_id f3, zs_id f6, zs_id f7, zs_id f8, zs_id f9]
theorem rd_X7 {S : Nat} (w : WT n b L xs τ g h) (k : WKc g) (hS : S ≤ 1000) (eS : g.1 3 2 = nI S) : wp (f_X7_read 10000 (n + 6) (n + 3) h) (fun r => r.1 = nI (fltN (sgT g) S) ∧ (lawQ (sgT g) S).2 ≤ 5) := by
  obtain ⟨h0, t, l, q, nm, cd, wt, e, t2, e1, e2⟩ := QH_of w
  have ts := TKT_of_WT w k e1 e2
  unfold f_X7_read
  refine wp_eq e ?_
  refine wp_eq (Q_Q4 0) ?_
  refine wp_eq (Q_Q5 0) ?_
  refine wp_eq (Q_Q8 0) ?_
  refine wp_eq Q_s3 ?_
  refine wp_zif Q_zT ?_
  obtain ⟨t', l', e3, tk⟩ := e_start (h0 := h0) (n := n) (l := l) (q := upd (upd (upd q 4 0) 5 0) 8 0) (nm := nm) (cd := cd) (wt := wt) ts hS (t2.trans eS)
  refine wp_eq e3 ?_
  have x : LX wk0 (sgT g) S 0 0 0 (fun _ => 0) t' l' (upd (upd (upd q 4 0) 5 0) 8 0) nm := ⟨tk, rfl, ⟨0, by omega, rfl⟩, ⟨by omega, rfl, fun j hj => absurd hj (by omega)⟩, by omega, by omega⟩
  refine wp_bind (e_lines ts hS 21 10000 0 0 0 (fun _ => 0) t' l' _ nm cd wt rfl (by decide) x) fun m16 p16 => ?_
  obtain ⟨nm', M', nk', t1, l1, q1, cd1, wt1, rfl, y⟩ := p16
  refine wp_eq Q_q8 ?_
  exact wp_some ⟨y.2.1, y.2.2.2.2.1⟩
/-- the class's laws' number goes up -/
theorem v_X1_add {a : Nat} (w : WT n b L xs τ g h) (ta : τ a = 2) (ne : ¬ 16 ≤ g.1 10 3) : wp (f_X1_add 10000 (n + 10) a h) (fun r => WT n b L xs τ (gset g 10 3 (g.1 10 3 + 1)) r) := by
  unfold f_X1_add
  have rr := gr_10_3 w
  refine wp_eq (E_10_3 w) ?_
  rw [if_neg ne]
  refine wp_eq (gR_10_0 w) ?_
  refine wp_eq (E_10_3 w) ?_
  refine wp_bind (sQ_11 w rr.1 (by lia) ta) fun h5 w5 => ?_
  refine wp_eq (E_10_3 w5) ?_
  refine wp_bind (pI_10_3 w5 (x := g.1 10 3 + 1) (by lia) (by lia)) fun h7 w7 => wp_some w7
set_option maxHeartbeats 4000000 in
theorem v_X11_law {v : Int32} {S : Nat} (w : WT n b L xs τ g h) (k : WKc g) (hS : S ≤ 1000) (eS : g.1 3 2 = nI S) : wp (f_X11_law 10000 n v h) (fun r => ∃ τ' g', WT n b L xs τ' g' r.2 ∧ SmL g g' ∧ LWA (g.1 10 3) (g'.1 10 3) v r.1 (sgT g) S) := by
  have r16 := gr_10_3 w
  have no : noL v (g.1 10 3) → LWA (g.1 10 3) ((gset g 3 2 0).1 10 3) v (-1) (sgT g) S := fun z => ⟨fun _ => ⟨rfl, rfl⟩, fun y => absurd z y⟩
  unfold f_X11_law
  refine in11 (fun c => ?_) (fun c => ?_)
  · refine wp_eq (gR_0_2 w) ?_
    exact wp_bind (pI_3_2 w (x := 0) (by decide) (by decide)) fun h3 w3 => wp_some ⟨τ, _, w3, SmL_of (Sm_id g), no (by unfold noL; lia)⟩
  refine wp_eq (gR_0_4 w) ?_
  refine wp_zif (ob_10 w) ?_
  refine wp_bind (R := fun r => r = if g.1 10 3 < 16 then 0 else 1) (by
    unfold f_X1_isFull
    refine wp_eq (E_10_3 w) ?_
    refine wp_ite (fun c => wp_some (if_pos c).symm) (fun c => wp_some (if_neg c).symm)) fun q6 p6 => ?_
  refine wp_ite (fun c6 => ?_) (fun c6 => ?_)
  · refine wp_eq (gR_0_3 w) ?_
    refine wp_eq (gR_0_2 w) ?_
    refine wp_zif (ob_6 w) ?_
    have c16 : g.1 10 3 < 16 := by
      by_cases y : g.1 10 3 < 16
      · exact y
      · rw [if_neg y] at p6
        exact absurd (p6.symm.trans c6) (by decide)
    have ok : ¬ noL v (g.1 10 3) := by
      unfold noL
      lia
    refine wp_bindE (t_X7_read w) fun q13 e13 p13 => ?_
    obtain ⟨g1, w1, s1, z1⟩ := p13
    have a13' : q13.1 = nI (fltN (sgT g) S) ∧ (lawQ (sgT g) S).2 ≤ 5 := by
      obtain ⟨y, y1, y2⟩ := rd_X7 w k hS eS
      have y3 := Option.some.inj (e13.symm.trans y1)
      rw [y3]
      exact y2
    have a13 := a13'.1
    have e10 : g1.1 10 3 = g.1 10 3 := by rw [s1.1 10 (by decide) (by decide)]
    have pl := (pos_le (sgT g) S (lawQ (sgT g) S).1).2.2
    have f5 := a13'.2
    have z0 : q13.1 = 0 ↔ (lawQ (sgT g) S).2 = 0 := by
      rw [a13]
      unfold fltN
      by_cases y : (lawQ (sgT g) S).2 = 0
      · rw [if_pos y]
        exact ⟨fun _ => y, fun _ => rfl⟩
      · rw [if_neg y]
        refine ⟨fun x => ?_, fun x => absurd x y⟩
        have := nI_inj (by omega) (by decide) (x.trans nI_0.symm)
        omega
    refine wp_ite (fun c13 => ?_) (fun c13 => ?_)
    · have hs := z1 c13
      generalize q13.2 = hq at w1
      refine wp_eq (gR_0_4 w1) ?_
      refine wp_zlet ?_
      have w2 : WT n b L xs τ g1 (znew hq (.inr (4, [.int 0, .int 0, .null]))) := w1.new
      have eA : (znew hq (.inr (4, [.int 0, .int 0, .null]))).2 hq.1.1 = some (.inr (4, [.int 0, .int 0, .null])) := zn_same _ _
      have sA : (znew hq (.inr (4, [.int 0, .int 0, .null]))).1.1 = hq.1.1 + 1 := rfl
      have big := w1.big
      have tA := τ_new w1 (Nat.le_refl hq.1.1)
      have tB := τ_new w1 (Nat.le_succ hq.1.1)
      generalize znew hq (.inr (4, [.int 0, .int 0, .null])) = h2 at w2 eA sA
      generalize hq.1.1 = A at eA sA big tA tB
      refine wp_eq (E_0_11 w2) ?_
      refine wp_eq (gR_0_3 w2) ?_
      refine wp_zif (ob_6 w2) ?_
      refine wp_bind (u_written w2 hs) fun q22 p22 => ?_
      obtain ⟨e22, c, e23, m, km⟩ := p22
      have w3 : WT n b L xs (tu τ (A + 1) (m + 3)) g1 q22.2 := by
        rw [e23]
        refine w2.new.ext (by omega) (by show A + 1 < h2.1.1 + 1; omega) tB (by rw [← sA]; exact zn_same _ _) (by omega) ?_
        exact km
      have eA3 : q22.2.2 A = some (.inr (4, [.int 0, .int 0, .null])) := by
        rw [e23]
        exact (zn_ne (by omega)).trans eA
      have sA3 : A < q22.2.1.1 := by
        rw [e23]
        show A < h2.1.1 + 1
        omega
      have tA3 : tu τ (A + 1) (m + 3) A = 0 := by rw [tu_ne (by omega)]; exact tA
      have tB3 : tu τ (A + 1) (m + 3) (A + 1) = m + 3 := tu_same _ _ _
      rw [e22, sA]
      generalize q22.2 = h3 at w3 eA3 sA3
      generalize tu τ (A + 1) (m + 3) = τ3 at w3 tA3 tB3
      refine wp_bind (R := fun r => ∃ τ', WT n b L xs τ' g1 r ∧ τ' A = 2) ?_ (fun h23 p23 => ?_)
      · unfold f_X4_init
        refine wp_bind (pF_raw w3 big tA3 eA3 (Nat.le_of_ble_eq_true rfl)) fun h1 p1 => ?_
        obtain ⟨x1, x2, x3, x4⟩ := p1
        refine wp_bind (pF_raw x1 big tA3 x3 (Nat.le_of_ble_eq_true rfl)) fun h5 p5 => ?_
        obtain ⟨y1, y2, y3, y4⟩ := p5
        refine wp_bind (pF_raw y1 big tA3 y3 (Nat.le_of_ble_eq_true rfl)) fun h6 p6 => ?_
        obtain ⟨u1, u2, u3, u4⟩ := p6
        refine wp_some ⟨tu τ3 A 2, u1.ext big (by rw [u2, y2, x2]; exact sA3) tA3 u3 (by decide) ?_, tu_same _ _ _⟩
        refine ⟨_, _, A + 1, rfl, ?_⟩
        rw [tu_ne (by omega), tB3]
        omega
      obtain ⟨τ4, w4, t4⟩ := p23
      refine wp_zif (ob_10 w4) ?_
      refine wp_bind (v_X1_add w4 t4 (by rw [e10]; lia)) fun h25 w25 => ?_
      refine wp_eq (gR_0_2 w25) ?_
      refine wp_bind (pI_3_2 w25 (x := 0) (by decide) (by decide)) fun h27 w27 => wp_some ⟨τ4, _, w27, SmL_10 s1, fun y => absurd y ok, fun _ => ⟨a13, ?_⟩⟩
      rw [if_pos (z0.mp c13), ← e10]
      rfl
    · refine wp_eq (gR_0_2 w1) ?_
      refine wp_bind (pI_3_2 w1 (x := 0) (by decide) (by decide)) fun h3 w3 => wp_some ⟨τ, _, w3, SmL_of s1, fun y => absurd y ok, fun _ => ⟨a13, ?_⟩⟩
      rw [if_neg (fun y => c13 (z0.mpr y)), ← e10]
      rfl
  · refine wp_eq (gR_0_2 w) ?_
    exact wp_bind (pI_3_2 w (x := 0) (by decide) (by decide)) fun h3 w3 => wp_some ⟨τ, _, w3, SmL_of (Sm_id g), no (by
      by_cases y : g.1 10 3 < 16
      · rw [if_pos y] at p6
        exact absurd p6 c6
      · exact Or.inr (Or.inr (by lia)))⟩
end CLW
