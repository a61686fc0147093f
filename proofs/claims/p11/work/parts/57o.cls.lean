/-! the class's law: what is read is lawQ -/
section CLW
variable {n b L : Nat} {xs : Nat → Int32} {τ : Nat → Nat} {g : zGh} {h : zH}
/-- the tape's signs as they stand -/
def sgT (g : zGh) (j : Nat) : Nat := (g.2.1 4 j).toNatClampNeg
/-- the class's keys of words -/
def WKc (g : zGh) : Prop := ∀ j, j < 21 → g.2.2 5 j = Int64.ofNat (wk0 j)
theorem wk0_40 : ∀ j, j < 21 → wk0 j < 2 ^ 40 := by decide +kernel
theorem sgT_r (w : WT n b L xs τ g h) {j : Nat} (hj : j < 1000) : nI (sgT g j) = g.2.1 4 j ∧ sgT g j ≤ 126 := by
  obtain ⟨i0, i1, i2⟩ := h_ix (m := 1000) hj (by omega)
  obtain ⟨x, e, q1, q2, q3⟩ := aB_4 w i0 i1
  rw [i2] at q1
  rw [q1] at q2 q3
  refine ⟨i32_nI q2, ?_⟩
  have c := i32_0 q2
  have d := Int32.le_iff_toInt_le.mp q3
  have d2 : (126 : Int32).toInt = 126 := rfl
  show (g.2.1 4 j).toInt.toNat ≤ 126
  omega
theorem TKT_of_WT (w : WT n b L xs τ g h) (k : WKc g) {h0 : zH} (e1 : h0.1 = h.1) (e2 : ∀ a, a ≠ n + 6 → h0.2 a = h.2 a) : TKT h0 n (sgT g) wk0 := by
  have aBe : ∀ i, aB h0 (n + 4) i = aB h (n + 4) i := fun i => by
    unfold aB
    rw [e2 _ (by omega)]
  have aLe : ∀ i, aL h0 (n + 5) i = aL h (n + 5) i := fun i => by
    unfold aL
    rw [e2 _ (by omega)]
  have aNe : aN h0 (n + 5) = aN h (n + 5) := by
    unfold aN
    rw [e2 _ (by omega)]
  refine ⟨fun j hj => ?_, fun j hj => ?_, aNe.trans (aN_5 w), ?_, ?_, ?_⟩
  · obtain ⟨i0, i1, i2⟩ := h_ix (m := 1000) hj (by omega)
    have a := A_4 w i0 i1
    rw [i2] at a
    exact ⟨(aBe _).trans (a.trans (congrArg some (sgT_r w hj).1.symm)), (sgT_r w hj).2⟩
  · obtain ⟨i0, i1, i2⟩ := h_ix (m := 21) hj (by omega)
    have a := A_5 w i0 i1
    rw [i2, k j hj] at a
    exact ⟨(aLe _).trans a, wk0_40 j hj⟩
  · rw [e1, e2 _ (by have := w.2.2.2.2.2.2.1; omega)]
    exact w.2.2.2.2.2.1
  · rw [e1]
    exact w.2.2.2.2.2.2.1
  · rw [e1]
    exact w.2.2.2.2.2.2.2
theorem QH_of (w : WT n b L xs τ g h) : ∃ h0 t l q nm cd wt, pF h (n + 6) 7 3 (.ref (n + 3)) = some (QH h0 n t l q nm cd wt) ∧ t 2 = g.1 3 2 ∧ h0.1 = h.1 ∧ ∀ a, a ≠ n + 6 → h0.2 a = h.2 a := by
  obtain ⟨c3, e3, t, lx, rfl, t2, -⟩ := w.1 3 (by decide)
  obtain ⟨c6, e6, q, rfl, -⟩ := w.1 6 (by decide)
  obtain ⟨c7, e7, nm, rfl, -⟩ := w.1 7 (by decide)
  obtain ⟨c8, e8, cd, rfl, -⟩ := w.1 8 (by decide)
  obtain ⟨c9, e9, wt, rfl, -⟩ := w.1 9 (by decide)
  have p := pF_of (k := 3) (v := .ref (n + 3)) e6 (Nat.le_of_ble_eq_true rfl)
  refine ⟨zset h (n + 6) (oX7 (rR n) q), t, fun _ => lx, q, nm, cd, wt, p.trans (congrArg some ?_), t2, rfl, fun a ha => zs_ne ha⟩
  show zset h (n + 6) (oX7 (rR n) q) = _
  unfold QH
  generalize eh : zset h (n + 6) (oX7 (rR n) q) = h1
  have f6 : h1.2 (n + 6) = some (oX7 (rR n) q) := by rw [← eh]; exact zs_same _ _ _
  have f3 : h1.2 (n + 3) = some (oX9 (rT n) t (fun _ => lx)) := by rw [← eh, zs_ne (by omega)]; exact e3
  have f7 : h1.2 (n + 7) = some (.inl (1, 8, .inr (.inl nm))) := by rw [← eh, zs_ne (by omega)]; exact e7
  have f8 : h1.2 (n + 8) = some (.inl (0, 1000, .inl cd)) := by rw [← eh, zs_ne (by omega)]; exact e8
  have f9 : h1.2 (n + 9) = some (.inl (0, 32, .inl wt)) := by rw [← eh, zs_ne (by omega)]; exact e9
  rw [zs_id f3, zs_id f6, zs_id f7, zs_id f8, zs_id f9]
/-- what a class's law holds -/
def LCd (τ : Nat → Nat) (g : zGh) (a : Nat) (x y : Int32) (ls : List LnT) : Prop := g.2.1 101 (1001 * a) = x ∧ g.2.1 101 (1001 * a + 1) = y ∧ τ (a + 1) = (ccL ls).length + 3 ∧ (ccL ls).length ≤ 999 ∧ ∀ j, j < (ccL ls).length → g.2.1 101 (1001 * (a + 1) + j) = nI ((ccL ls).getD j 0)
def LK (τ : Nat → Nat) (g : zGh) (N : Nat) (LS : Nat → List LnT) (X Y : Nat → Int32) : Prop := g.1 11 0 = nI N ∧ ∀ a, τ a = 2 → ∃ k, k < N ∧ g.2.1 11 a = nI k ∧ LCd τ g a (X k) (Y k) (LS k)
theorem LK_eq {τ : Nat → Nat} {g g' : zGh} {N : Nat} {LS : Nat → List LnT} {X Y : Nat → Int32} (l : LK τ g N LS X Y) (h1 : g'.1 11 0 = g.1 11 0) (h2 : g'.2.1 11 = g.2.1 11) (h3 : g'.2.1 101 = g.2.1 101) : LK τ g' N LS X Y := by
  unfold LK LCd
  rw [h1, h2, h3]
  exact l
def SmK (g g' : zGh) : Prop := (∀ j, j ≠ 3 → j ≠ 6 → j ≠ 10 → j ≠ 11 → g'.1 j = g.1 j) ∧ g'.1 3 2 = 0 ∧ (∀ j, j ≠ 11 → j ≠ 101 → g'.2.1 j = g.2.1 j) ∧ g'.2.2 = g.2.2
theorem SmK_of {g g' : zGh} (s : Sm g g') : SmK g (gset g' 3 2 0) := ⟨fun j a c d e => (gset_out a).trans (s.1 j a c), rfl, fun j _ _ => congrFun (congrArg Prod.fst s.2.2) j, congrArg Prod.snd s.2.2⟩
/-- what law leaves kept in the class -/
def LKR (τ' : Nat → Nat) (g g' : zGh) (v : Int32) (N : Nat) (LS : Nat → List LnT) (X Y : Nat → Int32) (s : Nat → Nat) (S : Nat) : Prop := (noL v (g.1 10 3) ∨ ¬ (lawQ s S).2 = 0 → LK τ' g' N LS X Y) ∧ (¬ noL v (g.1 10 3) → (lawQ s S).2 = 0 → LK τ' g' (N + 1) (fun q => if q = N then lwLs s S else LS q) (upd X N (g.1 0 11)) (upd Y N v))
theorem rd_X7 {S : Nat} (w : WT n b L xs τ g h) (k : WKc g) (hS : S ≤ 1000) (eS : g.1 3 2 = nI S) : wp (f_X7_read 10000 (n + 6) (n + 3) h) (fun r => r.1 = nI (fltN (sgT g) S) ∧ (lawQ (sgT g) S).2 ≤ 5 ∧ ((lawQ (sgT g) S).2 = 0 → ∃ cd, r.2.2 (n + 8) = some (.inl (0, 1000, .inl cd)) ∧ gI r.2 (n + 6) 7 5 = some (nI (min (ccL (lwLs (sgT g) S)).length 1000)) ∧ ((ccL (lwLs (sgT g) S)).length ≤ 1000 → ∀ j, j < (ccL (lwLs (sgT g) S)).length → cd j = nI ((ccL (lwLs (sgT g) S)).getD j 0)))) := by
  obtain ⟨h0, t, l, q, nm, cd, wt, e, t2, e1, e2⟩ := QH_of w
  have ts := TKT_of_WT w k e1 e2
  unfold f_X7_read
  refine wp_eq e ?_
  refine wp_eq (Q_Q4 0) ?_
  refine wp_eq (Q_Q5 0) ?_
  refine wp_eq (Q_Q8 0) ?_
  refine wp_eq Q_s3 ?_
  refine wp_zif Q_zT ?_
  obtain ⟨t', l', e3, tk⟩ := e_start (h0 := h0) (n := n) (l := l) (q := upd (upd (upd q 4 0) 5 0) 8 0) (nm := nm) (cd := cd) (wt := wt) ts hS (t2.trans eS)
  refine wp_eq e3 ?_
  have x : LX wk0 (sgT g) S 0 0 0 (fun _ => 0) t' l' (upd (upd (upd q 4 0) 5 0) 8 0) nm cd [] := ⟨tk, rfl, ⟨[], fun _ => rfl, rfl, fun _ j hj => absurd hj (Nat.not_lt_zero _)⟩, ⟨by omega, rfl, fun j hj => absurd hj (by omega)⟩, by omega, by omega⟩
  refine wp_bind (e_lines ts hS 21 10000 0 0 0 (fun _ => 0) t' l' _ nm cd wt [] rfl (by decide) x) fun m16 p16 => ?_
  obtain ⟨nm', M', nk', t1, l1, q1, cd1, wt1, rfl, y⟩ := p16
  refine wp_eq Q_q8 ?_
  refine wp_some ⟨y.2.1, y.2.2.2.2.1, fun z => ?_⟩
  obtain ⟨o', eo, c1, c2⟩ := y.2.2.1
  have eo : o' = ccL (lwLs (sgT g) S) := eo z
  subst eo
  refine ⟨cd1, ?_, ?_, c2⟩
  · show (QH h0 n t1 l1 q1 nm' cd1 wt1).2 (n + 8) = _
    unfold QH
    rw [zs_ne (by omega)]
    exact zs_same _ _ _
  · show gI (QH h0 n t1 l1 q1 nm' cd1 wt1) (n + 6) 7 5 = _
    rw [Q_q5, c1]
/-- the class's laws' number goes up -/
theorem v_X1_add {a : Nat} (w : WT n b L xs τ g h) (ta : τ a = 2) (ne : ¬ 16 ≤ g.1 10 3) (e1 : g.1 11 0 = g.1 10 3) (e2 : g.2.1 11 a = g.1 10 3) : wp (f_X1_add 10000 (n + 10) a h) (fun r => WT n b L xs τ (gset (gset g 11 0 (g.1 10 3 + 1)) 10 3 (g.1 10 3 + 1)) r) := by
  unfold f_X1_add
  have rr := gr_10_3 w
  refine wp_eq (E_10_3 w) ?_
  rw [if_neg ne]
  refine wp_eq (gR_10_0 w) ?_
  refine wp_eq (E_10_3 w) ?_
  refine wp_bind (sQ_11 w rr.1 (by lia) ta e1 e2) fun h5 w5 => ?_
  refine wp_eq (E_10_3 w5) ?_
  refine wp_bind (pI_10_3 w5 (x := g.1 10 3 + 1) (by lia) (by lia)) fun h7 w7 => wp_some w7
set_option maxHeartbeats 4000000 in
theorem v_X11_law {v : Int32} {S : Nat} {N : Nat} {LS : Nat → List LnT} {X Y : Nat → Int32} (w : WT n b L xs τ g h) (hN : N ≤ 16) (eN : g.1 10 3 = nI N) (lk : LK τ g N LS X Y) (k : WKc g) (hS : S ≤ 1000) (eS : g.1 3 2 = nI S) : wp (f_X11_law 10000 n v h) (fun r => ∃ τ' g', WT n b L xs τ' g' r.2 ∧ SmK g g' ∧ LWA (g.1 10 3) (g'.1 10 3) v r.1 (sgT g) S ∧ LKR τ' g g' v N LS X Y (sgT g) S) := by
  have r16 := gr_10_3 w
  have no : noL v (g.1 10 3) → LWA (g.1 10 3) ((gset g 3 2 0).1 10 3) v (-1) (sgT g) S := fun z => ⟨fun _ => ⟨rfl, rfl⟩, fun y => absurd z y⟩
  have lno : noL v (g.1 10 3) → LKR τ g (gset g 3 2 0) v N LS X Y (sgT g) S := fun z => ⟨fun _ => LK_eq lk rfl rfl rfl, fun y => absurd z y⟩
  unfold f_X11_law
  refine in11 (fun c => ?_) (fun c => ?_)
  · refine wp_eq (gR_0_2 w) ?_
    exact wp_bind (pI_3_2 w (x := 0) (by decide) (by decide)) fun h3 w3 => wp_some ⟨τ, _, w3, SmK_of (Sm_id g), no (by unfold noL; lia), lno (by unfold noL; lia)⟩
  refine wp_eq (gR_0_4 w) ?_
  refine wp_zif (ob_10 w) ?_
  refine wp_bind (R := fun r => r = if g.1 10 3 < 16 then 0 else 1) (by
    unfold f_X1_isFull
    refine wp_eq (E_10_3 w) ?_
    refine wp_ite (fun c => wp_some (if_pos c).symm) (fun c => wp_some (if_neg c).symm)) fun q6 p6 => ?_
  refine wp_ite (fun c6 => ?_) (fun c6 => ?_)
  · refine wp_eq (gR_0_3 w) ?_
    refine wp_eq (gR_0_2 w) ?_
    refine wp_zif (ob_6 w) ?_
    have c16 : g.1 10 3 < 16 := by
      by_cases y : g.1 10 3 < 16
      · exact y
      · rw [if_neg y] at p6
        exact absurd (p6.symm.trans c6) (by decide)
    have ok : ¬ noL v (g.1 10 3) := by
      unfold noL
      lia
    refine wp_bindE (t_X7_read w) fun q13 e13 p13 => ?_
    obtain ⟨g1, w1, s1, z1⟩ := p13
    have a13' : q13.1 = nI (fltN (sgT g) S) ∧ (lawQ (sgT g) S).2 ≤ 5 ∧ ((lawQ (sgT g) S).2 = 0 → ∃ cd, q13.2.2 (n + 8) = some (.inl (0, 1000, .inl cd)) ∧ gI q13.2 (n + 6) 7 5 = some (nI (min (ccL (lwLs (sgT g) S)).length 1000)) ∧ ((ccL (lwLs (sgT g) S)).length ≤ 1000 → ∀ j, j < (ccL (lwLs (sgT g) S)).length → cd j = nI ((ccL (lwLs (sgT g) S)).getD j 0))) := by
      obtain ⟨y, y1, y2⟩ := rd_X7 w k hS eS
      have y3 := Option.some.inj (e13.symm.trans y1)
      rw [y3]
      exact y2
    have a13 := a13'.1
    have e10 : g1.1 10 3 = g.1 10 3 := by rw [s1.1 10 (by decide) (by decide)]
    have pl := (pos_le (sgT g) S (lawQ (sgT g) S).1).2.2
    have f5 := a13'.2.1
    have cc := a13'.2.2
    have z0 : q13.1 = 0 ↔ (lawQ (sgT g) S).2 = 0 := by
      rw [a13]
      unfold fltN
      by_cases y : (lawQ (sgT g) S).2 = 0
      · rw [if_pos y]
        exact ⟨fun _ => y, fun _ => rfl⟩
      · rw [if_neg y]
        refine ⟨fun x => ?_, fun x => absurd x y⟩
        have := nI_inj (by omega) (by decide) (x.trans nI_0.symm)
        omega
    refine wp_ite (fun c13 => ?_) (fun c13 => ?_)
    · have hs := z1 c13
      obtain ⟨cd, ecd, e65, ecc⟩ := cc (z0.mp c13)
      have e0 : g1.1 0 = g.1 0 := s1.1 0 (by decide) (by decide)
      have e11 : g1.1 11 = g.1 11 := s1.1 11 (by decide) (by decide)
      have g2e : g1.2 = g.2 := s1.2.2
      generalize ho : ccL (lwLs (sgT g) S) = o at e65 ecc
      have eo : g1.1 6 5 = nI (min o.length 1000) := Option.some.inj ((E_6_5 w1).symm.trans e65)
      have lo : o.length ≤ 999 := by
        rw [eo] at hs
        have h9 := Int32.le_iff_toInt_le.mp hs
        have e9 : (nI (min o.length 1000)).toInt = ((min o.length 1000 : Nat) : Int) := Int32.toInt_ofNat_of_lt (by omega)
        rw [e9] at h9
        have e999 : (999 : Int32).toInt = 999 := rfl
        omega
      rw [show min o.length 1000 = o.length by omega] at eo
      have ec := ecc (by omega)
      generalize q13.2 = hq at w1 ecd
      refine wp_eq (gR_0_4 w1) ?_
      refine wp_zlet ?_
      have w2 : WT n b L xs τ g1 (znew hq (.inr (4, [.int 0, .int 0, .null]))) := w1.new
      have eA : (znew hq (.inr (4, [.int 0, .int 0, .null]))).2 hq.1.1 = some (.inr (4, [.int 0, .int 0, .null])) := zn_same _ _
      have sA : (znew hq (.inr (4, [.int 0, .int 0, .null]))).1.1 = hq.1.1 + 1 := rfl
      have big := w1.big
      have tA := τ_new w1 (Nat.le_refl hq.1.1)
      have tB := τ_new w1 (Nat.le_succ hq.1.1)
      have ecd2 : (znew hq (.inr (4, [.int 0, .int 0, .null]))).2 (n + 8) = some (.inl (0, 1000, .inl cd)) := (zn_ne (by omega)).trans ecd
      have r8 : ∀ k, k < 1000 → 0 ≤ cd k ∧ cd k ≤ 40000 := by
        obtain ⟨c8, e8, f8, rfl, r8⟩ := w1.1 8 (by decide)
        have z := Option.some.inj (ecd.symm.trans e8)
        injection z with z
        injection z with _ z
        injection z with _ z
        injection z with z
        rw [z]
        exact r8
      generalize znew hq (.inr (4, [.int 0, .int 0, .null])) = h2 at w2 eA sA ecd2
      generalize hq.1.1 = A at eA sA big tA tB
      refine wp_eq (E_0_11 w2) ?_
      refine wp_eq (gR_0_3 w2) ?_
      refine wp_zif (ob_6 w2) ?_
      refine wp_bind (u_written w2 hs ecd2) fun q22 p22 => ?_
      obtain ⟨e22, c, e23, km⟩ := p22
      rw [eo, nI_clamp (by omega)] at km
      have wb : WT n b L xs τ (gB (gB g1 A (g.1 10 3) (fun z => if z = 0 then g1.1 0 11 else v)) (A + 1) 0 (fun j => nI (o.getD j 0))) (znew h2 c) := WT.reB (WT.reB w2.new tA) tB
      have hix : ∀ a, (gB (gB g1 A (g.1 10 3) (fun z => if z = 0 then g1.1 0 11 else v)) (A + 1) 0 (fun j => nI (o.getD j 0))).2.1 11 a = if a = A + 1 then 0 else if a = A then g.1 10 3 else g.2.1 11 a := fun a => by
        rw [gB_ix, gB_ix, g2e]
      have hA : ∀ z, z < 1001 → (gB (gB g1 A (g.1 10 3) (fun z => if z = 0 then g1.1 0 11 else v)) (A + 1) 0 (fun j => nI (o.getD j 0))).2.1 101 (1001 * A + z) = if z = 0 then g1.1 0 11 else v := fun z hz => by
        rw [gB_out hz (by omega), gB_own hz]
      have hB : ∀ z, z < 1001 → (gB (gB g1 A (g.1 10 3) (fun z => if z = 0 then g1.1 0 11 else v)) (A + 1) 0 (fun j => nI (o.getD j 0))).2.1 101 (1001 * (A + 1) + z) = nI (o.getD z 0) := fun z hz => gB_own hz
      have hO : ∀ a z, z < 1001 → a ≠ A → a ≠ A + 1 → (gB (gB g1 A (g.1 10 3) (fun z => if z = 0 then g1.1 0 11 else v)) (A + 1) 0 (fun j => nI (o.getD j 0))).2.1 101 (1001 * a + z) = g.2.1 101 (1001 * a + z) := fun a z hz a1 a2 => by
        rw [gB_out hz a2, gB_out hz a1, g2e]
      have h1g : (gB (gB g1 A (g.1 10 3) (fun z => if z = 0 then g1.1 0 11 else v)) (A + 1) 0 (fun j => nI (o.getD j 0))).1 = g1.1 := rfl
      have h3g : (gB (gB g1 A (g.1 10 3) (fun z => if z = 0 then g1.1 0 11 else v)) (A + 1) 0 (fun j => nI (o.getD j 0))).2.2 = g.2.2 := by rw [gB_3, gB_3, g2e]
      have h2g : ∀ j, j ≠ 11 → j ≠ 101 → (gB (gB g1 A (g.1 10 3) (fun z => if z = 0 then g1.1 0 11 else v)) (A + 1) 0 (fun j => nI (o.getD j 0))).2.1 j = g.2.1 j := fun j a1 a2 => by
        rw [gB_2 a1 a2, gB_2 a1 a2, g2e]
      generalize gB (gB g1 A (g.1 10 3) (fun z => if z = 0 then g1.1 0 11 else v)) (A + 1) 0 (fun j => nI (o.getD j 0)) = g2 at wb hix hA hB hO h1g h3g h2g
      have w3 : WT n b L xs (tu τ (A + 1) (o.length + 3)) g2 q22.2 := by
        rw [e23]
        refine wb.ext (by omega) (by show A + 1 < h2.1.1 + 1; omega) tB (by rw [← sA]; exact zn_same _ _) (by omega) ?_
        rw [km]
        refine ⟨_, rfl, by omega, fun k hk => ?_, fun k hk => ?_⟩
        · rw [if_pos hk]
          exact r8 k (by omega)
        · rw [if_pos hk, ec k hk, hB k (by omega)]
      have eA3 : q22.2.2 A = some (.inr (4, [.int 0, .int 0, .null])) := by
        rw [e23]
        exact (zn_ne (by omega)).trans eA
      have sA3 : A < q22.2.1.1 := by
        rw [e23]
        show A < h2.1.1 + 1
        omega
      have tA3 : tu τ (A + 1) (o.length + 3) A = 0 := by rw [tu_ne (by omega)]; exact tA
      have tB3 : tu τ (A + 1) (o.length + 3) (A + 1) = o.length + 3 := tu_same _ _ _
      have tO3 : ∀ a, a ≠ A + 1 → tu τ (A + 1) (o.length + 3) a = τ a := fun a ha => tu_ne ha
      rw [e22, sA]
      generalize q22.2 = h3 at w3 eA3 sA3
      generalize tu τ (A + 1) (o.length + 3) = τ3 at w3 tA3 tB3 tO3
      refine wp_bind (R := fun r => WT n b L xs (tu τ3 A 2) g2 r) ?_ (fun h23 w4 => ?_)
      · unfold f_X4_init
        refine wp_bind (pF_raw w3 big tA3 eA3 (Nat.le_of_ble_eq_true rfl)) fun h1 p1 => ?_
        obtain ⟨x1, x2, x3, x4⟩ := p1
        refine wp_bind (pF_raw x1 big tA3 x3 (Nat.le_of_ble_eq_true rfl)) fun h5 p5 => ?_
        obtain ⟨y1, y2, y3, y4⟩ := p5
        refine wp_bind (pF_raw y1 big tA3 y3 (Nat.le_of_ble_eq_true rfl)) fun h6 p6 => ?_
        obtain ⟨u1, u2, u3, u4⟩ := p6
        refine wp_some (u1.ext big (by rw [u2, y2, x2]; exact sA3) tA3 u3 (by decide) ?_)
        refine ⟨_, _, A + 1, rfl, ?_, rfl, ?_, ?_⟩
        · rw [tu_ne (by omega), tB3]
          omega
        · have := hA 0 (by decide)
          rw [Nat.add_zero, if_pos rfl] at this
          exact this.symm
        · have := hA 1 (by decide)
          rw [if_neg (by decide)] at this
          exact this.symm
      have t4 : tu τ3 A 2 A = 2 := tu_same _ _ _
      have t4o : ∀ a, a ≠ A → tu τ3 A 2 a = τ3 a := fun a ha => tu_ne ha
      generalize tu τ3 A 2 = τ4 at w4 t4 t4o
      have g10 : g2.1 10 3 = g.1 10 3 := by rw [h1g]; exact e10
      have g11 : g2.1 11 0 = g2.1 10 3 := by rw [h1g, e11, e10, lk.1, eN]
      have gix : g2.2.1 11 A = g2.1 10 3 := by rw [hix A, if_neg (by omega), if_pos rfl, g10]
      refine wp_zif (ob_10 w4) ?_
      refine wp_bind (v_X1_add w4 t4 (by rw [g10]; lia) g11 gix) fun h25 w25 => ?_
      refine wp_eq (gR_0_2 w25) ?_
      refine wp_bind (pI_3_2 w25 (x := 0) (by decide) (by decide)) fun h27 w27 => wp_some ⟨τ4, _, w27, ⟨fun j a1 a2 a3 a4 => ?_, rfl, fun j a1 a2 => h2g j a1 a2, h3g⟩, ⟨fun y => absurd y ok, fun _ => ⟨a13, ?_⟩⟩, fun y => (y.elim ok (fun z => z (z0.mp c13))).elim, fun _ _ => ⟨?_, fun a ta => ?_⟩⟩
      · rw [gset_out a1, gset_out a3, gset_out a4, h1g]
        exact s1.1 j a1 a2
      · rw [if_pos (z0.mp c13), ← g10]
        rfl
      · show g2.1 10 3 + 1 = nI (N + 1)
        rw [g10, eN, nI_1]
      · by_cases ea : a = A
        · subst ea
          refine ⟨N, by omega, ?_, ?_⟩
          · show g2.2.1 11 a = _
            rw [gix, g10, eN]
          · rw [show (fun q => if q = N then lwLs (sgT g) S else LS q) N = lwLs (sgT g) S from if_pos rfl]
            unfold LCd
            rw [ho, upd_at, upd_at]
            refine ⟨?_, ?_, ?_, lo, fun j hj => hB j (by omega)⟩
            · have := hA 0 (by decide)
              rw [Nat.add_zero, if_pos rfl, e0] at this
              exact this
            · have := hA 1 (by decide)
              rw [if_neg (by decide)] at this
              exact this
            · rw [t4o _ (by omega), tB3]
        · rw [t4o a ea] at ta
          have eb : a ≠ A + 1 := fun e => by
            rw [e, tB3] at ta
            omega
          have ta' := ta
          rw [tO3 a eb] at ta'
          obtain ⟨k9, k1, k2, k3, k4, k5, k6, k7⟩ := lk.2 a ta'
          have tnx : τ (a + 1) ≠ 0 := by omega
          have ec1 : a + 1 ≠ A := fun e => tnx (by rw [e]; exact tA)
          have ec2 : a + 1 ≠ A + 1 := fun e => ea (by omega)
          refine ⟨k9, by omega, ?_, ?_⟩
          · show g2.2.1 11 a = _
            rw [hix a, if_neg eb, if_neg ea]
            exact k2
          · rw [show (fun q => if q = N then lwLs (sgT g) S else LS q) k9 = LS k9 from if_neg (by omega), upd_ne (by omega), upd_ne (by omega)]
            refine ⟨?_, ?_, ?_, k6, fun j hj => ?_⟩
            · have := hO a 0 (by decide) ea eb
              rw [Nat.add_zero] at this
              exact this.trans k3
            · exact (hO a 1 (by decide) ea eb).trans k4
            · rw [t4o _ ec1, tO3 _ ec2]
              exact k5
            · exact (hO (a + 1) j (by omega) ec1 ec2).trans (k7 j hj)
    · refine wp_eq (gR_0_2 w1) ?_
      refine wp_bind (pI_3_2 w1 (x := 0) (by decide) (by decide)) fun h3 w3 => wp_some ⟨τ, _, w3, SmK_of s1, ⟨fun y => absurd y ok, fun _ => ⟨a13, ?_⟩⟩, fun _ => LK_eq lk ?_ ?_ ?_, fun _ z => absurd (z0.mpr z) c13⟩
      · rw [if_neg (fun y => c13 (z0.mpr y)), ← e10]
        rfl
      · show g1.1 11 0 = _
        rw [s1.1 11 (by decide) (by decide)]
      · show g1.2.1 11 = _
        rw [s1.2.2]
      · show g1.2.1 101 = _
        rw [s1.2.2]
  · refine wp_eq (gR_0_2 w) ?_
    exact wp_bind (pI_3_2 w (x := 0) (by decide) (by decide)) fun h3 w3 => (have nl : noL v (g.1 10 3) := (by
      by_cases y : g.1 10 3 < 16
      · rw [if_pos y] at p6
        exact absurd p6 c6
      · exact Or.inr (Or.inr (by lia)))
    wp_some ⟨τ, _, w3, SmK_of (Sm_id g), no nl, lno nl⟩)
end CLW
