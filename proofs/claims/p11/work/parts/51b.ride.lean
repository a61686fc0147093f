/-! the ride over a typed heap -/
section RIDE
variable {n b L : Nat} {xs : Nat → Int32} {τ : Nat → Nat} {g : zGh} {h : zH} {M : Nat}
theorem rEnd_le (q : Nat → Int32 × Int32 × Int32 × Int32 × Int32) : ∀ (k i : Nat), rEnd q k i ≤ k + i := by
  intro k
  induction k with
  | zero => intro i; exact Nat.le_of_eq (Nat.zero_add i).symm
  | succ k ih =>
    intro i
    unfold rEnd
    split
    · omega
    · have := ih (i + 1)
      omega
theorem i32_nI {v : Int32} (h0 : 0 ≤ v) : nI v.toNatClampNeg = v := by
  have a : (0 : Int) ≤ v.toInt := by simpa using Int32.le_iff_toInt_le.mp h0
  apply Int32.toInt_inj.mp
  show (Int32.ofNat v.toInt.toNat).toInt = _
  have : v.toInt < 2 ^ 31 := Int32.toInt_lt v
  rw [Int32.toInt_ofNat_of_lt (by omega)]
  omega
theorem nI_r {j m : Nat} (hj : j ≤ m) (hm : m < 2 ^ 31) : 0 ≤ nI j ∧ nI j ≤ nI m := by
  refine ⟨Int32.le_iff_toInt_le.mpr ?_, Int32.le_iff_toInt_le.mpr ?_⟩
  · show (0 : Int) ≤ (Int32.ofNat j).toInt
    rw [Int32.toInt_ofNat_of_lt (by omega)]
    omega
  · show (Int32.ofNat j).toInt ≤ (Int32.ofNat m).toInt
    rw [Int32.toInt_ofNat_of_lt (by omega), Int32.toInt_ofNat_of_lt (by omega)]
    omega
theorem rM_r (q : Nat → Int32 × Int32 × Int32 × Int32 × Int32) {j : Nat} (hj : j ≤ 60) : -1 ≤ rM q j ∧ rM q j ≤ 60 := by
  unfold rM
  have := nI_r hj (by decide : 60 < 2 ^ 31)
  have e : nI 60 = 60 := rfl
  rw [e] at this
  split
  · lia
  · lia
theorem t_X8_go {v2 v3 : Int32} (w : WT n b L xs τ g h) (t : τ M = 1) (p0 : 0 ≤ v3) (p1 : v3 ≤ 60) : wp (f_X8_go 10000 (n + 2) M v2 v3 h) (fun r => WT n b L xs τ g r) := by
  obtain ⟨c, e0, i, rfl, r0⟩ := w.1 2 (by decide)
  obtain ⟨cM, eM, k, rfl, r1, r2, r3, r4, r5, r6⟩ := mt_of w t
  obtain ⟨hM1, hM2, -⟩ := w.2.1 M (by rw [t]; decide)
  have hu : v3.toNatClampNeg ≤ 60 := by
    have := (i32_clamp (i := v3) p0 (N := 61) (by decide) (by show v3 < 61; lia)).2
    omega
  have q := go_eq (N := 10000) (R := n + 2) (M := M) (h := h) (a := i 0) (b := i 1) (c := i 2) (d := i 3) (e := i 4) (g := i 5) (i := i 6) (sp := v2) (m0 := k 0) (m1 := k 1) (reacts := k 2) (m3 := k 3) (pace := k 4) (looks := k 5) (sx := k 7) (sy := k 8) (fl := k 9) (u := v3.toNatClampNeg) (by omega) ⟨gI_of eM rfl, gI_of eM rfl, gI_of eM rfl, gI_of eM rfl, gI_of eM rfl, gI_of eM rfl, gI_of eM rfl, gI_of eM rfl, gI_of eM rfl⟩ ⟨zBrk, w.2.2.2.2.1.1, rfl, rfl, rfl⟩ (by have := w.2.2.2.2.1.2; omega) (by lia) hu (by decide)
  have e0' : zset h (n + 2) (rL (i 0) (i 1) (i 2) (i 3) (i 4) (i 5) (i 6)) = h := zs_id e0
  rw [i32_nI p0, e0'] at q
  refine ⟨_, q, w.set (j := 2) (by decide) ?_⟩
  generalize (rSeq (k 0) (k 3) v2 (k 2) (k 4) (k 5) (k 7) (k 8) (k 9)) = sq
  have hj : rEnd sq v3.toNatClampNeg 0 ≤ 60 := by have := rEnd_le sq v3.toNatClampNeg 0; omega
  generalize rEnd sq v3.toNatClampNeg 0 = j at hj
  exact ⟨fun z => ([(sq j).1, (sq j).2.1, (sq j).2.2.1, nI j, sF (k 7) (k 8) (sq j).1 (sq j).2.1 (nI j) (sq j).2.2.2.1, (sq j).2.2.2.2, rM sq j] : List Int32).getD z 0, rfl, rM_r sq hj⟩
/-- a meeting's fields as they are tracked, its way, and what is settled of it -/
def gMf (g : zGh) (M : Nat) : Nat → Int32 := fun z => g.1 100 (16 * (g.2.1 1 M).toNatClampNeg + z)
def rQ (F : Nat → Int32) : Nat → Int32 × Int32 × Int32 × Int32 × Int32 := rSeq (F 0) (F 3) (F 1) (F 2) (F 4) (F 5) (F 7) (F 8) (F 9)
def rE (F : Nat → Int32) : Nat := rEnd (rQ F) 60 0
def mtF (F : Nat → Int32) : Int32 := rM (rQ F) (rE F)
def fiF (F : Nat → Int32) : Int32 := sF (F 7) (F 8) (rQ F (rE F)).1 (rQ F (rE F)).2.1 (nI (rE F)) (rQ F (rE F)).2.2.2.1
def MK (F : Nat → Int32) (x s re y p l sx sy fl wd : Int32) : Prop := (F 0 = x ∧ F 1 = s ∧ F 2 = re ∧ F 3 = y ∧ F 4 = p) ∧ ((l &&& 1 = 1) = ¬ F 5 = 0) ∧ F 6 = l >>> (1 &&& 31) ∧ (F 7 = sx ∧ (¬ F 7 = 0 → F 8 = sy) ∧ F 9 = fl ∧ F 10 = wd) ∧ (F 7 = 0 ∨ F 7 < 0) ∧ (F 9 = 0 ∨ F 9 = 1 ∨ F 9 = 2) ∧ (1 ≤ F 1 ∧ F 1 ≤ 300) ∧ 1 ≤ F 4 ∧ F 11 = mtF F ∧ F 12 = fiF F
theorem rQ_congr {F F' : Nat → Int32} (e : ∀ z, z < 10 → F z = F' z) : rQ F = rQ F' := by
  unfold rQ
  rw [e 0 (by decide), e 1 (by decide), e 2 (by decide), e 3 (by decide), e 4 (by decide), e 5 (by decide), e 7 (by decide), e 8 (by decide), e 9 (by decide)]
theorem mtF_congr {F F' : Nat → Int32} (e : ∀ z, z < 10 → F z = F' z) : mtF F = mtF F' := by
  unfold mtF rE
  rw [rQ_congr e]
theorem fiF_congr {F F' : Nat → Int32} (e : ∀ z, z < 10 → F z = F' z) : fiF F = fiF F' := by
  unfold fiF rE
  rw [rQ_congr e, e 7 (by decide), e 8 (by decide)]
theorem v_X8_go {v2 v3 : Int32} (w : WT n b L xs τ g h) (t : τ M = 1) (p0 : 0 ≤ v3) (p1 : v3 ≤ 60) : ∃ r, f_X8_go 10000 (n + 2) M v2 v3 h = some r ∧ WT n b L xs τ g r ∧ r = zset h (n + 2) (rFin (gMf g M 7) (gMf g M 8) (rSeq (gMf g M 0) (gMf g M 3) v2 (gMf g M 2) (gMf g M 4) (gMf g M 5) (gMf g M 7) (gMf g M 8) (gMf g M 9)) (rEnd (rSeq (gMf g M 0) (gMf g M 3) v2 (gMf g M 2) (gMf g M 4) (gMf g M 5) (gMf g M 7) (gMf g M 8) (gMf g M 9)) v3.toNatClampNeg 0)) := by
  obtain ⟨c, e0, i, rfl, r0⟩ := w.1 2 (by decide)
  obtain ⟨hM1, hM2, -⟩ := w.2.1 M (by rw [t]; decide)
  have hu : v3.toNatClampNeg ≤ 60 := by
    have := (i32_clamp (i := v3) p0 (N := 61) (by decide) (by show v3 < 61; lia)).2
    omega
  obtain ⟨x9, ex9, r9⟩ := gI_m_9 w t
  have e9 : x9 = gMf g M 9 := Option.some.inj (ex9.symm.trans (G_m_9 w t))
  rw [e9] at r9
  have q := go_eq (N := 10000) (R := n + 2) (M := M) (h := h) (a := i 0) (b := i 1) (c := i 2) (d := i 3) (e := i 4) (g := i 5) (i := i 6) (sp := v2) (m0 := gMf g M 0) (m1 := gMf g M 1) (reacts := gMf g M 2) (m3 := gMf g M 3) (pace := gMf g M 4) (looks := gMf g M 5) (sx := gMf g M 7) (sy := gMf g M 8) (fl := gMf g M 9) (u := v3.toNatClampNeg) (by omega) ⟨G_m_0 w t, G_m_1 w t, G_m_2 w t, G_m_3 w t, G_m_4 w t, G_m_5 w t, G_m_7 w t, G_m_8 w t, G_m_9 w t⟩ ⟨zBrk, w.2.2.2.2.1.1, rfl, rfl, rfl⟩ (by have := w.2.2.2.2.1.2; omega) (by lia) hu (by decide)
  have e0' : zset h (n + 2) (rL (i 0) (i 1) (i 2) (i 3) (i 4) (i 5) (i 6)) = h := zs_id e0
  rw [i32_nI p0, e0'] at q
  obtain ⟨r, er, wr⟩ := t_X8_go (v2 := v2) w t p0 p1
  have e8 := Option.some.inj (er.symm.trans q)
  refine ⟨_, q, ?_, rfl⟩
  rw [← e8]
  exact wr
theorem end_F {a : Nat} {F : Nat → Int32} (w : WT n b L xs τ g h) (t : τ a = 1) (e : g.1 100 (16 * (g.2.1 1 a).toNatClampNeg + 11) = mtF F) : f_X6_end 10000 a h = some (nI (rE F)) := by
  unfold f_X6_end
  rw [G_m_11 w t, e]
  show (if mtF F = -1 then some 60 else some (mtF F)) = _
  by_cases c : 0 < rE F ∧ rMt (rQ F (rE F)) = true
  · have e1 : mtF F = nI (rE F) := if_pos c
    have h60 : rE F ≤ 60 := rEnd_60 _
    have e2 : ¬ nI (rE F) = -1 := by
      intro z
      have h9 := nI_pos (n := rE F) (by omega)
      rw [z] at h9
      exact absurd (by decide) h9
    rw [e1, if_neg e2]
  · have e1 : mtF F = -1 := if_neg c
    have e2 : rE F = 60 := rEnd_no _ c
    rw [e1, if_pos rfl, e2]
    rfl
theorem u_X8_settle {K : Nat} {F : Nat → Int32} (w : WT n b L xs τ g h) (t : τ M = 1) (eK : (g.2.1 1 M).toNatClampNeg = K) (eF : ∀ z, z < 10 → g.1 100 (16 * K + z) = F z) : wp (f_X8_settle 10000 (n + 2) M h) (fun r => WT n b L xs τ (gset (gset g 100 (16 * K + 11) (mtF F)) 100 (16 * K + 12) (fiF F)) r) := by
  subst eK
  have eF' : ∀ z, z < 10 → gMf g M z = F z := eF
  obtain ⟨hM1, hM2, -⟩ := w.2.1 M (by rw [t]; decide)
  have ne : n + 2 ≠ M := by omega
  unfold f_X8_settle
  refine wp_eq (G_m_1 w t) ?_
  refine wp_zif (ob_2 w) ?_
  obtain ⟨r, er, wr, hr⟩ := v_X8_go (v2 := g.1 100 (16 * (g.2.1 1 M).toNatClampNeg + 1)) (v3 := 60) w t (by decide) (by decide)
  refine wp_eq er ?_
  have eQ : rSeq (gMf g M 0) (gMf g M 3) (g.1 100 (16 * (g.2.1 1 M).toNatClampNeg + 1)) (gMf g M 2) (gMf g M 4) (gMf g M 5) (gMf g M 7) (gMf g M 8) (gMf g M 9) = rQ F := rQ_congr eF'
  have e60 : (60 : Int32).toNatClampNeg = 60 := by decide
  rw [eQ, e60, eF' 7 (by decide), eF' 8 (by decide)] at hr
  have x2 : gI r (n + 2) 8 2 = some (rQ F (rE F)).2.2.1 := by
    rw [hr]
    unfold rFin rL
    rw [gI_zs]
    rfl
  have x4 : gI r (n + 2) 8 4 = some (fiF F) := by
    rw [hr]
    unfold rFin rL
    rw [gI_zs]
    rfl
  have x5 : gI r (n + 2) 8 5 = some (rQ F (rE F)).2.2.2.2 := by
    rw [hr]
    unfold rFin rL
    rw [gI_zs]
    rfl
  have x6 : gI r (n + 2) 8 6 = some (mtF F) := by
    rw [hr]
    unfold rFin rL
    rw [gI_zs]
    rfl
  have rm := rM_r (rQ F) (j := rE F) (rEnd_60 _)
  refine wp_eq x6 ?_
  refine wp_bindE (pI_m_11 (x := mtF F) wr t rm.1 rm.2) fun h5 E5 w5 => ?_
  refine wp_eq ((pF_keep E5 ne).trans x4) ?_
  refine wp_bindE (pI_m_12 (x := fiF F) w5 t) fun h7 E7 w7 => ?_
  refine wp_eq ((pF_keep E7 ne).trans ((pF_keep E5 ne).trans x5)) ?_
  refine wp_bindE (pI_m_13 w7 t) fun h9 E9 w9 => ?_
  refine wp_eq ((pF_keep E9 ne).trans ((pF_keep E7 ne).trans ((pF_keep E5 ne).trans x6))) ?_
  refine wp_ite (fun _ => ?_) (fun _ => ?_)
  · refine wp_bind (pI_m_14 w9 t) fun h15 w15 => ?_
    exact wp_bind (pI_m_15 w15 t) fun h16 w16 => wp_some w16
  · refine wp_eq ((pF_keep E9 ne).trans ((pF_keep E7 ne).trans ((pF_keep E5 ne).trans x2))) ?_
    refine wp_bind (pI_m_14 w9 t) fun h13 w13 => ?_
    exact wp_bind (pI_m_15 w13 t) fun h14 w14 => wp_some w14
end RIDE
