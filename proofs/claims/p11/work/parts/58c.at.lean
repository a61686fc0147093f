/-! at: class and reference side by side -/
def atK (g : zGh) (v1 : Int32) : Nat → Int32 := fun z => g.1 100 (16 * v1.toNatClampNeg + z)
def atOK (F : Nat → Int32) (c v1 v2 v3 : Int32) : Prop := (0 ≤ v1 ∧ v1 < c) ∧ (0 ≤ v2 ∧ v2 ≤ 1) ∧ (0 ≤ v3 ∧ v3 ≤ nI (rE F))
def atA (F : Nat → Int32) (v2 v3 : Int32) : Int32 := if v2 = 0 then (rQ F v3.toNatClampNeg).1 else (rQ F v3.toNatClampNeg).2.1
theorem at_ix {v : Int32} {E : Nat} (h0 : 0 ≤ v) (h1 : v ≤ nI E) (hE : E ≤ 60) : v.toNatClampNeg ≤ E := by
  have x := i32_0 h0
  have y := Int32.le_iff_toInt_le.mp h1
  have z : (nI E).toInt = (E : Int) := Int32.toInt_ofNat_of_lt (by omega)
  rw [z] at y
  show v.toInt.toNat ≤ E
  omega
section ATP
variable {n b L : Nat} {xs : Nat → Int32} {τ : Nat → Nat} {g : zGh} {h : zH}
theorem at_cls {v1 v2 v3 : Int32} (w : WT n b L xs τ g h) (c1 : g.1 1 0 = g.1 0 10) (m : ∀ k, k < (g.1 0 10).toNatClampNeg → MK (fun z => g.1 100 (16 * k + z)) (g.2.1 61 k) (g.2.1 62 k) (g.2.1 63 k) (g.2.1 64 k) (g.2.1 65 k) (g.2.1 66 k) (g.2.1 67 k) (g.2.1 68 k) (g.2.1 69 k) (g.2.1 70 k)) : (¬ atOK (atK g v1) (g.1 0 10) v1 v2 v3 → t_X11_at 10000 n v1 v2 v3 h = some true) ∧ (atOK (atK g v1) (g.1 0 10) v1 v2 v3 → wp (f_X11_at 10000 n v1 v2 v3 h) (fun q => q.1 = atA (atK g v1) v2 v3 ∧ WT n b L xs τ g q.2)) := by
  by_cases cm : 0 ≤ v1 ∧ v1 < g.1 0 10
  · obtain ⟨a, ea, ta, ia⟩ := u_mOf_i w c1 cm.1 cm.2
    have mk := m v1.toNatClampNeg (clamp_lt cm.1 cm.2)
    obtain ⟨-, -, -, -, -, -, -, -, m11, -⟩ := mk
    have hF : ∀ z, g.1 100 (16 * (g.2.1 1 a).toNatClampNeg + z) = atK g v1 z := by
      intro z
      rw [ia]
      rfl
    have ee := end_F (F := atK g v1) w ta ((hF 11).trans m11)
    have h60 : rE (atK g v1) ≤ 60 := rEnd_60 _
    refine ⟨fun no => ?_, fun ok => ?_⟩
    · unfold t_X11_at
      rw [ob_0 w, zif_t, ea]
      show (if p_X11_within v2 0 1 = 0 then some true else _) = _
      by_cases c2 : 0 ≤ v2 ∧ v2 ≤ 1
      · rw [within_eq v2, if_pos c2, if_neg (by decide : ¬ (1 : Int32) = 0), ob_m w ta, zif_t, ee]
        show (if p_X11_within v3 0 (nI (rE (atK g v1))) = 0 then some true else some false) = _
        rw [within_eq, if_neg (show ¬ (0 ≤ v3 ∧ v3 ≤ nI (rE (atK g v1))) from fun z => no ⟨cm, c2, z⟩), if_pos rfl]
      · rw [within_eq v2, if_neg c2, if_pos rfl]
    · obtain ⟨-, c2, c3⟩ := ok
      have le60 : v3 ≤ 60 := by
        have z := (nI_r h60 (by decide)).2
        have e : nI 60 = 60 := rfl
        rw [e] at z
        have z2 := c3.2
        lia
      have ht := at_ix c3.1 c3.2 h60
      obtain ⟨r, er, wr, hr⟩ := v_X8_go (v2 := g.1 100 (16 * (g.2.1 1 a).toNatClampNeg + 1)) (v3 := v3) w ta c3.1 le60
      have eQ : rSeq (gMf g a 0) (gMf g a 3) (g.1 100 (16 * (g.2.1 1 a).toNatClampNeg + 1)) (gMf g a 2) (gMf g a 4) (gMf g a 5) (gMf g a 7) (gMf g a 8) (gMf g a 9) = rQ (atK g v1) := rQ_congr (F := gMf g a) (fun z _ => hF z)
      have eE : rEnd (rQ (atK g v1)) v3.toNatClampNeg 0 = v3.toNatClampNeg := rEnd_cut _ ht
      rw [eQ, eE] at hr
      have x0 : gI r (n + 2) 8 0 = some (rQ (atK g v1) v3.toNatClampNeg).1 := by
        rw [hr]
        unfold rFin rL
        rw [gI_zs]
        rfl
      have x1 : gI r (n + 2) 8 1 = some (rQ (atK g v1) v3.toNatClampNeg).2.1 := by
        rw [hr]
        unfold rFin rL
        rw [gI_zs]
        rfl
      unfold f_X11_at
      refine wp_zif (ob_0 w) ?_
      refine wp_eq ea ?_
      refine wp_bind (R := fun r => match r with | .inl _ => False | .inr q => q.1 = atA (atK g v1) v2 v3 ∧ WT n b L xs τ g q.2) ?_ (fun m3 p3 => ?_)
      · show wp (if p_X11_within v2 0 1 = 0 then _ else _) _
        refine in11 (fun z => absurd c2 z) (fun _ => ?_)
        refine wp_zif (ob_m w ta) ?_
        refine wp_eq ee ?_
        refine in11 (fun z => absurd c3 z) (fun _ => ?_)
        refine wp_eq (gR_0_1 w) ?_
        refine wp_eq (G_m_1 w ta) ?_
        refine wp_zif (ob_2 w) ?_
        refine wp_eq er ?_
        refine wp_ite (fun z => ?_) (fun z => ?_)
        · refine wp_eq (gR_0_1 wr) ?_
          refine wp_eq x0 ?_
          exact wp_map (wp_some ⟨(if_pos z).symm, wr⟩)
        · refine wp_eq (gR_0_1 wr) ?_
          refine wp_eq x1 ?_
          exact wp_map (wp_some ⟨(if_neg z).symm, wr⟩)
      · rcases m3 with a3 | a3
        · exact p3.elim
        · exact wp_zsR p3
  · refine ⟨fun no => ?_, fun ok => absurd ok.1 cm⟩
    unfold t_X11_at
    rw [ob_0 w, zif_t, u_mOf_n w cm]
    rfl
theorem at_ref {v1 v2 v3 : Int32} (w : WT n b L xs τ g h) (c2 : g.1 42 27 = g.1 0 10) (c9 : ∀ i : Int32, 0 ≤ i → i < g.1 42 27 → 1 ≤ g.2.1 65 i.toNatClampNeg) (m : ∀ k, k < (g.1 0 10).toNatClampNeg → MK (fun z => g.1 100 (16 * k + z)) (g.2.1 61 k) (g.2.1 62 k) (g.2.1 63 k) (g.2.1 64 k) (g.2.1 65 k) (g.2.1 66 k) (g.2.1 67 k) (g.2.1 68 k) (g.2.1 69 k) (g.2.1 70 k)) : wp (f_X12_at 10000 (n + 42) v1 v2 v3 h) (fun r => WT n b L xs τ g r.2 ∧ yn (atOK (atK g v1) (g.1 0 10) v1 v2 v3) (r.1 = atA (atK g v1) v2 v3 ∧ gI r.2 (n + 42) 12 0 = some 0) (gI r.2 (n + 42) 12 0 = some 1)) := by
  unfold f_X12_at
  refine wp_bindE (pI_42_0 (x := 1) w) fun h1 E1 w1 => ?_
  have t1 : gI h1 (n + 42) 12 0 = some 1 := pF_gI E1
  have r27 := gr_42_27 w
  refine wp_zif (ob_42 w1) ?_
  refine wp_bind (t_X12_isMeeting w1) fun q3 p3 => ?_
  refine wp_ite (fun z => wp_some ⟨w1, yn_n (fun ok => ?_) t1⟩) (fun z => ?_)
  · rcases p3 with p3 | p3
    · exact p3.2 (by rw [c2]; exact ok.1)
    · rw [z] at p3
      exact absurd p3.1 (by decide)
  have cm : 0 ≤ v1 ∧ v1 < g.1 42 27 := (p3.resolve_left (fun y => z y.1)).2
  have cm' : 0 ≤ v1 ∧ v1 < g.1 0 10 := by rw [← c2]; exact cm
  refine in12 (fun c => wp_some ⟨w1, yn_n (fun ok => c ok.2.1) t1⟩) (fun cv2 => ?_)
  refine wp_eq (gR_42_30 w1) ?_
  refine wp_eq (A_62 w1 cm.1 (by lia)) ?_
  refine wp_zif (ob_42 w1) ?_
  obtain ⟨r, er, wr, x42, x43, x44, xa⟩ := v_X12_goes (F := atK g v1) w1 cm.1 cm.2 c9 rfl (m v1.toNatClampNeg (clamp_lt cm'.1 cm'.2))
  have h60 : rE (atK g v1) ≤ 60 := rEnd_60 _
  refine wp_eq er ?_
  refine wp_eq x42 ?_
  refine wp_bind (R := fun r => (r = 1 ∧ ¬ (0 ≤ v3 ∧ v3 ≤ nI (rE (atK g v1)))) ∨ (r = 0 ∧ (0 ≤ v3 ∧ v3 ≤ nI (rE (atK g v1))))) ?_ (fun m11 p11 => ?_)
  · exact in12 (fun c => wp_some (Or.inl ⟨rfl, c⟩)) (fun c => wp_some (Or.inr ⟨rfl, c⟩))
  refine wp_bindE (pI_42_0 (x := m11) wr) fun h13 E13 w13 => ?_
  have t13 : gI h13 (n + 42) 12 0 = some m11 := pF_gI E13
  refine wp_eq t13 ?_
  rcases p11 with ⟨e11, no⟩ | ⟨e11, ok3⟩
  · rw [e11] at t13 ⊢
    rw [if_neg (by decide : ¬ (1 : Int32) ≤ 0)]
    exact wp_some ⟨w13, yn_n (fun ok => no ok.2.2) t13⟩
  · rw [e11] at t13 ⊢
    rw [if_pos (by decide : (0 : Int32) ≤ 0)]
    have ht := at_ix ok3.1 ok3.2 h60
    have e3 : nI v3.toNatClampNeg = v3 := i32_nI ok3.1
    obtain ⟨ax, ay⟩ := xa _ ht
    rw [e3] at ax ay
    obtain ⟨fs, e0, hk, e13⟩ := pF_at E13
    have bx : aI h13 (n + 71) v3 = some (rQ (atK g v1) v3.toNatClampNeg).1 := by
      rw [e13, aI_zn (by omega)]
      exact ax
    have bY : aI h13 (n + 72) v3 = some (rQ (atK g v1) v3.toNatClampNeg).2.1 := by
      rw [e13, aI_zn (by omega)]
      exact ay
    refine wp_ite (fun z => ?_) (fun z => ?_)
    · refine wp_eq (gR_42_39 w13) ?_
      refine wp_eq bx ?_
      exact wp_some ⟨w13, yn_y ⟨cm', cv2, ok3⟩ ⟨(if_pos z).symm, t13⟩⟩
    · refine wp_eq (gR_42_40 w13) ?_
      refine wp_eq bY ?_
      exact wp_some ⟨w13, yn_y ⟨cm', cv2, ok3⟩ ⟨(if_neg z).symm, t13⟩⟩
end ATP
