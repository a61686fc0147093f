/-! the reference's reader: tokens -/
theorem mu_gt {i j : Int32} (h0 : 0 ≤ i) (h1 : i < j) (h2 : j ≤ 9000) {m : Nat} (hm : (9000 - i.toInt).toNat < m + 1) : (9000 - j.toInt).toNat < m := by
  have a := i32_0 h0
  have c := Int32.lt_iff_toInt_lt.mp h1
  have d : j.toInt ≤ 9000 := by simpa using Int32.le_iff_toInt_le.mp h2
  omega
def gC (g : zGh) (S : Nat → Int32) (V : Nat → Int64) : zGh := gsL (gsA g 44 S) 46 V
theorem gC_S (g : zGh) (S S' : Nat → Int32) (V : Nat → Int64) : gsA (gC g S V) 44 S' = gC g S' V := by
  refine Prod.ext rfl (Prod.ext ?_ rfl)
  funext p
  show (if p = 44 then S' else if p = 44 then S else _) = (if p = 44 then S' else _)
  by_cases e : p = 44 <;> simp [e]
theorem gC_V (g : zGh) (S : Nat → Int32) (V V' : Nat → Int64) : gsL (gC g S V) 46 V' = gC g S V' := by
  refine Prod.ext rfl (Prod.ext rfl ?_)
  funext p
  show (if p = 46 then V' else if p = 46 then V else _) = (if p = 46 then V' else _)
  by_cases e : p = 46 <;> simp [e]
theorem gC_id (g : zGh) : gC g (g.2.1 44) (g.2.2 46) = g := by
  refine Prod.ext rfl (Prod.ext ?_ ?_)
  · funext p
    show (if p = 44 then _ else _) = _
    by_cases e : p = 44 <;> simp [e]
  · funext p
    show (if p = 46 then g.2.2 46 else g.2.2 p) = g.2.2 p
    by_cases e : p = 46 <;> simp [e]
section CUT
variable {n b L : Nat} {xs : Nat → Int32} {τ : Nat → Nat} {g : zGh} {h : zH}
theorem P_cut_L70 {v4 sz : Int32} (w : WT n b L xs τ g h) (es : gI h (n + 42) 12 3 = some sz) (hs : sz ≤ 1000) : ∀ (m : Nat) {v2 : Int32} {v5 : Int64}, 0 ≤ v2 → v2 ≤ sz → (9000 - v2.toInt).toNat < m → wp (f_X12_cutAll_L70 10000 (n + 42) v4 h m v2 v5) (fun r => v2 ≤ r.1 ∧ r.1 ≤ sz ∧ (v2 < sz → ∀ x, aI h (n + 43) v2 = some x → ¬ p_X12_isLetter x = 0 → v2 < r.1)) := by
  intro m
  induction m with
  | zero => intro v2 v5 i0 i1 hm; exact absurd hm (Nat.not_lt_zero _)
  | succ m ih =>
    intro v2 v5 i0 i1 hm
    rw [f_X12_cutAll_L70.eq_2]
    refine wp_eq es ?_
    refine wp_ite (fun c => wp_some ⟨by lia, i1, fun z => absurd z (by lia)⟩) (fun c => ?_)
    refine wp_eq (gR_42_1 w) ?_
    obtain ⟨x, ex, -⟩ := aI_43 w i0 (show v2 < 1000 by lia)
    refine wp_eq ex ?_
    refine wp_ite (fun c2 => wp_some ⟨by lia, i1, fun _ y ey ny => ?_⟩) (fun c2 => ?_)
    · rw [ex] at ey
      cases ey
      exact absurd c2 ny
    refine wp_ite (fun c3 => ?_) (fun c3 => ?_)
    · refine wp_mono (ih (by lia) (by lia) (mu_up i0 (by lia) hm)) fun r q => ?_
      obtain ⟨q1, q2, -⟩ := q
      exact ⟨by lia, q2, fun _ _ _ _ => by lia⟩
    · refine wp_eq (gR_42_1 w) ?_
      refine wp_eq ex ?_
      refine wp_zlet ?_
      refine wp_mono (ih (by lia) (by lia) (mu_up i0 (by lia) hm)) fun r q => ?_
      obtain ⟨q1, q2, -⟩ := q
      exact ⟨by lia, q2, fun _ _ _ _ => by lia⟩
theorem P_cut_L159 {v4 sz : Int32} (w : WT n b L xs τ g h) (es : gI h (n + 42) 12 3 = some sz) (hs : sz ≤ 1000) : ∀ (m : Nat) {v2 : Int32} {v5 : Int64}, 0 ≤ v2 → v2 ≤ sz → (9000 - v2.toInt).toNat < m → wp (f_X12_cutAll_L159 10000 (n + 42) v4 h m v2 v5) (fun r => v2 ≤ r.1 ∧ r.1 ≤ sz ∧ (v2 < sz → ∀ x, aI h (n + 43) v2 = some x → ¬ p_X12_isDigit x = 0 → v2 < r.1)) := by
  intro m
  induction m with
  | zero => intro v2 v5 i0 i1 hm; exact absurd hm (Nat.not_lt_zero _)
  | succ m ih =>
    intro v2 v5 i0 i1 hm
    rw [f_X12_cutAll_L159.eq_2]
    refine wp_eq es ?_
    refine wp_ite (fun c => wp_some ⟨by lia, i1, fun z => absurd z (by lia)⟩) (fun c => ?_)
    refine wp_eq (gR_42_1 w) ?_
    obtain ⟨x, ex, -⟩ := aI_43 w i0 (show v2 < 1000 by lia)
    refine wp_eq ex ?_
    refine wp_ite (fun c2 => wp_some ⟨by lia, i1, fun _ y ey ny => ?_⟩) (fun c2 => ?_)
    · rw [ex] at ey
      cases ey
      exact absurd c2 ny
    refine wp_ite (fun c3 => ?_) (fun c3 => ?_)
    · refine wp_mono (ih (by lia) (by lia) (mu_up i0 (by lia) hm)) fun r q => ?_
      obtain ⟨q1, q2, -⟩ := q
      exact ⟨by lia, q2, fun _ _ _ _ => by lia⟩
    · refine wp_eq (gR_42_1 w) ?_
      refine wp_eq ex ?_
      refine wp_zlet ?_
      refine wp_mono (ih (by lia) (by lia) (mu_up i0 (by lia) hm)) fun r q => ?_
      obtain ⟨q1, q2, -⟩ := q
      exact ⟨by lia, q2, fun _ _ _ _ => by lia⟩
set_option maxHeartbeats 4000000 in
theorem P_cut_L17 : ∀ (m : Nat) {v1 v2 : Int32} {S : Nat → Int32} {V : Nat → Int64} {h : zH}, WT n b L xs τ (gC g S V) h → 0 ≤ v1 → v1 ≤ v2 → v2 ≤ 1000 → (9000 - v2.toInt).toNat < m → wp (f_X12_cutAll_L17 10000 (n + 42) m v1 v2 h) (fun r => 0 ≤ r.1 ∧ r.1 ≤ 1000 ∧ ∃ S' V', WT n b L xs τ (gC g S' V') r.2) := by
  intro m
  induction m with
  | zero => intro v1 v2 S V h w i0 i1 i2 hm; exact absurd hm (Nat.not_lt_zero _)
  | succ m ih =>
    intro v1 v2 S V h w i0 i1 i2 hm
    rw [f_X12_cutAll_L17.eq_2]
    obtain ⟨sz, es, rs⟩ := gI_42_3 w
    refine wp_eq es ?_
    refine wp_ite (fun c => wp_some ⟨i0, by lia, S, V, w⟩) (fun c => ?_)
    have k2 : v2 < 1000 := by lia
    refine wp_eq (gR_42_1 w) ?_
    obtain ⟨x7, e7, -⟩ := aI_43 w (show 0 ≤ v2 by lia) k2
    refine wp_eq e7 ?_
    refine wp_ite (fun c1 => ih w i0 (by lia) (by lia) (mu_up (by lia) (by lia) hm)) (fun c1 => ?_)
    refine wp_ite (fun c1 => ih w i0 (by lia) (by lia) (mu_up (by lia) (by lia) hm)) (fun c1 => ?_)
    refine wp_eq (gR_42_5 w) ?_
    refine wp_bindE (sI_45 w (i := v1) (x := v2) i0 (by lia) (by lia) (by lia)) fun h11 E11 w11 => ?_
    obtain ⟨c11, k11⟩ := keep_sI E11
    have es11 : gI h11 (n + 42) 12 3 = some sz := by
      rw [k11, gI_zn (by omega)]
      exact es
    have e711 : aI h11 (n + 43) v2 = some x7 := by
      rw [k11, aI_zn (by omega)]
      exact e7
    refine wp_bind (R := fun r => v2 < r.1 ∧ r.1 ≤ 1000 ∧ ∃ S', WT n b L xs τ (gC g S' V) r.2.2) ?_ (fun m12 p12 => ?_)
    · refine wp_ite (fun cL => ?_) (fun cL => ?_)
      · refine wp_ite (fun cD => ?_) (fun cD => ?_)
        · refine wp_zlet ?_
          refine wp_eq (gR_42_4 w11) ?_
          refine wp_ite (fun _ => ?_) (fun _ => ?_)
          · refine wp_bind (sI_44 w11 (i := v1) i0 (by lia)) fun h18 w18 => ?_
            rw [gC_S] at w18
            exact wp_some ⟨by show v2 < v2 + 1; lia, by show v2 + 1 ≤ 1000; lia, _, w18⟩
          · refine wp_bind (sI_44 w11 (i := v1) i0 (by lia)) fun h18 w18 => ?_
            rw [gC_S] at w18
            exact wp_some ⟨by show v2 < v2 + 1; lia, by show v2 + 1 ≤ 1000; lia, _, w18⟩
        · refine wp_bind (P_cut_L159 w11 es11 rs.2 _ (by lia) (by lia) (mu_0 (by lia))) fun m29 p29 => ?_
          obtain ⟨q1, q2, q3⟩ := p29
          have q4 := q3 (by lia) x7 e711 cD
          refine wp_eq (gR_42_4 w11) ?_
          refine wp_ite (fun _ => ?_) (fun _ => ?_)
          · refine wp_bind (sI_44 w11 (i := v1) i0 (by lia)) fun h18 w18 => ?_
            rw [gC_S] at w18
            exact wp_some ⟨q4, by show m29.1 ≤ 1000; lia, _, w18⟩
          · refine wp_bind (sI_44 w11 (i := v1) i0 (by lia)) fun h18 w18 => ?_
            rw [gC_S] at w18
            exact wp_some ⟨q4, by show m29.1 ≤ 1000; lia, _, w18⟩
      · refine wp_bind (P_cut_L70 w11 es11 rs.2 _ (by lia) (by lia) (mu_0 (by lia))) fun m29 p29 => ?_
        obtain ⟨q1, q2, q3⟩ := p29
        have q4 := q3 (by lia) x7 e711 cL
        refine wp_eq (gR_42_4 w11) ?_
        refine wp_ite (fun _ => ?_) (fun _ => ?_)
        · refine wp_bind (sI_44 w11 (i := v1) i0 (by lia)) fun h18 w18 => ?_
          rw [gC_S] at w18
          exact wp_some ⟨q4, by show m29.1 ≤ 1000; lia, _, w18⟩
        · refine wp_bind (sI_44 w11 (i := v1) i0 (by lia)) fun h18 w18 => ?_
          rw [gC_S] at w18
          exact wp_some ⟨q4, by show m29.1 ≤ 1000; lia, _, w18⟩
    obtain ⟨q1, q2, S', w12⟩ := p12
    refine wp_eq (gR_42_6 w12) ?_
    refine wp_bind (sL_46 w12 (i := v1) i0 (by lia)) fun h49 w49 => ?_
    rw [gC_V] at w49
    exact ih w49 (by lia) (by lia) q2 (mu_gt (by lia) q1 (by lia) hm)
/-- behind cutAll: an empty tape, tokens up to one that is the end, the reader at the first -/
theorem P_cutAll (w : WT n b L xs τ g h) : wp (f_X12_cutAll 10000 (n + 42) h) (fun r => ∃ nT S V, nT ≤ 1000 ∧ S nT = 0 ∧ WT n b L xs τ (gset (gset (gC (gset g 42 2 0) S V) 42 7 0) 42 8 0) r) := by
  unfold f_X12_cutAll
  have r2 := gr_42_2 w
  refine wp_eq (E_42_2 w) ?_
  refine wp_bind (pI_42_3 w (x := g.1 42 2) r2.1 r2.2) fun h2 w2 => ?_
  refine wp_bind (pI_42_2 w2 (x := 0) (by decide) (by decide)) fun h3 w3 => ?_
  have w3' : WT n b L xs τ (gC (gset g 42 2 0) (g.2.1 44) (g.2.2 46)) h3 := by
    have e : gC (gset g 42 2 0) (g.2.1 44) (g.2.2 46) = gset g 42 2 0 := gC_id (gset g 42 2 0)
    rw [e]
    exact w3
  refine wp_bind (P_cut_L17 _ w3' (by decide) (by decide) (by decide) (mu_0 (by decide))) fun m50 p50 => ?_
  obtain ⟨q0, q1, S, V, w50⟩ := p50
  have cl := i32_clamp (i := m50.1) q0 (N := 1001) (by decide) (by show m50.1 < 1001; lia)
  refine wp_eq (gR_42_4 w50) ?_
  refine wp_bind (sI_44 w50 (i := m50.1) (x := 0) q0 (by lia)) fun h52 w52 => ?_
  rw [gC_S] at w52
  refine wp_eq (gR_42_5 w52) ?_
  obtain ⟨x54, e54, p54⟩ := gI_42_3 w52
  refine wp_eq e54 ?_
  refine wp_bind (sI_45 w52 (i := m50.1) (x := x54) q0 (by lia) p54.1 p54.2) fun h55 w55 => ?_
  refine wp_bind (pI_42_7 w55 (x := 0) (by decide) (by decide)) fun h56 w56 => ?_
  refine wp_bind (pI_42_8 w56 (x := 0)) fun h57 w57 => ?_
  exact wp_some ⟨m50.1.toNatClampNeg, _, V, by omega, upd_at _ _ _, w57⟩
end CUT
