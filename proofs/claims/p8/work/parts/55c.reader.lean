/-! the class's reader, its longer methods -/
section RDR2
variable {n b L : Nat} {xs : Nat → Int32} {τ : Nat → Nat} {g : zGh} {h : zH} {k : Int} {w m t : Int32}
set_option maxHeartbeats 4000000 in
theorem t_X7_readPart (p : RP n b L xs τ g k w m t h) : wp (f_X7_readPart 10000 (n + 6) h) (fun r => ∃ w' t', RP n b L xs τ g k w' m t' r.2) := by
  unfold f_X7_readPart
  have ht := R_t p
  refine wp_eq (R_tape p) ?_
  refine wp_eq (R_tok p) ?_
  refine wp_bind (R := fun r => (r = 0 ∧ ¬ t = 9 ∧ ¬ t = 40) ∨ (r = 1 ∧ (t = 9 ∨ t = 40))) ?_ (fun m3 p3 => ?_)
  · refine wp_ite (fun c => wp_some (Or.inr ⟨rfl, Or.inl c⟩)) (fun c => ?_)
    exact wp_ite (fun c2 => wp_some (Or.inr ⟨rfl, Or.inr c2⟩)) (fun c2 => wp_some (Or.inl ⟨rfl, c, c2⟩))
  refine wp_bind (R := fun r => -1 ≤ r ∧ r ≤ 7) ?_ (fun m6 p6 => ?_)
  · refine wp_ite (fun c => ?_) (fun c => wp_some (by decide))
    refine wp_eq (R_tape p) ?_
    refine wp_bind (R_key p) fun x9 _ => ?_
    refine wp_zif (R_ob6 p) ?_
    exact wp_bind (t_X7_nameOf p) fun r q => wp_some q
  refine wp_bind (R := fun r => (r = 0 ∧ ¬ (10 ≤ t ∧ t ≤ 20) ∧ ¬ t = 200 ∧ ¬ t = 201) ∨ (r = 1 ∧ ((10 ≤ t ∧ t ≤ 20) ∨ t = 200 ∨ t = 201))) ?_ (fun m12 p12 => ?_)
  · refine in11 (fun c => ?_) (fun c => wp_some (Or.inr ⟨rfl, Or.inl c⟩))
    refine wp_ite (fun c2 => wp_some (Or.inr ⟨rfl, Or.inr (Or.inl c2)⟩)) (fun c2 => ?_)
    exact wp_ite (fun c3 => wp_some (Or.inr ⟨rfl, Or.inr (Or.inr c3)⟩)) (fun c3 => wp_some (Or.inl ⟨rfl, c, c2, c3⟩))
  have z3 : m3 = 0 ∨ m3 = 1 := by
    rcases p3 with p3 | p3
    · exact Or.inl p3.1
    · exact Or.inr p3.1
  refine wp_bind (R := fun r => match r with | .inl a => a = h ∧ ((m3 = 1 ∧ (t = 9 ∨ t = 40)) ∨ (m3 = 0 ∧ ((10 ≤ t ∧ t ≤ 20) ∨ t = 200 ∨ t = 201))) | .inr a => ∃ w' t', RP n b L xs τ g k w' m t' a.2) ?_ (fun m16 p16 => ?_)
  · refine wp_ite (fun c => ?_) (fun c => wp_some ⟨rfl, ?_⟩)
    · refine wp_ite (fun c2 => ?_) (fun c2 => wp_some ⟨rfl, ?_⟩)
      · refine wp_zif (R_ob6 p) ?_
        refine wp_bind (t_X7_wrong p (by decide) (by decide) k) fun h21 p21 => ?_
        exact wp_map (wp_rZ z3 ⟨w, t, p21⟩)
      · rcases p12 with p12 | p12
        · exact absurd p12.1 c2
        · exact Or.inr ⟨c, p12.2⟩
    · rcases p3 with p3 | p3
      · exact absurd p3.1 c
      · exact Or.inl p3
  rcases m16 with s17 | a16
  · obtain ⟨rfl, tt⟩ := p16
    refine wp_zsL ?_
    refine wp_bind (R := fun r => match r with | .inl a => a = s17 | .inr a => ∃ w' t', RP n b L xs τ g k w' m t' a.2) ?_ (fun m23 p23 => ?_)
    · refine wp_ite (fun c => ?_) (fun c => wp_some rfl)
      refine wp_ite (fun c2 => ?_) (fun c2 => wp_some rfl)
      refine wp_zif (R_ob6 p) ?_
      refine wp_bind (t_X7_wrong p (by decide) (by decide) k) fun h21 p21 => ?_
      exact wp_map (wp_rZ z3 ⟨w, t, p21⟩)
    rcases m23 with s24 | a23
    · have e24 : s24 = s17 := p23
      subst e24
      refine wp_zsL ?_
      refine wp_bind (R_ar p) fun x30 _ => ?_
      refine wp_ite (fun c30 => ?_) (fun c30 => ?_)
      · refine wp_ite (fun c31 => ?_) (fun c31 => ?_)
        · have t2 : (10 ≤ t ∧ t ≤ 20) ∨ t = 200 ∨ t = 201 := by
            rcases tt with tt | tt
            · rw [c31] at tt; exact absurd tt.1 (by decide)
            · exact tt.2
          refine wp_bind (R := fun r => 0 ≤ r ∧ r ≤ 40000) ?_ (fun m33 p33 => ?_)
          · refine wp_ite (fun c => ?_) (fun c => ?_)
            · refine wp_eq (R_tape p) ?_
              refine wp_bind (R_num p) fun x37 p37 => wp_some ⟨p37.1, by lia⟩
            · refine wp_ite (fun c2 => wp_some ?_) (fun c2 => wp_some ?_)
              · exact ⟨by lia, by lia⟩
              · exact ⟨by lia, by lia⟩
          refine wp_zif (R_ob6 p) ?_
          refine wp_bind (t_X7_write p p33.1 p33.2) fun h39 p39 => ?_
          refine wp_zif (R_ob6 p39) ?_
          refine wp_bind (t_X7_writeNots p39) fun h41 p41 => ?_
          obtain ⟨w', p41⟩ := p41
          refine wp_eq (R_tape p41) ?_
          refine wp_zif (R_ob3 p41) ?_
          refine wp_bind (t_adv p41) fun h44 p44 => ?_
          obtain ⟨t', -, q⟩ := p44
          exact wp_rZ z3 ⟨w', t', (q (by lia)).mono (by omega)⟩
        · have t2 : t = 9 ∨ t = 40 := by
            rcases tt with tt | tt
            · exact tt.2
            · exact absurd tt.1 c31
          refine wp_zif (R_ob6 p) ?_
          refine wp_bind (t_X7_hold p (v1 := t) ht.1 ht.2) fun h46 p46 => ?_
          obtain ⟨w', p46⟩ := p46
          refine wp_bind (R_ar p46) fun x47 _ => ?_
          refine wp_bind (W_ar p46) fun h48 p48 => ?_
          refine wp_eq (R_tape p48) ?_
          refine wp_zif (R_ob3 p48) ?_
          refine wp_bind (t_adv p48) fun h51 p51 => ?_
          obtain ⟨t', -, q⟩ := p51
          exact wp_rZ z3 ⟨w', t', (q (by lia)).mono (by omega)⟩
      · refine wp_zif (R_ob6 p) ?_
        refine wp_bind (t_X7_wrong p (by decide) (by decide) k) fun h53 p53 => ?_
        exact wp_rZ z3 ⟨w, t, p53⟩
    · exact wp_zsR p23
  · exact wp_zsR p16
theorem t_X7_closeBracket (p : RP n b L xs τ g k w m t h) (ht : t = 41) : wp (f_X7_closeBracket 10000 (n + 6) h) (fun r => ∃ w' t', RP n b L xs τ g k w' m t' r) := by
  unfold f_X7_closeBracket
  refine wp_zif (R_ob6 p) ?_
  refine wp_bind (t_X7_writeWaiting p (by decide)) fun h2 p2 => ?_
  obtain ⟨w2, p2⟩ := p2
  refine wp_zif (R_ob6 p2) ?_
  refine wp_bind (t_X7_lastWaiting p2) fun q4 p4 => ?_
  refine wp_bind (R := fun r => ∃ w', RP n b L xs τ g k w' m t r) ?_ (fun m5 p5 => ?_)
  · refine wp_ite (fun c => ?_) (fun c => wp_some ⟨w2, p2⟩)
    have hw : 1 ≤ w2 := by
      rcases p4 with p4 | p4
      · rw [c] at p4; exact absurd p4 (by decide)
      · exact p4.2.2
    refine wp_eq (R_w p2) ?_
    refine wp_bind (t_X7_drop p2 hw) fun h8 p8 => ?_
    refine wp_bind (R_ar p8) fun x9 _ => ?_
    refine wp_bind (W_ar p8) fun h10 p10 => wp_some ⟨_, p10.mono (by omega)⟩
  obtain ⟨w5, p5⟩ := p5
  refine wp_zif (R_ob6 p5) ?_
  refine wp_bind (t_X7_writeNots p5) fun h12 p12 => ?_
  obtain ⟨w', p12⟩ := p12
  refine wp_eq (R_tape p12) ?_
  refine wp_zif (R_ob3 p12) ?_
  refine wp_bind (t_adv p12) fun h15 p15 => ?_
  obtain ⟨t', q, -⟩ := p15
  exact wp_some ⟨w', t', q⟩
theorem t_X7_readOperator (p : RP n b L xs τ g k w m t h) (hr : ¬ p_X7_rank t ≤ 0) : wp (f_X7_readOperator 10000 (n + 6) h) (fun r => ∃ w' t', RP n b L xs τ g k w' m t' r) := by
  unfold f_X7_readOperator
  have ht := R_t p
  have hr2 := rank_r t
  have ht2 : ¬ t = 202 := by
    intro e
    rw [e] at hr
    exact hr (by decide)
  refine wp_eq (R_tape p) ?_
  refine wp_eq (R_tok p) ?_
  refine wp_zletE fun x3 e3 => ?_
  rw [← e3] at hr hr2
  refine wp_zif (R_ob6 p) ?_
  refine wp_bind (t_X7_writeWaiting p (v1 := x3 + 1) (by lia)) fun h5 p5 => ?_
  obtain ⟨w5, p5⟩ := p5
  refine wp_bind (R := fun r => match r with | .inl a => a = h5 | .inr a => ∃ w' t', RP n b L xs τ g k w' m t' a) ?_ (fun m6 p6 => ?_)
  · refine wp_ite (fun c => ?_) (fun c => wp_some rfl)
    refine wp_zif (R_ob6 p5) ?_
    refine wp_bind (t_X7_lastWaiting p5) fun q10 _ => ?_
    refine wp_ite (fun c2 => ?_) (fun c2 => wp_some rfl)
    refine wp_zif (R_ob6 p5) ?_
    refine wp_bind (t_X7_wrong p5 (by decide) (by decide) k) fun h13 p13 => ?_
    exact wp_map (wp_some ⟨w5, t, p13⟩)
  rcases m6 with s7 | a6
  · have e7 : s7 = h5 := p6
    subst e7
    refine wp_zsL ?_
    refine wp_zif (R_ob6 p5) ?_
    refine wp_bind (t_X7_writeWaiting p5 (v1 := x3) (by lia)) fun h16 p16 => ?_
    obtain ⟨w16, p16⟩ := p16
    refine wp_zif (R_ob6 p16) ?_
    refine wp_bind (t_X7_hold p16 (v1 := t) ht.1 ht.2) fun h18 p18 => ?_
    obtain ⟨w', p18⟩ := p18
    refine wp_eq (R_tape p18) ?_
    refine wp_zif (R_ob3 p18) ?_
    refine wp_bind (t_adv p18) fun h21 p21 => ?_
    obtain ⟨t', -, q⟩ := p21
    exact wp_some ⟨w', t', (q ht2).mono (by omega)⟩
  · exact wp_zsR p6
theorem t_X7_readExpression_L14 : ∀ (q : Nat) {v1 v2 w t : Int32} {h : zH}, RP n b L xs τ g k w m t h → 0 ≤ v2 → (9000 - v2.toInt).toNat < q → wp (f_X7_readExpression_L14 10000 (n + 6) q v1 v2 h) (fun r => ∃ w' t', RP n b L xs τ g k w' m t' r) := by
  intro q
  induction q with
  | zero => intro v1 v2 w t h p i0 hm; exact absurd hm (Nat.not_lt_zero _)
  | succ q ih =>
    intro v1 v2 w t h p i0 hm
    rw [f_X7_readExpression_L14.eq_2]
    refine wp_ite (fun c => wp_some ⟨w, t, p⟩) (fun c => ?_)
    refine wp_bind (R_ft p) fun x4 _ => ?_
    refine wp_ite (fun c4 => ?_) (fun c4 => wp_some ⟨w, t, p⟩)
    refine wp_ite (fun c5 => ?_) (fun c5 => ?_)
    · refine wp_eq (R_tape p) ?_
      refine wp_eq (R_tok p) ?_
      refine wp_bind (R := fun r => match r with | .inl a => a = (v2, h) | .inr a => ∃ w' t', RP n b L xs τ g k w' m t' a) ?_ (fun m9 p9 => ?_)
      · refine wp_ite (fun c6 => ?_) (fun c6 => wp_some rfl)
        refine wp_bind (R_ar p) fun x12 _ => ?_
        refine wp_ite (fun c7 => wp_some rfl) (fun c7 => ?_)
        refine wp_zif (R_ob6 p) ?_
        refine wp_bind (t_X7_closeBracket p c6) fun h15 p15 => ?_
        obtain ⟨w', t', p15⟩ := p15
        exact wp_map (ih p15 (by lia) (mu_up (by lia) (by lia) hm))
      rcases m9 with s10 | a9
      · have e10 : s10 = (v2, h) := p9
        subst e10
        refine wp_zsL ?_
        refine wp_eq (R_tape p) ?_
        refine wp_eq (R_tok p) ?_
        refine wp_ite (fun c8 => wp_some ⟨w, t, p⟩) (fun c8 => ?_)
        refine wp_zif (R_ob6 p) ?_
        refine wp_bind (t_X7_readOperator p c8) fun h21 p21 => ?_
        obtain ⟨w', t', p21⟩ := p21
        exact ih p21 (by show 0 ≤ v2 + 1; lia) (mu_up (by lia) (by lia) hm)
      · exact wp_zsR p9
    · refine wp_zif (R_ob6 p) ?_
      refine wp_bind (t_X7_readPart p) fun q23 p23 => ?_
      obtain ⟨w', t', p23⟩ := p23
      exact ih p23 (by lia) (mu_up (by lia) (by lia) hm)
theorem t_X7_readExpression (p : RP n b L xs τ g k w m t h) : wp (f_X7_readExpression 10000 (n + 6) h) (fun r => ∃ w' t', RP n b L xs τ g (k + w.toInt) w' m t' r) := by
  unfold f_X7_readExpression
  refine wp_bind (W_w p (x := 0) (by decide) (by decide)) fun h1 p1 => ?_
  have p1 : RP n b L xs τ g (k + w.toInt) 0 m t h1 := p1.mono (by have : (0 : Int32).toInt = 0 := rfl; omega)
  refine wp_bind (W_ar p1) fun h2 p2 => ?_
  refine wp_bind (t_X7_readExpression_L14 _ p2 (by decide) (mu_0 (by decide))) fun m24 p24 => ?_
  obtain ⟨w24, t24, p24⟩ := p24
  refine wp_bind (R_ar p24) fun x25 _ => ?_
  refine wp_bind (R := fun r => RP n b L xs τ g (k + w.toInt) w24 m t24 r) ?_ (fun m26 p26 => ?_)
  · refine wp_ite (fun _ => wp_some p24) (fun _ => ?_)
    refine wp_zif (R_ob6 p24) ?_
    exact wp_bind (t_X7_wrong p24 (by decide) (by decide) _) fun r q => wp_some q
  refine wp_zif (R_ob6 p26) ?_
  refine wp_bind (t_X7_writeWaiting p26 (by decide)) fun h31 p31 => ?_
  obtain ⟨w', p31⟩ := p31
  exact wp_some ⟨w', t24, p31⟩
set_option maxHeartbeats 4000000 in
theorem t_X7_readLine {v1 : Int32} (p : RP n b L xs τ g k w m t h) (hm : m ≤ 50) : wp (f_X7_readLine 10000 (n + 6) v1 h) (fun r => ∃ w' m' t', RP n b L xs τ g (k + w.toInt + 1) w' m' t' r ∧ m' ≤ m + 1) := by
  unfold f_X7_readLine
  have ht := R_t p
  have hm0 := R_m p
  refine wp_eq (R_tape p) ?_
  refine wp_eq (R_tok p) ?_
  refine wp_bind (R := fun r => match r with | .inl a => a = h ∧ (t = 4 ∨ t = 20 ∨ t = 5) | .inr a => RP n b L xs τ g (k + w.toInt + 1) w m t a) ?_ (fun m3 p3 => ?_)
  · refine wp_ite (fun c => wp_some ⟨rfl, Or.inl c⟩) (fun c => ?_)
    refine wp_ite (fun c => wp_some ⟨rfl, Or.inr (Or.inl c)⟩) (fun c => ?_)
    refine wp_ite (fun c => wp_some ⟨rfl, Or.inr (Or.inr c)⟩) (fun c => ?_)
    refine wp_zif (R_ob6 p) ?_
    refine wp_bind (t_X7_wrong p (by decide) (by decide) (k + w.toInt + 1)) fun h9 p9 => ?_
    exact wp_map (wp_some p9)
  rcases m3 with s4 | a3
  · obtain ⟨rfl, tt⟩ := p3
    refine wp_zsL ?_
    refine wp_ite (fun c => ?_) (fun c => ?_)
    · obtain ⟨x12, e12, p12⟩ := R_sz p
      refine wp_eq e12 ?_
      refine wp_zif (R_ob6 p) ?_
      refine wp_bind (t_X7_write p (v1 := t) ht.1 (by lia)) fun h14 p14 => ?_
      refine wp_eq (R_tape p14) ?_
      refine wp_zif (R_ob3 p14) ?_
      refine wp_bind (t_adv p14) fun h17 p17 => ?_
      obtain ⟨t17, -, q17⟩ := p17
      have p17 := (q17 (by lia)).mono (k' := k) (by omega)
      refine wp_zif (R_ob6 p17) ?_
      refine wp_bind (t_X7_readWhatFor p17) fun h19 p19 => ?_
      obtain ⟨t19, p19⟩ := p19
      refine wp_zif (R_ob6 p19) ?_
      refine wp_bind (t_X7_write p19 (v1 := 0) (by decide) (by decide)) fun h21 p21 => ?_
      refine wp_bind (R := fun r => r = 61 ∨ r = 6) ?_ (fun m22 p22 => ?_)
      · exact wp_ite (fun _ => wp_some (Or.inl rfl)) (fun _ => wp_some (Or.inr rfl))
      refine wp_zif (R_ob6 p21) ?_
      refine wp_bind (t_X7_expect p21 (v1 := m22) (by lia)) fun h25 p25 => ?_
      obtain ⟨t25, p25⟩ := p25
      have p25 := p25.mono (k' := k) (by omega)
      refine wp_zif (R_ob6 p25) ?_
      refine wp_bind (t_X7_readExpression p25) fun h27 p27 => ?_
      obtain ⟨w27, t27, p27⟩ := p27
      refine wp_zif (R_ob6 p27) ?_
      refine wp_bind (t_X7_expect p27 (v1 := 59) (by decide)) fun h29 p29 => ?_
      obtain ⟨t29, p29⟩ := p29
      refine wp_bind (R_ft p29) fun x30 _ => ?_
      refine wp_bind (R := fun r => RP n b L xs τ g (k + w.toInt + 1) w27 m t29 r) ?_ (fun m31 p31 => ?_)
      · refine wp_ite (fun c30 => ?_) (fun c30 => wp_some p29)
        obtain ⟨x33, e33, p33⟩ := R_sz p29
        refine wp_eq e33 ?_
        refine wp_ite (fun c33 => wp_some p29) (fun c33 => ?_)
        refine wp_eq (R_1 p29) ?_
        refine wp_eq e33 ?_
        refine wp_bind (W_8 p29 (i := x12 + 3 - 1) (x := x33 - x12 - 3) (by lia) (by lia) (by lia) (by lia)) fun h37 p37 => wp_some p37
      refine wp_bind (R_ft p31) fun x38 _ => ?_
      refine wp_ite (fun c38 => ?_) (fun c38 => wp_some ⟨w27, m, t29, p31, by lia⟩)
      refine wp_ite (fun c39 => ?_) (fun c39 => wp_some ⟨w27, m, t29, p31, by lia⟩)
      refine wp_eq (R_nm p31) ?_
      refine wp_bind (W_nm p31 (x := m + 1) (by lia) (by lia)) fun h42 p42 => wp_some ⟨w27, m + 1, t29, p42, by lia⟩
    · refine wp_zif (R_ob6 p) ?_
      exact wp_bind (t_X7_wrong p (by decide) (by decide) (k + w.toInt + 1)) fun r q => wp_some ⟨w, m, t, q, by lia⟩
  · refine wp_zsR ⟨w, m, t, p3, by lia⟩
theorem t_X7_read_L29 : ∀ (q : Nat) {v2 w m t : Int32} {d : Int} {h : zH}, RP n b L xs τ g (d - w.toInt) w m t h → (d = 1 ∨ (d = 0 ∧ gI h (n + 6) 7 5 = some 0)) → m ≤ v2 → 0 ≤ v2 → (9000 - v2.toInt).toNat < q → wp (f_X7_read_L29 10000 (n + 6) q v2 h) (fun r => ∃ w' m' t' d', RP n b L xs τ g (d' - w'.toInt) w' m' t' r ∧ (d' = 1 ∨ gI r (n + 6) 7 5 = some 0)) := by
  intro q
  induction q with
  | zero => intro v2 w m t d h p hd hm i0 hq; exact absurd hq (Nat.not_lt_zero _)
  | succ q ih =>
    intro v2 w m t d h p hd hm i0 hq
    have hd2 : d = 1 ∨ gI h (n + 6) 7 5 = some 0 := hd.imp id (fun q => q.2)
    have hd3 : 0 ≤ d := by omega
    rw [f_X7_read_L29.eq_2]
    refine wp_ite (fun c => wp_some ⟨w, m, t, d, p, hd2⟩) (fun c => ?_)
    refine wp_bind (R_ft p) fun x9 _ => ?_
    refine wp_ite (fun c9 => ?_) (fun c9 => wp_some ⟨w, m, t, d, p, hd2⟩)
    refine wp_eq (R_tape p) ?_
    refine wp_eq (R_tok p) ?_
    refine wp_ite (fun c12 => wp_some ⟨w, m, t, d, p, hd2⟩) (fun c12 => ?_)
    refine wp_zif (R_ob6 p) ?_
    refine wp_bind (t_X7_readLine p (by lia)) fun h15 p15 => ?_
    obtain ⟨w', m', t', p15, hm'⟩ := p15
    have hm0 := R_m p15
    have hm1 := R_m p
    have hw0 := i32_0 (R_w0 p15).1
    exact ih (d := 1) (p15.mono (by omega)) (Or.inl rfl) (by lia) (by lia) (mu_up i0 (by lia) hq)
set_option maxHeartbeats 4000000 in
theorem t_X7_read (W : WT n b L xs τ g h) : wp (f_X7_read 10000 (n + 6) (n + 3) h) (fun r => ∃ g', WT n b L xs τ g' r.2 ∧ Sm g g' ∧ (r.1 = 0 → g'.1 6 5 ≤ 999)) := by
  unfold f_X7_read
  refine wp_bind (pR_6_3 W) fun h1 w1 => ?_
  refine wp_bind (pI_6_4 w1 (x := 0) (by decide) (by decide)) fun h2 w2 => ?_
  refine wp_bind (pI_6_5 w2 (x := 0) (by decide) (by decide)) fun h3 w3 => ?_
  refine wp_bind (pI_6_8 w3 (x := 0)) fun h4 w4 => ?_
  have s4 : Sm g (gset (gset (gset (gset g 6 3 1) 6 4 0) 6 5 0) 6 8 0) := Sm_6 (Sm_6 (Sm_6 (Sm_6 ⟨fun _ _ _ => rfl, rfl, rfl⟩)))
  have q3 : (gset (gset (gset (gset g 6 3 1) 6 4 0) 6 5 0) 6 8 0).1 6 3 = 1 := rfl
  have q4 : (gset (gset (gset (gset g 6 3 1) 6 4 0) 6 5 0) 6 8 0).1 6 4 = 0 := rfl
  have q5 : (gset (gset (gset (gset g 6 3 1) 6 4 0) 6 5 0) 6 8 0).1 6 5 = 0 := rfl
  generalize gset (gset (gset (gset g 6 3 1) 6 4 0) 6 5 0) 6 8 0 = g4 at w4 s4 q3 q4 q5
  refine wp_eq (gR_6_3 w4 q3) ?_
  refine wp_zif (ob_3 w4) ?_
  refine wp_bind (R := fun r => ∃ t, RP n b L xs τ g (0 - (g4.1 6 6).toInt) (g4.1 6 6) 0 t r ∧ gI r (n + 6) 7 5 = some 0) ?_ (fun h7 p7 => ?_)
  · unfold f_X9_start
    refine wp_bind (pI_3_3 w4 (x := 0) (by decide) (by decide)) fun h5 w5 => ?_
    refine wp_zif (ob_3 w5) ?_
    have W2 : WT n b L xs τ (gT g4 0 (g4.1 3 4) (g4.1 3 5) (g4.1 3 6)) h5 := by
      rw [← gT_3 g4 (g4.1 3 3), gT_id]
      exact w5
    refine wp_bind (t_X9_advance W2 (by decide) (gr_3_2 w4).1 (gr_3_2 w4).2) fun r q => ?_
    obtain ⟨nx', tk', pl', nu', w6, c1, c2, c3, c4⟩ := q
    have l1 := i32_0 c1
    refine wp_some ⟨tk', ⟨_, w6, Sm_T s4, q3, rfl, q4, rfl, fun _ => ?_, ?_, c2, c3, c4⟩, ?_⟩
    · show (g4.1 6 5).toInt + (g4.1 6 6).toInt + (0 - (g4.1 6 6).toInt) ≤ pl'.toInt
      rw [q5]
      have : (0 : Int32).toInt = 0 := rfl
      omega
    · show 0 ≤ nx'
      lia
    · obtain ⟨x, e, q⟩ := gI_6_5 w6
      rw [e, q.1]
      show some (g4.1 6 5) = _
      rw [q5]
  obtain ⟨t, p7, z7⟩ := p7
  refine wp_bind (t_X7_read_L29 _ p7 (Or.inr ⟨rfl, z7⟩) (by decide) (by decide) (mu_0 (by decide))) fun m16 p16 => ?_
  obtain ⟨w', m', t', d', ⟨g', W', s', a3, a4, a5, a6, a7, a8⟩, z⟩ := p16
  refine wp_bind (gI_6_8 W') fun x17 p17 => wp_some ⟨g', W', s', fun e => ?_⟩
  have e17 : x17 = 0 := e
  rcases z with z | z
  · have y := a7 (p17.symm.trans e17)
    have y2 := (gr_3_5 W').2
    have y3 := Int32.le_iff_toInt_le.mp y2
    have y4 : (1000 : Int32).toInt = 1000 := rfl
    refine Int32.le_iff_toInt_le.mpr ?_
    show _ ≤ (999 : Int)
    omega
  · obtain ⟨x, ex, q⟩ := gI_6_5 W'
    rw [ex] at z
    cases z
    rw [← q.1]
    decide
end RDR2
