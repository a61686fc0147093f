section TOT
variable {n b L : Nat} {xs : Nat → Int32} {τ : Nat → Nat} {g : zGh} {h : zH}
set_option maxRecDepth 100000 in
set_option maxHeartbeats 4000000 in
theorem t_X8_settle {v1 : Nat} (w : WT n b L xs τ g h) (e_v1 : τ v1 = 1) : wp (f_X8_settle 10000 (n + 2) v1 h) (fun r => WT n b L xs τ g r) := by
  unfold f_X8_settle
  refine wp_bindE (gI_m_1 (by assumption) (by assumption)) fun x1 E_x1 p_x1 => ?_
  refine wp_zif (ob_2 (by assumption)) ?_
  refine wp_bind (t_X8_go (by assumption) (by assumption) (by first | lia | assumption | exact Or.inr (by assumption)) (by first | lia | assumption | exact Or.inr (by assumption))) fun h3 p_h3 => ?_
  refine wp_bindE (gI_2_6 (by assumption)) fun x4 E_x4 p_x4 => ?_
  refine wp_bindE (pI_m_11 (by assumption) (by assumption) (by lia) (by lia)) fun h5 E_h5 p_h5 => ?_
  refine wp_bindE (gI_2_4 (by assumption)) fun x6 E_x6 p_x6 => ?_
  refine wp_bindE (pI_m_12 (by assumption) (by assumption)) fun h7 E_h7 p_h7 => ?_
  refine wp_bindE (gI_2_5 (by assumption)) fun x8 E_x8 p_x8 => ?_
  refine wp_bindE (pI_m_13 (by assumption) (by assumption)) fun h9 E_h9 p_h9 => ?_
  refine wp_bindE (gI_2_6 (by assumption)) fun x10 E_x10 p_x10 => ?_
  refine wp_ite (fun c1 => ?_) (fun c1 => ?_)
  · refine wp_bindE (pI_m_14 (by assumption) (by assumption)) fun h15 E_h15 p_h15 => ?_
    refine wp_bindE (pI_m_15 (by assumption) (by assumption)) fun h16 E_h16 p_h16 => ?_
    refine wp_some ?_
    first | trivial | assumption | lia
  · refine wp_bindE (gI_2_2 (by assumption)) fun x12 E_x12 p_x12 => ?_
    refine wp_bindE (pI_m_14 (by assumption) (by assumption)) fun h13 E_h13 p_h13 => ?_
    refine wp_bindE (pI_m_15 (by assumption) (by assumption)) fun h14 E_h14 p_h14 => ?_
    refine wp_some ?_
    first | trivial | assumption | lia
set_option maxRecDepth 100000 in
set_option maxHeartbeats 4000000 in
theorem t_X8_findSafeSpeed_L5 {v1 : Nat} (e_v1 : τ v1 = 1) : ∀ (m : Nat) {v2 : Int32} {h : zH}, WT n b L xs τ g h → v2 ≤ 9000 → (v2.toInt + 1).toNat < m → wp (f_X8_findSafeSpeed_L5 10000 (n + 2) v1 m v2 h) (fun r => (match r with | .inl a => WT n b L xs τ g a | .inr a => WT n b L xs τ g a.2)) := by
  intro m
  induction m with
  | zero => intro v2 h w i0 hm; exact absurd hm (Nat.not_lt_zero _)
  | succ m ih =>
    intro v2 h w i0 hm
    rw [f_X8_findSafeSpeed_L5.eq_2]
    refine wp_ite (fun c1 => ?_) (fun c1 => ?_)
    · refine wp_some ?_
      first | trivial | assumption | lia | (refine ⟨?_, ?_⟩ <;> first | trivial | assumption | lia)
    · refine wp_zif (ob_2 (by assumption)) ?_
      refine wp_bind (t_X8_go (by assumption) (by assumption) (by first | lia | assumption | exact Or.inr (by assumption)) (by first | lia | assumption | exact Or.inr (by assumption))) fun h4 p_h4 => ?_
      refine wp_bindE (gI_2_6 (by assumption)) fun x5 E_x5 p_x5 => ?_
      refine wp_ite (fun c2 => ?_) (fun c2 => ?_)
      · refine wp_some ?_
        first | trivial | assumption | lia | (refine ⟨?_, ?_⟩ <;> first | trivial | assumption | lia)
      · refine wp_mono (ih (by assumption) (by first | lia | assumption | exact Or.inr (by assumption)) (mu_dp (by lia) (by lia) hm)) fun z3 p_z3 => ?_
        try dsimp only at p_z3
        first | trivial | assumption | lia | (refine ⟨?_, ?_⟩ <;> first | trivial | assumption | lia)
set_option maxRecDepth 100000 in
set_option maxHeartbeats 4000000 in
theorem t_X8_findSafeSpeed {v1 : Nat} (w : WT n b L xs τ g h) (e_v1 : τ v1 = 1) : wp (f_X8_findSafeSpeed 10000 (n + 2) v1 h) (fun r => WT n b L xs τ g r.2) := by
  unfold f_X8_findSafeSpeed
  refine wp_bindE (gI_m_1 (by assumption) (by assumption)) fun x1 E_x1 p_x1 => ?_
  refine wp_bind (t_X8_findSafeSpeed_L5 (by assumption) _ (by assumption) (by first | lia | assumption | exact Or.inr (by assumption)) (mu_d0 (by lia))) fun m7 p_m7 => ?_
  rcases m7 with s8 | y1
  · refine wp_zsL ?_
    refine wp_some ?_
    first | trivial | assumption | lia
  · refine wp_zsR ?_
    first | trivial | assumption | lia
set_option maxRecDepth 100000 in
set_option maxHeartbeats 4000000 in
theorem t_X8_safeSpeed {v1 : Nat} (w : WT n b L xs τ g h) (e_v1 : τ v1 = 1) : wp (f_X8_safeSpeed 10000 (n + 2) v1 h) (fun r => WT n b L xs τ g r.2) := by
  unfold f_X8_safeSpeed
  refine wp_bindE (gI_m_15 (by assumption) (by assumption)) fun x1 E_x1 p_x1 => ?_
  refine wp_ite (fun c1 => ?_) (fun c1 => ?_)
  · refine wp_zif (ob_2 (by assumption)) ?_
    refine wp_bind (t_X8_findSafeSpeed (by assumption) (by assumption)) fun q5 p_q5 => ?_
    refine wp_bindE (pI_m_15 (by assumption) (by assumption)) fun h6 E_h6 p_h6 => ?_
    refine wp_eq (pF_gI E_h6) ?_
    refine wp_some ?_
    first | trivial | assumption | lia
  · refine wp_eq E_x1 ?_
    refine wp_some ?_
    first | trivial | assumption | lia
set_option maxRecDepth 100000 in
set_option maxHeartbeats 4000000 in
theorem t_X11_up {v0 : Int32} {v1 : Int32} (w : WT n b L xs τ g h) : wp (f_X11_up 10000 v0 v1 h) (fun r => True) := by
  unfold f_X11_up
  refine wp_ite (fun c1 => ?_) (fun c1 => ?_)
  · refine wp_zdiv (by lia) ?_
    refine wp_some ?_
    first | trivial | assumption | lia
  · refine wp_some ?_
    first | trivial | assumption | lia
set_option maxRecDepth 100000 in
set_option maxHeartbeats 4000000 in
theorem t_X11_meetingOf {v1 : Int32} (w : WT n b L xs τ g h) : wp (f_X11_meetingOf 10000 n v1 h) (fun r => (∀ a, r = some a → τ a = 1)) := by
  unfold f_X11_meetingOf
  refine wp_ite (fun c1 => ?_) (fun c1 => ?_)
  · refine wp_some ?_
    first | (intro a e; cases e; done) | exact p_x6.1
  · refine wp_bindE (gI_0_10 (by assumption)) fun x2 E_x2 p_x2 => ?_
    refine wp_ite (fun c2 => ?_) (fun c2 => ?_)
    · refine wp_some ?_
      first | (intro a e; cases e; done) | exact p_x6.1
    · refine wp_ite (fun c3 => ?_) (fun c3 => ?_)
      · refine wp_some ?_
        first | (intro a e; cases e; done) | exact p_x6.1
      · refine wp_eq (gR_0_0 (by assumption)) ?_
        refine wp_bindE (aQ_1 (by assumption) (by lia) (by lia)) fun x6 E_x6 p_x6 => ?_
        refine wp_some ?_
        first | (intro a e; cases e; done) | exact p_x6.1
set_option maxRecDepth 100000 in
set_option maxHeartbeats 4000000 in
theorem t_X11_stand {v1 : Int32} {v2 : Int32} {v3 : Int32} {v4 : Int32} {v5 : Int32} (w : WT n b L xs τ g h) : wp (f_X11_stand 10000 n v1 v2 v3 v4 v5 h) (fun r => (r.1 = 0 ∨ r.1 = 1) ∧ WT n b L xs τ g r.2) := by
  unfold f_X11_stand
  refine wp_zif (ob_0 (by assumption)) ?_
  refine wp_bind (t_X11_meetingOf (by assumption)) fun q2 p_q2 => ?_
  refine wp_bite (fun c1 => ?_) (fun c1 => ?_)
  · refine wp_bsome ?_
    refine wp_zopt (fun e2 => ?_) (fun a7 e2 => ?_)
    · refine wp_some ?_
      refine ⟨?_, ?_⟩ <;> first | trivial | assumption | lia
    · have t_a7 : τ a7 = 1 := p_q2 a7 e2
      refine wp_ite (fun c3 => ?_) (fun c3 => ?_)
      · refine wp_some ?_
        refine ⟨?_, ?_⟩ <;> first | trivial | assumption | lia
      · refine in11 (fun c4 => ?_) (fun c4 => ?_)
        · refine wp_some ?_
          refine ⟨?_, ?_⟩ <;> first | trivial | assumption | lia
        · refine in11 (fun c5 => ?_) (fun c5 => ?_)
          · refine wp_some ?_
            refine ⟨?_, ?_⟩ <;> first | trivial | assumption | lia
          · refine wp_bindE (pI_m_7 (by assumption) (by assumption)) fun h12 E_h12 p_h12 => ?_
            refine wp_bindE (pI_m_8 (by assumption) (by assumption)) fun h13 E_h13 p_h13 => ?_
            refine wp_bindE (pI_m_9 (by assumption) (by assumption) (by lia) (by lia)) fun h14 E_h14 p_h14 => ?_
            refine wp_bindE (pI_m_10 (by assumption) (by assumption)) fun h15 E_h15 p_h15 => ?_
            refine wp_eq (gR_0_1 (by assumption)) ?_
            refine wp_zif (ob_2 (by assumption)) ?_
            refine wp_bind (t_X8_settle (by assumption) (by assumption)) fun h18 p_h18 => ?_
            refine wp_some ?_
            refine ⟨?_, ?_⟩ <;> first | trivial | assumption | lia
  · refine in11b (fun c6 => ?_) (fun c6 => ?_)
    · refine wp_bsome ?_
      refine wp_zopt (fun e7 => ?_) (fun a7 e7 => ?_)
      · refine wp_some ?_
        refine ⟨?_, ?_⟩ <;> first | trivial | assumption | lia
      · have t_a7 : τ a7 = 1 := p_q2 a7 e7
        refine wp_ite (fun c8 => ?_) (fun c8 => ?_)
        · refine wp_some ?_
          refine ⟨?_, ?_⟩ <;> first | trivial | assumption | lia
        · refine in11 (fun c9 => ?_) (fun c9 => ?_)
          · refine wp_some ?_
            refine ⟨?_, ?_⟩ <;> first | trivial | assumption | lia
          · refine in11 (fun c10 => ?_) (fun c10 => ?_)
            · refine wp_some ?_
              refine ⟨?_, ?_⟩ <;> first | trivial | assumption | lia
            · refine wp_bindE (pI_m_7 (by assumption) (by assumption)) fun h12 E_h12 p_h12 => ?_
              refine wp_bindE (pI_m_8 (by assumption) (by assumption)) fun h13 E_h13 p_h13 => ?_
              refine wp_bindE (pI_m_9 (by assumption) (by assumption) (by lia) (by lia)) fun h14 E_h14 p_h14 => ?_
              refine wp_bindE (pI_m_10 (by assumption) (by assumption)) fun h15 E_h15 p_h15 => ?_
              refine wp_eq (gR_0_1 (by assumption)) ?_
              refine wp_zif (ob_2 (by assumption)) ?_
              refine wp_bind (t_X8_settle (by assumption) (by assumption)) fun h18 p_h18 => ?_
              refine wp_some ?_
              refine ⟨?_, ?_⟩ <;> first | trivial | assumption | lia
    · refine in11b (fun c11 => ?_) (fun c11 => ?_)
      · refine wp_bsome ?_
        refine wp_zopt (fun e12 => ?_) (fun a7 e12 => ?_)
        · refine wp_some ?_
          refine ⟨?_, ?_⟩ <;> first | trivial | assumption | lia
        · have t_a7 : τ a7 = 1 := p_q2 a7 e12
          refine wp_ite (fun c13 => ?_) (fun c13 => ?_)
          · refine wp_some ?_
            refine ⟨?_, ?_⟩ <;> first | trivial | assumption | lia
          · refine in11 (fun c14 => ?_) (fun c14 => ?_)
            · refine wp_some ?_
              refine ⟨?_, ?_⟩ <;> first | trivial | assumption | lia
            · refine in11 (fun c15 => ?_) (fun c15 => ?_)
              · refine wp_some ?_
                refine ⟨?_, ?_⟩ <;> first | trivial | assumption | lia
              · refine wp_bindE (pI_m_7 (by assumption) (by assumption)) fun h12 E_h12 p_h12 => ?_
                refine wp_bindE (pI_m_8 (by assumption) (by assumption)) fun h13 E_h13 p_h13 => ?_
                refine wp_bindE (pI_m_9 (by assumption) (by assumption) (by lia) (by lia)) fun h14 E_h14 p_h14 => ?_
                refine wp_bindE (pI_m_10 (by assumption) (by assumption)) fun h15 E_h15 p_h15 => ?_
                refine wp_eq (gR_0_1 (by assumption)) ?_
                refine wp_zif (ob_2 (by assumption)) ?_
                refine wp_bind (t_X8_settle (by assumption) (by assumption)) fun h18 p_h18 => ?_
                refine wp_some ?_
                refine ⟨?_, ?_⟩ <;> first | trivial | assumption | lia
      · refine wp_bsome ?_
        refine wp_zopt (fun e16 => ?_) (fun a7 e16 => ?_)
        · refine wp_some ?_
          refine ⟨?_, ?_⟩ <;> first | trivial | assumption | lia
        · have t_a7 : τ a7 = 1 := p_q2 a7 e16
          refine wp_ite (fun c17 => ?_) (fun c17 => ?_)
          · refine wp_some ?_
            refine ⟨?_, ?_⟩ <;> first | trivial | assumption | lia
          · refine in11 (fun c18 => ?_) (fun c18 => ?_)
            · refine wp_some ?_
              refine ⟨?_, ?_⟩ <;> first | trivial | assumption | lia
            · refine in11 (fun c19 => ?_) (fun c19 => ?_)
              · refine wp_some ?_
                refine ⟨?_, ?_⟩ <;> first | trivial | assumption | lia
              · refine wp_bindE (pI_m_7 (by assumption) (by assumption)) fun h12 E_h12 p_h12 => ?_
                refine wp_bindE (pI_m_8 (by assumption) (by assumption)) fun h13 E_h13 p_h13 => ?_
                refine wp_bindE (pI_m_9 (by assumption) (by assumption) (by lia) (by lia)) fun h14 E_h14 p_h14 => ?_
                refine wp_bindE (pI_m_10 (by assumption) (by assumption)) fun h15 E_h15 p_h15 => ?_
                refine wp_eq (gR_0_1 (by assumption)) ?_
                refine wp_zif (ob_2 (by assumption)) ?_
                refine wp_bind (t_X8_settle (by assumption) (by assumption)) fun h18 p_h18 => ?_
                refine wp_some ?_
                refine ⟨?_, ?_⟩ <;> first | trivial | assumption | lia
set_option maxRecDepth 100000 in
set_option maxHeartbeats 4000000 in
theorem t_X11_look {v1 : Int32} {v2 : Int32} (w : WT n b L xs τ g h) : wp (f_X11_look 10000 n v1 v2 h) (fun r => WT n b L xs τ g r.2) := by
  unfold f_X11_look
  refine wp_zif (ob_0 (by assumption)) ?_
  refine wp_bind (t_X11_meetingOf (by assumption)) fun q2 p_q2 => ?_
  refine wp_zopt (fun e1 => ?_) (fun a3 e1 => ?_)
  · refine wp_some ?_
    first | trivial | assumption | lia
  · have t_a3 : τ a3 = 1 := p_q2 a3 e1
    refine wp_ite (fun c2 => ?_) (fun c2 => ?_)
    · refine wp_bindE (gI_m_11 (by assumption) (by assumption)) fun x6 E_x6 p_x6 => ?_
      refine wp_some ?_
      first | trivial | assumption | lia
    · refine wp_ite (fun c3 => ?_) (fun c3 => ?_)
      · refine wp_bindE (gI_m_12 (by assumption) (by assumption)) fun x8 E_x8 p_x8 => ?_
        refine wp_some ?_
        first | trivial | assumption | lia
      · refine wp_ite (fun c4 => ?_) (fun c4 => ?_)
        · refine wp_eq (gR_0_1 (by assumption)) ?_
          refine wp_zif (ob_2 (by assumption)) ?_
          refine wp_bind (t_X8_safeSpeed (by assumption) (by assumption)) fun q12 p_q12 => ?_
          refine wp_some ?_
          first | trivial | assumption | lia
        · refine wp_ite (fun c5 => ?_) (fun c5 => ?_)
          · refine wp_zif (ob_m (by assumption) (by assumption)) ?_
            refine wp_bind (t_X6_seen (by assumption) (by assumption)) fun q15 p_q15 => ?_
            refine wp_some ?_
            first | trivial | assumption | lia
          · refine wp_ite (fun c6 => ?_) (fun c6 => ?_)
            · refine wp_bindE (gI_m_14 (by assumption) (by assumption)) fun x17 E_x17 p_x17 => ?_
              refine wp_some ?_
              first | trivial | assumption | lia
            · refine wp_ite (fun c7 => ?_) (fun c7 => ?_)
              · refine wp_zif (ob_m (by assumption) (by assumption)) ?_
                refine wp_bind (t_X6_signs (by assumption) (by assumption)) fun q20 p_q20 => ?_
                refine wp_some ?_
                first | trivial | assumption | lia
              · refine wp_ite (fun c8 => ?_) (fun c8 => ?_)
                · refine wp_bindE (gI_m_13 (by assumption) (by assumption)) fun x22 E_x22 p_x22 => ?_
                  refine wp_some ?_
                  first | trivial | assumption | lia
                · refine wp_some ?_
                  first | trivial | assumption | lia
set_option maxRecDepth 100000 in
set_option maxHeartbeats 4000000 in
theorem t_X11_viewNow (w : WT n b L xs τ g h) : wp (f_X11_viewNow 10000 n h) (fun r => 0 ≤ r ∧ r ≤ 30) := by
  unfold f_X11_viewNow
  refine wp_bindE (gI_0_12 (by assumption)) fun x1 E_x1 p_x1 => ?_
  refine wp_ite (fun c1 => ?_) (fun c1 => ?_)
  · refine wp_bindE (gI_0_11 (by assumption)) fun x4 E_x4 p_x4 => ?_
    refine wp_some ?_
    refine ⟨?_, ?_⟩ <;> first | trivial | assumption | lia
  · refine wp_eq E_x1 ?_
    refine wp_some ?_
    refine ⟨?_, ?_⟩ <;> first | trivial | assumption | lia
set_option maxRecDepth 100000 in
set_option maxHeartbeats 4000000 in
theorem t_X11_whose {v1 : Int32} {v2 : Int32} {v3 : Int32} (w : WT n b L xs τ g h) : wp (f_X11_whose 10000 n v1 v2 v3 h) (fun r => WT n b L xs τ g r.2) := by
  unfold f_X11_whose
  refine wp_zif (ob_0 (by assumption)) ?_
  refine wp_bind (t_X11_meetingOf (by assumption)) fun q2 p_q2 => ?_
  refine wp_zopt (fun e1 => ?_) (fun a3 e1 => ?_)
  · refine wp_some ?_
    first | trivial | assumption | lia
  · have t_a3 : τ a3 = 1 := p_q2 a3 e1
    refine in11 (fun c2 => ?_) (fun c2 => ?_)
    · refine wp_some ?_
      first | trivial | assumption | lia
    · refine wp_eq (gR_0_4 (by assumption)) ?_
      refine wp_zif (ob_0 (by assumption)) ?_
      refine wp_bind (t_X11_viewNow (by assumption)) fun q8 p_q8 => ?_
      obtain ⟨p0_q8, p1_q8⟩ := p_q8
      refine wp_zif (ob_10 (by assumption)) ?_
      refine wp_bind (t_X1_judge (by assumption) (by assumption)) fun h10 p_h10 => ?_
      refine wp_ite (fun c3 => ?_) (fun c3 => ?_)
      · refine wp_eq (gR_0_4 (by assumption)) ?_
        refine wp_bindE (gI_10_4 (by assumption)) fun x13 E_x13 p_x13 => ?_
        refine wp_some ?_
        first | trivial | assumption | lia
      · refine wp_ite (fun c4 => ?_) (fun c4 => ?_)
        · refine wp_eq (gR_0_4 (by assumption)) ?_
          refine wp_bindE (gI_10_5 (by assumption)) fun x16 E_x16 p_x16 => ?_
          refine wp_some ?_
          first | trivial | assumption | lia
        · refine wp_ite (fun c5 => ?_) (fun c5 => ?_)
          · refine wp_eq (gR_0_4 (by assumption)) ?_
            refine wp_bindE (gI_10_6 (by assumption)) fun x19 E_x19 p_x19 => ?_
            refine wp_some ?_
            first | trivial | assumption | lia
          · refine wp_ite (fun c6 => ?_) (fun c6 => ?_)
            · refine wp_eq (gR_0_4 (by assumption)) ?_
              refine wp_bindE (gI_10_7 (by assumption)) fun x22 E_x22 p_x22 => ?_
              refine wp_some ?_
              first | trivial | assumption | lia
            · refine wp_some ?_
              first | trivial | assumption | lia
set_option maxRecDepth 100000 in
set_option maxHeartbeats 4000000 in
theorem t_X11_changes_L44 {v2 : Int32} {a3 : Nat} (e_a3 : τ a3 = 1) : ∀ (m : Nat) {v4 : Int32} {v5 : Int32} {v6 : Int32} {h : zH}, WT n b L xs τ g h → 0 ≤ v6 → (9000 - v6.toInt).toNat < m → wp (f_X11_changes_L44 10000 n v2 (some a3) m v4 v5 v6 h) (fun r => (match r with | .inl a => WT n b L xs τ g a | .inr a => WT n b L xs τ g a.2)) := by
  intro m
  induction m with
  | zero => intro v4 v5 v6 h w i0 hm; exact absurd hm (Nat.not_lt_zero _)
  | succ m ih =>
    intro v4 v5 v6 h w i0 hm
    rw [f_X11_changes_L44.eq_2]
    refine wp_ite (fun c1 => ?_) (fun c1 => ?_)
    · refine wp_some ?_
      first | trivial | assumption | lia | (refine ⟨?_, ?_⟩ <;> first | trivial | assumption | lia)
    · refine wp_eq (gR_0_4 (by assumption)) ?_
      refine wp_eq rfl ?_
      refine wp_zif (ob_0 (by assumption)) ?_
      refine wp_bind (t_X11_viewNow (by assumption)) fun q17 p_q17 => ?_
      obtain ⟨p0_q17, p1_q17⟩ := p_q17
      refine wp_zif (ob_10 (by assumption)) ?_
      refine wp_bind (t_X1_judge (by assumption) (by assumption)) fun h19 p_h19 => ?_
      refine wp_eq (gR_0_4 (by assumption)) ?_
      refine wp_bindE (gI_10_4 (by assumption)) fun x21 E_x21 p_x21 => ?_
      refine wp_bite (fun c2 => ?_) (fun c2 => ?_)
      · refine wp_bsome ?_
        refine wp_zsL ?_
        try dsimp only
        refine wp_eq (gR_0_4 (by assumption)) ?_
        refine wp_eq E_x21 ?_
        refine wp_mono (ih (by assumption) (by first | lia | assumption | exact Or.inr (by assumption)) (mu_up (by lia) (by lia) hm)) fun z3 p_z3 => ?_
        try dsimp only at p_z3
        first | trivial | assumption | lia | (refine ⟨?_, ?_⟩ <;> first | trivial | assumption | lia)
      · refine wp_bite (fun c4 => ?_) (fun c4 => ?_)
        · refine wp_bmap ?_
          refine wp_bsome ?_
          try dsimp only
          refine wp_zsR ?_
          first | trivial | assumption | lia | (refine ⟨?_, ?_⟩ <;> first | trivial | assumption | lia)
        · refine wp_bsome ?_
          refine wp_zsL ?_
          try dsimp only
          refine wp_eq (gR_0_4 (by assumption)) ?_
          refine wp_eq E_x21 ?_
          refine wp_mono (ih (by assumption) (by first | lia | assumption | exact Or.inr (by assumption)) (mu_up (by lia) (by lia) hm)) fun z5 p_z5 => ?_
          try dsimp only at p_z5
          first | trivial | assumption | lia | (refine ⟨?_, ?_⟩ <;> first | trivial | assumption | lia)
set_option maxRecDepth 100000 in
set_option maxHeartbeats 4000000 in
theorem t_X11_changes {v1 : Int32} {v2 : Int32} (w : WT n b L xs τ g h) : wp (f_X11_changes 10000 n v1 v2 h) (fun r => WT n b L xs τ g r.2) := by
  unfold f_X11_changes
  refine wp_zif (ob_0 (by assumption)) ?_
  refine wp_bind (t_X11_meetingOf (by assumption)) fun q2 p_q2 => ?_
  refine wp_zopt (fun e1 => ?_) (fun a3 e1 => ?_)
  · refine wp_some ?_
    first | trivial | assumption | lia
  · have t_a3 : τ a3 = 1 := p_q2 a3 e1
    refine wp_ite (fun c2 => ?_) (fun c2 => ?_)
    · refine wp_eq (gR_0_4 (by assumption)) ?_
      refine wp_zif (ob_0 (by assumption)) ?_
      refine wp_bind (t_X11_viewNow (by assumption)) fun q8 p_q8 => ?_
      obtain ⟨p0_q8, p1_q8⟩ := p_q8
      refine wp_zif (ob_10 (by assumption)) ?_
      refine wp_bind (t_X1_judge (by assumption) (by assumption)) fun h10 p_h10 => ?_
      refine wp_eq (gR_0_4 (by assumption)) ?_
      refine wp_bindE (gI_10_4 (by assumption)) fun x12 E_x12 p_x12 => ?_
      refine wp_bind (t_X11_changes_L44 (by assumption) _ (by assumption) (by first | lia | assumption | exact Or.inr (by assumption)) (mu_0 (by lia))) fun m29 p_m29 => ?_
      rcases m29 with s30 | y3
      · refine wp_zsL ?_
        refine wp_some ?_
        first | trivial | assumption | lia
      · refine wp_zsR ?_
        first | trivial | assumption | lia
    · refine wp_some ?_
      first | trivial | assumption | lia
set_option maxRecDepth 100000 in
set_option maxHeartbeats 4000000 in
theorem t_X11_customs {v1 : Int32} (w : WT n b L xs τ g h) : wp (f_X11_customs 10000 n v1 h) (fun r => WT n b L xs τ g r.2) := by
  unfold f_X11_customs
  refine in11 (fun c1 => ?_) (fun c1 => ?_)
  · refine wp_some ?_
    first | trivial | assumption | lia
  · refine wp_eq (gR_0_5 (by assumption)) ?_
    refine wp_zif (ob_0 (by assumption)) ?_
    refine wp_bind (t_X11_viewNow (by assumption)) fun q4 p_q4 => ?_
    obtain ⟨p0_q4, p1_q4⟩ := p_q4
    refine wp_zif (ob_14 (by assumption)) ?_
    refine wp_bind (t_X0_keepFrom (by assumption)) fun h6 p_h6 => ?_
    refine wp_eq (gR_0_5 (by assumption)) ?_
    refine wp_bindE (gI_14_6 (by assumption)) fun x8 E_x8 p_x8 => ?_
    refine wp_some ?_
    first | trivial | assumption | lia
set_option maxRecDepth 100000 in
set_option maxHeartbeats 4000000 in
theorem t_X11_held {v1 : Int32} {v2 : Int32} (w : WT n b L xs τ g h) : wp (f_X11_held 10000 n v1 v2 h) (fun r => WT n b L xs τ g r.2) := by
  unfold f_X11_held
  refine wp_zif (ob_0 (by assumption)) ?_
  refine wp_bind (t_X11_meetingOf (by assumption)) fun q2 p_q2 => ?_
  refine wp_zopt (fun e1 => ?_) (fun a3 e1 => ?_)
  · refine wp_some ?_
    first | trivial | assumption | lia
  · have t_a3 : τ a3 = 1 := p_q2 a3 e1
    refine in11 (fun c2 => ?_) (fun c2 => ?_)
    · refine wp_some ?_
      first | trivial | assumption | lia
    · refine wp_eq (gR_0_5 (by assumption)) ?_
      refine wp_zif (ob_0 (by assumption)) ?_
      refine wp_bind (t_X11_viewNow (by assumption)) fun q8 p_q8 => ?_
      obtain ⟨p0_q8, p1_q8⟩ := p_q8
      refine wp_zif (ob_14 (by assumption)) ?_
      refine wp_bind (t_X0_keepFrom (by assumption)) fun h10 p_h10 => ?_
      refine wp_eq (gR_0_5 (by assumption)) ?_
      refine wp_zif (ob_14 (by assumption)) ?_
      refine wp_bind (t_X0_judge (by assumption) (by assumption)) fun q13 p_q13 => ?_
      refine wp_some ?_
      first | trivial | assumption | lia
set_option maxRecDepth 100000 in
set_option maxHeartbeats 4000000 in
theorem t_X11_since {v1 : Int32} (w : WT n b L xs τ g h) : wp (f_X11_since 10000 n v1 h) (fun r => WT n b L xs τ g r.2) := by
  unfold f_X11_since
  refine in11 (fun c1 => ?_) (fun c1 => ?_)
  · refine wp_some ?_
    first | trivial | assumption | lia
  · refine wp_eq (gR_0_5 (by assumption)) ?_
    refine wp_zif (ob_0 (by assumption)) ?_
    refine wp_bind (t_X11_viewNow (by assumption)) fun q4 p_q4 => ?_
    obtain ⟨p0_q4, p1_q4⟩ := p_q4
    refine wp_zif (ob_14 (by assumption)) ?_
    refine wp_bind (t_X0_firstYearOf (by assumption) (by first | lia | assumption | exact Or.inr (by assumption))) fun q6 p_q6 => ?_
    refine wp_some ?_
    first | trivial | assumption | lia
set_option maxRecDepth 100000 in
set_option maxHeartbeats 4000000 in
theorem t_X11_fell {v1 : Int32} {v2 : Int32} {v3 : Int32} (w : WT n b L xs τ g h) : wp (f_X11_fell 10000 n v1 v2 v3 h) (fun r => True) := by
  unfold f_X11_fell
  refine in11 (fun c1 => ?_) (fun c1 => ?_)
  · refine wp_some ?_
    first | trivial | assumption | lia
  · refine in11 (fun c2 => ?_) (fun c2 => ?_)
    · refine wp_some ?_
      first | trivial | assumption | lia
    · refine in11 (fun c3 => ?_) (fun c3 => ?_)
      · refine wp_some ?_
        first | trivial | assumption | lia
      · refine wp_ite (fun c4 => ?_) (fun c4 => ?_)
        · refine wp_eq (gR_0_8 (by assumption)) ?_
          refine wp_zif (ob_30 (by assumption)) ?_
          refine wp_bind (t_X5_compare (by assumption)) fun q7 p_q7 => ?_
          refine wp_some ?_
          first | trivial | assumption | lia
        · refine wp_some ?_
          first | trivial | assumption | lia
set_option maxRecDepth 100000 in
set_option maxHeartbeats 4000000 in
theorem t_X11_plan {v1 : Int32} {v2 : Int32} (w : WT n b L xs τ g h) : wp (f_X11_plan 10000 n v1 v2 h) (fun r => WT n b L xs τ g r.2) := by
  unfold f_X11_plan
  refine in11 (fun c1 => ?_) (fun c1 => ?_)
  · refine wp_some ?_
    first | trivial | assumption | lia
  · refine in11 (fun c2 => ?_) (fun c2 => ?_)
    · refine wp_some ?_
      first | trivial | assumption | lia
    · refine wp_eq (gR_0_9 (by assumption)) ?_
      refine wp_zif (ob_33 (by assumption)) ?_
      refine wp_bind (t_X10_bestLate (by assumption)) fun q5 p_q5 => ?_
      refine wp_ite (fun c3 => ?_) (fun c3 => ?_)
      · refine wp_some ?_
        first | trivial | assumption | lia
      · refine wp_ite (fun c4 => ?_) (fun c4 => ?_)
        · refine wp_eq (gR_0_9 (by assumption)) ?_
          refine wp_zif (ob_33 (by assumption)) ?_
          refine wp_bind (t_X10_sumWith (by assumption)) fun q14 p_q14 => ?_
          refine wp_some ?_
          first | trivial | assumption | lia
        · refine wp_ite (fun c5 => ?_) (fun c5 => ?_)
          · refine wp_some ?_
            first | trivial | assumption | lia
          · refine wp_eq (gR_0_9 (by assumption)) ?_
            refine wp_zif (ob_33 (by assumption)) ?_
            refine wp_bind (t_X10_doneWith (by assumption) (by first | lia | assumption | exact Or.inr (by assumption))) fun q11 p_q11 => ?_
            refine wp_some ?_
            first | trivial | assumption | lia
set_option maxRecDepth 100000 in
set_option maxHeartbeats 4000000 in
theorem t_X11_meetingsMet_L4 (w : WT n b L xs τ g h) : ∀ (m : Nat) {v1 : Int32} {v2 : Int32}, 0 ≤ v2 → (9000 - v2.toInt).toNat < m → wp (f_X11_meetingsMet_L4 10000 n h m v1 v2) (fun r => True) := by
  intro m
  induction m with
  | zero => intro v1 v2 i0 hm; exact absurd hm (Nat.not_lt_zero _)
  | succ m ih =>
    intro v1 v2 i0 hm
    rw [f_X11_meetingsMet_L4.eq_2]
    refine wp_bindE (gI_0_10 (by assumption)) fun x1 E_x1 p_x1 => ?_
    refine wp_ite (fun c1 => ?_) (fun c1 => ?_)
    · refine wp_some ?_
      first | trivial | assumption | lia
    · refine wp_zif (ob_0 (by assumption)) ?_
      refine wp_bind (t_X11_meetingOf (by assumption)) fun q4 p_q4 => ?_
      refine wp_zopt (fun e2 => ?_) (fun a5 e2 => ?_)
      · refine wp_mono (ih (by first | lia | assumption | exact Or.inr (by assumption)) (mu_up (by lia) (by lia) hm)) fun z3 p_z3 => ?_
        try dsimp only at p_z3
        first | trivial | assumption | lia
      · have t_a5 : τ a5 = 1 := p_q4 a5 e2
        refine wp_bindE (gI_m_11 (by assumption) (by assumption)) fun x7 E_x7 p_x7 => ?_
        refine wp_ite (fun c4 => ?_) (fun c4 => ?_)
        · refine wp_mono (ih (by first | lia | assumption | exact Or.inr (by assumption)) (mu_up (by lia) (by lia) hm)) fun z5 p_z5 => ?_
          try dsimp only at p_z5
          first | trivial | assumption | lia
        · refine wp_mono (ih (by first | lia | assumption | exact Or.inr (by assumption)) (mu_up (by lia) (by lia) hm)) fun z6 p_z6 => ?_
          try dsimp only at p_z6
          first | trivial | assumption | lia
set_option maxRecDepth 100000 in
set_option maxHeartbeats 4000000 in
theorem t_X11_meetingsMet (w : WT n b L xs τ g h) : wp (f_X11_meetingsMet 10000 n h) (fun r => True) := by
  unfold f_X11_meetingsMet
  refine wp_bind (t_X11_meetingsMet_L4 (by assumption) _ (by first | lia | assumption | exact Or.inr (by assumption)) (mu_0 (by lia))) fun m9 p_m9 => ?_
  refine wp_some ?_
  first | trivial | assumption | lia
set_option maxRecDepth 100000 in
set_option maxHeartbeats 4000000 in
theorem t_X11_count {v1 : Int32} (w : WT n b L xs τ g h) : wp (f_X11_count 10000 n v1 h) (fun r => True) := by
  unfold f_X11_count
  refine wp_ite (fun c1 => ?_) (fun c1 => ?_)
  · refine wp_bindE (gI_0_11 (by assumption)) fun x2 E_x2 p_x2 => ?_
    refine wp_some ?_
    first | trivial | assumption | lia
  · refine wp_ite (fun c2 => ?_) (fun c2 => ?_)
    · refine wp_zif (ob_0 (by assumption)) ?_
      refine wp_bind (t_X11_viewNow (by assumption)) fun q5 p_q5 => ?_
      obtain ⟨p0_q5, p1_q5⟩ := p_q5
      refine wp_some ?_
      first | trivial | assumption | lia
    · refine wp_ite (fun c3 => ?_) (fun c3 => ?_)
      · refine wp_bindE (gI_0_10 (by assumption)) fun x7 E_x7 p_x7 => ?_
        refine wp_some ?_
        first | trivial | assumption | lia
      · refine wp_ite (fun c4 => ?_) (fun c4 => ?_)
        · refine wp_eq (gR_0_4 (by assumption)) ?_
          refine wp_bindE (gI_10_3 (by assumption)) fun x10 E_x10 p_x10 => ?_
          refine wp_some ?_
          first | trivial | assumption | lia
        · refine wp_ite (fun c5 => ?_) (fun c5 => ?_)
          · refine wp_eq (gR_0_5 (by assumption)) ?_
            refine wp_bindE (gI_14_5 (by assumption)) fun x13 E_x13 p_x13 => ?_
            refine wp_some ?_
            first | trivial | assumption | lia
          · refine wp_ite (fun c6 => ?_) (fun c6 => ?_)
            · refine wp_eq (gR_0_5 (by assumption)) ?_
              refine wp_zif (ob_0 (by assumption)) ?_
              refine wp_bind (t_X11_viewNow (by assumption)) fun q17 p_q17 => ?_
              obtain ⟨p0_q17, p1_q17⟩ := p_q17
              refine wp_zif (ob_14 (by assumption)) ?_
              refine wp_bind (t_X0_toldBy (by assumption)) fun q19 p_q19 => ?_
              refine wp_some ?_
              first | trivial | assumption | lia
            · refine wp_ite (fun c7 => ?_) (fun c7 => ?_)
              · refine wp_eq (gR_0_2 (by assumption)) ?_
                refine wp_bindE (gI_3_2 (by assumption)) fun x22 E_x22 p_x22 => ?_
                refine wp_some ?_
                first | trivial | assumption | lia
              · refine wp_ite (fun c8 => ?_) (fun c8 => ?_)
                · refine wp_eq (gR_0_6 (by assumption)) ?_
                  refine wp_zif (ob_20 (by assumption)) ?_
                  refine wp_bind (t_X2_streams (by assumption)) fun q26 p_q26 => ?_
                  refine wp_some ?_
                  first | trivial | assumption | lia
                · refine wp_ite (fun c9 => ?_) (fun c9 => ?_)
                  · refine wp_eq (gR_0_7 (by assumption)) ?_
                    refine wp_bindE (gI_25_6 (by assumption)) fun x29 E_x29 p_x29 => ?_
                    refine wp_some ?_
                    first | trivial | assumption | lia
                  · refine wp_ite (fun c10 => ?_) (fun c10 => ?_)
                    · refine wp_eq (gR_0_9 (by assumption)) ?_
                      refine wp_bindE (gI_33_9 (by assumption)) fun x32 E_x32 p_x32 => ?_
                      refine wp_some ?_
                      first | trivial | assumption | lia
                    · refine wp_ite (fun c11 => ?_) (fun c11 => ?_)
                      · refine wp_eq (gR_0_9 (by assumption)) ?_
                        refine wp_bindE (gI_33_10 (by assumption)) fun x35 E_x35 p_x35 => ?_
                        refine wp_some ?_
                        first | trivial | assumption | lia
                      · refine wp_ite (fun c12 => ?_) (fun c12 => ?_)
                        · refine wp_zif (ob_0 (by assumption)) ?_
                          refine wp_bind (t_X11_meetingsMet (by assumption)) fun q38 p_q38 => ?_
                          refine wp_some ?_
                          first | trivial | assumption | lia
                        · refine wp_some ?_
                          first | trivial | assumption | lia
end TOT
