section TOT
variable {n b L : Nat} {xs : Nat → Int32} {τ : Nat → Nat} {g : zGh} {h : zH}
set_option maxRecDepth 100000 in
set_option maxHeartbeats 4000000 in
theorem t_X0_toldBy_L4 {v1 : Int32} (w : WT n b L xs τ g h) : ∀ (m : Nat) {v2 : Int32} {v3 : Int32}, 0 ≤ v3 → (9000 - v3.toInt).toNat < m → wp (f_X0_toldBy_L4 10000 (n + 14) v1 h m v2 v3) (fun r => True) := by
  intro m
  induction m with
  | zero => intro v2 v3 i0 hm; exact absurd hm (Nat.not_lt_zero _)
  | succ m ih =>
    intro v2 v3 i0 hm
    rw [f_X0_toldBy_L4.eq_2]
    refine wp_bindE (gI_14_5 (by assumption)) fun x1 E_x1 p_x1 => ?_
    refine wp_ite (fun c1 => ?_) (fun c1 => ?_)
    · refine wp_some ?_
      first | trivial | assumption | lia
    · refine wp_ite (fun c2 => ?_) (fun c2 => ?_)
      · refine wp_some ?_
        first | trivial | assumption | lia
      · refine wp_eq (gR_14_1 (by assumption)) ?_
        refine wp_bindE (aI_16 (by assumption) (by lia) (by lia)) fun x5 E_x5 p_x5 => ?_
        refine wp_ite (fun c3 => ?_) (fun c3 => ?_)
        · refine wp_mono (ih (by first | lia | assumption | exact Or.inr (by assumption)) (mu_up (by lia) (by lia) hm)) fun z4 p_z4 => ?_
          try dsimp only at p_z4
          first | trivial | assumption | lia
        · refine wp_mono (ih (by first | lia | assumption | exact Or.inr (by assumption)) (mu_up (by lia) (by lia) hm)) fun z5 p_z5 => ?_
          try dsimp only at p_z5
          first | trivial | assumption | lia
set_option maxRecDepth 100000 in
set_option maxHeartbeats 4000000 in
theorem t_X0_toldBy {v1 : Int32} (w : WT n b L xs τ g h) : wp (f_X0_toldBy 10000 (n + 14) v1 h) (fun r => True) := by
  unfold f_X0_toldBy
  refine wp_bind (t_X0_toldBy_L4 (by assumption) _ (by first | lia | assumption | exact Or.inr (by assumption)) (mu_0 (by lia))) fun m7 p_m7 => ?_
  refine wp_some ?_
  first | trivial | assumption | lia
set_option maxRecDepth 100000 in
set_option maxHeartbeats 4000000 in
theorem t_X0_keepAll (w : WT n b L xs τ g h) : wp (f_X0_keepAll 10000 (n + 14) h) (fun r => WT n b L xs τ g r) := by
  unfold f_X0_keepAll
  refine wp_eq (gR_14_3 (by assumption)) ?_
  refine wp_eq (gR_14_4 (by assumption)) ?_
  refine wp_bind (cp_18_19 (by assumption)) fun h3 p_h3 => ?_
  refine wp_bindE (pI_14_6 (by assumption) (by lia) (by lia)) fun h4 E_h4 p_h4 => ?_
  refine wp_some ?_
  first | trivial | assumption | lia
set_option maxRecDepth 100000 in
set_option maxHeartbeats 4000000 in
theorem t_X0_keepThoseOf_L5 {v1 : Int32} {v2 : Int32}  : ∀ (m : Nat) {v3 : Int32} {v4 : Int32} {h : zH}, WT n b L xs τ g h → 0 ≤ v4 → 0 ≤ v3 → v3 ≤ v4 → v4 ≤ 128 → (9000 - v4.toInt).toNat < m → wp (f_X0_keepThoseOf_L5 10000 (n + 14) v1 v2 m v3 v4 h) (fun r => 0 ≤ r.1 ∧ r.1 ≤ 128 ∧ WT n b L xs τ g r.2) := by
  intro m
  induction m with
  | zero => intro v3 v4 h w i0 i1 i2 i3 hm; exact absurd hm (Nat.not_lt_zero _)
  | succ m ih =>
    intro v3 v4 h w i0 i1 i2 i3 hm
    rw [f_X0_keepThoseOf_L5.eq_2]
    refine wp_bindE (gI_14_6 (by assumption)) fun x1 E_x1 p_x1 => ?_
    refine wp_ite (fun c1 => ?_) (fun c1 => ?_)
    · refine wp_some ?_
      refine ⟨?_, ?_, ?_⟩ <;> first | trivial | assumption | lia
    · refine wp_ite (fun c2 => ?_) (fun c2 => ?_)
      · refine wp_some ?_
        refine ⟨?_, ?_, ?_⟩ <;> first | trivial | assumption | lia
      · refine wp_eq (gR_14_4 (by assumption)) ?_
        refine wp_bindE (aI_19 (by assumption) (by lia) (by lia)) fun x5 E_x5 p_x5 => ?_
        refine wp_ite (fun c3 => ?_) (fun c3 => ?_)
        · refine wp_eq (gR_14_4 (by assumption)) ?_
          refine wp_eq (gR_14_4 (by assumption)) ?_
          refine wp_eq E_x5 ?_
          refine wp_bindE (sI_19 (by assumption) (by lia) (by lia)) fun h10 E_h10 p_h10 => ?_
          refine wp_mono (ih (by assumption) (by first | lia | assumption | exact Or.inr (by assumption)) (by first | lia | assumption | exact Or.inr (by assumption)) (by first | lia | assumption | exact Or.inr (by assumption)) (by first | lia | assumption | exact Or.inr (by assumption)) (mu_up (by lia) (by lia) hm)) fun z4 p_z4 => ?_
          try dsimp only at p_z4
          obtain ⟨p0_z4, p1_z4, p2_z4⟩ := p_z4
          refine ⟨?_, ?_, ?_⟩ <;> first | trivial | assumption | lia
        · refine wp_mono (ih (by assumption) (by first | lia | assumption | exact Or.inr (by assumption)) (by first | lia | assumption | exact Or.inr (by assumption)) (by first | lia | assumption | exact Or.inr (by assumption)) (by first | lia | assumption | exact Or.inr (by assumption)) (mu_up (by lia) (by lia) hm)) fun z5 p_z5 => ?_
          try dsimp only at p_z5
          obtain ⟨p0_z5, p1_z5, p2_z5⟩ := p_z5
          refine ⟨?_, ?_, ?_⟩ <;> first | trivial | assumption | lia
set_option maxRecDepth 100000 in
set_option maxHeartbeats 4000000 in
theorem t_X0_keepThoseOf {v1 : Int32} {v2 : Int32} (w : WT n b L xs τ g h) : wp (f_X0_keepThoseOf 10000 (n + 14) v1 v2 h) (fun r => WT n b L xs τ g r) := by
  unfold f_X0_keepThoseOf
  refine wp_bind (t_X0_keepThoseOf_L5 _ (by assumption) (by first | lia | assumption | exact Or.inr (by assumption)) (by first | lia | assumption | exact Or.inr (by assumption)) (by first | lia | assumption | exact Or.inr (by assumption)) (by first | lia | assumption | exact Or.inr (by assumption)) (mu_0 (by lia))) fun m11 p_m11 => ?_
  obtain ⟨p0_m11, p1_m11, p2_m11⟩ := p_m11
  refine wp_bindE (pI_14_6 (by assumption) (by lia) (by lia)) fun h12 E_h12 p_h12 => ?_
  refine wp_some ?_
  first | trivial | assumption | lia
set_option maxRecDepth 100000 in
set_option maxHeartbeats 4000000 in
theorem t_X0_ruleOut_L2 {v1 : Int32} {v2 : Int32}  : ∀ (m : Nat) {v3 : Int32} {h : zH}, WT n b L xs τ g h → 0 ≤ v3 → (9000 - v3.toInt).toNat < m → wp (f_X0_ruleOut_L2 10000 (n + 14) v1 v2 m v3 h) (fun r => WT n b L xs τ g r) := by
  intro m
  induction m with
  | zero => intro v3 h w i0 hm; exact absurd hm (Nat.not_lt_zero _)
  | succ m ih =>
    intro v3 h w i0 hm
    rw [f_X0_ruleOut_L2.eq_2]
    refine wp_bindE (gI_14_5 (by assumption)) fun x1 E_x1 p_x1 => ?_
    refine wp_ite (fun c1 => ?_) (fun c1 => ?_)
    · refine wp_some ?_
      first | trivial | assumption | lia
    · refine wp_ite (fun c2 => ?_) (fun c2 => ?_)
      · refine wp_some ?_
        first | trivial | assumption | lia
      · refine wp_eq (gR_14_0 (by assumption)) ?_
        refine wp_bindE (aQ_15 (by assumption) (by lia) (by lia)) fun x5 E_x5 p_x5 => ?_
        refine wp_zopt (fun e3 => ?_) (fun a6 e3 => ?_)
        · refine wp_mono (ih (by assumption) (by first | lia | assumption | exact Or.inr (by assumption)) (mu_up (by lia) (by lia) hm)) fun z4 p_z4 => ?_
          try dsimp only at p_z4
          first | trivial | assumption | lia
        · have t_a6 : τ a6 = 1 := p_x5 a6 e3
          refine wp_eq (gR_14_1 (by assumption)) ?_
          refine wp_bindE (aI_16 (by assumption) (by lia) (by lia)) fun x9 E_x9 p_x9 => ?_
          refine in11 (fun c5 => ?_) (fun c5 => ?_)
          · refine wp_mono (ih (by assumption) (by first | lia | assumption | exact Or.inr (by assumption)) (mu_up (by lia) (by lia) hm)) fun z6 p_z6 => ?_
            try dsimp only at p_z6
            first | trivial | assumption | lia
          · refine wp_zif (ob_m (by assumption) (by assumption)) ?_
            refine wp_bind (t_X6_words (by assumption) (by assumption)) fun q12 p_q12 => ?_
            refine wp_eq (gR_14_2 (by assumption)) ?_
            refine wp_bindE (aZ_17 (by assumption) (by lia) (by lia)) fun x14 E_x14 p_x14 => ?_
            refine wp_zif (ob_14 (by assumption)) ?_
            refine wp_bind (t_X0_keepThoseOf (by assumption)) fun h16 p_h16 => ?_
            refine wp_mono (ih (by assumption) (by first | lia | assumption | exact Or.inr (by assumption)) (mu_up (by lia) (by lia) hm)) fun z7 p_z7 => ?_
            try dsimp only at p_z7
            first | trivial | assumption | lia
set_option maxRecDepth 100000 in
set_option maxHeartbeats 4000000 in
theorem t_X0_ruleOut {v1 : Int32} {v2 : Int32} (w : WT n b L xs τ g h) : wp (f_X0_ruleOut 10000 (n + 14) v1 v2 h) (fun r => WT n b L xs τ g r) := by
  unfold f_X0_ruleOut
  refine wp_bind (t_X0_ruleOut_L2 _ (by assumption) (by first | lia | assumption | exact Or.inr (by assumption)) (mu_0 (by lia))) fun m17 p_m17 => ?_
  refine wp_some ?_
  first | trivial | assumption | lia
set_option maxRecDepth 100000 in
set_option maxHeartbeats 4000000 in
theorem t_X0_keepFrom {v1 : Int32} {v2 : Int32} (w : WT n b L xs τ g h) : wp (f_X0_keepFrom 10000 (n + 14) v1 v2 h) (fun r => WT n b L xs τ g r) := by
  unfold f_X0_keepFrom
  refine wp_zif (ob_14 (by assumption)) ?_
  refine wp_bind (t_X0_keepAll (by assumption)) fun h2 p_h2 => ?_
  refine wp_zif (ob_14 (by assumption)) ?_
  refine wp_bind (t_X0_ruleOut (by assumption)) fun h4 p_h4 => ?_
  refine wp_some ?_
  first | trivial | assumption | lia
set_option maxRecDepth 100000 in
set_option maxHeartbeats 4000000 in
theorem t_X0_judge_L10 {v2 : Int32} (w : WT n b L xs τ g h) : ∀ (m : Nat) {v3 : Int32} {v4 : Int32}, 0 ≤ v4 → (9000 - v4.toInt).toNat < m → wp (f_X0_judge_L10 10000 (n + 14) v2 h m v3 v4) (fun r => True) := by
  intro m
  induction m with
  | zero => intro v3 v4 i0 hm; exact absurd hm (Nat.not_lt_zero _)
  | succ m ih =>
    intro v3 v4 i0 hm
    rw [f_X0_judge_L10.eq_2]
    refine wp_bindE (gI_14_6 (by assumption)) fun x3 E_x3 p_x3 => ?_
    refine wp_ite (fun c1 => ?_) (fun c1 => ?_)
    · refine wp_some ?_
      first | trivial | assumption | lia
    · refine wp_ite (fun c2 => ?_) (fun c2 => ?_)
      · refine wp_some ?_
        first | trivial | assumption | lia
      · refine wp_eq (gR_14_4 (by assumption)) ?_
        refine wp_bindE (aI_19 (by assumption) (by lia) (by lia)) fun x7 E_x7 p_x7 => ?_
        refine wp_ite (fun c3 => ?_) (fun c3 => ?_)
        · refine wp_mono (ih (by first | lia | assumption | exact Or.inr (by assumption)) (mu_up (by lia) (by lia) hm)) fun z4 p_z4 => ?_
          try dsimp only at p_z4
          first | trivial | assumption | lia
        · refine wp_mono (ih (by first | lia | assumption | exact Or.inr (by assumption)) (mu_up (by lia) (by lia) hm)) fun z5 p_z5 => ?_
          try dsimp only at p_z5
          first | trivial | assumption | lia
set_option maxRecDepth 100000 in
set_option maxHeartbeats 4000000 in
theorem t_X0_judge {v1 : Nat} (w : WT n b L xs τ g h) (e_v1 : τ v1 = 1) : wp (f_X0_judge 10000 (n + 14) v1 h) (fun r => (r = (-1) ∨ r = 0 ∨ r = 1 ∨ r = 2)) := by
  unfold f_X0_judge
  refine wp_zif (ob_m (by assumption) (by assumption)) ?_
  refine wp_bind (t_X6_words (by assumption) (by assumption)) fun q2 p_q2 => ?_
  refine wp_bind (t_X0_judge_L10 (by assumption) _ (by first | lia | assumption | exact Or.inr (by assumption)) (mu_0 (by lia))) fun m9 p_m9 => ?_
  refine wp_bindE (gI_14_6 (by assumption)) fun x10 E_x10 p_x10 => ?_
  refine wp_ite (fun c1 => ?_) (fun c1 => ?_)
  · refine wp_some ?_
    first | trivial | assumption | lia
  · refine wp_eq E_x10 ?_
    refine wp_ite (fun c2 => ?_) (fun c2 => ?_)
    · refine wp_some ?_
      first | trivial | assumption | lia
    · refine wp_ite (fun c3 => ?_) (fun c3 => ?_)
      · refine wp_some ?_
        first | trivial | assumption | lia
      · refine wp_some ?_
        first | trivial | assumption | lia
set_option maxRecDepth 100000 in
set_option maxHeartbeats 4000000 in
theorem t_X0_allHave_L2 {v1 : Int32} (w : WT n b L xs τ g h) : ∀ (m : Nat) {v2 : Int32}, 0 ≤ v2 → (9000 - v2.toInt).toNat < m → wp (f_X0_allHave_L2 10000 (n + 14) v1 h m v2) (fun r => (match r with | .inl a => True | .inr a => True)) := by
  intro m
  induction m with
  | zero => intro v2 i0 hm; exact absurd hm (Nat.not_lt_zero _)
  | succ m ih =>
    intro v2 i0 hm
    rw [f_X0_allHave_L2.eq_2]
    refine wp_bindE (gI_14_6 (by assumption)) fun x1 E_x1 p_x1 => ?_
    refine wp_ite (fun c1 => ?_) (fun c1 => ?_)
    · refine wp_some ?_
      first | trivial | assumption | lia | (refine ⟨?_, ?_⟩ <;> first | trivial | assumption | lia)
    · refine wp_ite (fun c2 => ?_) (fun c2 => ?_)
      · refine wp_some ?_
        first | trivial | assumption | lia | (refine ⟨?_, ?_⟩ <;> first | trivial | assumption | lia)
      · refine wp_eq (gR_14_4 (by assumption)) ?_
        refine wp_bindE (aI_19 (by assumption) (by lia) (by lia)) fun x5 E_x5 p_x5 => ?_
        refine wp_ite (fun c3 => ?_) (fun c3 => ?_)
        · refine wp_some ?_
          first | trivial | assumption | lia | (refine ⟨?_, ?_⟩ <;> first | trivial | assumption | lia)
        · refine wp_mono (ih (by first | lia | assumption | exact Or.inr (by assumption)) (mu_up (by lia) (by lia) hm)) fun z4 p_z4 => ?_
          try dsimp only at p_z4
          first | trivial | assumption | lia | (refine ⟨?_, ?_⟩ <;> first | trivial | assumption | lia)
set_option maxRecDepth 100000 in
set_option maxHeartbeats 4000000 in
theorem t_X0_allHave {v1 : Int32} (w : WT n b L xs τ g h) : wp (f_X0_allHave 10000 (n + 14) v1 h) (fun r => True) := by
  unfold f_X0_allHave
  refine wp_bind (t_X0_allHave_L2 (by assumption) _ (by first | lia | assumption | exact Or.inr (by assumption)) (mu_0 (by lia))) fun m7 p_m7 => ?_
  rcases m7 with s8 | y1
  · refine wp_zsL ?_
    refine wp_some ?_
    first | trivial | assumption | lia
  · refine wp_zsR ?_
    first | trivial | assumption | lia
set_option maxRecDepth 100000 in
set_option maxHeartbeats 4000000 in
theorem t_X0_firstYearOf_L9 {v1 : Int32}  : ∀ (m : Nat) {v3 : Int32} {v4 : Int32} {h : zH}, WT n b L xs τ g h → v4 ≤ 9000 → (v4.toInt + 1).toNat < m → wp (f_X0_firstYearOf_L9 10000 (n + 14) v1 m v3 v4 h) (fun r => WT n b L xs τ g r.2) := by
  intro m
  induction m with
  | zero => intro v3 v4 h w i0 hm; exact absurd hm (Nat.not_lt_zero _)
  | succ m ih =>
    intro v3 v4 h w i0 hm
    rw [f_X0_firstYearOf_L9.eq_2]
    refine wp_ite (fun c1 => ?_) (fun c1 => ?_)
    · refine wp_some ?_
      first | trivial | assumption | lia
    · refine wp_zif (ob_14 (by assumption)) ?_
      refine wp_bind (t_X0_ruleOut (by assumption)) fun h5 p_h5 => ?_
      refine wp_bindE (gI_14_6 (by assumption)) fun x6 E_x6 p_x6 => ?_
      refine wp_ite (fun c2 => ?_) (fun c2 => ?_)
      · refine wp_mono (ih (by assumption) (by first | lia | assumption | exact Or.inr (by assumption)) (mu_dp (by lia) (by lia) hm)) fun z3 p_z3 => ?_
        try dsimp only at p_z3
        first | trivial | assumption | lia
      · refine wp_zif (ob_14 (by assumption)) ?_
        refine wp_bind (t_X0_allHave (by assumption)) fun q9 p_q9 => ?_
        refine wp_ite (fun c4 => ?_) (fun c4 => ?_)
        · refine wp_mono (ih (by assumption) (by first | lia | assumption | exact Or.inr (by assumption)) (mu_dp (by lia) (by lia) hm)) fun z5 p_z5 => ?_
          try dsimp only at p_z5
          first | trivial | assumption | lia
        · refine wp_mono (ih (by assumption) (by first | lia | assumption | exact Or.inr (by assumption)) (mu_dp (by lia) (by lia) hm)) fun z6 p_z6 => ?_
          try dsimp only at p_z6
          first | trivial | assumption | lia
set_option maxRecDepth 100000 in
set_option maxHeartbeats 4000000 in
theorem t_X0_firstYearOf {v1 : Int32} {v2 : Int32} (w : WT n b L xs τ g h) (p0 : v2 ≤ 30) : wp (f_X0_firstYearOf 10000 (n + 14) v1 v2 h) (fun r => WT n b L xs τ g r.2) := by
  unfold f_X0_firstYearOf
  refine wp_zif (ob_14 (by assumption)) ?_
  refine wp_bind (t_X0_keepAll (by assumption)) fun h2 p_h2 => ?_
  refine wp_bind (t_X0_firstYearOf_L9 _ (by assumption) (by first | lia | assumption | exact Or.inr (by assumption)) (mu_d0 (by lia))) fun m11 p_m11 => ?_
  refine wp_some ?_
  first | trivial | assumption | lia
set_option maxRecDepth 100000 in
set_option maxHeartbeats 4000000 in
theorem t_X1_isFull (w : WT n b L xs τ g h) : wp (f_X1_isFull 10000 (n + 10) h) (fun r => (r = 0 ∨ r = 1)) := by
  unfold f_X1_isFull
  refine wp_bindE (gI_10_3 (by assumption)) fun x1 E_x1 p_x1 => ?_
  refine wp_ite (fun c1 => ?_) (fun c1 => ?_)
  · refine wp_some ?_
    first | trivial | assumption | lia
  · refine wp_some ?_
    first | trivial | assumption | lia
set_option maxRecDepth 100000 in
set_option maxHeartbeats 4000000 in
theorem t_X1_lawOf_L8 {v1 : Int32} {v2 : Int32} (w : WT n b L xs τ g h) : ∀ (m : Nat) {v3 : Int32} {v4 : Int32} {v5 : Int32}, 0 ≤ v5 → (9000 - v5.toInt).toNat < m → wp (f_X1_lawOf_L8 10000 (n + 10) v1 v2 h m v3 v4 v5) (fun r => True) := by
  intro m
  induction m with
  | zero => intro v3 v4 v5 i0 hm; exact absurd hm (Nat.not_lt_zero _)
  | succ m ih =>
    intro v3 v4 v5 i0 hm
    rw [f_X1_lawOf_L8.eq_2]
    refine wp_bindE (gI_10_3 (by assumption)) fun x1 E_x1 p_x1 => ?_
    refine wp_ite (fun c1 => ?_) (fun c1 => ?_)
    · refine wp_some ?_
      first | trivial | assumption | lia
    · refine wp_ite (fun c2 => ?_) (fun c2 => ?_)
      · refine wp_some ?_
        first | trivial | assumption | lia
      · refine wp_eq (gR_10_0 (by assumption)) ?_
        refine wp_bindE (aQ_11 (by assumption) (by lia) (by lia)) fun x5 E_x5 p_x5 => ?_
        refine wp_zopt (fun e3 => ?_) (fun a6 e3 => ?_)
        · refine wp_mono (ih (by first | lia | assumption | exact Or.inr (by assumption)) (mu_up (by lia) (by lia) hm)) fun z4 p_z4 => ?_
          try dsimp only at p_z4
          first | trivial | assumption | lia
        · have t_a6 : τ a6 = 2 := p_x5 a6 e3
          refine wp_bindE (gI_l_0 (by assumption) (by assumption)) fun x8 E_x8 p_x8 => ?_
          refine wp_ite (fun c5 => ?_) (fun c5 => ?_)
          · refine wp_mono (ih (by first | lia | assumption | exact Or.inr (by assumption)) (mu_up (by lia) (by lia) hm)) fun z6 p_z6 => ?_
            try dsimp only at p_z6
            first | trivial | assumption | lia
          · refine wp_bindE (gI_l_1 (by assumption) (by assumption)) fun x10 E_x10 p_x10 => ?_
            refine wp_ite (fun c7 => ?_) (fun c7 => ?_)
            · refine wp_mono (ih (by first | lia | assumption | exact Or.inr (by assumption)) (mu_up (by lia) (by lia) hm)) fun z8 p_z8 => ?_
              try dsimp only at p_z8
              first | trivial | assumption | lia
            · refine wp_eq E_x10 ?_
              refine wp_ite (fun c9 => ?_) (fun c9 => ?_)
              · refine wp_mono (ih (by first | lia | assumption | exact Or.inr (by assumption)) (mu_up (by lia) (by lia) hm)) fun z10 p_z10 => ?_
                try dsimp only at p_z10
                first | trivial | assumption | lia
              · refine wp_eq E_x10 ?_
                refine wp_mono (ih (by first | lia | assumption | exact Or.inr (by assumption)) (mu_up (by lia) (by lia) hm)) fun z11 p_z11 => ?_
                try dsimp only at p_z11
                first | trivial | assumption | lia
set_option maxRecDepth 100000 in
set_option maxHeartbeats 4000000 in
theorem t_X1_lawOf {v1 : Int32} {v2 : Int32} (w : WT n b L xs τ g h) : wp (f_X1_lawOf 10000 (n + 10) v1 v2 h) (fun r => True) := by
  unfold f_X1_lawOf
  refine wp_bind (t_X1_lawOf_L8 (by assumption) _ (by first | lia | assumption | exact Or.inr (by assumption)) (mu_0 (by lia))) fun m15 p_m15 => ?_
  refine wp_some ?_
  first | trivial | assumption | lia
set_option maxRecDepth 100000 in
set_option maxHeartbeats 4000000 in
theorem t_X1_pop (w : WT n b L xs τ g h) : wp (f_X1_pop 10000 (n + 10) h) (fun r => WT n b L xs τ g r.2) := by
  unfold f_X1_pop
  refine wp_bindE (gI_10_8 (by assumption)) fun x1 E_x1 p_x1 => ?_
  refine wp_ite (fun c1 => ?_) (fun c1 => ?_)
  · refine wp_eq E_x1 ?_
    refine wp_bindE (pI_10_8 (by assumption) (by lia) (by lia)) fun h4 E_h4 p_h4 => ?_
    refine wp_eq (gR_10_2 (by assumption)) ?_
    refine wp_eq (pF_gI E_h4) ?_
    refine wp_bindE (aI_13 (by assumption) (by lia) (by lia)) fun x7 E_x7 p_x7 => ?_
    refine wp_some ?_
    first | trivial | assumption | lia
  · refine wp_some ?_
    first | trivial | assumption | lia
set_option maxRecDepth 100000 in
set_option maxHeartbeats 4000000 in
theorem t_X1_push {v1 : Int32} (w : WT n b L xs τ g h) : wp (f_X1_push 10000 (n + 10) v1 h) (fun r => WT n b L xs τ g r) := by
  unfold f_X1_push
  refine wp_bindE (gI_10_8 (by assumption)) fun x1 E_x1 p_x1 => ?_
  refine wp_eq (gR_10_2 (by assumption)) ?_
  refine wp_eq (aN_13 (by assumption)) ?_
  refine wp_ite (fun c1 => ?_) (fun c1 => ?_)
  · refine wp_some ?_
    first | trivial | assumption | lia
  · refine wp_eq (gR_10_2 (by assumption)) ?_
    refine wp_eq E_x1 ?_
    refine wp_bindE (sI_13 (by assumption) (by lia) (by lia)) fun h7 E_h7 p_h7 => ?_
    refine wp_eq ((sa_keep (keep_sI E_h7) (by omega)).trans (E_x1)) ?_
    refine wp_bindE (pI_10_8 (by assumption) (by lia) (by lia)) fun h9 E_h9 p_h9 => ?_
    refine wp_some ?_
    first | trivial | assumption | lia
set_option maxRecDepth 100000 in
set_option maxHeartbeats 4000000 in
theorem t_X1_operate {v1 : Int32} (w : WT n b L xs τ g h) : wp (f_X1_operate 10000 (n + 10) v1 h) (fun r => WT n b L xs τ g r) := by
  unfold f_X1_operate
  refine wp_zif (ob_10 (by assumption)) ?_
  refine wp_bind (t_X1_pop (by assumption)) fun q2 p_q2 => ?_
  refine wp_ite (fun c1 => ?_) (fun c1 => ?_)
  · refine wp_bite (fun c2 => ?_) (fun c2 => ?_)
    · refine wp_bsome ?_
      refine wp_zif (ob_10 (by assumption)) ?_
      refine wp_bind (t_X1_push (by assumption)) fun h39 p_h39 => ?_
      refine wp_some ?_
      first | trivial | assumption | lia
    · refine wp_bsome ?_
      refine wp_zif (ob_10 (by assumption)) ?_
      refine wp_bind (t_X1_push (by assumption)) fun h39 p_h39 => ?_
      refine wp_some ?_
      first | trivial | assumption | lia
  · refine wp_zif (ob_10 (by assumption)) ?_
    refine wp_bind (t_X1_pop (by assumption)) fun q5 p_q5 => ?_
    refine wp_ite (fun c3 => ?_) (fun c3 => ?_)
    · refine wp_bite (fun c4 => ?_) (fun c4 => ?_)
      · refine wp_bsome ?_
        refine wp_zif (ob_10 (by assumption)) ?_
        refine wp_bind (t_X1_push (by assumption)) fun h11 p_h11 => ?_
        refine wp_some ?_
        first | trivial | assumption | lia
      · refine wp_bite (fun c5 => ?_) (fun c5 => ?_)
        · refine wp_bsome ?_
          refine wp_zif (ob_10 (by assumption)) ?_
          refine wp_bind (t_X1_push (by assumption)) fun h11 p_h11 => ?_
          refine wp_some ?_
          first | trivial | assumption | lia
        · refine wp_bsome ?_
          refine wp_zif (ob_10 (by assumption)) ?_
          refine wp_bind (t_X1_push (by assumption)) fun h11 p_h11 => ?_
          refine wp_some ?_
          first | trivial | assumption | lia
    · refine wp_ite (fun c6 => ?_) (fun c6 => ?_)
      · refine wp_bite (fun c7 => ?_) (fun c7 => ?_)
        · refine wp_bite (fun c8 => ?_) (fun c8 => ?_)
          · refine wp_bsome ?_
            refine wp_zif (ob_10 (by assumption)) ?_
            refine wp_bind (t_X1_push (by assumption)) fun h17 p_h17 => ?_
            refine wp_some ?_
            first | trivial | assumption | lia
          · refine wp_bsome ?_
            refine wp_zif (ob_10 (by assumption)) ?_
            refine wp_bind (t_X1_push (by assumption)) fun h17 p_h17 => ?_
            refine wp_some ?_
            first | trivial | assumption | lia
        · refine wp_bsome ?_
          refine wp_zif (ob_10 (by assumption)) ?_
          refine wp_bind (t_X1_push (by assumption)) fun h17 p_h17 => ?_
          refine wp_some ?_
          first | trivial | assumption | lia
      · refine wp_ite (fun c9 => ?_) (fun c9 => ?_)
        · refine wp_zif (ob_10 (by assumption)) ?_
          refine wp_bind (t_X1_push (by assumption)) fun h20 p_h20 => ?_
          refine wp_some ?_
          first | trivial | assumption | lia
        · refine wp_ite (fun c10 => ?_) (fun c10 => ?_)
          · refine wp_zif (ob_10 (by assumption)) ?_
            refine wp_bind (t_X1_push (by assumption)) fun h23 p_h23 => ?_
            refine wp_some ?_
            first | trivial | assumption | lia
          · refine wp_ite (fun c11 => ?_) (fun c11 => ?_)
            · refine wp_bite (fun c12 => ?_) (fun c12 => ?_)
              · refine wp_bsome ?_
                refine wp_zif (ob_10 (by assumption)) ?_
                refine wp_bind (t_X1_push (by assumption)) fun h28 p_h28 => ?_
                refine wp_some ?_
                first | trivial | assumption | lia
              · refine wp_bsome ?_
                refine wp_zif (ob_10 (by assumption)) ?_
                refine wp_bind (t_X1_push (by assumption)) fun h28 p_h28 => ?_
                refine wp_some ?_
                first | trivial | assumption | lia
            · refine wp_ite (fun c13 => ?_) (fun c13 => ?_)
              · refine wp_bite (fun c14 => ?_) (fun c14 => ?_)
                · refine wp_bsome ?_
                  refine wp_zif (ob_10 (by assumption)) ?_
                  refine wp_bind (t_X1_push (by assumption)) fun h33 p_h33 => ?_
                  refine wp_some ?_
                  first | trivial | assumption | lia
                · refine wp_bsome ?_
                  refine wp_zif (ob_10 (by assumption)) ?_
                  refine wp_bind (t_X1_push (by assumption)) fun h33 p_h33 => ?_
                  refine wp_some ?_
                  first | trivial | assumption | lia
              · refine wp_zif (ob_10 (by assumption)) ?_
                refine wp_bind (t_X1_push (by assumption)) fun h35 p_h35 => ?_
                refine wp_some ?_
                first | trivial | assumption | lia
set_option maxRecDepth 100000 in
set_option maxHeartbeats 4000000 in
theorem t_X1_fact {v1 : Int32} {v2 : Nat} (w : WT n b L xs τ g h) (e_v2 : τ v2 = 1) : wp (f_X1_fact 10000 (n + 10) v1 v2 h) (fun r => True) := by
  unfold f_X1_fact
  refine wp_ite (fun c1 => ?_) (fun c1 => ?_)
  · refine wp_bindE (gI_10_9 (by assumption)) fun x6 E_x6 p_x6 => ?_
    refine wp_some ?_
    first | trivial | assumption | lia
  · refine wp_ite (fun c2 => ?_) (fun c2 => ?_)
    · refine wp_bindE (gI_10_10 (by assumption)) fun x5 E_x5 p_x5 => ?_
      refine wp_some ?_
      first | trivial | assumption | lia
    · refine wp_zif (ob_m (by assumption) (by assumption)) ?_
      refine wp_bind (t_X6_fact (by assumption) (by assumption)) fun q4 p_q4 => ?_
      refine wp_some ?_
      first | trivial | assumption | lia
set_option maxRecDepth 100000 in
set_option maxHeartbeats 4000000 in
theorem t_X1_work_L8 {v1 : Nat} {v3 : Int32} {v4 : Nat} (e_v1 : 3 ≤ τ v1) (e_v4 : τ v4 = 1) : ∀ (m : Nat) {v5 : Int32} {h : zH}, WT n b L xs τ g h → 0 ≤ v5 → (9000 - v5.toInt).toNat < m → wp (f_X1_work_L8 10000 (n + 10) v1 v3 v4 m v5 h) (fun r => WT n b L xs τ g r) := by
  intro m
  induction m with
  | zero => intro v5 h w i0 hm; exact absurd hm (Nat.not_lt_zero _)
  | succ m ih =>
    intro v5 h w i0 hm
    rw [f_X1_work_L8.eq_2]
    refine wp_ite (fun c1 => ?_) (fun c1 => ?_)
    · refine wp_some ?_
      first | trivial | assumption | lia
    · refine wp_bind (aN_c (by assumption) (by assumption)) fun x3 p_x3 => ?_
      refine wp_ite (fun c2 => ?_) (fun c2 => ?_)
      · refine wp_some ?_
        first | trivial | assumption | lia
      · refine wp_bindE (aI_c (by assumption) (by assumption) (by lia) (by lia)) fun x5 E_x5 p_x5 => ?_
        refine wp_ite (fun c3 => ?_) (fun c3 => ?_)
        · refine wp_ite (fun c4 => ?_) (fun c4 => ?_)
          · refine wp_ite (fun c5 => ?_) (fun c5 => ?_)
            · refine wp_zif (ob_10 (by assumption)) ?_
              refine wp_bind (t_X1_push (by assumption)) fun h10 p_h10 => ?_
              refine wp_mono (ih (by assumption) (by first | lia | assumption | exact Or.inr (by assumption)) (mu_up (by lia) (by lia) hm)) fun z6 p_z6 => ?_
              try dsimp only at p_z6
              first | trivial | assumption | lia
            · refine wp_zif (ob_10 (by assumption)) ?_
              refine wp_bind (t_X1_fact (by assumption) (by assumption)) fun q12 p_q12 => ?_
              refine wp_zif (ob_10 (by assumption)) ?_
              refine wp_bind (t_X1_push (by assumption)) fun h14 p_h14 => ?_
              refine wp_mono (ih (by assumption) (by first | lia | assumption | exact Or.inr (by assumption)) (mu_up (by lia) (by lia) hm)) fun z7 p_z7 => ?_
              try dsimp only at p_z7
              first | trivial | assumption | lia
          · refine wp_zletE fun x15 e_x15 => ?_
            refine wp_eq (gR_10_1 (by assumption)) ?_
            refine wp_eq (aN_12 (by assumption)) ?_
            refine wp_bite (fun c8 => ?_) (fun c8 => ?_)
            · refine wp_bsome ?_
              refine wp_zif (ob_10 (by assumption)) ?_
              refine wp_bind (t_X1_push (by assumption)) fun h23 p_h23 => ?_
              refine wp_mono (ih (by assumption) (by first | lia | assumption | exact Or.inr (by assumption)) (mu_up (by lia) (by lia) hm)) fun z9 p_z9 => ?_
              try dsimp only at p_z9
              first | trivial | assumption | lia
            · refine wp_assoc ?_
              refine wp_eq (gR_10_1 (by assumption)) ?_
              refine wp_assoc ?_
              refine wp_bindE (aI_12 (by assumption) (by lia) (by lia)) fun x21 E_x21 p_x21 => ?_
              refine wp_bsome ?_
              refine wp_zif (ob_10 (by assumption)) ?_
              refine wp_bind (t_X1_push (by assumption)) fun h23 p_h23 => ?_
              refine wp_mono (ih (by assumption) (by first | lia | assumption | exact Or.inr (by assumption)) (mu_up (by lia) (by lia) hm)) fun z10 p_z10 => ?_
              try dsimp only at p_z10
              first | trivial | assumption | lia
        · refine wp_zif (ob_10 (by assumption)) ?_
          refine wp_bind (t_X1_operate (by assumption)) fun h25 p_h25 => ?_
          refine wp_mono (ih (by assumption) (by first | lia | assumption | exact Or.inr (by assumption)) (mu_up (by lia) (by lia) hm)) fun z11 p_z11 => ?_
          try dsimp only at p_z11
          first | trivial | assumption | lia
set_option maxRecDepth 100000 in
set_option maxHeartbeats 4000000 in
theorem t_X1_work {v1 : Nat} {v2 : Int32} {v3 : Int32} {v4 : Nat} (w : WT n b L xs τ g h) (e_v1 : 3 ≤ τ v1) (e_v4 : τ v4 = 1) (p0 : 0 ≤ v2) : wp (f_X1_work 10000 (n + 10) v1 v2 v3 v4 h) (fun r => WT n b L xs τ g r.2) := by
  unfold f_X1_work
  refine wp_bindE (pI_10_8 (by assumption) (by lia) (by lia)) fun h1 E_h1 p_h1 => ?_
  refine wp_bind (t_X1_work_L8 (by assumption) (by assumption) _ (by assumption) (by first | lia | assumption | exact Or.inr (by assumption)) (mu_0 (by lia))) fun m26 p_m26 => ?_
  refine wp_zif (ob_10 (by assumption)) ?_
  refine wp_bind (t_X1_pop (by assumption)) fun q28 p_q28 => ?_
  refine wp_some ?_
  first | trivial | assumption | lia
set_option maxRecDepth 100000 in
set_option maxHeartbeats 4000000 in
theorem t_X1_workNamesAndLimit_L5 {v1 : Nat} {v2 : Nat} (e_v1 : 3 ≤ τ v1) (e_v2 : τ v2 = 1) : ∀ (m : Nat) {v3 : Int32} {v4 : Int32} {h : zH}, WT n b L xs τ g h → 0 ≤ v4 → 0 ≤ v3 → v3 ≤ 40003 * v4 → v4 ≤ 20 → (9000 - v4.toInt).toNat < m → wp (f_X1_workNamesAndLimit_L5 10000 (n + 10) v1 v2 m v3 v4 h) (fun r => WT n b L xs τ g r) := by
  intro m
  induction m with
  | zero => intro v3 v4 h w i0 i1 i2 i3 hm; exact absurd hm (Nat.not_lt_zero _)
  | succ m ih =>
    intro v3 v4 h w i0 i1 i2 i3 hm
    rw [f_X1_workNamesAndLimit_L5.eq_2]
    refine wp_ite (fun c1 => ?_) (fun c1 => ?_)
    · refine wp_some ?_
      first | trivial | assumption | lia
    · refine wp_bind (aN_c (by assumption) (by assumption)) fun x2 p_x2 => ?_
      refine wp_ite (fun c2 => ?_) (fun c2 => ?_)
      · refine wp_some ?_
        first | trivial | assumption | lia
      · refine wp_bindE (aI_c (by assumption) (by assumption) (by lia) (by lia)) fun x4 E_x4 p_x4 => ?_
        refine wp_bindE (aI_c (by assumption) (by assumption) (by lia) (by lia)) fun x5 E_x5 p_x5 => ?_
        refine wp_zletE fun x6 e_x6 => ?_
        refine wp_bindE (aI_c (by assumption) (by assumption) (by lia) (by lia)) fun x7 E_x7 p_x7 => ?_
        refine wp_bite (fun c3 => ?_) (fun c3 => ?_)
        · refine wp_bite (fun c4 => ?_) (fun c4 => ?_)
          · refine wp_bsome ?_
            try dsimp only
            refine wp_zsL ?_
            try dsimp only
            refine wp_bindE (aI_c (by assumption) (by assumption) (by lia) (by lia)) fun x20 E_x20 p_x20 => ?_
            refine wp_ite (fun c5 => ?_) (fun c5 => ?_)
            · refine wp_bindE (gI_10_6 (by assumption)) fun x22 E_x22 p_x22 => ?_
              refine wp_ite (fun c6 => ?_) (fun c6 => ?_)
              · refine wp_zif (ob_10 (by assumption)) ?_
                refine wp_bind (t_X1_work (by assumption) (by assumption) (by assumption) (by first | lia | assumption | exact Or.inr (by assumption))) fun q25 p_q25 => ?_
                refine wp_ite (fun c7 => ?_) (fun c7 => ?_)
                · refine wp_mono (ih (by assumption) (by first | lia | assumption | exact Or.inr (by assumption)) (by first | lia | assumption | exact Or.inr (by assumption)) (by first | lia | assumption | exact Or.inr (by assumption)) (by first | lia | assumption | exact Or.inr (by assumption)) (mu_up (by lia) (by lia) hm)) fun z8 p_z8 => ?_
                  try dsimp only at p_z8
                  first | trivial | assumption | lia
                · refine wp_bindE (pI_10_6 (by assumption)) fun h27 E_h27 p_h27 => ?_
                  refine wp_mono (ih (by assumption) (by first | lia | assumption | exact Or.inr (by assumption)) (by first | lia | assumption | exact Or.inr (by assumption)) (by first | lia | assumption | exact Or.inr (by assumption)) (by first | lia | assumption | exact Or.inr (by assumption)) (mu_up (by lia) (by lia) hm)) fun z9 p_z9 => ?_
                  try dsimp only at p_z9
                  first | trivial | assumption | lia
              · refine wp_mono (ih (by assumption) (by first | lia | assumption | exact Or.inr (by assumption)) (by first | lia | assumption | exact Or.inr (by assumption)) (by first | lia | assumption | exact Or.inr (by assumption)) (by first | lia | assumption | exact Or.inr (by assumption)) (mu_up (by lia) (by lia) hm)) fun z10 p_z10 => ?_
                try dsimp only at p_z10
                first | trivial | assumption | lia
            · refine wp_mono (ih (by assumption) (by first | lia | assumption | exact Or.inr (by assumption)) (by first | lia | assumption | exact Or.inr (by assumption)) (by first | lia | assumption | exact Or.inr (by assumption)) (by first | lia | assumption | exact Or.inr (by assumption)) (mu_up (by lia) (by lia) hm)) fun z11 p_z11 => ?_
              try dsimp only at p_z11
              first | trivial | assumption | lia
          · refine wp_assoc ?_
            refine wp_eq (gR_10_1 (by assumption)) ?_
            refine wp_assoc ?_
            refine wp_eq (aN_12 (by assumption)) ?_
            refine wp_bite (fun c12 => ?_) (fun c12 => ?_)
            · refine wp_bsome ?_
              try dsimp only
              refine wp_zsL ?_
              try dsimp only
              refine wp_bindE (aI_c (by assumption) (by assumption) (by lia) (by lia)) fun x20 E_x20 p_x20 => ?_
              refine wp_ite (fun c13 => ?_) (fun c13 => ?_)
              · refine wp_bindE (gI_10_6 (by assumption)) fun x22 E_x22 p_x22 => ?_
                refine wp_ite (fun c14 => ?_) (fun c14 => ?_)
                · refine wp_zif (ob_10 (by assumption)) ?_
                  refine wp_bind (t_X1_work (by assumption) (by assumption) (by assumption) (by first | lia | assumption | exact Or.inr (by assumption))) fun q25 p_q25 => ?_
                  refine wp_ite (fun c15 => ?_) (fun c15 => ?_)
                  · refine wp_mono (ih (by assumption) (by first | lia | assumption | exact Or.inr (by assumption)) (by first | lia | assumption | exact Or.inr (by assumption)) (by first | lia | assumption | exact Or.inr (by assumption)) (by first | lia | assumption | exact Or.inr (by assumption)) (mu_up (by lia) (by lia) hm)) fun z16 p_z16 => ?_
                    try dsimp only at p_z16
                    first | trivial | assumption | lia
                  · refine wp_bindE (pI_10_6 (by assumption)) fun h27 E_h27 p_h27 => ?_
                    refine wp_mono (ih (by assumption) (by first | lia | assumption | exact Or.inr (by assumption)) (by first | lia | assumption | exact Or.inr (by assumption)) (by first | lia | assumption | exact Or.inr (by assumption)) (by first | lia | assumption | exact Or.inr (by assumption)) (mu_up (by lia) (by lia) hm)) fun z17 p_z17 => ?_
                    try dsimp only at p_z17
                    first | trivial | assumption | lia
                · refine wp_mono (ih (by assumption) (by first | lia | assumption | exact Or.inr (by assumption)) (by first | lia | assumption | exact Or.inr (by assumption)) (by first | lia | assumption | exact Or.inr (by assumption)) (by first | lia | assumption | exact Or.inr (by assumption)) (mu_up (by lia) (by lia) hm)) fun z18 p_z18 => ?_
                  try dsimp only at p_z18
                  first | trivial | assumption | lia
              · refine wp_mono (ih (by assumption) (by first | lia | assumption | exact Or.inr (by assumption)) (by first | lia | assumption | exact Or.inr (by assumption)) (by first | lia | assumption | exact Or.inr (by assumption)) (by first | lia | assumption | exact Or.inr (by assumption)) (mu_up (by lia) (by lia) hm)) fun z19 p_z19 => ?_
                try dsimp only at p_z19
                first | trivial | assumption | lia
            · refine wp_assoc ?_
              refine wp_eq (gR_10_1 (by assumption)) ?_
              refine wp_bzif (ob_10 (by assumption)) ?_
              refine wp_assoc ?_
              refine wp_bind (t_X1_work (by assumption) (by assumption) (by assumption) (by first | lia | assumption | exact Or.inr (by assumption))) fun q17 p_q17 => ?_
              refine wp_assoc ?_
              refine wp_bindE (sI_12 (by assumption) (by lia) (by lia)) fun h18 E_h18 p_h18 => ?_
              refine wp_bmap ?_
              refine wp_bind (ih (by assumption) (by first | lia | assumption | exact Or.inr (by assumption)) (by first | lia | assumption | exact Or.inr (by assumption)) (by first | lia | assumption | exact Or.inr (by assumption)) (by first | lia | assumption | exact Or.inr (by assumption)) (mu_up (by lia) (by lia) hm)) fun z20 p_z20 => ?_
              refine wp_zsR ?_
              first | trivial | assumption | lia
        · refine wp_bsome ?_
          try dsimp only
          refine wp_zsL ?_
          try dsimp only
          refine wp_bindE (aI_c (by assumption) (by assumption) (by lia) (by lia)) fun x20 E_x20 p_x20 => ?_
          refine wp_ite (fun c21 => ?_) (fun c21 => ?_)
          · refine wp_bindE (gI_10_6 (by assumption)) fun x22 E_x22 p_x22 => ?_
            refine wp_ite (fun c22 => ?_) (fun c22 => ?_)
            · refine wp_zif (ob_10 (by assumption)) ?_
              refine wp_bind (t_X1_work (by assumption) (by assumption) (by assumption) (by first | lia | assumption | exact Or.inr (by assumption))) fun q25 p_q25 => ?_
              refine wp_ite (fun c23 => ?_) (fun c23 => ?_)
              · refine wp_mono (ih (by assumption) (by first | lia | assumption | exact Or.inr (by assumption)) (by first | lia | assumption | exact Or.inr (by assumption)) (by first | lia | assumption | exact Or.inr (by assumption)) (by first | lia | assumption | exact Or.inr (by assumption)) (mu_up (by lia) (by lia) hm)) fun z24 p_z24 => ?_
                try dsimp only at p_z24
                first | trivial | assumption | lia
              · refine wp_bindE (pI_10_6 (by assumption)) fun h27 E_h27 p_h27 => ?_
                refine wp_mono (ih (by assumption) (by first | lia | assumption | exact Or.inr (by assumption)) (by first | lia | assumption | exact Or.inr (by assumption)) (by first | lia | assumption | exact Or.inr (by assumption)) (by first | lia | assumption | exact Or.inr (by assumption)) (mu_up (by lia) (by lia) hm)) fun z25 p_z25 => ?_
                try dsimp only at p_z25
                first | trivial | assumption | lia
            · refine wp_mono (ih (by assumption) (by first | lia | assumption | exact Or.inr (by assumption)) (by first | lia | assumption | exact Or.inr (by assumption)) (by first | lia | assumption | exact Or.inr (by assumption)) (by first | lia | assumption | exact Or.inr (by assumption)) (mu_up (by lia) (by lia) hm)) fun z26 p_z26 => ?_
              try dsimp only at p_z26
              first | trivial | assumption | lia
          · refine wp_mono (ih (by assumption) (by first | lia | assumption | exact Or.inr (by assumption)) (by first | lia | assumption | exact Or.inr (by assumption)) (by first | lia | assumption | exact Or.inr (by assumption)) (by first | lia | assumption | exact Or.inr (by assumption)) (mu_up (by lia) (by lia) hm)) fun z27 p_z27 => ?_
            try dsimp only at p_z27
            first | trivial | assumption | lia
set_option maxRecDepth 100000 in
set_option maxHeartbeats 4000000 in
theorem t_X1_workNamesAndLimit {v1 : Nat} {v2 : Nat} (w : WT n b L xs τ g h) (e_v1 : 3 ≤ τ v1) (e_v2 : τ v2 = 1) : wp (f_X1_workNamesAndLimit 10000 (n + 10) v1 v2 h) (fun r => WT n b L xs τ g r) := by
  unfold f_X1_workNamesAndLimit
  refine wp_bind (t_X1_workNamesAndLimit_L5 (by assumption) (by assumption) _ (by assumption) (by first | lia | assumption | exact Or.inr (by assumption)) (by first | lia | assumption | exact Or.inr (by assumption)) (by first | lia | assumption | exact Or.inr (by assumption)) (by first | lia | assumption | exact Or.inr (by assumption)) (mu_0 (by lia))) fun m28 p_m28 => ?_
  refine wp_some ?_
  first | trivial | assumption | lia
set_option maxRecDepth 100000 in
set_option maxHeartbeats 4000000 in
theorem t_X1_findFault_L5 {v1 : Nat} {v2 : Nat} (e_v1 : 3 ≤ τ v1) (e_v2 : τ v2 = 1) : ∀ (m : Nat) {v3 : Int32} {v4 : Int32} {h : zH}, WT n b L xs τ g h → 0 ≤ v4 → 0 ≤ v3 → v3 ≤ 40003 * v4 → v4 ≤ 20 → (9000 - v4.toInt).toNat < m → wp (f_X1_findFault_L5 10000 (n + 10) v1 v2 m v3 v4 h) (fun r => (match r with | .inl a => WT n b L xs τ g a | .inr a => WT n b L xs τ g a)) := by
  intro m
  induction m with
  | zero => intro v3 v4 h w i0 i1 i2 i3 hm; exact absurd hm (Nat.not_lt_zero _)
  | succ m ih =>
    intro v3 v4 h w i0 i1 i2 i3 hm
    rw [f_X1_findFault_L5.eq_2]
    refine wp_ite (fun c1 => ?_) (fun c1 => ?_)
    · refine wp_some ?_
      first | trivial | assumption | lia | (refine ⟨?_, ?_⟩ <;> first | trivial | assumption | lia)
    · refine wp_bind (aN_c (by assumption) (by assumption)) fun x2 p_x2 => ?_
      refine wp_ite (fun c2 => ?_) (fun c2 => ?_)
      · refine wp_some ?_
        first | trivial | assumption | lia | (refine ⟨?_, ?_⟩ <;> first | trivial | assumption | lia)
      · refine wp_bindE (aI_c (by assumption) (by assumption) (by lia) (by lia)) fun x4 E_x4 p_x4 => ?_
        refine wp_zletE fun x5 e_x5 => ?_
        refine wp_bindE (aI_c (by assumption) (by assumption) (by lia) (by lia)) fun x6 E_x6 p_x6 => ?_
        refine wp_ite (fun c3 => ?_) (fun c3 => ?_)
        · refine wp_zif (ob_10 (by assumption)) ?_
          refine wp_bind (t_X1_work (by assumption) (by assumption) (by assumption) (by first | lia | assumption | exact Or.inr (by assumption))) fun q9 p_q9 => ?_
          refine wp_ite (fun c4 => ?_) (fun c4 => ?_)
          · refine wp_mono (ih (by assumption) (by first | lia | assumption | exact Or.inr (by assumption)) (by first | lia | assumption | exact Or.inr (by assumption)) (by first | lia | assumption | exact Or.inr (by assumption)) (by first | lia | assumption | exact Or.inr (by assumption)) (mu_up (by lia) (by lia) hm)) fun z5 p_z5 => ?_
            try dsimp only at p_z5
            first | trivial | assumption | lia | (refine ⟨?_, ?_⟩ <;> first | trivial | assumption | lia)
          · refine wp_bindE (aI_c (by assumption) (by assumption) (by lia) (by lia)) fun x11 E_x11 p_x11 => ?_
            refine wp_bindE (pI_10_4 (by assumption)) fun h12 E_h12 p_h12 => ?_
            refine wp_bindE (pI_10_5 (by assumption)) fun h13 E_h13 p_h13 => ?_
            refine wp_some ?_
            first | trivial | assumption | lia | (refine ⟨?_, ?_⟩ <;> first | trivial | assumption | lia)
        · refine wp_mono (ih (by assumption) (by first | lia | assumption | exact Or.inr (by assumption)) (by first | lia | assumption | exact Or.inr (by assumption)) (by first | lia | assumption | exact Or.inr (by assumption)) (by first | lia | assumption | exact Or.inr (by assumption)) (mu_up (by lia) (by lia) hm)) fun z6 p_z6 => ?_
          try dsimp only at p_z6
          first | trivial | assumption | lia | (refine ⟨?_, ?_⟩ <;> first | trivial | assumption | lia)
set_option maxRecDepth 100000 in
set_option maxHeartbeats 4000000 in
theorem t_X1_findFault {v1 : Nat} {v2 : Nat} (w : WT n b L xs τ g h) (e_v1 : 3 ≤ τ v1) (e_v2 : τ v2 = 1) : wp (f_X1_findFault 10000 (n + 10) v1 v2 h) (fun r => WT n b L xs τ g r) := by
  unfold f_X1_findFault
  refine wp_bind (t_X1_findFault_L5 (by assumption) (by assumption) _ (by assumption) (by first | lia | assumption | exact Or.inr (by assumption)) (by first | lia | assumption | exact Or.inr (by assumption)) (by first | lia | assumption | exact Or.inr (by assumption)) (by first | lia | assumption | exact Or.inr (by assumption)) (mu_0 (by lia))) fun m14 p_m14 => ?_
  rcases m14 with s15 | y1
  · refine wp_zsL ?_
    refine wp_some ?_
    first | trivial | assumption | lia
  · refine wp_zsR ?_
    first | trivial | assumption | lia
set_option maxRecDepth 100000 in
set_option maxHeartbeats 4000000 in
theorem t_X1_judge {v1 : Nat} {v2 : Int32} {v3 : Int32} (w : WT n b L xs τ g h) (e_v1 : τ v1 = 1) : wp (f_X1_judge 10000 (n + 10) v1 v2 v3 h) (fun r => WT n b L xs τ g r) := by
  unfold f_X1_judge
  refine wp_bindE (pI_10_4 (by assumption)) fun h1 E_h1 p_h1 => ?_
  refine wp_bindE (pI_10_5 (by assumption)) fun h2 E_h2 p_h2 => ?_
  refine wp_bindE (pI_10_6 (by assumption)) fun h3 E_h3 p_h3 => ?_
  refine wp_zif (ob_10 (by assumption)) ?_
  refine wp_bind (t_X1_lawOf (by assumption)) fun q5 p_q5 => ?_
  refine wp_bindE (pI_10_7 (by assumption)) fun h6 E_h6 p_h6 => ?_
  refine wp_eq (pF_gI E_h6) ?_
  refine wp_ite (fun c1 => ?_) (fun c1 => ?_)
  · refine wp_some ?_
    first | trivial | assumption | lia
  · refine wp_eq (pF_gI E_h6) ?_
    refine wp_ite (fun c2 => ?_) (fun c2 => ?_)
    · refine wp_some ?_
      first | trivial | assumption | lia
    · refine wp_eq (gR_10_0 (by assumption)) ?_
      refine wp_eq (pF_gI E_h6) ?_
      refine wp_bindE (aQ_11 (by assumption) (by lia) (by lia)) fun x13 E_x13 p_x13 => ?_
      refine wp_zopt (fun e3 => ?_) (fun a14 e3 => ?_)
      · refine wp_some ?_
        first | trivial | assumption | lia
      · have t_a14 : τ a14 = 2 := p_x13 a14 e3
        refine wp_eq (gR_10_0 (by assumption)) ?_
        refine wp_eq (pF_gI E_h6) ?_
        refine wp_eq E_x13 ?_
        refine wp_eq e3 ?_
        refine wp_bind (gR_l (by assumption) (by assumption)) fun r20 p_r20 => ?_
        refine wp_bindE (pI_10_9 (by assumption)) fun h21 E_h21 p_h21 => ?_
        refine wp_bindE (pI_10_10 (by assumption)) fun h22 E_h22 p_h22 => ?_
        refine wp_zif (ob_10 (by assumption)) ?_
        refine wp_bind (t_X1_workNamesAndLimit (by assumption) (by assumption) (by assumption)) fun h24 p_h24 => ?_
        refine wp_bindE (gI_10_6 (by assumption)) fun x25 E_x25 p_x25 => ?_
        refine wp_bindE (pI_10_10 (by assumption)) fun h26 E_h26 p_h26 => ?_
        refine wp_zif (ob_10 (by assumption)) ?_
        refine wp_bind (t_X1_findFault (by assumption) (by assumption) (by assumption)) fun h28 p_h28 => ?_
        refine wp_some ?_
        first | trivial | assumption | lia
set_option maxRecDepth 100000 in
set_option maxHeartbeats 4000000 in
theorem t_X10_groupOf {v1 : Int32} (w : WT n b L xs τ g h) : wp (f_X10_groupOf 10000 (n + 33) v1 h) (fun r => True) := by
  unfold f_X10_groupOf
  refine wp_ite (fun c1 => ?_) (fun c1 => ?_)
  · refine wp_some ?_
    first | trivial | assumption | lia
  · refine wp_ite (fun c2 => ?_) (fun c2 => ?_)
    · refine wp_some ?_
      first | trivial | assumption | lia
    · refine wp_eq (gR_33_5 (by assumption)) ?_
      refine wp_bindE (aI_39 (by assumption) (by lia) (by lia)) fun x4 E_x4 p_x4 => ?_
      refine wp_some ?_
      first | trivial | assumption | lia
set_option maxRecDepth 100000 in
set_option maxHeartbeats 4000000 in
theorem t_X10_join_L15 {v3 : Int32}  : ∀ (m : Nat) {v4 : Int32} {h : zH}, WT n b L xs τ g h → 0 ≤ v4 → (9000 - v4.toInt).toNat < m → wp (f_X10_join_L15 10000 (n + 33) v3 m v4 h) (fun r => WT n b L xs τ g r) := by
  intro m
  induction m with
  | zero => intro v4 h w i0 hm; exact absurd hm (Nat.not_lt_zero _)
  | succ m ih =>
    intro v4 h w i0 hm
    rw [f_X10_join_L15.eq_2]
    refine wp_ite (fun c1 => ?_) (fun c1 => ?_)
    · refine wp_some ?_
      first | trivial | assumption | lia
    · refine wp_ite (fun c2 => ?_) (fun c2 => ?_)
      · refine wp_mono (ih (by assumption) (by first | lia | assumption | exact Or.inr (by assumption)) (mu_up (by lia) (by lia) hm)) fun z3 p_z3 => ?_
        try dsimp only at p_z3
        first | trivial | assumption | lia
      · refine wp_eq (gR_33_5 (by assumption)) ?_
        refine wp_bindE (sI_39 (by assumption) (by lia) (by lia)) fun h9 E_h9 p_h9 => ?_
        refine wp_mono (ih (by assumption) (by first | lia | assumption | exact Or.inr (by assumption)) (mu_up (by lia) (by lia) hm)) fun z4 p_z4 => ?_
        try dsimp only at p_z4
        first | trivial | assumption | lia
set_option maxRecDepth 100000 in
set_option maxHeartbeats 4000000 in
theorem t_X10_join {v1 : Int32} {v2 : Int32} (w : WT n b L xs τ g h) : wp (f_X10_join 10000 (n + 33) v1 v2 h) (fun r => WT n b L xs τ g r) := by
  unfold f_X10_join
  refine wp_zif (ob_33 (by assumption)) ?_
  refine wp_bind (t_X10_groupOf (by assumption)) fun q2 p_q2 => ?_
  refine wp_zif (ob_33 (by assumption)) ?_
  refine wp_bind (t_X10_groupOf (by assumption)) fun q4 p_q4 => ?_
  refine wp_zletE fun x5 e_x5 => ?_
  refine wp_bind (t_X10_join_L15 _ (by assumption) (by first | lia | assumption | exact Or.inr (by assumption)) (mu_0 (by lia))) fun m10 p_m10 => ?_
  refine wp_some ?_
  first | trivial | assumption | lia
set_option maxRecDepth 100000 in
set_option maxHeartbeats 4000000 in
theorem t_X10_tripsBy_L2  : ∀ (m : Nat) {v2 : Int32} {h : zH}, WT n b L xs τ g h → 0 ≤ v2 → (9000 - v2.toInt).toNat < m → wp (f_X10_tripsBy_L2 10000 (n + 33) m v2 h) (fun r => WT n b L xs τ g r) := by
  intro m
  induction m with
  | zero => intro v2 h w i0 hm; exact absurd hm (Nat.not_lt_zero _)
  | succ m ih =>
    intro v2 h w i0 hm
    rw [f_X10_tripsBy_L2.eq_2]
    refine wp_ite (fun c1 => ?_) (fun c1 => ?_)
    · refine wp_some ?_
      first | trivial | assumption | lia
    · refine wp_eq (gR_33_5 (by assumption)) ?_
      refine wp_bindE (sI_39 (by assumption) (by lia) (by lia)) fun h3 E_h3 p_h3 => ?_
      refine wp_mono (ih (by assumption) (by first | lia | assumption | exact Or.inr (by assumption)) (mu_up (by lia) (by lia) hm)) fun z2 p_z2 => ?_
      try dsimp only at p_z2
      first | trivial | assumption | lia
set_option maxRecDepth 100000 in
set_option maxHeartbeats 4000000 in
theorem t_X10_tripsBy_L25 {v1 : Int32}  : ∀ (m : Nat) {v2 : Int32} {h : zH}, WT n b L xs τ g h → 0 ≤ v2 → (9000 - v2.toInt).toNat < m → wp (f_X10_tripsBy_L25 10000 (n + 33) v1 m v2 h) (fun r => WT n b L xs τ g r) := by
  intro m
  induction m with
  | zero => intro v2 h w i0 hm; exact absurd hm (Nat.not_lt_zero _)
  | succ m ih =>
    intro v2 h w i0 hm
    rw [f_X10_tripsBy_L25.eq_2]
    refine wp_ite (fun c1 => ?_) (fun c1 => ?_)
    · refine wp_some ?_
      first | trivial | assumption | lia
    · refine wp_ite (fun c2 => ?_) (fun c2 => ?_)
      · refine wp_mono (ih (by assumption) (by first | lia | assumption | exact Or.inr (by assumption)) (mu_up (by lia) (by lia) hm)) fun z3 p_z3 => ?_
        try dsimp only at p_z3
        first | trivial | assumption | lia
      · refine wp_eq (gR_33_0 (by assumption)) ?_
        refine wp_bindE (aI_34 (by assumption) (by lia) (by lia)) fun x8 E_x8 p_x8 => ?_
        refine wp_eq (gR_33_0 (by assumption)) ?_
        refine wp_bindE (aI_34 (by assumption) (by lia) (by lia)) fun x10 E_x10 p_x10 => ?_
        refine wp_zif (ob_33 (by assumption)) ?_
        refine wp_bind (t_X10_join (by assumption)) fun h12 p_h12 => ?_
        refine wp_mono (ih (by assumption) (by first | lia | assumption | exact Or.inr (by assumption)) (mu_up (by lia) (by lia) hm)) fun z4 p_z4 => ?_
        try dsimp only at p_z4
        first | trivial | assumption | lia
set_option maxRecDepth 100000 in
set_option maxHeartbeats 4000000 in
theorem t_X10_tripsBy_L71 (w : WT n b L xs τ g h) : ∀ (m : Nat) {v2 : Int32} {v3 : Int32}, 0 ≤ v3 → (9000 - v3.toInt).toNat < m → wp (f_X10_tripsBy_L71 10000 (n + 33) h m v2 v3) (fun r => True) := by
  intro m
  induction m with
  | zero => intro v2 v3 i0 hm; exact absurd hm (Nat.not_lt_zero _)
  | succ m ih =>
    intro v2 v3 i0 hm
    rw [f_X10_tripsBy_L71.eq_2]
    refine wp_bindE (gI_33_10 (by assumption)) fun x14 E_x14 p_x14 => ?_
    refine wp_ite (fun c1 => ?_) (fun c1 => ?_)
    · refine wp_some ?_
      first | trivial | assumption | lia
    · refine wp_ite (fun c2 => ?_) (fun c2 => ?_)
      · refine wp_some ?_
        first | trivial | assumption | lia
      · refine wp_eq (gR_33_2 (by assumption)) ?_
        refine wp_bindE (aI_36 (by assumption) (by lia) (by lia)) fun x18 E_x18 p_x18 => ?_
        refine wp_zif (ob_33 (by assumption)) ?_
        refine wp_bind (t_X10_groupOf (by assumption)) fun q20 p_q20 => ?_
        refine wp_eq (gR_33_3 (by assumption)) ?_
        refine wp_bindE (aI_37 (by assumption) (by lia) (by lia)) fun x22 E_x22 p_x22 => ?_
        refine wp_ite (fun c3 => ?_) (fun c3 => ?_)
        · refine wp_mono (ih (by first | lia | assumption | exact Or.inr (by assumption)) (mu_up (by lia) (by lia) hm)) fun z4 p_z4 => ?_
          try dsimp only at p_z4
          first | trivial | assumption | lia
        · refine wp_mono (ih (by first | lia | assumption | exact Or.inr (by assumption)) (mu_up (by lia) (by lia) hm)) fun z5 p_z5 => ?_
          try dsimp only at p_z5
          first | trivial | assumption | lia
set_option maxRecDepth 100000 in
set_option maxHeartbeats 4000000 in
theorem t_X10_tripsBy {v1 : Int32} (w : WT n b L xs τ g h) : wp (f_X10_tripsBy 10000 (n + 33) v1 h) (fun r => WT n b L xs τ g r.2) := by
  unfold f_X10_tripsBy
  refine wp_bind (t_X10_tripsBy_L2 _ (by assumption) (by first | lia | assumption | exact Or.inr (by assumption)) (mu_0 (by lia))) fun m4 p_m4 => ?_
  refine wp_bind (t_X10_tripsBy_L25 _ (by assumption) (by first | lia | assumption | exact Or.inr (by assumption)) (mu_0 (by lia))) fun m13 p_m13 => ?_
  refine wp_bind (t_X10_tripsBy_L71 (by assumption) _ (by first | lia | assumption | exact Or.inr (by assumption)) (mu_0 (by lia))) fun m24 p_m24 => ?_
  refine wp_some ?_
  first | trivial | assumption | lia
set_option maxRecDepth 100000 in
set_option maxHeartbeats 4000000 in
theorem t_X10_weigh {v1 : Int32} {v2 : Int32} {v3 : Int32} {v4 : Int32} (w : WT n b L xs τ g h) : wp (f_X10_weigh 10000 (n + 33) v1 v2 v3 v4 h) (fun r => WT n b L xs τ g r) := by
  unfold f_X10_weigh
  refine wp_eq (gR_33_4 (by assumption)) ?_
  refine wp_eq (aN_38 (by assumption)) ?_
  refine in11b (fun c1 => ?_) (fun c1 => ?_)
  · refine wp_bsome ?_
    refine wp_ite (fun c2 => ?_) (fun c2 => ?_)
    · refine wp_some ?_
      first | trivial | assumption | lia
    · refine wp_eq (gR_33_4 (by assumption)) ?_
      refine wp_bindE (aI_38 (by assumption) (by lia) (by lia)) fun x10 E_x10 p_x10 => ?_
      refine wp_bindE (gI_33_10 (by assumption)) fun x11 E_x11 p_x11 => ?_
      refine wp_ite (fun c3 => ?_) (fun c3 => ?_)
      · refine wp_eq E_x11 ?_
        refine wp_eq (gR_33_4 (by assumption)) ?_
        refine wp_bindE (aI_38 (by assumption) (by lia) (by lia)) fun x15 E_x15 p_x15 => ?_
        refine wp_zletE fun x16 e_x16 => ?_
        refine wp_ite (fun c4 => ?_) (fun c4 => ?_)
        · refine wp_some ?_
          first | trivial | assumption | lia
        · refine wp_eq (gR_33_6 (by assumption)) ?_
          refine wp_eq (aN_40 (by assumption)) ?_
          refine wp_ite (fun c5 => ?_) (fun c5 => ?_)
          · refine wp_some ?_
            first | trivial | assumption | lia
          · refine wp_eq (gR_33_6 (by assumption)) ?_
            refine wp_bindE (aI_40 (by assumption) (by lia) (by lia)) fun x22 E_x22 p_x22 => ?_
            refine wp_bite (fun c6 => ?_) (fun c6 => ?_)
            · refine wp_bsome ?_
              refine wp_zsL ?_
              try dsimp only
              refine wp_eq (gR_33_6 (by assumption)) ?_
              refine wp_bindE (sI_40 (by assumption) (by lia) (by lia)) fun h31 E_h31 p_h31 => ?_
              refine wp_eq (gR_33_7 (by assumption)) ?_
              refine wp_bindE (sI_41 (by assumption) (by lia) (by lia)) fun h33 E_h33 p_h33 => ?_
              refine wp_some ?_
              first | trivial | assumption | lia
            · refine wp_assoc ?_
              refine wp_eq (gR_33_6 (by assumption)) ?_
              refine wp_assoc ?_
              refine wp_eq E_x22 ?_
              refine wp_bite (fun c7 => ?_) (fun c7 => ?_)
              · refine wp_bmap ?_
                refine wp_bsome ?_
                refine wp_zsR ?_
                first | trivial | assumption | lia
              · refine wp_bsome ?_
                refine wp_zsL ?_
                try dsimp only
                refine wp_eq (gR_33_6 (by assumption)) ?_
                refine wp_bindE (sI_40 (by assumption) (by lia) (by lia)) fun h31 E_h31 p_h31 => ?_
                refine wp_eq (gR_33_7 (by assumption)) ?_
                refine wp_bindE (sI_41 (by assumption) (by lia) (by lia)) fun h33 E_h33 p_h33 => ?_
                refine wp_some ?_
                first | trivial | assumption | lia
      · refine wp_some ?_
        first | trivial | assumption | lia
  · refine wp_assoc ?_
    refine wp_eq (gR_33_4 (by assumption)) ?_
    refine wp_assoc ?_
    refine wp_eq (aN_38 (by assumption)) ?_
    refine in11b (fun c8 => ?_) (fun c8 => ?_)
    · refine wp_bsome ?_
      refine wp_ite (fun c9 => ?_) (fun c9 => ?_)
      · refine wp_some ?_
        first | trivial | assumption | lia
      · refine wp_eq (gR_33_4 (by assumption)) ?_
        refine wp_bindE (aI_38 (by assumption) (by lia) (by lia)) fun x10 E_x10 p_x10 => ?_
        refine wp_bindE (gI_33_10 (by assumption)) fun x11 E_x11 p_x11 => ?_
        refine wp_ite (fun c10 => ?_) (fun c10 => ?_)
        · refine wp_eq E_x11 ?_
          refine wp_eq (gR_33_4 (by assumption)) ?_
          refine wp_bindE (aI_38 (by assumption) (by lia) (by lia)) fun x15 E_x15 p_x15 => ?_
          refine wp_zletE fun x16 e_x16 => ?_
          refine wp_ite (fun c11 => ?_) (fun c11 => ?_)
          · refine wp_some ?_
            first | trivial | assumption | lia
          · refine wp_eq (gR_33_6 (by assumption)) ?_
            refine wp_eq (aN_40 (by assumption)) ?_
            refine wp_ite (fun c12 => ?_) (fun c12 => ?_)
            · refine wp_some ?_
              first | trivial | assumption | lia
            · refine wp_eq (gR_33_6 (by assumption)) ?_
              refine wp_bindE (aI_40 (by assumption) (by lia) (by lia)) fun x22 E_x22 p_x22 => ?_
              refine wp_bite (fun c13 => ?_) (fun c13 => ?_)
              · refine wp_bsome ?_
                refine wp_zsL ?_
                try dsimp only
                refine wp_eq (gR_33_6 (by assumption)) ?_
                refine wp_bindE (sI_40 (by assumption) (by lia) (by lia)) fun h31 E_h31 p_h31 => ?_
                refine wp_eq (gR_33_7 (by assumption)) ?_
                refine wp_bindE (sI_41 (by assumption) (by lia) (by lia)) fun h33 E_h33 p_h33 => ?_
                refine wp_some ?_
                first | trivial | assumption | lia
              · refine wp_assoc ?_
                refine wp_eq (gR_33_6 (by assumption)) ?_
                refine wp_assoc ?_
                refine wp_eq E_x22 ?_
                refine wp_bite (fun c14 => ?_) (fun c14 => ?_)
                · refine wp_bmap ?_
                  refine wp_bsome ?_
                  refine wp_zsR ?_
                  first | trivial | assumption | lia
                · refine wp_bsome ?_
                  refine wp_zsL ?_
                  try dsimp only
                  refine wp_eq (gR_33_6 (by assumption)) ?_
                  refine wp_bindE (sI_40 (by assumption) (by lia) (by lia)) fun h31 E_h31 p_h31 => ?_
                  refine wp_eq (gR_33_7 (by assumption)) ?_
                  refine wp_bindE (sI_41 (by assumption) (by lia) (by lia)) fun h33 E_h33 p_h33 => ?_
                  refine wp_some ?_
                  first | trivial | assumption | lia
        · refine wp_some ?_
          first | trivial | assumption | lia
    · refine wp_bsome ?_
      refine wp_ite (fun c15 => ?_) (fun c15 => ?_)
      · refine wp_some ?_
        first | trivial | assumption | lia
      · refine wp_eq (gR_33_4 (by assumption)) ?_
        refine wp_bindE (aI_38 (by assumption) (by lia) (by lia)) fun x10 E_x10 p_x10 => ?_
        refine wp_bindE (gI_33_10 (by assumption)) fun x11 E_x11 p_x11 => ?_
        refine wp_ite (fun c16 => ?_) (fun c16 => ?_)
        · refine wp_eq E_x11 ?_
          refine wp_eq (gR_33_4 (by assumption)) ?_
          refine wp_bindE (aI_38 (by assumption) (by lia) (by lia)) fun x15 E_x15 p_x15 => ?_
          refine wp_zletE fun x16 e_x16 => ?_
          refine wp_ite (fun c17 => ?_) (fun c17 => ?_)
          · refine wp_some ?_
            first | trivial | assumption | lia
          · refine wp_eq (gR_33_6 (by assumption)) ?_
            refine wp_eq (aN_40 (by assumption)) ?_
            refine wp_ite (fun c18 => ?_) (fun c18 => ?_)
            · refine wp_some ?_
              first | trivial | assumption | lia
            · refine wp_eq (gR_33_6 (by assumption)) ?_
              refine wp_bindE (aI_40 (by assumption) (by lia) (by lia)) fun x22 E_x22 p_x22 => ?_
              refine wp_bite (fun c19 => ?_) (fun c19 => ?_)
              · refine wp_bsome ?_
                refine wp_zsL ?_
                try dsimp only
                refine wp_eq (gR_33_6 (by assumption)) ?_
                refine wp_bindE (sI_40 (by assumption) (by lia) (by lia)) fun h31 E_h31 p_h31 => ?_
                refine wp_eq (gR_33_7 (by assumption)) ?_
                refine wp_bindE (sI_41 (by assumption) (by lia) (by lia)) fun h33 E_h33 p_h33 => ?_
                refine wp_some ?_
                first | trivial | assumption | lia
              · refine wp_assoc ?_
                refine wp_eq (gR_33_6 (by assumption)) ?_
                refine wp_assoc ?_
                refine wp_eq E_x22 ?_
                refine wp_bite (fun c20 => ?_) (fun c20 => ?_)
                · refine wp_bmap ?_
                  refine wp_bsome ?_
                  refine wp_zsR ?_
                  first | trivial | assumption | lia
                · refine wp_bsome ?_
                  refine wp_zsL ?_
                  try dsimp only
                  refine wp_eq (gR_33_6 (by assumption)) ?_
                  refine wp_bindE (sI_40 (by assumption) (by lia) (by lia)) fun h31 E_h31 p_h31 => ?_
                  refine wp_eq (gR_33_7 (by assumption)) ?_
                  refine wp_bindE (sI_41 (by assumption) (by lia) (by lia)) fun h33 E_h33 p_h33 => ?_
                  refine wp_some ?_
                  first | trivial | assumption | lia
        · refine wp_some ?_
          first | trivial | assumption | lia
set_option maxRecDepth 100000 in
set_option maxHeartbeats 4000000 in
theorem t_X10_isTold {v1 : Int32} (w : WT n b L xs τ g h) : wp (f_X10_isTold 10000 (n + 33) v1 h) (fun r => (r = 0 ∨ r = 1)) := by
  unfold f_X10_isTold
  refine wp_ite (fun c1 => ?_) (fun c1 => ?_)
  · refine wp_some ?_
    first | trivial | assumption | lia
  · refine wp_ite (fun c2 => ?_) (fun c2 => ?_)
    · refine wp_some ?_
      first | trivial | assumption | lia
    · refine wp_bindE (gI_33_9 (by assumption)) fun x3 E_x3 p_x3 => ?_
      refine wp_ite (fun c3 => ?_) (fun c3 => ?_)
      · refine wp_some ?_
        first | trivial | assumption | lia
      · refine wp_some ?_
        first | trivial | assumption | lia
set_option maxRecDepth 100000 in
set_option maxHeartbeats 4000000 in
theorem t_X10_decide  : ∀ (m : Nat) {v1 : Int32} {v2 : Int32} {v3 : Int32} {v4 : Int32} {v5 : Int32} {h : zH}, WT n b L xs τ g h → -1 ≤ v1 → v1 ≤ 7 → (v1.toInt + 1).toNat < m → wp (f_X10_decide 10000 m (n + 33) v1 v2 v3 v4 v5 h) (fun r => WT n b L xs τ g r) := by
  intro m
  induction m with
  | zero => intro v1 v2 v3 v4 v5 h w i0 i1 hm; exact absurd hm (Nat.not_lt_zero _)
  | succ m ih =>
    intro v1 v2 v3 v4 v5 h w i0 i1 hm
    rw [f_X10_decide.eq_2]
    refine wp_bite (fun c1 => ?_) (fun c1 => ?_)
    · refine wp_bsome ?_
      refine wp_zsL ?_
      try dsimp only
      refine wp_zif (ob_33 (by assumption)) ?_
      refine wp_bind (t_X10_weigh (by assumption)) fun h27 p_h27 => ?_
      refine wp_some ?_
      first | trivial | assumption | lia
    · refine wp_bite (fun c2 => ?_) (fun c2 => ?_)
      · refine wp_bzif (ob_33 (by assumption)) ?_
        refine wp_assoc ?_
        refine wp_bind (t_X10_isTold (by assumption)) fun q6 p_q6 => ?_
        refine wp_bite (fun c3 => ?_) (fun c3 => ?_)
        · refine wp_bzif (ob_33 (by assumption)) ?_
          refine wp_assoc ?_
          refine wp_bind (ih (by assumption) (by first | lia | assumption | exact Or.inr (by assumption)) (by first | lia | assumption | exact Or.inr (by assumption)) (mu_dn (by lia) (by lia) hm)) fun h24 p_h24 => ?_
          refine wp_bmap ?_
          refine wp_bsome ?_
          refine wp_zsR ?_
          first | trivial | assumption | lia
        · refine wp_bzletE fun x8 e_x8 => ?_
          refine wp_bzletE fun x9 e_x9 => ?_
          refine wp_assoc ?_
          refine wp_eq (gR_33_1 (by assumption)) ?_
          refine wp_assoc ?_
          refine wp_bindE (aI_35 (by assumption) (by lia) (by lia)) fun x11 E_x11 p_x11 => ?_
          refine wp_bzif (ob_33 (by assumption)) ?_
          refine wp_assoc ?_
          refine wp_bind (ih (by assumption) (by first | lia | assumption | exact Or.inr (by assumption)) (by first | lia | assumption | exact Or.inr (by assumption)) (mu_dn (by lia) (by lia) hm)) fun h13 p_h13 => ?_
          refine wp_assoc ?_
          refine wp_eq (gR_33_1 (by assumption)) ?_
          refine wp_assoc ?_
          refine wp_bindE (aI_35 (by assumption) (by lia) (by lia)) fun x15 E_x15 p_x15 => ?_
          refine wp_bzif (ob_33 (by assumption)) ?_
          refine wp_assoc ?_
          refine wp_bind (ih (by assumption) (by first | lia | assumption | exact Or.inr (by assumption)) (by first | lia | assumption | exact Or.inr (by assumption)) (mu_dn (by lia) (by lia) hm)) fun h17 p_h17 => ?_
          refine wp_assoc ?_
          refine wp_eq (gR_33_1 (by assumption)) ?_
          refine wp_assoc ?_
          refine wp_bindE (aI_35 (by assumption) (by lia) (by lia)) fun x19 E_x19 p_x19 => ?_
          refine wp_bzif (ob_33 (by assumption)) ?_
          refine wp_assoc ?_
          refine wp_bind (ih (by assumption) (by first | lia | assumption | exact Or.inr (by assumption)) (by first | lia | assumption | exact Or.inr (by assumption)) (mu_dn (by lia) (by lia) hm)) fun h21 p_h21 => ?_
          refine wp_bmap ?_
          refine wp_bsome ?_
          refine wp_zsR ?_
          first | trivial | assumption | lia
      · refine wp_bsome ?_
        refine wp_zsL ?_
        try dsimp only
        refine wp_zif (ob_33 (by assumption)) ?_
        refine wp_bind (t_X10_weigh (by assumption)) fun h27 p_h27 => ?_
        refine wp_some ?_
        first | trivial | assumption | lia
set_option maxRecDepth 100000 in
set_option maxHeartbeats 4000000 in
theorem t_X10_findPlans_L10  : ∀ (m : Nat) {v1 : Int32} {h : zH}, WT n b L xs τ g h → 0 ≤ v1 → (9000 - v1.toInt).toNat < m → wp (f_X10_findPlans_L10 10000 (n + 33) m v1 h) (fun r => WT n b L xs τ g r) := by
  intro m
  induction m with
  | zero => intro v1 h w i0 hm; exact absurd hm (Nat.not_lt_zero _)
  | succ m ih =>
    intro v1 h w i0 hm
    rw [f_X10_findPlans_L10.eq_2]
    refine wp_eq (gR_33_4 (by assumption)) ?_
    refine wp_eq (aN_38 (by assumption)) ?_
    refine wp_ite (fun c1 => ?_) (fun c1 => ?_)
    · refine wp_some ?_
      first | trivial | assumption | lia
    · refine wp_bindE (gI_33_9 (by assumption)) fun x6 E_x6 p_x6 => ?_
      refine wp_ite (fun c2 => ?_) (fun c2 => ?_)
      · refine wp_eq (gR_33_4 (by assumption)) ?_
        refine wp_zif (ob_33 (by assumption)) ?_
        refine wp_bind (t_X10_tripsBy (by assumption)) fun q10 p_q10 => ?_
        refine wp_bindE (sI_38 (by assumption) (by lia) (by lia)) fun h11 E_h11 p_h11 => ?_
        refine wp_mono (ih (by assumption) (by first | lia | assumption | exact Or.inr (by assumption)) (mu_up (by lia) (by lia) hm)) fun z3 p_z3 => ?_
        try dsimp only at p_z3
        first | trivial | assumption | lia
      · refine wp_mono (ih (by assumption) (by first | lia | assumption | exact Or.inr (by assumption)) (mu_up (by lia) (by lia) hm)) fun z4 p_z4 => ?_
        try dsimp only at p_z4
        first | trivial | assumption | lia
set_option maxRecDepth 100000 in
set_option maxHeartbeats 4000000 in
theorem t_X10_findPlans (w : WT n b L xs τ g h) : wp (f_X10_findPlans 10000 (n + 33) h) (fun r => WT n b L xs τ g r) := by
  unfold f_X10_findPlans
  refine wp_eq (gR_33_6 (by assumption)) ?_
  refine wp_bind (fill_40 (by assumption)) fun h2 p_h2 => ?_
  refine wp_bind (t_X10_findPlans_L10 _ (by assumption) (by first | lia | assumption | exact Or.inr (by assumption)) (mu_0 (by lia))) fun m12 p_m12 => ?_
  refine wp_zif (ob_33 (by assumption)) ?_
  refine wp_bind (t_X10_decide _ (by assumption) (by first | lia | assumption | exact Or.inr (by assumption)) (by first | lia | assumption | exact Or.inr (by assumption)) (by decide)) fun h14 p_h14 => ?_
  refine wp_some ?_
  first | trivial | assumption | lia
set_option maxRecDepth 100000 in
set_option maxHeartbeats 4000000 in
theorem t_X10_sumWith {v1 : Int32} (w : WT n b L xs τ g h) : wp (f_X10_sumWith 10000 (n + 33) v1 h) (fun r => True) := by
  unfold f_X10_sumWith
  refine wp_ite (fun c1 => ?_) (fun c1 => ?_)
  · refine wp_some ?_
    first | trivial | assumption | lia
  · refine wp_eq (gR_33_6 (by assumption)) ?_
    refine wp_eq (aN_40 (by assumption)) ?_
    refine wp_ite (fun c2 => ?_) (fun c2 => ?_)
    · refine wp_some ?_
      first | trivial | assumption | lia
    · refine wp_eq (gR_33_6 (by assumption)) ?_
      refine wp_bindE (aI_40 (by assumption) (by lia) (by lia)) fun x6 E_x6 p_x6 => ?_
      refine wp_some ?_
      first | trivial | assumption | lia
set_option maxRecDepth 100000 in
set_option maxHeartbeats 4000000 in
theorem t_X10_isBetter {v1 : Int32} {v2 : Int32} (w : WT n b L xs τ g h) (p0 : 0 ≤ v1) (p1 : 0 ≤ v2) : wp (f_X10_isBetter 10000 (n + 33) v1 v2 h) (fun r => (r = 0 ∨ r = 1)) := by
  unfold f_X10_isBetter
  refine wp_zif (ob_33 (by assumption)) ?_
  refine wp_bind (t_X10_sumWith (by assumption)) fun q2 p_q2 => ?_
  refine wp_zif (ob_33 (by assumption)) ?_
  refine wp_bind (t_X10_sumWith (by assumption)) fun q4 p_q4 => ?_
  refine wp_ite (fun c1 => ?_) (fun c1 => ?_)
  · refine wp_some ?_
    first | trivial | assumption | lia
  · refine wp_ite (fun c2 => ?_) (fun c2 => ?_)
    · refine wp_eq (gR_33_7 (by assumption)) ?_
      refine wp_eq (aN_41 (by assumption)) ?_
      refine wp_ite (fun c3 => ?_) (fun c3 => ?_)
      · refine wp_some ?_
        first | trivial | assumption | lia
      · refine wp_eq (gR_33_7 (by assumption)) ?_
        refine wp_eq (aN_41 (by assumption)) ?_
        refine wp_ite (fun c4 => ?_) (fun c4 => ?_)
        · refine wp_some ?_
          first | trivial | assumption | lia
        · refine wp_eq (gR_33_7 (by assumption)) ?_
          refine wp_bindE (aI_41 (by assumption) (by lia) (by lia)) fun x14 E_x14 p_x14 => ?_
          refine wp_eq (gR_33_7 (by assumption)) ?_
          refine wp_bindE (aI_41 (by assumption) (by lia) (by lia)) fun x16 E_x16 p_x16 => ?_
          refine wp_ite (fun c5 => ?_) (fun c5 => ?_)
          · refine wp_some ?_
            first | trivial | assumption | lia
          · refine wp_some ?_
            first | trivial | assumption | lia
    · refine wp_some ?_
      first | trivial | assumption | lia
set_option maxRecDepth 100000 in
set_option maxHeartbeats 4000000 in
theorem t_X10_bestLate_L20 {v1 : Int32} (w : WT n b L xs τ g h) : ∀ (m : Nat) {v2 : Int32} {v3 : Int32}, 0 ≤ v3 → -1 ≤ v2 → (9000 - v3.toInt).toNat < m → wp (f_X10_bestLate_L20 10000 (n + 33) v1 h m v2 v3) (fun r => True) := by
  intro m
  induction m with
  | zero => intro v2 v3 i0 i1 hm; exact absurd hm (Nat.not_lt_zero _)
  | succ m ih =>
    intro v2 v3 i0 i1 hm
    rw [f_X10_bestLate_L20.eq_2]
    refine wp_ite (fun c1 => ?_) (fun c1 => ?_)
    · refine wp_some ?_
      first | trivial | assumption | lia
    · refine wp_eq (gR_33_6 (by assumption)) ?_
      refine wp_eq (aN_40 (by assumption)) ?_
      refine wp_ite (fun c2 => ?_) (fun c2 => ?_)
      · refine wp_some ?_
        first | trivial | assumption | lia
      · refine wp_eq (gR_33_6 (by assumption)) ?_
        refine wp_bindE (aI_40 (by assumption) (by lia) (by lia)) fun x12 E_x12 p_x12 => ?_
        refine wp_ite (fun c3 => ?_) (fun c3 => ?_)
        · refine wp_mono (ih (by first | lia | assumption | exact Or.inr (by assumption)) (by first | lia | assumption | exact Or.inr (by assumption)) (mu_up (by lia) (by lia) hm)) fun z4 p_z4 => ?_
          try dsimp only at p_z4
          first | trivial | assumption | lia
        · refine wp_ite (fun c5 => ?_) (fun c5 => ?_)
          · refine wp_mono (ih (by first | lia | assumption | exact Or.inr (by assumption)) (by first | lia | assumption | exact Or.inr (by assumption)) (mu_up (by lia) (by lia) hm)) fun z6 p_z6 => ?_
            try dsimp only at p_z6
            first | trivial | assumption | lia
          · refine wp_zif (ob_33 (by assumption)) ?_
            refine wp_bind (t_X10_isBetter (by assumption) (by first | lia | assumption | exact Or.inr (by assumption)) (by first | lia | assumption | exact Or.inr (by assumption))) fun q16 p_q16 => ?_
            refine wp_ite (fun c7 => ?_) (fun c7 => ?_)
            · refine wp_mono (ih (by first | lia | assumption | exact Or.inr (by assumption)) (by first | lia | assumption | exact Or.inr (by assumption)) (mu_up (by lia) (by lia) hm)) fun z8 p_z8 => ?_
              try dsimp only at p_z8
              first | trivial | assumption | lia
            · refine wp_mono (ih (by first | lia | assumption | exact Or.inr (by assumption)) (by first | lia | assumption | exact Or.inr (by assumption)) (mu_up (by lia) (by lia) hm)) fun z9 p_z9 => ?_
              try dsimp only at p_z9
              first | trivial | assumption | lia
set_option maxRecDepth 100000 in
set_option maxHeartbeats 4000000 in
theorem t_X10_bestLate {v1 : Int32} (w : WT n b L xs τ g h) : wp (f_X10_bestLate 10000 (n + 33) v1 h) (fun r => WT n b L xs τ g r.2) := by
  unfold f_X10_bestLate
  refine wp_bindE (gI_33_8 (by assumption)) fun x1 E_x1 p_x1 => ?_
  refine wp_bite (fun c1 => ?_) (fun c1 => ?_)
  · refine wp_bsome ?_
    refine wp_bind (t_X10_bestLate_L20 (by assumption) _ (by first | lia | assumption | exact Or.inr (by assumption)) (by first | lia | assumption | exact Or.inr (by assumption)) (mu_0 (by lia))) fun m18 p_m18 => ?_
    refine wp_some ?_
    first | trivial | assumption | lia
  · refine wp_bzif (ob_33 (by assumption)) ?_
    refine wp_assoc ?_
    refine wp_bind (t_X10_findPlans (by assumption)) fun h5 p_h5 => ?_
    refine wp_assoc ?_
    refine wp_bindE (pZ_33_8 (by assumption) (by lia)) fun h6 E_h6 p_h6 => ?_
    refine wp_bsome ?_
    refine wp_bind (t_X10_bestLate_L20 (by assumption) _ (by first | lia | assumption | exact Or.inr (by assumption)) (by first | lia | assumption | exact Or.inr (by assumption)) (mu_0 (by lia))) fun m18 p_m18 => ?_
    refine wp_some ?_
    first | trivial | assumption | lia
set_option maxRecDepth 100000 in
set_option maxHeartbeats 4000000 in
theorem t_X10_doneWith_L33 {v1 : Int32} (w : WT n b L xs τ g h) (p0 : v1 ≤ 8) : ∀ (m : Nat) {v3 : Int32} {v4 : Int32}, 0 ≤ v4 → (9000 - v4.toInt).toNat < m → wp (f_X10_doneWith_L33 10000 v1 h m v3 v4) (fun r => True) := by
  intro m
  induction m with
  | zero => intro v3 v4 i0 hm; exact absurd hm (Nat.not_lt_zero _)
  | succ m ih =>
    intro v3 v4 i0 hm
    rw [f_X10_doneWith_L33.eq_2]
    refine wp_ite (fun c1 => ?_) (fun c1 => ?_)
    · refine wp_some ?_
      first | trivial | assumption | lia
    · refine wp_zletE fun x11 e_x11 => ?_
      refine wp_mono (ih (by first | lia | assumption | exact Or.inr (by assumption)) (mu_up (by lia) (by lia) hm)) fun z2 p_z2 => ?_
      try dsimp only at p_z2
      first | trivial | assumption | lia
set_option maxRecDepth 100000 in
set_option maxHeartbeats 4000000 in
theorem t_X10_doneWith {v1 : Int32} {v2 : Int32} (w : WT n b L xs τ g h) (p0 : v1 ≤ 8) : wp (f_X10_doneWith 10000 (n + 33) v1 v2 h) (fun r => True) := by
  unfold f_X10_doneWith
  refine wp_zif (ob_33 (by assumption)) ?_
  refine wp_bind (t_X10_isTold (by assumption)) fun q2 p_q2 => ?_
  refine wp_ite (fun c1 => ?_) (fun c1 => ?_)
  · refine wp_some ?_
    first | trivial | assumption | lia
  · refine wp_ite (fun c2 => ?_) (fun c2 => ?_)
    · refine wp_some ?_
      first | trivial | assumption | lia
    · refine wp_eq (gR_33_7 (by assumption)) ?_
      refine wp_eq (aN_41 (by assumption)) ?_
      refine wp_ite (fun c3 => ?_) (fun c3 => ?_)
      · refine wp_eq (gR_33_7 (by assumption)) ?_
        refine wp_bindE (aI_41 (by assumption) (by lia) (by lia)) fun x9 E_x9 p_x9 => ?_
        refine wp_bind (t_X10_doneWith_L33 (by assumption) (by first | lia | assumption | exact Or.inr (by assumption)) _ (by first | lia | assumption | exact Or.inr (by assumption)) (mu_0 (by lia))) fun m12 p_m12 => ?_
        refine wp_some ?_
        first | trivial | assumption | lia
      · refine wp_some ?_
        first | trivial | assumption | lia
end TOT
