section TOT
variable {n b L : Nat} {xs : Nat → Int32} {τ : Nat → Nat} {g : zGh} {h : zH}
set_option maxRecDepth 100000 in
set_option maxHeartbeats 4000000 in
theorem t_X12_goes {v1 : Int32} {v2 : Int32} {v3 : Int32} (w : WT n b L xs τ g h) (p0 : 0 ≤ v1) (p1 : 0 ≤ v2) (p2 : v2 < 8) : wp (f_X12_goes 10000 (n + 42) v1 v2 v3 h) (fun r => (r = 0 ∨ r = 1)) := by
  unfold f_X12_goes
  refine wp_eq (gR_42_77 (by assumption)) ?_
  refine wp_bindE (aI_96 (by assumption) (by lia) (by lia)) fun x2 E_x2 p_x2 => ?_
  refine wp_zif (ob_42 (by assumption)) ?_
  refine wp_bind (t_X12_comesTo (by assumption) (by first | lia | assumption | exact Or.inr (by assumption)) (by first | lia | assumption | exact Or.inr (by assumption)) (by first | lia | assumption | exact Or.inr (by assumption))) fun q4 p_q4 => ?_
  refine wp_eq (gR_42_78 (by assumption)) ?_
  refine wp_bindE (aI_97 (by assumption) (by lia) (by lia)) fun x6 E_x6 p_x6 => ?_
  refine wp_ite (fun c1 => ?_) (fun c1 => ?_)
  · refine wp_some ?_
    first | trivial | assumption | lia
  · refine wp_some ?_
    first | trivial | assumption | lia
set_option maxRecDepth 100000 in
set_option maxHeartbeats 4000000 in
theorem t_X12_lateBy_L2 {v1 : Int32} (w : WT n b L xs τ g h) (p0 : 0 ≤ v1) : ∀ (m : Nat) {v2 : Int32}, 0 ≤ v2 → (9000 - v2.toInt).toNat < m → wp (f_X12_lateBy_L2 10000 (n + 42) v1 h m v2) (fun r => (match r with | .inl a => True | .inr a => True)) := by
  intro m
  induction m with
  | zero => intro v2 i0 hm; exact absurd hm (Nat.not_lt_zero _)
  | succ m ih =>
    intro v2 i0 hm
    rw [f_X12_lateBy_L2.eq_2]
    refine wp_ite (fun c1 => ?_) (fun c1 => ?_)
    · refine wp_some ?_
      first | trivial | assumption | lia | (refine ⟨?_, ?_⟩ <;> first | trivial | assumption | lia)
    · refine wp_eq (gR_42_72 (by assumption)) ?_
      refine wp_bindE (aZ_92 (by assumption) (by lia) (by lia)) fun x3 E_x3 p_x3 => ?_
      refine wp_ite (fun c2 => ?_) (fun c2 => ?_)
      · refine wp_zif (ob_42 (by assumption)) ?_
        refine wp_bind (t_X12_doneTo (by assumption) (by first | lia | assumption | exact Or.inr (by assumption)) (by first | lia | assumption | exact Or.inr (by assumption)) (by first | lia | assumption | exact Or.inr (by assumption))) fun q6 p_q6 => ?_
        obtain ⟨p0_q6, p1_q6⟩ := p_q6
        refine wp_ite (fun c3 => ?_) (fun c3 => ?_)
        · refine wp_mono (ih (by first | lia | assumption | exact Or.inr (by assumption)) (mu_up (by lia) (by lia) hm)) fun z4 p_z4 => ?_
          try dsimp only at p_z4
          first | trivial | assumption | lia | (refine ⟨?_, ?_⟩ <;> first | trivial | assumption | lia)
        · refine wp_some ?_
          first | trivial | assumption | lia | (refine ⟨?_, ?_⟩ <;> first | trivial | assumption | lia)
      · refine wp_mono (ih (by first | lia | assumption | exact Or.inr (by assumption)) (mu_up (by lia) (by lia) hm)) fun z5 p_z5 => ?_
        try dsimp only at p_z5
        first | trivial | assumption | lia | (refine ⟨?_, ?_⟩ <;> first | trivial | assumption | lia)
set_option maxRecDepth 100000 in
set_option maxHeartbeats 4000000 in
theorem t_X12_lateBy_L38 {v1 : Int32} (w : WT n b L xs τ g h) (p0 : 0 ≤ v1) : ∀ (m : Nat) {v2 : Int32} {v3 : Int32}, 0 ≤ v3 → (9000 - v3.toInt).toNat < m → wp (f_X12_lateBy_L38 10000 (n + 42) v1 h m v2 v3) (fun r => (match r with | .inl a => True | .inr a => True)) := by
  intro m
  induction m with
  | zero => intro v2 v3 i0 hm; exact absurd hm (Nat.not_lt_zero _)
  | succ m ih =>
    intro v2 v3 i0 hm
    rw [f_X12_lateBy_L38.eq_2]
    refine wp_bindE (gI_42_76 (by assumption)) fun x10 E_x10 p_x10 => ?_
    refine wp_ite (fun c1 => ?_) (fun c1 => ?_)
    · refine wp_some ?_
      first | trivial | assumption | lia | (refine ⟨?_, ?_⟩ <;> first | trivial | assumption | lia)
    · refine wp_zif (ob_42 (by assumption)) ?_
      refine wp_bind (t_X12_goes (by assumption) (by first | lia | assumption | exact Or.inr (by assumption)) (by first | lia | assumption | exact Or.inr (by assumption)) (by first | lia | assumption | exact Or.inr (by assumption))) fun q13 p_q13 => ?_
      refine wp_ite (fun c2 => ?_) (fun c2 => ?_)
      · refine wp_some ?_
        first | trivial | assumption | lia | (refine ⟨?_, ?_⟩ <;> first | trivial | assumption | lia)
      · refine wp_zif (ob_42 (by assumption)) ?_
        refine wp_bind (t_X12_goes (by assumption) (by first | lia | assumption | exact Or.inr (by assumption)) (by first | lia | assumption | exact Or.inr (by assumption)) (by first | lia | assumption | exact Or.inr (by assumption))) fun q16 p_q16 => ?_
        refine wp_ite (fun c3 => ?_) (fun c3 => ?_)
        · refine wp_zletE fun x18 e_x18 => ?_
          refine wp_mono (ih (by first | lia | assumption | exact Or.inr (by assumption)) (mu_up (by lia) (by lia) hm)) fun z4 p_z4 => ?_
          try dsimp only at p_z4
          first | trivial | assumption | lia | (refine ⟨?_, ?_⟩ <;> first | trivial | assumption | lia)
        · refine wp_zletE fun x19 e_x19 => ?_
          refine wp_mono (ih (by first | lia | assumption | exact Or.inr (by assumption)) (mu_up (by lia) (by lia) hm)) fun z5 p_z5 => ?_
          try dsimp only at p_z5
          first | trivial | assumption | lia | (refine ⟨?_, ?_⟩ <;> first | trivial | assumption | lia)
set_option maxRecDepth 100000 in
set_option maxHeartbeats 4000000 in
theorem t_X12_lateBy {v1 : Int32} (w : WT n b L xs τ g h) (p0 : 0 ≤ v1) : wp (f_X12_lateBy 10000 (n + 42) v1 h) (fun r => True) := by
  unfold f_X12_lateBy
  refine wp_bind (t_X12_lateBy_L2 (by assumption) (by first | lia | assumption | exact Or.inr (by assumption)) _ (by first | lia | assumption | exact Or.inr (by assumption)) (mu_0 (by lia))) fun m8 p_m8 => ?_
  rcases m8 with s9 | y1
  · refine wp_zsL ?_
    refine wp_bind (t_X12_lateBy_L38 (by assumption) (by first | lia | assumption | exact Or.inr (by assumption)) _ (by first | lia | assumption | exact Or.inr (by assumption)) (mu_0 (by lia))) fun m20 p_m20 => ?_
    rcases m20 with s21 | y2
    · refine wp_zsL ?_
      refine wp_some ?_
      first | trivial | assumption | lia
    · refine wp_zsR ?_
      first | trivial | assumption | lia
  · refine wp_zsR ?_
    first | trivial | assumption | lia
set_option maxRecDepth 100000 in
set_option maxHeartbeats 4000000 in
theorem t_X12_harmOf_L4 {v1 : Int32} (w : WT n b L xs τ g h) (p0 : 0 ≤ v1) : ∀ (m : Nat) {v2 : Int32} {v3 : Int32}, 0 ≤ v3 → (9000 - v3.toInt).toNat < m → wp (f_X12_harmOf_L4 10000 (n + 42) v1 h m v2 v3) (fun r => True) := by
  intro m
  induction m with
  | zero => intro v2 v3 i0 hm; exact absurd hm (Nat.not_lt_zero _)
  | succ m ih =>
    intro v2 v3 i0 hm
    rw [f_X12_harmOf_L4.eq_2]
    refine wp_ite (fun c1 => ?_) (fun c1 => ?_)
    · refine wp_some ?_
      first | trivial | assumption | lia
    · refine wp_eq (gR_42_72 (by assumption)) ?_
      refine wp_bindE (aZ_92 (by assumption) (by lia) (by lia)) fun x3 E_x3 p_x3 => ?_
      refine wp_ite (fun c2 => ?_) (fun c2 => ?_)
      · refine wp_zletE fun x5 e_x5 => ?_
        refine wp_mono (ih (by first | lia | assumption | exact Or.inr (by assumption)) (mu_up (by lia) (by lia) hm)) fun z3 p_z3 => ?_
        try dsimp only at p_z3
        first | trivial | assumption | lia
      · refine wp_eq (gR_42_75 (by assumption)) ?_
        refine wp_zif (ob_42 (by assumption)) ?_
        refine wp_bind (t_X12_doneTo (by assumption) (by first | lia | assumption | exact Or.inr (by assumption)) (by first | lia | assumption | exact Or.inr (by assumption)) (by first | lia | assumption | exact Or.inr (by assumption))) fun q8 p_q8 => ?_
        obtain ⟨p0_q8, p1_q8⟩ := p_q8
        refine wp_bindE (aI_95 (by assumption) (by lia) (by lia)) fun x9 E_x9 p_x9 => ?_
        refine wp_zletE fun x10 e_x10 => ?_
        refine wp_mono (ih (by first | lia | assumption | exact Or.inr (by assumption)) (mu_up (by lia) (by lia) hm)) fun z4 p_z4 => ?_
        try dsimp only at p_z4
        first | trivial | assumption | lia
set_option maxRecDepth 100000 in
set_option maxHeartbeats 4000000 in
theorem t_X12_harmOf {v1 : Int32} (w : WT n b L xs τ g h) (p0 : 0 ≤ v1) : wp (f_X12_harmOf 10000 (n + 42) v1 h) (fun r => True) := by
  unfold f_X12_harmOf
  refine wp_bind (t_X12_harmOf_L4 (by assumption) (by first | lia | assumption | exact Or.inr (by assumption)) _ (by first | lia | assumption | exact Or.inr (by assumption)) (mu_0 (by lia))) fun m11 p_m11 => ?_
  refine wp_some ?_
  first | trivial | assumption | lia
set_option maxRecDepth 100000 in
set_option maxHeartbeats 4000000 in
theorem t_X12_plan_L47 {v1 : Int32} (w : WT n b L xs τ g h) : ∀ (m : Nat) {v3 : Int32} {v4 : Int32}, 0 ≤ v4 → -1 ≤ v3 → (9000 - v4.toInt).toNat < m → wp (f_X12_plan_L47 10000 (n + 42) v1 h m v3 v4) (fun r => -1 ≤ r) := by
  intro m
  induction m with
  | zero => intro v3 v4 i0 i1 hm; exact absurd hm (Nat.not_lt_zero _)
  | succ m ih =>
    intro v3 v4 i0 i1 hm
    rw [f_X12_plan_L47.eq_2]
    refine wp_ite (fun c1 => ?_) (fun c1 => ?_)
    · refine wp_some ?_
      first | trivial | assumption | lia
    · refine wp_bite (fun c2 => ?_) (fun c2 => ?_)
      · refine wp_bsome ?_
        refine wp_zsL ?_
        try dsimp only
        refine wp_zif (ob_42 (by assumption)) ?_
        refine wp_bind (t_X12_lateBy (by assumption) (by first | lia | assumption | exact Or.inr (by assumption))) fun q22 p_q22 => ?_
        refine wp_ite (fun c3 => ?_) (fun c3 => ?_)
        · refine wp_mono (ih (by first | lia | assumption | exact Or.inr (by assumption)) (by first | lia | assumption | exact Or.inr (by assumption)) (mu_up (by lia) (by lia) hm)) fun z4 p_z4 => ?_
          try dsimp only at p_z4
          first | trivial | assumption | lia
        · refine wp_ite (fun c5 => ?_) (fun c5 => ?_)
          · refine wp_mono (ih (by first | lia | assumption | exact Or.inr (by assumption)) (by first | lia | assumption | exact Or.inr (by assumption)) (mu_up (by lia) (by lia) hm)) fun z6 p_z6 => ?_
            try dsimp only at p_z6
            first | trivial | assumption | lia
          · refine wp_mono (ih (by first | lia | assumption | exact Or.inr (by assumption)) (by first | lia | assumption | exact Or.inr (by assumption)) (mu_up (by lia) (by lia) hm)) fun z7 p_z7 => ?_
            try dsimp only at p_z7
            first | trivial | assumption | lia
      · refine wp_bzif (ob_42 (by assumption)) ?_
        refine wp_assoc ?_
        refine wp_bind (t_X12_harmOf (by assumption) (by first | lia | assumption | exact Or.inr (by assumption))) fun q16 p_q16 => ?_
        refine wp_bzif (ob_42 (by assumption)) ?_
        refine wp_assoc ?_
        refine wp_bind (t_X12_harmOf (by assumption) (by first | lia | assumption | exact Or.inr (by assumption))) fun q18 p_q18 => ?_
        refine wp_bite (fun c8 => ?_) (fun c8 => ?_)
        · refine wp_bmap ?_
          refine wp_bind (ih (by first | lia | assumption | exact Or.inr (by assumption)) (by first | lia | assumption | exact Or.inr (by assumption)) (mu_up (by lia) (by lia) hm)) fun z9 p_z9 => ?_
          refine wp_zsR ?_
          first | trivial | assumption | lia
        · refine wp_bsome ?_
          refine wp_zsL ?_
          try dsimp only
          refine wp_zif (ob_42 (by assumption)) ?_
          refine wp_bind (t_X12_lateBy (by assumption) (by first | lia | assumption | exact Or.inr (by assumption))) fun q22 p_q22 => ?_
          refine wp_ite (fun c10 => ?_) (fun c10 => ?_)
          · refine wp_mono (ih (by first | lia | assumption | exact Or.inr (by assumption)) (by first | lia | assumption | exact Or.inr (by assumption)) (mu_up (by lia) (by lia) hm)) fun z11 p_z11 => ?_
            try dsimp only at p_z11
            first | trivial | assumption | lia
          · refine wp_ite (fun c12 => ?_) (fun c12 => ?_)
            · refine wp_mono (ih (by first | lia | assumption | exact Or.inr (by assumption)) (by first | lia | assumption | exact Or.inr (by assumption)) (mu_up (by lia) (by lia) hm)) fun z13 p_z13 => ?_
              try dsimp only at p_z13
              first | trivial | assumption | lia
            · refine wp_mono (ih (by first | lia | assumption | exact Or.inr (by assumption)) (by first | lia | assumption | exact Or.inr (by assumption)) (mu_up (by lia) (by lia) hm)) fun z14 p_z14 => ?_
              try dsimp only at p_z14
              first | trivial | assumption | lia
set_option maxRecDepth 100000 in
set_option maxHeartbeats 4000000 in
theorem t_X12_plan {v1 : Int32} {v2 : Int32} (w : WT n b L xs τ g h) : wp (f_X12_plan 10000 (n + 42) v1 v2 h) (fun r => WT n b L xs τ g r.2) := by
  unfold f_X12_plan
  refine wp_bindE (pI_42_0 (by assumption)) fun h1 E_h1 p_h1 => ?_
  refine in12 (fun c1 => ?_) (fun c1 => ?_)
  · refine wp_some ?_
    first | trivial | assumption | lia
  · refine in12 (fun c2 => ?_) (fun c2 => ?_)
    · refine wp_some ?_
      first | trivial | assumption | lia
    · refine wp_bind (R := fun r => (match r with | .inl a => True | .inr a => WT n b L xs τ g a.2)) ?_ (fun m4 p_m4 => ?_)
      · refine wp_ite (fun c3 => ?_) (fun c3 => ?_)
        · refine wp_some ?_
          first | trivial | assumption | lia
        · refine wp_eq (gR_42_72 (by assumption)) ?_
          refine wp_bindE (aZ_92 (by assumption) (by lia) (by lia)) fun x8 E_x8 p_x8 => ?_
          refine wp_ite (fun c4 => ?_) (fun c4 => ?_)
          · refine wp_map ?_
            refine wp_some ?_
            first | trivial | assumption | lia
          · refine wp_some ?_
            first | trivial | assumption | lia
      · rcases m4 with s5 | y5
        · refine wp_zsL ?_
          refine wp_bind (t_X12_plan_L47 (by assumption) _ (by first | lia | assumption | exact Or.inr (by assumption)) (by first | lia | assumption | exact Or.inr (by assumption)) (mu_0 (by lia))) fun m25 p_m25 => ?_
          refine wp_ite (fun c6 => ?_) (fun c6 => ?_)
          · refine wp_ite (fun c7 => ?_) (fun c7 => ?_)
            · refine wp_ite (fun c8 => ?_) (fun c8 => ?_)
              · refine wp_zif (ob_42 (by assumption)) ?_
                refine wp_bind (t_X12_harmOf (by assumption) (by first | lia | assumption | exact Or.inr (by assumption))) fun q32 p_q32 => ?_
                refine wp_some ?_
                first | trivial | assumption | lia
              · refine wp_zif (ob_42 (by assumption)) ?_
                refine wp_bind (t_X12_lateBy (by assumption) (by first | lia | assumption | exact Or.inr (by assumption))) fun q30 p_q30 => ?_
                refine wp_some ?_
                first | trivial | assumption | lia
            · refine wp_zif (ob_42 (by assumption)) ?_
              refine wp_bind (t_X12_doneTo (by assumption) (by first | lia | assumption | exact Or.inr (by assumption)) (by first | lia | assumption | exact Or.inr (by assumption)) (by first | lia | assumption | exact Or.inr (by assumption))) fun q34 p_q34 => ?_
              obtain ⟨p0_q34, p1_q34⟩ := p_q34
              refine wp_some ?_
              first | trivial | assumption | lia
          · refine wp_some ?_
            first | trivial | assumption | lia
        · refine wp_zsR ?_
          first | trivial | assumption | lia
set_option maxRecDepth 100000 in
set_option maxHeartbeats 4000000 in
theorem t_X12_rulingsSeen_L4 (w : WT n b L xs τ g h) : ∀ (m : Nat) {v1 : Int32} {v2 : Int32}, 0 ≤ v2 → (9000 - v2.toInt).toNat < m → wp (f_X12_rulingsSeen_L4 10000 (n + 42) h m v1 v2) (fun r => True) := by
  intro m
  induction m with
  | zero => intro v1 v2 i0 hm; exact absurd hm (Nat.not_lt_zero _)
  | succ m ih =>
    intro v1 v2 i0 hm
    rw [f_X12_rulingsSeen_L4.eq_2]
    refine wp_bindE (gI_42_49 (by assumption)) fun x1 E_x1 p_x1 => ?_
    refine wp_ite (fun c1 => ?_) (fun c1 => ?_)
    · refine wp_some ?_
      first | trivial | assumption | lia
    · refine wp_eq (gR_42_52 (by assumption)) ?_
      refine wp_bindE (aI_76 (by assumption) (by lia) (by lia)) fun x4 E_x4 p_x4 => ?_
      refine wp_zif (ob_42 (by assumption)) ?_
      refine wp_bind (t_X12_viewYear (by assumption)) fun q6 p_q6 => ?_
      obtain ⟨p0_q6, p1_q6⟩ := p_q6
      refine wp_ite (fun c2 => ?_) (fun c2 => ?_)
      · refine wp_zletE fun x8 e_x8 => ?_
        refine wp_mono (ih (by first | lia | assumption | exact Or.inr (by assumption)) (mu_up (by lia) (by lia) hm)) fun z3 p_z3 => ?_
        try dsimp only at p_z3
        first | trivial | assumption | lia
      · refine wp_zletE fun x9 e_x9 => ?_
        refine wp_mono (ih (by first | lia | assumption | exact Or.inr (by assumption)) (mu_up (by lia) (by lia) hm)) fun z4 p_z4 => ?_
        try dsimp only at p_z4
        first | trivial | assumption | lia
set_option maxRecDepth 100000 in
set_option maxHeartbeats 4000000 in
theorem t_X12_rulingsSeen (w : WT n b L xs τ g h) : wp (f_X12_rulingsSeen 10000 (n + 42) h) (fun r => True) := by
  unfold f_X12_rulingsSeen
  refine wp_bind (t_X12_rulingsSeen_L4 (by assumption) _ (by first | lia | assumption | exact Or.inr (by assumption)) (mu_0 (by lia))) fun m10 p_m10 => ?_
  refine wp_some ?_
  first | trivial | assumption | lia
set_option maxRecDepth 100000 in
set_option maxHeartbeats 4000000 in
theorem t_X12_metMany_L4  (p0 : ∀ i : Int32, 0 ≤ i → i < g.1 42 27 → 1 ≤ g.2.1 65 i.toNatClampNeg) : ∀ (m : Nat) {v1 : Int32} {v2 : Int32} {h : zH}, WT n b L xs τ g h → 0 ≤ v2 → (9000 - v2.toInt).toNat < m → wp (f_X12_metMany_L4 10000 (n + 42) m v1 v2 h) (fun r => WT n b L xs τ g r.2) := by
  intro m
  induction m with
  | zero => intro v1 v2 h w i0 hm; exact absurd hm (Nat.not_lt_zero _)
  | succ m ih =>
    intro v1 v2 h w i0 hm
    rw [f_X12_metMany_L4.eq_2]
    have gm := gr_42_27 w
    refine wp_bindE (gI_42_27 (by assumption)) fun x1 E_x1 p_x1 => ?_
    refine wp_ite (fun c1 => ?_) (fun c1 => ?_)
    · refine wp_some ?_
      first | trivial | assumption | lia
    · refine wp_eq (gR_42_30 (by assumption)) ?_
      refine wp_bindE (aI_62 (by assumption) (by lia) (by lia)) fun x4 E_x4 p_x4 => ?_
      refine wp_zif (ob_42 (by assumption)) ?_
      refine wp_bind (t_X12_goesThrough (by assumption) (by first | lia | assumption | exact Or.inr (by assumption)) (by first | lia | assumption | exact Or.inr (by assumption)) (by assumption) (by first | lia | assumption | exact Or.inr (by assumption))) fun h6 p_h6 => ?_
      obtain ⟨p0_h6, p1_h6⟩ := p_h6
      refine wp_bindE (gI_42_43 (by assumption)) fun x7 E_x7 p_x7 => ?_
      refine wp_ite (fun c2 => ?_) (fun c2 => ?_)
      · refine wp_zletE fun x9 e_x9 => ?_
        refine wp_mono (ih (by assumption) (by first | lia | assumption | exact Or.inr (by assumption)) (mu_up (by lia) (by lia) hm)) fun z3 p_z3 => ?_
        try dsimp only at p_z3
        first | trivial | assumption | lia
      · refine wp_zletE fun x10 e_x10 => ?_
        refine wp_mono (ih (by assumption) (by first | lia | assumption | exact Or.inr (by assumption)) (mu_up (by lia) (by lia) hm)) fun z4 p_z4 => ?_
        try dsimp only at p_z4
        first | trivial | assumption | lia
set_option maxRecDepth 100000 in
set_option maxHeartbeats 4000000 in
theorem t_X12_metMany (w : WT n b L xs τ g h) (p0 : ∀ i : Int32, 0 ≤ i → i < g.1 42 27 → 1 ≤ g.2.1 65 i.toNatClampNeg) : wp (f_X12_metMany 10000 (n + 42) h) (fun r => WT n b L xs τ g r.2) := by
  unfold f_X12_metMany
  refine wp_bind (t_X12_metMany_L4 (by assumption) _ (by assumption) (by first | lia | assumption | exact Or.inr (by assumption)) (mu_0 (by lia))) fun m11 p_m11 => ?_
  refine wp_some ?_
  first | trivial | assumption | lia
set_option maxRecDepth 100000 in
set_option maxHeartbeats 4000000 in
theorem t_X12_count {v1 : Int32} (w : WT n b L xs τ g h) (p0 : ∀ i : Int32, 0 ≤ i → i < g.1 42 27 → 1 ≤ g.2.1 65 i.toNatClampNeg) : wp (f_X12_count 10000 (n + 42) v1 h) (fun r => WT n b L xs τ g r.2) := by
  unfold f_X12_count
  refine wp_bindE (pI_42_0 (by assumption)) fun h1 E_h1 p_h1 => ?_
  refine wp_ite (fun c1 => ?_) (fun c1 => ?_)
  · refine wp_bindE (gI_42_25 (by assumption)) fun x3 E_x3 p_x3 => ?_
    refine wp_some ?_
    first | trivial | assumption | lia
  · refine wp_ite (fun c2 => ?_) (fun c2 => ?_)
    · refine wp_zif (ob_42 (by assumption)) ?_
      refine wp_bind (t_X12_viewYear (by assumption)) fun q6 p_q6 => ?_
      obtain ⟨p0_q6, p1_q6⟩ := p_q6
      refine wp_some ?_
      first | trivial | assumption | lia
    · refine wp_ite (fun c3 => ?_) (fun c3 => ?_)
      · refine wp_bindE (gI_42_27 (by assumption)) fun x8 E_x8 p_x8 => ?_
        refine wp_some ?_
        first | trivial | assumption | lia
      · refine wp_ite (fun c4 => ?_) (fun c4 => ?_)
        · refine wp_bindE (gI_42_10 (by assumption)) fun x10 E_x10 p_x10 => ?_
          refine wp_some ?_
          first | trivial | assumption | lia
        · refine wp_ite (fun c5 => ?_) (fun c5 => ?_)
          · refine wp_bindE (gI_42_49 (by assumption)) fun x12 E_x12 p_x12 => ?_
            refine wp_some ?_
            first | trivial | assumption | lia
          · refine wp_ite (fun c6 => ?_) (fun c6 => ?_)
            · refine wp_zif (ob_42 (by assumption)) ?_
              refine wp_bind (t_X12_rulingsSeen (by assumption)) fun q15 p_q15 => ?_
              refine wp_some ?_
              first | trivial | assumption | lia
            · refine wp_ite (fun c7 => ?_) (fun c7 => ?_)
              · refine wp_bindE (gI_42_2 (by assumption)) fun x17 E_x17 p_x17 => ?_
                refine wp_some ?_
                first | trivial | assumption | lia
              · refine wp_ite (fun c8 => ?_) (fun c8 => ?_)
                · refine wp_eq (gR_42_57 (by assumption)) ?_
                  refine wp_bind (many_81 (by assumption)) fun q20 p_q20 => ?_
                  refine wp_some ?_
                  first | trivial | assumption | lia
                · refine wp_ite (fun c9 => ?_) (fun c9 => ?_)
                  · refine wp_bindE (gI_42_67 (by assumption)) fun x22 E_x22 p_x22 => ?_
                    refine wp_some ?_
                    first | trivial | assumption | lia
                  · refine wp_ite (fun c10 => ?_) (fun c10 => ?_)
                    · refine wp_eq (gR_42_72 (by assumption)) ?_
                      refine wp_bind (many_92 (by assumption)) fun q25 p_q25 => ?_
                      refine wp_some ?_
                      first | trivial | assumption | lia
                    · refine wp_ite (fun c11 => ?_) (fun c11 => ?_)
                      · refine wp_bindE (gI_42_76 (by assumption)) fun x27 E_x27 p_x27 => ?_
                        refine wp_some ?_
                        first | trivial | assumption | lia
                      · refine wp_ite (fun c12 => ?_) (fun c12 => ?_)
                        · refine wp_zif (ob_42 (by assumption)) ?_
                          refine wp_bind (t_X12_metMany (by assumption) (by assumption)) fun q30 p_q30 => ?_
                          refine wp_some ?_
                          first | trivial | assumption | lia
                        · refine wp_some ?_
                          first | trivial | assumption | lia
end TOT
