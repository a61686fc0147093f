section TOT
variable {n b L : Nat} {xs : Nat → Int32} {τ : Nat → Nat} {g : zGh} {h : zH}
set_option maxRecDepth 100000 in
set_option maxHeartbeats 4000000 in
theorem t_X12_isYear {v0 : Int32} (w : WT n b L xs τ g h) : wp (f_X12_isYear 10000 v0 h) (fun r => ((r = 0 ∧ ¬ (0 ≤ v0 ∧ v0 ≤ 30)) ∨ (r = 1 ∧ 0 ≤ v0 ∧ v0 ≤ 30))) := by
  unfold f_X12_isYear
  refine wp_rZ0w (fun c => ?_) (fun c => ?_)
  · first | trivial | assumption | lia
  · first | trivial | assumption | lia
set_option maxRecDepth 100000 in
set_option maxHeartbeats 4000000 in
theorem t_X12_viewYear (w : WT n b L xs τ g h) : wp (f_X12_viewYear 10000 (n + 42) h) (fun r => 0 ≤ r ∧ r ≤ 30) := by
  unfold f_X12_viewYear
  refine wp_bindE (gI_42_26 (by assumption)) fun x1 E_x1 p_x1 => ?_
  refine wp_ite (fun c1 => ?_) (fun c1 => ?_)
  · refine wp_eq E_x1 ?_
    refine wp_some ?_
    refine ⟨?_, ?_⟩ <;> first | trivial | assumption | lia
  · refine wp_bindE (gI_42_25 (by assumption)) fun x4 E_x4 p_x4 => ?_
    refine wp_some ?_
    refine ⟨?_, ?_⟩ <;> first | trivial | assumption | lia
set_option maxRecDepth 100000 in
set_option maxHeartbeats 4000000 in
theorem t_X12_isMeeting {v1 : Int32} (w : WT n b L xs τ g h) : wp (f_X12_isMeeting 10000 (n + 42) v1 h) (fun r => ((r = 0 ∧ ¬ (0 ≤ v1 ∧ v1 < g.1 42 27)) ∨ (r = 1 ∧ 0 ≤ v1 ∧ v1 < g.1 42 27))) := by
  unfold f_X12_isMeeting
  refine wp_ite (fun c1 => ?_) (fun c1 => ?_)
  · refine wp_some ?_
    first | trivial | assumption | lia
  · refine wp_bindE (gI_42_27 (by assumption)) fun x2 E_x2 p_x2 => ?_
    refine wp_ite (fun c2 => ?_) (fun c2 => ?_)
    · refine wp_some ?_
      first | trivial | assumption | lia
    · refine wp_some ?_
      first | trivial | assumption | lia
set_option maxRecDepth 100000 in
set_option maxHeartbeats 4000000 in
theorem t_X12_stand {v1 : Int32} {v2 : Int32} {v3 : Int32} {v4 : Int32} {v5 : Int32} (w : WT n b L xs τ g h) : wp (f_X12_stand 10000 (n + 42) v1 v2 v3 v4 v5 h) (fun r => (r.1 = 0 ∨ r.1 = 1) ∧ WT n b L xs τ g r.2) := by
  unfold f_X12_stand
  have gm := gr_42_27 w
  refine wp_bindE (pI_42_0 (by assumption)) fun h1 E_h1 p_h1 => ?_
  refine wp_bind (R := fun r => r = 0 ∨ r = 1) ?_ (fun m2 p_m2 => ?_)
  · refine wp_ite (fun c1 => ?_) (fun c1 => ?_)
    · refine wp_some ?_
      first | trivial | assumption | lia
    · refine in12 (fun c2 => ?_) (fun c2 => ?_)
      · refine wp_some ?_
        first | trivial | assumption | lia
      · refine in12 (fun c3 => ?_) (fun c3 => ?_)
        · refine wp_some ?_
          first | trivial | assumption | lia
        · refine wp_some ?_
          first | trivial | assumption | lia
  · refine wp_zif (ob_42 (by assumption)) ?_
    refine wp_bind (t_X12_isMeeting (by assumption)) fun q7 p_q7 => ?_
    refine wp_ite (fun c4 => ?_) (fun c4 => ?_)
    · refine wp_some ?_
      refine ⟨?_, ?_⟩ <;> first | trivial | assumption | lia
    · refine wp_ite (fun c5 => ?_) (fun c5 => ?_)
      · refine wp_some ?_
        refine ⟨?_, ?_⟩ <;> first | trivial | assumption | lia
      · refine in12 (fun c6 => ?_) (fun c6 => ?_)
        · refine wp_some ?_
          refine ⟨?_, ?_⟩ <;> first | trivial | assumption | lia
        · refine in12 (fun c7 => ?_) (fun c7 => ?_)
          · refine wp_some ?_
            refine ⟨?_, ?_⟩ <;> first | trivial | assumption | lia
          · refine wp_eq (gR_42_35 (by assumption)) ?_
            refine wp_bindE (sI_67 (by assumption) (by lia) (by lia)) fun h13 E_h13 p_h13 => ?_
            refine wp_eq (gR_42_36 (by assumption)) ?_
            refine wp_bite (fun c8 => ?_) (fun c8 => ?_)
            · refine wp_bsome ?_
              refine wp_bindE (sI_68 (by assumption) (by lia) (by lia)) fun h17 E_h17 p_h17 => ?_
              refine wp_eq (gR_42_37 (by assumption)) ?_
              refine wp_bindE (sI_69 (by assumption) (by lia) (by lia)) fun h19 E_h19 p_h19 => ?_
              refine wp_eq (gR_42_38 (by assumption)) ?_
              refine wp_bindE (sI_70 (by assumption) (by lia) (by lia)) fun h21 E_h21 p_h21 => ?_
              refine wp_some ?_
              refine ⟨?_, ?_⟩ <;> first | trivial | assumption | lia
            · refine wp_bsome ?_
              refine wp_bindE (sI_68 (by assumption) (by lia) (by lia)) fun h17 E_h17 p_h17 => ?_
              refine wp_eq (gR_42_37 (by assumption)) ?_
              refine wp_bindE (sI_69 (by assumption) (by lia) (by lia)) fun h19 E_h19 p_h19 => ?_
              refine wp_eq (gR_42_38 (by assumption)) ?_
              refine wp_bindE (sI_70 (by assumption) (by lia) (by lia)) fun h21 E_h21 p_h21 => ?_
              refine wp_some ?_
              refine ⟨?_, ?_⟩ <;> first | trivial | assumption | lia
set_option maxRecDepth 100000 in
set_option maxHeartbeats 4000000 in
theorem t_X12_isHidden {v1 : Int32} {v2 : Int32} {v3 : Int32} (w : WT n b L xs τ g h) (p0 : 0 ≤ v1) (p1 : v1 < 40) : wp (f_X12_isHidden 10000 (n + 42) v1 v2 v3 h) (fun r => (r = 0 ∨ r = 1)) := by
  unfold f_X12_isHidden
  refine wp_eq (gR_42_35 (by assumption)) ?_
  refine wp_bindE (aI_67 (by assumption) (by lia) (by lia)) fun x2 E_x2 p_x2 => ?_
  refine wp_eq (gR_42_36 (by assumption)) ?_
  refine wp_bindE (aI_68 (by assumption) (by lia) (by lia)) fun x4 E_x4 p_x4 => ?_
  refine wp_ite (fun c1 => ?_) (fun c1 => ?_)
  · refine wp_some ?_
    first | trivial | assumption | lia
  · refine wp_ite (fun c2 => ?_) (fun c2 => ?_)
    · refine wp_some ?_
      first | trivial | assumption | lia
    · refine wp_ite (fun c3 => ?_) (fun c3 => ?_)
      · refine wp_some ?_
        first | trivial | assumption | lia
      · refine wp_ite (fun c4 => ?_) (fun c4 => ?_)
        · refine wp_some ?_
          first | trivial | assumption | lia
        · refine wp_some ?_
          first | trivial | assumption | lia
set_option maxRecDepth 100000 in
set_option maxHeartbeats 4000000 in
theorem t_X12_upwards {v0 : Int32} {v1 : Int32} (w : WT n b L xs τ g h) (p0 : ¬ v1 = 0) : wp (f_X12_upwards 10000 v0 v1 h) (fun r => True) := by
  unfold f_X12_upwards
  refine wp_zdiv (by lia) ?_
  refine wp_some ?_
  first | trivial | assumption | lia
set_option maxRecDepth 100000 in
set_option maxHeartbeats 4000000 in
theorem t_X12_goesThrough_L84 {v1 : Int32} {v6 : Int32}  (p0 : 0 ≤ v1) (p1 : v1 < g.1 42 27) (p2 : ∀ i : Int32, 0 ≤ i → i < g.1 42 27 → 1 ≤ g.2.1 65 i.toNatClampNeg) (p3 : g.1 42 27 ≤ 40) : ∀ (m : Nat) {v3 : Int32} {v4 : Int32} {v5 : Int32} {v7 : Int32} {h : zH}, WT n b L xs τ g h → 0 ≤ v7 → v7 ≤ 60 → 1 ≤ v7 ∨ gI h (n + 42) 12 43 = some 0 → (9000 - v7.toInt).toNat < m → wp (f_X12_goesThrough_L84 10000 (n + 42) v1 v6 m v3 v4 v5 v7 h) (fun r => 0 ≤ r.1 ∧ r.1 ≤ 60 ∧ WT n b L xs τ g r.2 ∧ (1 ≤ r.1 ∨ gI r.2 (n + 42) 12 43 = some 0)) := by
  intro m
  induction m with
  | zero => intro v3 v4 v5 v7 h w i0 i1 i2 hm; exact absurd hm (Nat.not_lt_zero _)
  | succ m ih =>
    intro v3 v4 v5 v7 h w i0 i1 i2 hm
    rw [f_X12_goesThrough_L84.eq_2]
    refine wp_ite (fun c1 => ?_) (fun c1 => ?_)
    · refine wp_some ?_
      refine ⟨?_, ?_, ?_, ?_⟩ <;> first | trivial | assumption | lia | exact Or.inl (by lia) | (refine Or.inl (gt_l (by assumption) (by assumption) (by assumption)))
    · refine wp_bindE (gI_42_43 (by assumption)) fun x20 E_x20 p_x20 => ?_
      refine wp_ite (fun c2 => ?_) (fun c2 => ?_)
      · refine wp_bind (R := fun r => r = 0 ∨ r = 1) ?_ (fun m22 p_m22 => ?_)
        · refine wp_ite (fun c3 => ?_) (fun c3 => ?_)
          · refine wp_some ?_
            first | trivial | assumption | lia
          · refine wp_ite (fun c4 => ?_) (fun c4 => ?_)
            · refine wp_some ?_
              first | trivial | assumption | lia
            · refine wp_zif (ob_42 (by assumption)) ?_
              refine wp_bind (t_X12_isHidden (by assumption) (by first | lia | assumption | exact Or.inr (by assumption)) (by first | lia | assumption | exact Or.inr (by assumption))) fun q26 p_q26 => ?_
              refine wp_ite (fun c5 => ?_) (fun c5 => ?_)
              · refine wp_some ?_
                first | trivial | assumption | lia
              · refine wp_some ?_
                first | trivial | assumption | lia
        · refine wp_bind (R := fun r => True) ?_ (fun m28 p_m28 => ?_)
          · refine wp_ite (fun c6 => ?_) (fun c6 => ?_)
            · refine wp_bindE (gI_42_44 (by assumption)) fun x30 E_x30 p_x30 => ?_
              refine wp_some ?_
              first | trivial | assumption | lia
            · refine wp_bindE (gI_42_44 (by assumption)) fun x31 E_x31 p_x31 => ?_
              refine wp_ite (fun c7 => ?_) (fun c7 => ?_)
              · refine wp_eq E_x31 ?_
                refine wp_some ?_
                first | trivial | assumption | lia
              · refine wp_some ?_
                first | trivial | assumption | lia
          · refine wp_bindE (pI_42_44 (by assumption)) fun h34 E_h34 p_h34 => ?_
            refine wp_bind (R := fun r => r = 0 ∨ r = 1) ?_ (fun m35 p_m35 => ?_)
            · refine wp_ite (fun c8 => ?_) (fun c8 => ?_)
              · refine wp_some ?_
                first | trivial | assumption | lia
              · refine wp_eq (gR_42_34 (by assumption)) ?_
                refine wp_bindE (aI_66 (by assumption) (by lia) (by lia)) fun x38 E_x38 p_x38 => ?_
                refine wp_ite (fun c9 => ?_) (fun c9 => ?_)
                · refine wp_ite (fun c10 => ?_) (fun c10 => ?_)
                  · refine wp_some ?_
                    first | trivial | assumption | lia
                  · refine wp_bind (t_X12_upwards (by assumption) (by first | lia | assumption | exact Or.inr (by assumption))) fun q41 p_q41 => ?_
                    refine wp_eq (gR_42_33 (by assumption)) ?_
                    refine wp_bindE (aI_65 (by assumption) (by lia) (by lia)) fun x43 E_x43 p_x43 => ?_
                    have y44 := p2 v1 p0 p1
                    refine wp_bind (t_X12_upwards (by assumption) (by first | lia | assumption | exact Or.inr (by assumption))) fun q44 p_q44 => ?_
                    refine wp_ite (fun c11 => ?_) (fun c11 => ?_)
                    · refine wp_some ?_
                      first | trivial | assumption | lia
                    · refine wp_some ?_
                      first | trivial | assumption | lia
                · refine wp_some ?_
                  first | trivial | assumption | lia
            · refine wp_eq (pF_gI E_h34) ?_
              refine wp_bind (R := fun r => True) ?_ (fun m47 p_m47 => ?_)
              · refine wp_ite (fun c12 => ?_) (fun c12 => ?_)
                · refine wp_some ?_
                  first | trivial | assumption | lia
                · refine wp_eq (pF_gI E_h34) ?_
                  refine wp_eq (gR_42_31 (by assumption)) ?_
                  refine wp_bindE (aI_63 (by assumption) (by lia) (by lia)) fun x51 E_x51 p_x51 => ?_
                  refine wp_ite (fun c13 => ?_) (fun c13 => ?_)
                  · refine wp_some ?_
                    first | trivial | assumption | lia
                  · refine wp_ite (fun c14 => ?_) (fun c14 => ?_)
                    · refine wp_some ?_
                      first | trivial | assumption | lia
                    · refine wp_zletE fun x54 e_x54 => ?_
                      refine wp_some ?_
                      first | trivial | assumption | lia
              · refine wp_bind (R := fun r => True) ?_ (fun m55 p_m55 => ?_)
                · refine wp_ite (fun c15 => ?_) (fun c15 => ?_)
                  · refine wp_bindE (gI_42_45 (by assumption)) fun x58 E_x58 p_x58 => ?_
                    refine wp_ite (fun c16 => ?_) (fun c16 => ?_)
                    · refine wp_eq E_x58 ?_
                      refine wp_some ?_
                      first | trivial | assumption | lia
                    · refine wp_some ?_
                      first | trivial | assumption | lia
                  · refine wp_bindE (gI_42_45 (by assumption)) fun x57 E_x57 p_x57 => ?_
                    refine wp_some ?_
                    first | trivial | assumption | lia
                · refine wp_bindE (pI_42_45 (by assumption)) fun h61 E_h61 p_h61 => ?_
                  refine wp_eq (gR_42_41 (by assumption)) ?_
                  refine wp_bindE (sI_73 (by assumption) (by lia) (by lia)) fun h63 E_h63 p_h63 => ?_
                  refine wp_zletE fun x64 e_x64 => ?_
                  refine wp_bite (fun c17 => ?_) (fun c17 => ?_)
                  · refine wp_assoc ?_
                    refine wp_eq (gR_42_33 (by assumption)) ?_
                    refine wp_assoc ?_
                    refine wp_bindE (aI_65 (by assumption) (by lia) (by lia)) fun x68 E_x68 p_x68 => ?_
                    refine wp_bsome ?_
                    refine wp_zletE fun x69 e_x69 => ?_
                    refine wp_eq (gR_42_39 (by assumption)) ?_
                    refine wp_bindE (sI_71 (by assumption) (by lia) (by lia)) fun h71 E_h71 p_h71 => ?_
                    refine wp_eq (gR_42_40 (by assumption)) ?_
                    refine wp_bindE (sI_72 (by assumption) (by lia) (by lia)) fun h73 E_h73 p_h73 => ?_
                    refine in12 (fun c18 => ?_) (fun c18 => ?_)
                    · refine wp_bindE (pZ_42_43 (by assumption) (by lia)) fun h75 E_h75 p_h75 => ?_
                      refine wp_mono (ih (by assumption) (by first | lia | assumption | exact Or.inr (by assumption)) (by first | lia | assumption | exact Or.inr (by assumption)) (by first | lia | assumption | exact Or.inr (by assumption)) (mu_up (by lia) (by lia) hm)) fun z19 p_z19 => ?_
                      try dsimp only at p_z19
                      refine ⟨?_, ?_, ?_, ?_⟩ <;> first | trivial | assumption | lia | exact Or.inl (by lia) | (refine Or.inl (gt_l (by assumption) (by assumption) (by assumption)))
                    · refine in12 (fun c20 => ?_) (fun c20 => ?_)
                      · refine wp_bindE (pZ_42_43 (by assumption) (by lia)) fun h77 E_h77 p_h77 => ?_
                        refine wp_mono (ih (by assumption) (by first | lia | assumption | exact Or.inr (by assumption)) (by first | lia | assumption | exact Or.inr (by assumption)) (by first | lia | assumption | exact Or.inr (by assumption)) (mu_up (by lia) (by lia) hm)) fun z21 p_z21 => ?_
                        try dsimp only at p_z21
                        refine ⟨?_, ?_, ?_, ?_⟩ <;> first | trivial | assumption | lia | exact Or.inl (by lia) | (refine Or.inl (gt_l (by assumption) (by assumption) (by assumption)))
                      · refine wp_ite (fun c22 => ?_) (fun c22 => ?_)
                        · refine wp_bindE (pZ_42_43 (by assumption) (by lia)) fun h79 E_h79 p_h79 => ?_
                          refine wp_mono (ih (by assumption) (by first | lia | assumption | exact Or.inr (by assumption)) (by first | lia | assumption | exact Or.inr (by assumption)) (by first | lia | assumption | exact Or.inr (by assumption)) (mu_up (by lia) (by lia) hm)) fun z23 p_z23 => ?_
                          try dsimp only at p_z23
                          refine ⟨?_, ?_, ?_, ?_⟩ <;> first | trivial | assumption | lia | exact Or.inl (by lia) | (refine Or.inl (gt_l (by assumption) (by assumption) (by assumption)))
                        · refine wp_bindE (pZ_42_43 (by assumption) (by lia)) fun h80 E_h80 p_h80 => ?_
                          refine wp_mono (ih (by assumption) (by first | lia | assumption | exact Or.inr (by assumption)) (by first | lia | assumption | exact Or.inr (by assumption)) (by first | lia | assumption | exact Or.inr (by assumption)) (mu_up (by lia) (by lia) hm)) fun z24 p_z24 => ?_
                          try dsimp only at p_z24
                          refine ⟨?_, ?_, ?_, ?_⟩ <;> first | trivial | assumption | lia | exact Or.inl (by lia) | (refine Or.inl (gt_l (by assumption) (by assumption) (by assumption)))
                  · refine wp_bsome ?_
                    refine wp_zletE fun x69 e_x69 => ?_
                    refine wp_eq (gR_42_39 (by assumption)) ?_
                    refine wp_bindE (sI_71 (by assumption) (by lia) (by lia)) fun h71 E_h71 p_h71 => ?_
                    refine wp_eq (gR_42_40 (by assumption)) ?_
                    refine wp_bindE (sI_72 (by assumption) (by lia) (by lia)) fun h73 E_h73 p_h73 => ?_
                    refine in12 (fun c25 => ?_) (fun c25 => ?_)
                    · refine wp_bindE (pZ_42_43 (by assumption) (by lia)) fun h75 E_h75 p_h75 => ?_
                      refine wp_mono (ih (by assumption) (by first | lia | assumption | exact Or.inr (by assumption)) (by first | lia | assumption | exact Or.inr (by assumption)) (by first | lia | assumption | exact Or.inr (by assumption)) (mu_up (by lia) (by lia) hm)) fun z26 p_z26 => ?_
                      try dsimp only at p_z26
                      refine ⟨?_, ?_, ?_, ?_⟩ <;> first | trivial | assumption | lia | exact Or.inl (by lia) | (refine Or.inl (gt_l (by assumption) (by assumption) (by assumption)))
                    · refine in12 (fun c27 => ?_) (fun c27 => ?_)
                      · refine wp_bindE (pZ_42_43 (by assumption) (by lia)) fun h77 E_h77 p_h77 => ?_
                        refine wp_mono (ih (by assumption) (by first | lia | assumption | exact Or.inr (by assumption)) (by first | lia | assumption | exact Or.inr (by assumption)) (by first | lia | assumption | exact Or.inr (by assumption)) (mu_up (by lia) (by lia) hm)) fun z28 p_z28 => ?_
                        try dsimp only at p_z28
                        refine ⟨?_, ?_, ?_, ?_⟩ <;> first | trivial | assumption | lia | exact Or.inl (by lia) | (refine Or.inl (gt_l (by assumption) (by assumption) (by assumption)))
                      · refine wp_ite (fun c29 => ?_) (fun c29 => ?_)
                        · refine wp_bindE (pZ_42_43 (by assumption) (by lia)) fun h79 E_h79 p_h79 => ?_
                          refine wp_mono (ih (by assumption) (by first | lia | assumption | exact Or.inr (by assumption)) (by first | lia | assumption | exact Or.inr (by assumption)) (by first | lia | assumption | exact Or.inr (by assumption)) (mu_up (by lia) (by lia) hm)) fun z30 p_z30 => ?_
                          try dsimp only at p_z30
                          refine ⟨?_, ?_, ?_, ?_⟩ <;> first | trivial | assumption | lia | exact Or.inl (by lia) | (refine Or.inl (gt_l (by assumption) (by assumption) (by assumption)))
                        · refine wp_bindE (pZ_42_43 (by assumption) (by lia)) fun h80 E_h80 p_h80 => ?_
                          refine wp_mono (ih (by assumption) (by first | lia | assumption | exact Or.inr (by assumption)) (by first | lia | assumption | exact Or.inr (by assumption)) (by first | lia | assumption | exact Or.inr (by assumption)) (mu_up (by lia) (by lia) hm)) fun z31 p_z31 => ?_
                          try dsimp only at p_z31
                          refine ⟨?_, ?_, ?_, ?_⟩ <;> first | trivial | assumption | lia | exact Or.inl (by lia) | (refine Or.inl (gt_l (by assumption) (by assumption) (by assumption)))
      · refine wp_some ?_
        refine ⟨?_, ?_, ?_, ?_⟩ <;> first | trivial | assumption | lia | exact Or.inl (by lia) | (refine Or.inl (gt_l (by assumption) (by assumption) (by assumption)))
set_option maxRecDepth 100000 in
set_option maxHeartbeats 4000000 in
theorem t_X12_goesThrough {v1 : Int32} {v2 : Int32} (w : WT n b L xs τ g h) (p0 : 0 ≤ v1) (p1 : v1 < g.1 42 27) (p2 : ∀ i : Int32, 0 ≤ i → i < g.1 42 27 → 1 ≤ g.2.1 65 i.toNatClampNeg) (p3 : g.1 42 27 ≤ 40) : wp (f_X12_goesThrough 10000 (n + 42) v1 v2 h) (fun r => WT n b L xs τ g r ∧ (∃ e, gI r (n + 42) 12 42 = some e ∧ (1 ≤ e ∨ gI r (n + 42) 12 43 = some 0))) := by
  unfold f_X12_goesThrough
  refine wp_eq (gR_42_29 (by assumption)) ?_
  refine wp_bindE (aI_61 (by assumption) (by lia) (by lia)) fun x2 E_x2 p_x2 => ?_
  refine wp_eq (gR_42_32 (by assumption)) ?_
  refine wp_bindE (aI_64 (by assumption) (by lia) (by lia)) fun x4 E_x4 p_x4 => ?_
  refine wp_eq (gR_42_37 (by assumption)) ?_
  refine wp_bindE (aI_69 (by assumption) (by lia) (by lia)) fun x6 E_x6 p_x6 => ?_
  refine wp_bite (fun c1 => ?_) (fun c1 => ?_)
  · refine wp_bsome ?_
    refine wp_bindE (pI_42_44 (by assumption)) fun h12 E_h12 p_h12 => ?_
    refine wp_bindE (pI_42_45 (by assumption)) fun h13 E_h13 p_h13 => ?_
    refine wp_bindE (pZ_42_43 (by assumption) (by lia)) fun h14 E_h14 p_h14 => ?_
    refine wp_eq (gR_42_39 (by assumption)) ?_
    refine wp_bindE (sI_71 (by assumption) (by lia) (by lia)) fun h16 E_h16 p_h16 => ?_
    refine wp_eq (gR_42_40 (by assumption)) ?_
    refine wp_bindE (sI_72 (by assumption) (by lia) (by lia)) fun h18 E_h18 p_h18 => ?_
    have y2 : gI h18 (n + 42) 12 43 = some 0 := ((sa_keep (keep_sI E_h18) (by omega)).trans ((sa_keep (keep_sI E_h16) (by omega)).trans ((pF_gI (pZ_at E_h14)))))
    refine wp_bind (t_X12_goesThrough_L84 (by first | lia | assumption | exact Or.inr (by assumption)) (by first | lia | assumption | exact Or.inr (by assumption)) (by assumption) (by first | lia | assumption | exact Or.inr (by assumption)) _ (by assumption) (by first | lia | assumption | exact Or.inr (by assumption)) (by first | lia | assumption | exact Or.inr (by assumption)) (by first | lia | assumption | exact Or.inr (by assumption)) (mu_0 (by lia))) fun m81 p_m81 => ?_
    obtain ⟨p0_m81, p1_m81, p2_m81, p3_m81⟩ := p_m81
    refine wp_bindE (pI_42_42 (by assumption) (by lia) (by lia)) fun h82 E_h82 p_h82 => ?_
    refine wp_some ?_
    exact ⟨by assumption, _, pF_gI E_h82, p3_m81.elim Or.inl (fun q => Or.inr ((pF_keepk E_h82 (by decide)).trans q))⟩
  · refine wp_assoc ?_
    refine wp_eq (gR_42_37 (by assumption)) ?_
    refine wp_assoc ?_
    refine wp_eq E_x6 ?_
    refine wp_bite (fun c3 => ?_) (fun c3 => ?_)
    · refine wp_bsome ?_
      refine wp_bindE (pI_42_44 (by assumption)) fun h12 E_h12 p_h12 => ?_
      refine wp_bindE (pI_42_45 (by assumption)) fun h13 E_h13 p_h13 => ?_
      refine wp_bindE (pZ_42_43 (by assumption) (by lia)) fun h14 E_h14 p_h14 => ?_
      refine wp_eq (gR_42_39 (by assumption)) ?_
      refine wp_bindE (sI_71 (by assumption) (by lia) (by lia)) fun h16 E_h16 p_h16 => ?_
      refine wp_eq (gR_42_40 (by assumption)) ?_
      refine wp_bindE (sI_72 (by assumption) (by lia) (by lia)) fun h18 E_h18 p_h18 => ?_
      have y4 : gI h18 (n + 42) 12 43 = some 0 := ((sa_keep (keep_sI E_h18) (by omega)).trans ((sa_keep (keep_sI E_h16) (by omega)).trans ((pF_gI (pZ_at E_h14)))))
      refine wp_bind (t_X12_goesThrough_L84 (by first | lia | assumption | exact Or.inr (by assumption)) (by first | lia | assumption | exact Or.inr (by assumption)) (by assumption) (by first | lia | assumption | exact Or.inr (by assumption)) _ (by assumption) (by first | lia | assumption | exact Or.inr (by assumption)) (by first | lia | assumption | exact Or.inr (by assumption)) (by first | lia | assumption | exact Or.inr (by assumption)) (mu_0 (by lia))) fun m81 p_m81 => ?_
      obtain ⟨p0_m81, p1_m81, p2_m81, p3_m81⟩ := p_m81
      refine wp_bindE (pI_42_42 (by assumption) (by lia) (by lia)) fun h82 E_h82 p_h82 => ?_
      refine wp_some ?_
      exact ⟨by assumption, _, pF_gI E_h82, p3_m81.elim Or.inl (fun q => Or.inr ((pF_keepk E_h82 (by decide)).trans q))⟩
    · refine wp_bsome ?_
      refine wp_bindE (pI_42_44 (by assumption)) fun h12 E_h12 p_h12 => ?_
      refine wp_bindE (pI_42_45 (by assumption)) fun h13 E_h13 p_h13 => ?_
      refine wp_bindE (pZ_42_43 (by assumption) (by lia)) fun h14 E_h14 p_h14 => ?_
      refine wp_eq (gR_42_39 (by assumption)) ?_
      refine wp_bindE (sI_71 (by assumption) (by lia) (by lia)) fun h16 E_h16 p_h16 => ?_
      refine wp_eq (gR_42_40 (by assumption)) ?_
      refine wp_bindE (sI_72 (by assumption) (by lia) (by lia)) fun h18 E_h18 p_h18 => ?_
      have y5 : gI h18 (n + 42) 12 43 = some 0 := ((sa_keep (keep_sI E_h18) (by omega)).trans ((sa_keep (keep_sI E_h16) (by omega)).trans ((pF_gI (pZ_at E_h14)))))
      refine wp_bind (t_X12_goesThrough_L84 (by first | lia | assumption | exact Or.inr (by assumption)) (by first | lia | assumption | exact Or.inr (by assumption)) (by assumption) (by first | lia | assumption | exact Or.inr (by assumption)) _ (by assumption) (by first | lia | assumption | exact Or.inr (by assumption)) (by first | lia | assumption | exact Or.inr (by assumption)) (by first | lia | assumption | exact Or.inr (by assumption)) (mu_0 (by lia))) fun m81 p_m81 => ?_
      obtain ⟨p0_m81, p1_m81, p2_m81, p3_m81⟩ := p_m81
      refine wp_bindE (pI_42_42 (by assumption) (by lia) (by lia)) fun h82 E_h82 p_h82 => ?_
      refine wp_some ?_
      exact ⟨by assumption, _, pF_gI E_h82, p3_m81.elim Or.inl (fun q => Or.inr ((pF_keepk E_h82 (by decide)).trans q))⟩
set_option maxRecDepth 100000 in
set_option maxHeartbeats 4000000 in
theorem t_X12_safeSpeed_L7 {v1 : Int32}  (p0 : 0 ≤ v1) (p1 : v1 < g.1 42 27) (p2 : ∀ i : Int32, 0 ≤ i → i < g.1 42 27 → 1 ≤ g.2.1 65 i.toNatClampNeg) (p3 : g.1 42 27 ≤ 40) : ∀ (m : Nat) {v2 : Int32} {h : zH}, WT n b L xs τ g h → v2 ≤ 9000 → (v2.toInt + 1).toNat < m → wp (f_X12_safeSpeed_L7 10000 (n + 42) v1 m v2 h) (fun r => (match r with | .inl a => WT n b L xs τ g a | .inr a => WT n b L xs τ g a.2)) := by
  intro m
  induction m with
  | zero => intro v2 h w i0 hm; exact absurd hm (Nat.not_lt_zero _)
  | succ m ih =>
    intro v2 h w i0 hm
    rw [f_X12_safeSpeed_L7.eq_2]
    refine wp_ite (fun c1 => ?_) (fun c1 => ?_)
    · refine wp_some ?_
      first | trivial | assumption | lia | (refine ⟨?_, ?_⟩ <;> first | trivial | assumption | lia)
    · refine wp_zif (ob_42 (by assumption)) ?_
      refine wp_bind (t_X12_goesThrough (by assumption) (by first | lia | assumption | exact Or.inr (by assumption)) (by first | lia | assumption | exact Or.inr (by assumption)) (by assumption) (by first | lia | assumption | exact Or.inr (by assumption))) fun h5 p_h5 => ?_
      obtain ⟨p0_h5, p1_h5⟩ := p_h5
      refine wp_bindE (gI_42_43 (by assumption)) fun x6 E_x6 p_x6 => ?_
      refine wp_ite (fun c2 => ?_) (fun c2 => ?_)
      · refine wp_some ?_
        first | trivial | assumption | lia | (refine ⟨?_, ?_⟩ <;> first | trivial | assumption | lia)
      · refine wp_mono (ih (by assumption) (by first | lia | assumption | exact Or.inr (by assumption)) (mu_dp (by lia) (by lia) hm)) fun z3 p_z3 => ?_
        try dsimp only at p_z3
        first | trivial | assumption | lia | (refine ⟨?_, ?_⟩ <;> first | trivial | assumption | lia)
set_option maxRecDepth 100000 in
set_option maxHeartbeats 4000000 in
theorem t_X12_safeSpeed {v1 : Int32} (w : WT n b L xs τ g h) (p0 : 0 ≤ v1) (p1 : v1 < g.1 42 27) (p2 : ∀ i : Int32, 0 ≤ i → i < g.1 42 27 → 1 ≤ g.2.1 65 i.toNatClampNeg) (p3 : g.1 42 27 ≤ 40) : wp (f_X12_safeSpeed 10000 (n + 42) v1 h) (fun r => WT n b L xs τ g r.2) := by
  unfold f_X12_safeSpeed
  refine wp_eq (gR_42_30 (by assumption)) ?_
  refine wp_bindE (aI_62 (by assumption) (by lia) (by lia)) fun x2 E_x2 p_x2 => ?_
  refine wp_bind (t_X12_safeSpeed_L7 (by first | lia | assumption | exact Or.inr (by assumption)) (by first | lia | assumption | exact Or.inr (by assumption)) (by assumption) (by first | lia | assumption | exact Or.inr (by assumption)) _ (by assumption) (by first | lia | assumption | exact Or.inr (by assumption)) (mu_d0 (by lia))) fun m8 p_m8 => ?_
  rcases m8 with s9 | y1
  · refine wp_zsL ?_
    refine wp_some ?_
    first | trivial | assumption | lia
  · refine wp_zsR ?_
    first | trivial | assumption | lia
set_option maxRecDepth 100000 in
set_option maxHeartbeats 4000000 in
theorem t_X12_seenOf (w : WT n b L xs τ g h) : wp (f_X12_seenOf 10000 (n + 42) h) (fun r => True) := by
  unfold f_X12_seenOf
  refine wp_bindE (gI_42_44 (by assumption)) fun x1 E_x1 p_x1 => ?_
  refine wp_ite (fun c1 => ?_) (fun c1 => ?_)
  · refine wp_bindE (gI_42_43 (by assumption)) fun x3 E_x3 p_x3 => ?_
    refine wp_ite (fun c2 => ?_) (fun c2 => ?_)
    · refine wp_eq E_x1 ?_
      refine wp_some ?_
      first | trivial | assumption | lia
    · refine wp_bindE (gI_42_42 (by assumption)) fun x6 E_x6 p_x6 => ?_
      refine wp_eq E_x1 ?_
      refine wp_some ?_
      first | trivial | assumption | lia
  · refine wp_some ?_
    first | trivial | assumption | lia
set_option maxRecDepth 100000 in
set_option maxHeartbeats 4000000 in
theorem t_X12_signsOf {v1 : Int32} (w : WT n b L xs τ g h) (p0 : 0 ≤ v1) (p1 : v1 < g.1 42 27) (p2 : ∀ i : Int32, 0 ≤ i → i < g.1 42 27 → 1 ≤ g.2.1 65 i.toNatClampNeg) (p3 : g.1 42 27 ≤ 40) : wp (f_X12_signsOf 10000 (n + 42) v1 h) (fun r => WT n b L xs τ g r.2) := by
  unfold f_X12_signsOf
  refine wp_eq (gR_42_30 (by assumption)) ?_
  refine wp_bindE (aI_62 (by assumption) (by lia) (by lia)) fun x2 E_x2 p_x2 => ?_
  refine wp_zif (ob_42 (by assumption)) ?_
  refine wp_bind (t_X12_goesThrough (by assumption) (by first | lia | assumption | exact Or.inr (by assumption)) (by first | lia | assumption | exact Or.inr (by assumption)) (by assumption) (by first | lia | assumption | exact Or.inr (by assumption))) fun h4 p_h4 => ?_
  obtain ⟨p0_h4, p1_h4⟩ := p_h4
  refine wp_eq (gR_42_30 (by assumption)) ?_
  refine wp_bindE (aI_62 (by assumption) (by lia) (by lia)) fun x6 E_x6 p_x6 => ?_
  refine wp_bind (R := fun r => r = 0 ∨ r = 1) ?_ (fun m7 p_m7 => ?_)
  · refine wp_ite (fun c1 => ?_) (fun c1 => ?_)
    · refine wp_some ?_
      first | trivial | assumption | lia
    · refine wp_some ?_
      first | trivial | assumption | lia
  · refine wp_eq (gR_42_34 (by assumption)) ?_
    refine wp_bindE (aI_66 (by assumption) (by lia) (by lia)) fun x10 E_x10 p_x10 => ?_
    refine wp_bind (R := fun r => r = 0 ∨ r = 2 ∨ r = 4) ?_ (fun m11 p_m11 => ?_)
    · refine wp_ite (fun c2 => ?_) (fun c2 => ?_)
      · refine wp_some ?_
        first | trivial | assumption | lia
      · refine wp_eq (gR_42_34 (by assumption)) ?_
        refine wp_eq E_x10 ?_
        refine wp_ite (fun c3 => ?_) (fun c3 => ?_)
        · refine wp_some ?_
          first | trivial | assumption | lia
        · refine wp_some ?_
          first | trivial | assumption | lia
    · refine wp_zletE fun x16 e_x16 => ?_
      refine wp_zif (ob_42 (by assumption)) ?_
      refine wp_bind (t_X12_seenOf (by assumption)) fun q18 p_q18 => ?_
      refine wp_bite (fun c4 => ?_) (fun c4 => ?_)
      · refine wp_bsome ?_
        refine wp_zletE fun x21 e_x21 => ?_
        refine wp_eq (gR_42_34 (by assumption)) ?_
        refine wp_eq E_x10 ?_
        refine wp_bite (fun c5 => ?_) (fun c5 => ?_)
        · refine wp_bsome ?_
          refine wp_zletE fun x26 e_x26 => ?_
          refine wp_eq (gR_42_35 (by assumption)) ?_
          refine wp_bindE (aI_67 (by assumption) (by lia) (by lia)) fun x28 E_x28 p_x28 => ?_
          refine wp_bite (fun c6 => ?_) (fun c6 => ?_)
          · refine wp_bsome ?_
            refine wp_zletE fun x31 e_x31 => ?_
            refine wp_eq (gR_42_37 (by assumption)) ?_
            refine wp_bindE (aI_69 (by assumption) (by lia) (by lia)) fun x33 E_x33 p_x33 => ?_
            refine wp_bite (fun c7 => ?_) (fun c7 => ?_)
            · refine wp_bsome ?_
              refine wp_zletE fun x36 e_x36 => ?_
              refine wp_eq (gR_42_38 (by assumption)) ?_
              refine wp_bindE (aI_70 (by assumption) (by lia) (by lia)) fun x38 E_x38 p_x38 => ?_
              refine wp_ite (fun c8 => ?_) (fun c8 => ?_)
              · refine wp_some ?_
                first | trivial | assumption | lia
              · refine wp_some ?_
                first | trivial | assumption | lia
            · refine wp_bsome ?_
              refine wp_zletE fun x36 e_x36 => ?_
              refine wp_eq (gR_42_38 (by assumption)) ?_
              refine wp_bindE (aI_70 (by assumption) (by lia) (by lia)) fun x38 E_x38 p_x38 => ?_
              refine wp_ite (fun c9 => ?_) (fun c9 => ?_)
              · refine wp_some ?_
                first | trivial | assumption | lia
              · refine wp_some ?_
                first | trivial | assumption | lia
          · refine wp_bsome ?_
            refine wp_zletE fun x31 e_x31 => ?_
            refine wp_eq (gR_42_37 (by assumption)) ?_
            refine wp_bindE (aI_69 (by assumption) (by lia) (by lia)) fun x33 E_x33 p_x33 => ?_
            refine wp_bite (fun c10 => ?_) (fun c10 => ?_)
            · refine wp_bsome ?_
              refine wp_zletE fun x36 e_x36 => ?_
              refine wp_eq (gR_42_38 (by assumption)) ?_
              refine wp_bindE (aI_70 (by assumption) (by lia) (by lia)) fun x38 E_x38 p_x38 => ?_
              refine wp_ite (fun c11 => ?_) (fun c11 => ?_)
              · refine wp_some ?_
                first | trivial | assumption | lia
              · refine wp_some ?_
                first | trivial | assumption | lia
            · refine wp_bsome ?_
              refine wp_zletE fun x36 e_x36 => ?_
              refine wp_eq (gR_42_38 (by assumption)) ?_
              refine wp_bindE (aI_70 (by assumption) (by lia) (by lia)) fun x38 E_x38 p_x38 => ?_
              refine wp_ite (fun c12 => ?_) (fun c12 => ?_)
              · refine wp_some ?_
                first | trivial | assumption | lia
              · refine wp_some ?_
                first | trivial | assumption | lia
        · refine wp_bsome ?_
          refine wp_zletE fun x26 e_x26 => ?_
          refine wp_eq (gR_42_35 (by assumption)) ?_
          refine wp_bindE (aI_67 (by assumption) (by lia) (by lia)) fun x28 E_x28 p_x28 => ?_
          refine wp_bite (fun c13 => ?_) (fun c13 => ?_)
          · refine wp_bsome ?_
            refine wp_zletE fun x31 e_x31 => ?_
            refine wp_eq (gR_42_37 (by assumption)) ?_
            refine wp_bindE (aI_69 (by assumption) (by lia) (by lia)) fun x33 E_x33 p_x33 => ?_
            refine wp_bite (fun c14 => ?_) (fun c14 => ?_)
            · refine wp_bsome ?_
              refine wp_zletE fun x36 e_x36 => ?_
              refine wp_eq (gR_42_38 (by assumption)) ?_
              refine wp_bindE (aI_70 (by assumption) (by lia) (by lia)) fun x38 E_x38 p_x38 => ?_
              refine wp_ite (fun c15 => ?_) (fun c15 => ?_)
              · refine wp_some ?_
                first | trivial | assumption | lia
              · refine wp_some ?_
                first | trivial | assumption | lia
            · refine wp_bsome ?_
              refine wp_zletE fun x36 e_x36 => ?_
              refine wp_eq (gR_42_38 (by assumption)) ?_
              refine wp_bindE (aI_70 (by assumption) (by lia) (by lia)) fun x38 E_x38 p_x38 => ?_
              refine wp_ite (fun c16 => ?_) (fun c16 => ?_)
              · refine wp_some ?_
                first | trivial | assumption | lia
              · refine wp_some ?_
                first | trivial | assumption | lia
          · refine wp_bsome ?_
            refine wp_zletE fun x31 e_x31 => ?_
            refine wp_eq (gR_42_37 (by assumption)) ?_
            refine wp_bindE (aI_69 (by assumption) (by lia) (by lia)) fun x33 E_x33 p_x33 => ?_
            refine wp_bite (fun c17 => ?_) (fun c17 => ?_)
            · refine wp_bsome ?_
              refine wp_zletE fun x36 e_x36 => ?_
              refine wp_eq (gR_42_38 (by assumption)) ?_
              refine wp_bindE (aI_70 (by assumption) (by lia) (by lia)) fun x38 E_x38 p_x38 => ?_
              refine wp_ite (fun c18 => ?_) (fun c18 => ?_)
              · refine wp_some ?_
                first | trivial | assumption | lia
              · refine wp_some ?_
                first | trivial | assumption | lia
            · refine wp_bsome ?_
              refine wp_zletE fun x36 e_x36 => ?_
              refine wp_eq (gR_42_38 (by assumption)) ?_
              refine wp_bindE (aI_70 (by assumption) (by lia) (by lia)) fun x38 E_x38 p_x38 => ?_
              refine wp_ite (fun c19 => ?_) (fun c19 => ?_)
              · refine wp_some ?_
                first | trivial | assumption | lia
              · refine wp_some ?_
                first | trivial | assumption | lia
      · refine wp_bsome ?_
        refine wp_zletE fun x21 e_x21 => ?_
        refine wp_eq (gR_42_34 (by assumption)) ?_
        refine wp_eq E_x10 ?_
        refine wp_bite (fun c20 => ?_) (fun c20 => ?_)
        · refine wp_bsome ?_
          refine wp_zletE fun x26 e_x26 => ?_
          refine wp_eq (gR_42_35 (by assumption)) ?_
          refine wp_bindE (aI_67 (by assumption) (by lia) (by lia)) fun x28 E_x28 p_x28 => ?_
          refine wp_bite (fun c21 => ?_) (fun c21 => ?_)
          · refine wp_bsome ?_
            refine wp_zletE fun x31 e_x31 => ?_
            refine wp_eq (gR_42_37 (by assumption)) ?_
            refine wp_bindE (aI_69 (by assumption) (by lia) (by lia)) fun x33 E_x33 p_x33 => ?_
            refine wp_bite (fun c22 => ?_) (fun c22 => ?_)
            · refine wp_bsome ?_
              refine wp_zletE fun x36 e_x36 => ?_
              refine wp_eq (gR_42_38 (by assumption)) ?_
              refine wp_bindE (aI_70 (by assumption) (by lia) (by lia)) fun x38 E_x38 p_x38 => ?_
              refine wp_ite (fun c23 => ?_) (fun c23 => ?_)
              · refine wp_some ?_
                first | trivial | assumption | lia
              · refine wp_some ?_
                first | trivial | assumption | lia
            · refine wp_bsome ?_
              refine wp_zletE fun x36 e_x36 => ?_
              refine wp_eq (gR_42_38 (by assumption)) ?_
              refine wp_bindE (aI_70 (by assumption) (by lia) (by lia)) fun x38 E_x38 p_x38 => ?_
              refine wp_ite (fun c24 => ?_) (fun c24 => ?_)
              · refine wp_some ?_
                first | trivial | assumption | lia
              · refine wp_some ?_
                first | trivial | assumption | lia
          · refine wp_bsome ?_
            refine wp_zletE fun x31 e_x31 => ?_
            refine wp_eq (gR_42_37 (by assumption)) ?_
            refine wp_bindE (aI_69 (by assumption) (by lia) (by lia)) fun x33 E_x33 p_x33 => ?_
            refine wp_bite (fun c25 => ?_) (fun c25 => ?_)
            · refine wp_bsome ?_
              refine wp_zletE fun x36 e_x36 => ?_
              refine wp_eq (gR_42_38 (by assumption)) ?_
              refine wp_bindE (aI_70 (by assumption) (by lia) (by lia)) fun x38 E_x38 p_x38 => ?_
              refine wp_ite (fun c26 => ?_) (fun c26 => ?_)
              · refine wp_some ?_
                first | trivial | assumption | lia
              · refine wp_some ?_
                first | trivial | assumption | lia
            · refine wp_bsome ?_
              refine wp_zletE fun x36 e_x36 => ?_
              refine wp_eq (gR_42_38 (by assumption)) ?_
              refine wp_bindE (aI_70 (by assumption) (by lia) (by lia)) fun x38 E_x38 p_x38 => ?_
              refine wp_ite (fun c27 => ?_) (fun c27 => ?_)
              · refine wp_some ?_
                first | trivial | assumption | lia
              · refine wp_some ?_
                first | trivial | assumption | lia
        · refine wp_bsome ?_
          refine wp_zletE fun x26 e_x26 => ?_
          refine wp_eq (gR_42_35 (by assumption)) ?_
          refine wp_bindE (aI_67 (by assumption) (by lia) (by lia)) fun x28 E_x28 p_x28 => ?_
          refine wp_bite (fun c28 => ?_) (fun c28 => ?_)
          · refine wp_bsome ?_
            refine wp_zletE fun x31 e_x31 => ?_
            refine wp_eq (gR_42_37 (by assumption)) ?_
            refine wp_bindE (aI_69 (by assumption) (by lia) (by lia)) fun x33 E_x33 p_x33 => ?_
            refine wp_bite (fun c29 => ?_) (fun c29 => ?_)
            · refine wp_bsome ?_
              refine wp_zletE fun x36 e_x36 => ?_
              refine wp_eq (gR_42_38 (by assumption)) ?_
              refine wp_bindE (aI_70 (by assumption) (by lia) (by lia)) fun x38 E_x38 p_x38 => ?_
              refine wp_ite (fun c30 => ?_) (fun c30 => ?_)
              · refine wp_some ?_
                first | trivial | assumption | lia
              · refine wp_some ?_
                first | trivial | assumption | lia
            · refine wp_bsome ?_
              refine wp_zletE fun x36 e_x36 => ?_
              refine wp_eq (gR_42_38 (by assumption)) ?_
              refine wp_bindE (aI_70 (by assumption) (by lia) (by lia)) fun x38 E_x38 p_x38 => ?_
              refine wp_ite (fun c31 => ?_) (fun c31 => ?_)
              · refine wp_some ?_
                first | trivial | assumption | lia
              · refine wp_some ?_
                first | trivial | assumption | lia
          · refine wp_bsome ?_
            refine wp_zletE fun x31 e_x31 => ?_
            refine wp_eq (gR_42_37 (by assumption)) ?_
            refine wp_bindE (aI_69 (by assumption) (by lia) (by lia)) fun x33 E_x33 p_x33 => ?_
            refine wp_bite (fun c32 => ?_) (fun c32 => ?_)
            · refine wp_bsome ?_
              refine wp_zletE fun x36 e_x36 => ?_
              refine wp_eq (gR_42_38 (by assumption)) ?_
              refine wp_bindE (aI_70 (by assumption) (by lia) (by lia)) fun x38 E_x38 p_x38 => ?_
              refine wp_ite (fun c33 => ?_) (fun c33 => ?_)
              · refine wp_some ?_
                first | trivial | assumption | lia
              · refine wp_some ?_
                first | trivial | assumption | lia
            · refine wp_bsome ?_
              refine wp_zletE fun x36 e_x36 => ?_
              refine wp_eq (gR_42_38 (by assumption)) ?_
              refine wp_bindE (aI_70 (by assumption) (by lia) (by lia)) fun x38 E_x38 p_x38 => ?_
              refine wp_ite (fun c34 => ?_) (fun c34 => ?_)
              · refine wp_some ?_
                first | trivial | assumption | lia
              · refine wp_some ?_
                first | trivial | assumption | lia
set_option maxRecDepth 100000 in
set_option maxHeartbeats 4000000 in
theorem t_X12_look {v1 : Int32} {v2 : Int32} (w : WT n b L xs τ g h) (p0 : ∀ i : Int32, 0 ≤ i → i < g.1 42 27 → 1 ≤ g.2.1 65 i.toNatClampNeg) : wp (f_X12_look 10000 (n + 42) v1 v2 h) (fun r => WT n b L xs τ g r.2) := by
  unfold f_X12_look
  have gm := gr_42_27 w
  refine wp_bindE (pI_42_0 (by assumption)) fun h1 E_h1 p_h1 => ?_
  refine wp_zif (ob_42 (by assumption)) ?_
  refine wp_bind (t_X12_isMeeting (by assumption)) fun q3 p_q3 => ?_
  refine wp_ite (fun c1 => ?_) (fun c1 => ?_)
  · refine wp_some ?_
    first | trivial | assumption | lia
  · refine in12 (fun c2 => ?_) (fun c2 => ?_)
    · refine wp_some ?_
      first | trivial | assumption | lia
    · refine wp_ite (fun c3 => ?_) (fun c3 => ?_)
      · refine wp_zif (ob_42 (by assumption)) ?_
        refine wp_bind (t_X12_safeSpeed (by assumption) (by first | lia | assumption | exact Or.inr (by assumption)) (by first | lia | assumption | exact Or.inr (by assumption)) (by assumption) (by first | lia | assumption | exact Or.inr (by assumption))) fun q33 p_q33 => ?_
        refine wp_some ?_
        first | trivial | assumption | lia
      · refine wp_ite (fun c4 => ?_) (fun c4 => ?_)
        · refine wp_zif (ob_42 (by assumption)) ?_
          refine wp_bind (t_X12_signsOf (by assumption) (by first | lia | assumption | exact Or.inr (by assumption)) (by first | lia | assumption | exact Or.inr (by assumption)) (by assumption) (by first | lia | assumption | exact Or.inr (by assumption))) fun q31 p_q31 => ?_
          refine wp_some ?_
          first | trivial | assumption | lia
        · refine wp_eq (gR_42_30 (by assumption)) ?_
          refine wp_bindE (aI_62 (by assumption) (by lia) (by lia)) fun x9 E_x9 p_x9 => ?_
          refine wp_zif (ob_42 (by assumption)) ?_
          refine wp_bind (t_X12_goesThrough (by assumption) (by first | lia | assumption | exact Or.inr (by assumption)) (by first | lia | assumption | exact Or.inr (by assumption)) (by assumption) (by first | lia | assumption | exact Or.inr (by assumption))) fun h11 p_h11 => ?_
          obtain ⟨p0_h11, p1_h11⟩ := p_h11
          refine wp_ite (fun c5 => ?_) (fun c5 => ?_)
          · refine wp_bindE (gI_42_43 (by assumption)) fun x13 E_x13 p_x13 => ?_
            refine wp_ite (fun c6 => ?_) (fun c6 => ?_)
            · refine wp_some ?_
              first | trivial | assumption | lia
            · refine wp_bindE (gI_42_42 (by assumption)) fun x15 E_x15 p_x15 => ?_
              refine wp_some ?_
              first | trivial | assumption | lia
          · refine wp_ite (fun c7 => ?_) (fun c7 => ?_)
            · refine wp_bindE (gI_42_44 (by assumption)) fun x17 E_x17 p_x17 => ?_
              refine wp_some ?_
              first | trivial | assumption | lia
            · refine wp_ite (fun c8 => ?_) (fun c8 => ?_)
              · refine wp_bindE (gI_42_45 (by assumption)) fun x19 E_x19 p_x19 => ?_
                refine wp_some ?_
                first | trivial | assumption | lia
              · refine wp_ite (fun c9 => ?_) (fun c9 => ?_)
                · refine wp_zif (ob_42 (by assumption)) ?_
                  refine wp_bind (t_X12_seenOf (by assumption)) fun q22 p_q22 => ?_
                  refine wp_some ?_
                  first | trivial | assumption | lia
                · refine wp_ite (fun c10 => ?_) (fun c10 => ?_)
                  · refine wp_bindE (gI_42_43 (by assumption)) fun x24 E_x24 p_x24 => ?_
                    refine wp_ite (fun c11 => ?_) (fun c11 => ?_)
                    · refine wp_some ?_
                      first | trivial | assumption | lia
                    · refine wp_eq (gR_42_41 (by assumption)) ?_
                      refine wp_bindE (gI_42_42 (by assumption)) fun x27 E_x27 p_x27 => ?_
                      have y28 : 1 ≤ x27 := gt_ge p1_h11 E_x24 (by assumption) E_x27
                      refine wp_bindE (aI_73 (by assumption) (by lia) (by lia)) fun x28 E_x28 p_x28 => ?_
                      refine wp_some ?_
                      first | trivial | assumption | lia
                  · refine wp_bindE (gI_42_45 (by assumption)) fun x29 E_x29 p_x29 => ?_
                    refine wp_some ?_
                    first | trivial | assumption | lia
set_option maxRecDepth 100000 in
set_option maxHeartbeats 4000000 in
theorem t_X12_at {v1 : Int32} {v2 : Int32} {v3 : Int32} (w : WT n b L xs τ g h) (p0 : ∀ i : Int32, 0 ≤ i → i < g.1 42 27 → 1 ≤ g.2.1 65 i.toNatClampNeg) : wp (f_X12_at 10000 (n + 42) v1 v2 v3 h) (fun r => WT n b L xs τ g r.2) := by
  unfold f_X12_at
  have gm := gr_42_27 w
  refine wp_bindE (pI_42_0 (by assumption)) fun h1 E_h1 p_h1 => ?_
  refine wp_zif (ob_42 (by assumption)) ?_
  refine wp_bind (t_X12_isMeeting (by assumption)) fun q3 p_q3 => ?_
  refine wp_ite (fun c1 => ?_) (fun c1 => ?_)
  · refine wp_some ?_
    first | trivial | assumption | lia
  · refine in12 (fun c2 => ?_) (fun c2 => ?_)
    · refine wp_some ?_
      first | trivial | assumption | lia
    · refine wp_eq (gR_42_30 (by assumption)) ?_
      refine wp_bindE (aI_62 (by assumption) (by lia) (by lia)) fun x7 E_x7 p_x7 => ?_
      refine wp_zif (ob_42 (by assumption)) ?_
      refine wp_bind (t_X12_goesThrough (by assumption) (by first | lia | assumption | exact Or.inr (by assumption)) (by first | lia | assumption | exact Or.inr (by assumption)) (by assumption) (by first | lia | assumption | exact Or.inr (by assumption))) fun h9 p_h9 => ?_
      obtain ⟨p0_h9, p1_h9⟩ := p_h9
      refine wp_bindE (gI_42_42 (by assumption)) fun x10 E_x10 p_x10 => ?_
      refine in12b (fun c3 => ?_) (fun c3 => ?_)
      · refine wp_bsome ?_
        refine wp_bindE (pI_42_0 (by assumption)) fun h13 E_h13 p_h13 => ?_
        refine wp_eq (pF_gI E_h13) ?_
        refine wp_ite (fun c4 => ?_) (fun c4 => ?_)
        · refine wp_ite (fun c5 => ?_) (fun c5 => ?_)
          · refine wp_eq (gR_42_39 (by assumption)) ?_
            refine wp_bindE (aI_71 (by assumption) (by lia) (by lia)) fun x20 E_x20 p_x20 => ?_
            refine wp_some ?_
            first | trivial | assumption | lia
          · refine wp_eq (gR_42_40 (by assumption)) ?_
            refine wp_bindE (aI_72 (by assumption) (by lia) (by lia)) fun x18 E_x18 p_x18 => ?_
            refine wp_some ?_
            first | trivial | assumption | lia
        · refine wp_some ?_
          first | trivial | assumption | lia
      · refine wp_bsome ?_
        refine wp_bindE (pI_42_0 (by assumption)) fun h13 E_h13 p_h13 => ?_
        refine wp_eq (pF_gI E_h13) ?_
        refine wp_ite (fun c6 => ?_) (fun c6 => ?_)
        · refine wp_ite (fun c7 => ?_) (fun c7 => ?_)
          · refine wp_eq (gR_42_39 (by assumption)) ?_
            refine wp_bindE (aI_71 (by assumption) (by lia) (by lia)) fun x20 E_x20 p_x20 => ?_
            refine wp_some ?_
            first | trivial | assumption | lia
          · refine wp_eq (gR_42_40 (by assumption)) ?_
            refine wp_bindE (aI_72 (by assumption) (by lia) (by lia)) fun x18 E_x18 p_x18 => ?_
            refine wp_some ?_
            first | trivial | assumption | lia
        · refine wp_some ?_
          first | trivial | assumption | lia
set_option maxRecDepth 100000 in
set_option maxHeartbeats 4000000 in
theorem t_X12_lawIn_L4 {v1 : Int32} (w : WT n b L xs τ g h) : ∀ (m : Nat) {v2 : Int32} {v3 : Int32}, 0 ≤ v3 → -1 ≤ v2 → v2 < 16 → (9000 - v3.toInt).toNat < m → wp (f_X12_lawIn_L4 10000 (n + 42) v1 h m v2 v3) (fun r => -1 ≤ r ∧ r < 16) := by
  intro m
  induction m with
  | zero => intro v2 v3 i0 i1 i2 hm; exact absurd hm (Nat.not_lt_zero _)
  | succ m ih =>
    intro v2 v3 i0 i1 i2 hm
    rw [f_X12_lawIn_L4.eq_2]
    refine wp_bindE (gI_42_10 (by assumption)) fun x1 E_x1 p_x1 => ?_
    refine wp_ite (fun c1 => ?_) (fun c1 => ?_)
    · refine wp_some ?_
      refine ⟨?_, ?_⟩ <;> first | trivial | assumption | lia
    · refine wp_eq (gR_42_12 (by assumption)) ?_
      refine wp_bindE (aI_49 (by assumption) (by lia) (by lia)) fun x4 E_x4 p_x4 => ?_
      refine wp_zif (ob_42 (by assumption)) ?_
      refine wp_bind (t_X12_viewYear (by assumption)) fun q6 p_q6 => ?_
      obtain ⟨p0_q6, p1_q6⟩ := p_q6
      refine wp_bite (fun c2 => ?_) (fun c2 => ?_)
      · refine wp_bsome ?_
        refine wp_ite (fun c3 => ?_) (fun c3 => ?_)
        · refine wp_mono (ih (by first | lia | assumption | exact Or.inr (by assumption)) (by first | lia | assumption | exact Or.inr (by assumption)) (by first | lia | assumption | exact Or.inr (by assumption)) (mu_up (by lia) (by lia) hm)) fun z4 p_z4 => ?_
          try dsimp only at p_z4
          obtain ⟨p0_z4, p1_z4⟩ := p_z4
          refine ⟨?_, ?_⟩ <;> first | trivial | assumption | lia
        · refine wp_ite (fun c5 => ?_) (fun c5 => ?_)
          · refine wp_mono (ih (by first | lia | assumption | exact Or.inr (by assumption)) (by first | lia | assumption | exact Or.inr (by assumption)) (by first | lia | assumption | exact Or.inr (by assumption)) (mu_up (by lia) (by lia) hm)) fun z6 p_z6 => ?_
            try dsimp only at p_z6
            obtain ⟨p0_z6, p1_z6⟩ := p_z6
            refine ⟨?_, ?_⟩ <;> first | trivial | assumption | lia
          · refine wp_eq (gR_42_11 (by assumption)) ?_
            refine wp_bindE (aI_48 (by assumption) (by lia) (by lia)) fun x15 E_x15 p_x15 => ?_
            refine wp_eq (gR_42_11 (by assumption)) ?_
            refine wp_bindE (aI_48 (by assumption) (by lia) (by lia)) fun x17 E_x17 p_x17 => ?_
            refine wp_ite (fun c7 => ?_) (fun c7 => ?_)
            · refine wp_mono (ih (by first | lia | assumption | exact Or.inr (by assumption)) (by first | lia | assumption | exact Or.inr (by assumption)) (by first | lia | assumption | exact Or.inr (by assumption)) (mu_up (by lia) (by lia) hm)) fun z8 p_z8 => ?_
              try dsimp only at p_z8
              obtain ⟨p0_z8, p1_z8⟩ := p_z8
              refine ⟨?_, ?_⟩ <;> first | trivial | assumption | lia
            · refine wp_mono (ih (by first | lia | assumption | exact Or.inr (by assumption)) (by first | lia | assumption | exact Or.inr (by assumption)) (by first | lia | assumption | exact Or.inr (by assumption)) (mu_up (by lia) (by lia) hm)) fun z9 p_z9 => ?_
              try dsimp only at p_z9
              obtain ⟨p0_z9, p1_z9⟩ := p_z9
              refine ⟨?_, ?_⟩ <;> first | trivial | assumption | lia
      · refine wp_assoc ?_
        refine wp_eq (gR_42_11 (by assumption)) ?_
        refine wp_assoc ?_
        refine wp_bindE (aI_48 (by assumption) (by lia) (by lia)) fun x10 E_x10 p_x10 => ?_
        refine wp_bite (fun c10 => ?_) (fun c10 => ?_)
        · refine wp_bsome ?_
          refine wp_ite (fun c11 => ?_) (fun c11 => ?_)
          · refine wp_mono (ih (by first | lia | assumption | exact Or.inr (by assumption)) (by first | lia | assumption | exact Or.inr (by assumption)) (by first | lia | assumption | exact Or.inr (by assumption)) (mu_up (by lia) (by lia) hm)) fun z12 p_z12 => ?_
            try dsimp only at p_z12
            obtain ⟨p0_z12, p1_z12⟩ := p_z12
            refine ⟨?_, ?_⟩ <;> first | trivial | assumption | lia
          · refine wp_ite (fun c13 => ?_) (fun c13 => ?_)
            · refine wp_mono (ih (by first | lia | assumption | exact Or.inr (by assumption)) (by first | lia | assumption | exact Or.inr (by assumption)) (by first | lia | assumption | exact Or.inr (by assumption)) (mu_up (by lia) (by lia) hm)) fun z14 p_z14 => ?_
              try dsimp only at p_z14
              obtain ⟨p0_z14, p1_z14⟩ := p_z14
              refine ⟨?_, ?_⟩ <;> first | trivial | assumption | lia
            · refine wp_eq (gR_42_11 (by assumption)) ?_
              refine wp_eq E_x10 ?_
              refine wp_eq (gR_42_11 (by assumption)) ?_
              refine wp_bindE (aI_48 (by assumption) (by lia) (by lia)) fun x17 E_x17 p_x17 => ?_
              refine wp_ite (fun c15 => ?_) (fun c15 => ?_)
              · refine wp_mono (ih (by first | lia | assumption | exact Or.inr (by assumption)) (by first | lia | assumption | exact Or.inr (by assumption)) (by first | lia | assumption | exact Or.inr (by assumption)) (mu_up (by lia) (by lia) hm)) fun z16 p_z16 => ?_
                try dsimp only at p_z16
                obtain ⟨p0_z16, p1_z16⟩ := p_z16
                refine ⟨?_, ?_⟩ <;> first | trivial | assumption | lia
              · refine wp_mono (ih (by first | lia | assumption | exact Or.inr (by assumption)) (by first | lia | assumption | exact Or.inr (by assumption)) (by first | lia | assumption | exact Or.inr (by assumption)) (mu_up (by lia) (by lia) hm)) fun z17 p_z17 => ?_
                try dsimp only at p_z17
                obtain ⟨p0_z17, p1_z17⟩ := p_z17
                refine ⟨?_, ?_⟩ <;> first | trivial | assumption | lia
        · refine wp_bsome ?_
          refine wp_ite (fun c18 => ?_) (fun c18 => ?_)
          · refine wp_mono (ih (by first | lia | assumption | exact Or.inr (by assumption)) (by first | lia | assumption | exact Or.inr (by assumption)) (by first | lia | assumption | exact Or.inr (by assumption)) (mu_up (by lia) (by lia) hm)) fun z19 p_z19 => ?_
            try dsimp only at p_z19
            obtain ⟨p0_z19, p1_z19⟩ := p_z19
            refine ⟨?_, ?_⟩ <;> first | trivial | assumption | lia
          · refine wp_ite (fun c20 => ?_) (fun c20 => ?_)
            · refine wp_mono (ih (by first | lia | assumption | exact Or.inr (by assumption)) (by first | lia | assumption | exact Or.inr (by assumption)) (by first | lia | assumption | exact Or.inr (by assumption)) (mu_up (by lia) (by lia) hm)) fun z21 p_z21 => ?_
              try dsimp only at p_z21
              obtain ⟨p0_z21, p1_z21⟩ := p_z21
              refine ⟨?_, ?_⟩ <;> first | trivial | assumption | lia
            · refine wp_eq (gR_42_11 (by assumption)) ?_
              refine wp_eq E_x10 ?_
              refine wp_eq (gR_42_11 (by assumption)) ?_
              refine wp_bindE (aI_48 (by assumption) (by lia) (by lia)) fun x17 E_x17 p_x17 => ?_
              refine wp_ite (fun c22 => ?_) (fun c22 => ?_)
              · refine wp_mono (ih (by first | lia | assumption | exact Or.inr (by assumption)) (by first | lia | assumption | exact Or.inr (by assumption)) (by first | lia | assumption | exact Or.inr (by assumption)) (mu_up (by lia) (by lia) hm)) fun z23 p_z23 => ?_
                try dsimp only at p_z23
                obtain ⟨p0_z23, p1_z23⟩ := p_z23
                refine ⟨?_, ?_⟩ <;> first | trivial | assumption | lia
              · refine wp_mono (ih (by first | lia | assumption | exact Or.inr (by assumption)) (by first | lia | assumption | exact Or.inr (by assumption)) (by first | lia | assumption | exact Or.inr (by assumption)) (mu_up (by lia) (by lia) hm)) fun z24 p_z24 => ?_
                try dsimp only at p_z24
                obtain ⟨p0_z24, p1_z24⟩ := p_z24
                refine ⟨?_, ?_⟩ <;> first | trivial | assumption | lia
set_option maxRecDepth 100000 in
set_option maxHeartbeats 4000000 in
theorem t_X12_lawIn {v1 : Int32} (w : WT n b L xs τ g h) : wp (f_X12_lawIn 10000 (n + 42) v1 h) (fun r => -1 ≤ r ∧ r < 16) := by
  unfold f_X12_lawIn
  refine wp_bind (t_X12_lawIn_L4 (by assumption) _ (by first | lia | assumption | exact Or.inr (by assumption)) (by first | lia | assumption | exact Or.inr (by assumption)) (by first | lia | assumption | exact Or.inr (by assumption)) (mu_0 (by lia))) fun m19 p_m19 => ?_
  obtain ⟨p0_m19, p1_m19⟩ := p_m19
  refine wp_some ?_
  refine ⟨?_, ?_⟩ <;> first | trivial | assumption | lia
set_option maxRecDepth 100000 in
set_option maxHeartbeats 4000000 in
theorem t_X12_knows {v1 : Int32} {v2 : Int32} (w : WT n b L xs τ g h) (p0 : 0 ≤ v1) (p1 : v1 < g.1 42 27) (p2 : ∀ i : Int32, 0 ≤ i → i < g.1 42 27 → 1 ≤ g.2.1 65 i.toNatClampNeg) (p3 : g.1 42 27 ≤ 40) : wp (f_X12_knows 10000 (n + 42) v1 v2 h) (fun r => WT n b L xs τ g r) := by
  unfold f_X12_knows
  refine wp_eq (gR_42_30 (by assumption)) ?_
  refine wp_bindE (aI_62 (by assumption) (by lia) (by lia)) fun x2 E_x2 p_x2 => ?_
  refine wp_zif (ob_42 (by assumption)) ?_
  refine wp_bind (t_X12_goesThrough (by assumption) (by first | lia | assumption | exact Or.inr (by assumption)) (by first | lia | assumption | exact Or.inr (by assumption)) (by assumption) (by first | lia | assumption | exact Or.inr (by assumption))) fun h4 p_h4 => ?_
  obtain ⟨p0_h4, p1_h4⟩ := p_h4
  refine wp_eq (gR_42_22 (by assumption)) ?_
  refine wp_eq (gR_42_30 (by assumption)) ?_
  refine wp_bindE (aI_62 (by assumption) (by lia) (by lia)) fun x7 E_x7 p_x7 => ?_
  refine wp_bindE (sI_57 (by assumption) (by lia) (by lia)) fun h8 E_h8 p_h8 => ?_
  refine wp_eq (gR_42_22 (by assumption)) ?_
  refine wp_eq (gR_42_33 (by assumption)) ?_
  refine wp_bindE (aI_65 (by assumption) (by lia) (by lia)) fun x11 E_x11 p_x11 => ?_
  refine wp_bindE (sI_57 (by assumption) (by lia) (by lia)) fun h12 E_h12 p_h12 => ?_
  refine wp_eq (gR_42_22 (by assumption)) ?_
  refine wp_zif (ob_42 (by assumption)) ?_
  refine wp_bind (t_X12_seenOf (by assumption)) fun q15 p_q15 => ?_
  refine wp_bindE (sI_57 (by assumption) (by lia) (by lia)) fun h16 E_h16 p_h16 => ?_
  refine wp_eq (gR_42_22 (by assumption)) ?_
  refine wp_bindE (gI_42_43 (by assumption)) fun x18 E_x18 p_x18 => ?_
  refine wp_bind (R := fun r => r = 0 ∨ r = 1) ?_ (fun m19 p_m19 => ?_)
  · refine wp_ite (fun c1 => ?_) (fun c1 => ?_)
    · refine wp_some ?_
      first | trivial | assumption | lia
    · refine wp_some ?_
      first | trivial | assumption | lia
  · refine wp_bindE (sI_57 (by assumption) (by lia) (by lia)) fun h21 E_h21 p_h21 => ?_
    refine wp_eq (gR_42_22 (by assumption)) ?_
    refine wp_eq (gR_42_34 (by assumption)) ?_
    refine wp_bindE (aI_66 (by assumption) (by lia) (by lia)) fun x24 E_x24 p_x24 => ?_
    refine wp_bindE (sI_57 (by assumption) (by lia) (by lia)) fun h25 E_h25 p_h25 => ?_
    refine wp_eq (gR_42_22 (by assumption)) ?_
    refine wp_eq (gR_42_34 (by assumption)) ?_
    refine wp_bindE (aI_66 (by assumption) (by lia) (by lia)) fun x28 E_x28 p_x28 => ?_
    refine wp_bindE (sI_57 (by assumption) (by lia) (by lia)) fun h29 E_h29 p_h29 => ?_
    refine wp_eq (gR_42_22 (by assumption)) ?_
    refine wp_eq (gR_42_37 (by assumption)) ?_
    refine wp_bindE (aI_69 (by assumption) (by lia) (by lia)) fun x32 E_x32 p_x32 => ?_
    refine wp_bindE (sI_57 (by assumption) (by lia) (by lia)) fun h33 E_h33 p_h33 => ?_
    refine wp_eq (gR_42_22 (by assumption)) ?_
    refine wp_eq (gR_42_38 (by assumption)) ?_
    refine wp_bindE (aI_70 (by assumption) (by lia) (by lia)) fun x36 E_x36 p_x36 => ?_
    refine wp_bindE (sI_57 (by assumption) (by lia) (by lia)) fun h37 E_h37 p_h37 => ?_
    refine wp_eq (gR_42_22 (by assumption)) ?_
    refine wp_eq (gR_42_35 (by assumption)) ?_
    refine wp_bindE (aI_67 (by assumption) (by lia) (by lia)) fun x40 E_x40 p_x40 => ?_
    refine wp_bite (fun c2 => ?_) (fun c2 => ?_)
    · refine wp_bsome ?_
      refine wp_bindE (sI_57 (by assumption) (by lia) (by lia)) fun h43 E_h43 p_h43 => ?_
      refine wp_eq (gR_42_22 (by assumption)) ?_
      refine wp_bindE (sI_57 (by assumption) (by lia) (by lia)) fun h45 E_h45 p_h45 => ?_
      refine wp_eq (gR_42_22 (by assumption)) ?_
      refine wp_bindE (sI_57 (by assumption) (by lia) (by lia)) fun h47 E_h47 p_h47 => ?_
      refine wp_some ?_
      first | trivial | assumption | lia
    · refine wp_bsome ?_
      refine wp_bindE (sI_57 (by assumption) (by lia) (by lia)) fun h43 E_h43 p_h43 => ?_
      refine wp_eq (gR_42_22 (by assumption)) ?_
      refine wp_bindE (sI_57 (by assumption) (by lia) (by lia)) fun h45 E_h45 p_h45 => ?_
      refine wp_eq (gR_42_22 (by assumption)) ?_
      refine wp_bindE (sI_57 (by assumption) (by lia) (by lia)) fun h47 E_h47 p_h47 => ?_
      refine wp_some ?_
      first | trivial | assumption | lia
set_option maxRecDepth 100000 in
set_option maxHeartbeats 4000000 in
theorem t_X12_has {v0 : Int32} {v1 : Int32} (w : WT n b L xs τ g h) : wp (f_X12_has 10000 v0 v1 h) (fun r => (r = 0 ∨ r = 1)) := by
  unfold f_X12_has
  refine wp_bite (fun c1 => ?_) (fun c1 => ?_)
  · refine wp_bsome ?_
    refine wp_ite (fun c2 => ?_) (fun c2 => ?_)
    · refine wp_some ?_
      first | trivial | assumption | lia
    · refine wp_some ?_
      first | trivial | assumption | lia
  · refine wp_bsome ?_
    refine wp_ite (fun c3 => ?_) (fun c3 => ?_)
    · refine wp_some ?_
      first | trivial | assumption | lia
    · refine wp_some ?_
      first | trivial | assumption | lia
set_option maxRecDepth 100000 in
set_option maxHeartbeats 4000000 in
theorem t_X12_isSo {v1 : Int32} {v2 : Int32} (w : WT n b L xs τ g h) (p0 : 0 ≤ v1) (p1 : v1 < 128) : wp (f_X12_isSo 10000 (n + 42) v1 v2 h) (fun r => (r = 0 ∨ r = 1)) := by
  unfold f_X12_isSo
  refine wp_eq (gR_42_54 (by assumption)) ?_
  refine wp_bindE (aI_78 (by assumption) (by lia) (by lia)) fun x2 E_x2 p_x2 => ?_
  refine wp_bind (t_X12_has (by assumption)) fun q3 p_q3 => ?_
  refine wp_ite (fun c1 => ?_) (fun c1 => ?_)
  · refine wp_some ?_
    first | trivial | assumption | lia
  · refine wp_eq (gR_42_55 (by assumption)) ?_
    refine wp_bindE (aI_79 (by assumption) (by lia) (by lia)) fun x6 E_x6 p_x6 => ?_
    refine wp_bind (t_X12_has (by assumption)) fun q7 p_q7 => ?_
    refine wp_ite (fun c2 => ?_) (fun c2 => ?_)
    · refine wp_some ?_
      first | trivial | assumption | lia
    · refine wp_some ?_
      first | trivial | assumption | lia
set_option maxRecDepth 100000 in
set_option maxHeartbeats 4000000 in
theorem t_X12_findSigns_L2  (p0 : ∀ i : Int32, 0 ≤ i → i < g.1 42 27 → 1 ≤ g.2.1 65 i.toNatClampNeg) : ∀ (m : Nat) {v1 : Int32} {h : zH}, WT n b L xs τ g h → 0 ≤ v1 → (9000 - v1.toInt).toNat < m → wp (f_X12_findSigns_L2 10000 (n + 42) m v1 h) (fun r => WT n b L xs τ g r) := by
  intro m
  induction m with
  | zero => intro v1 h w i0 hm; exact absurd hm (Nat.not_lt_zero _)
  | succ m ih =>
    intro v1 h w i0 hm
    rw [f_X12_findSigns_L2.eq_2]
    have gm := gr_42_27 w
    refine wp_bindE (gI_42_27 (by assumption)) fun x1 E_x1 p_x1 => ?_
    refine wp_ite (fun c1 => ?_) (fun c1 => ?_)
    · refine wp_some ?_
      first | trivial | assumption | lia
    · refine wp_eq (gR_42_53 (by assumption)) ?_
      refine wp_zif (ob_42 (by assumption)) ?_
      refine wp_bind (t_X12_signsOf (by assumption) (by first | lia | assumption | exact Or.inr (by assumption)) (by first | lia | assumption | exact Or.inr (by assumption)) (by assumption) (by first | lia | assumption | exact Or.inr (by assumption))) fun q5 p_q5 => ?_
      refine wp_bindE (sI_77 (by assumption) (by lia) (by lia)) fun h6 E_h6 p_h6 => ?_
      refine wp_mono (ih (by assumption) (by first | lia | assumption | exact Or.inr (by assumption)) (mu_up (by lia) (by lia) hm)) fun z2 p_z2 => ?_
      try dsimp only at p_z2
      first | trivial | assumption | lia
set_option maxRecDepth 100000 in
set_option maxHeartbeats 4000000 in
theorem t_X12_findSigns (w : WT n b L xs τ g h) (p0 : ∀ i : Int32, 0 ≤ i → i < g.1 42 27 → 1 ≤ g.2.1 65 i.toNatClampNeg) : wp (f_X12_findSigns 10000 (n + 42) h) (fun r => WT n b L xs τ g r) := by
  unfold f_X12_findSigns
  refine wp_bind (t_X12_findSigns_L2 (by assumption) _ (by assumption) (by first | lia | assumption | exact Or.inr (by assumption)) (mu_0 (by lia))) fun m7 p_m7 => ?_
  refine wp_bind (t_X12_findSigns_L31 _ (by assumption) (zN31_is)) fun m20 p_m20 => ?_
  refine wp_some ?_
  first | trivial | assumption | lia
set_option maxRecDepth 100000 in
set_option maxHeartbeats 4000000 in
theorem t_X12_findCustoms_L21 {v1 : Int32} {v3 : Int32}  (p0 : 0 ≤ v3) (p1 : v3 < 128) : ∀ (m : Nat) {v4 : Int32} {h : zH}, WT n b L xs τ g h → 0 ≤ v4 → (9000 - v4.toInt).toNat < m → wp (f_X12_findCustoms_L21 10000 (n + 42) v1 v3 m v4 h) (fun r => WT n b L xs τ g r) := by
  intro m
  induction m with
  | zero => intro v4 h w i0 hm; exact absurd hm (Nat.not_lt_zero _)
  | succ m ih =>
    intro v4 h w i0 hm
    rw [f_X12_findCustoms_L21.eq_2]
    refine wp_bindE (gI_42_49 (by assumption)) fun x4 E_x4 p_x4 => ?_
    refine wp_ite (fun c1 => ?_) (fun c1 => ?_)
    · refine wp_some ?_
      first | trivial | assumption | lia
    · refine wp_eq (gR_42_52 (by assumption)) ?_
      refine wp_bindE (aI_76 (by assumption) (by lia) (by lia)) fun x7 E_x7 p_x7 => ?_
      refine wp_zif (ob_42 (by assumption)) ?_
      refine wp_bind (t_X12_viewYear (by assumption)) fun q9 p_q9 => ?_
      obtain ⟨p0_q9, p1_q9⟩ := p_q9
      refine in12 (fun c2 => ?_) (fun c2 => ?_)
      · refine wp_mono (ih (by assumption) (by first | lia | assumption | exact Or.inr (by assumption)) (mu_up (by lia) (by lia) hm)) fun z3 p_z3 => ?_
        try dsimp only at p_z3
        first | trivial | assumption | lia
      · refine wp_eq (gR_42_53 (by assumption)) ?_
        refine wp_eq (gR_42_50 (by assumption)) ?_
        refine wp_bindE (aI_74 (by assumption) (by lia) (by lia)) fun x13 E_x13 p_x13 => ?_
        refine wp_bindE (aI_77 (by assumption) (by lia) (by lia)) fun x14 E_x14 p_x14 => ?_
        refine wp_zif (ob_42 (by assumption)) ?_
        refine wp_bind (t_X12_isSo (by assumption) (by first | lia | assumption | exact Or.inr (by assumption)) (by first | lia | assumption | exact Or.inr (by assumption))) fun q16 p_q16 => ?_
        refine wp_eq (gR_42_51 (by assumption)) ?_
        refine wp_bindE (aZ_75 (by assumption) (by lia) (by lia)) fun x18 E_x18 p_x18 => ?_
        refine wp_ite (fun c4 => ?_) (fun c4 => ?_)
        · refine wp_mono (ih (by assumption) (by first | lia | assumption | exact Or.inr (by assumption)) (mu_up (by lia) (by lia) hm)) fun z5 p_z5 => ?_
          try dsimp only at p_z5
          first | trivial | assumption | lia
        · refine wp_eq (gR_42_56 (by assumption)) ?_
          refine wp_bindE (sZ_80 (by assumption) (by lia) (by lia) (by lia)) fun h21 E_h21 p_h21 => ?_
          refine wp_mono (ih (by assumption) (by first | lia | assumption | exact Or.inr (by assumption)) (mu_up (by lia) (by lia) hm)) fun z6 p_z6 => ?_
          try dsimp only at p_z6
          first | trivial | assumption | lia
set_option maxRecDepth 100000 in
set_option maxHeartbeats 4000000 in
theorem t_X12_findCustoms_L4 {v1 : Int32}  : ∀ (m : Nat) {v2 : Int32} {v3 : Int32} {h : zH}, WT n b L xs τ g h → 0 ≤ v3 → (9000 - v3.toInt).toNat < m → wp (f_X12_findCustoms_L4 10000 (n + 42) v1 m v2 v3 h) (fun r => WT n b L xs τ g r.2) := by
  intro m
  induction m with
  | zero => intro v2 v3 h w i0 hm; exact absurd hm (Nat.not_lt_zero _)
  | succ m ih =>
    intro v2 v3 h w i0 hm
    rw [f_X12_findCustoms_L4.eq_2]
    refine wp_ite (fun c1 => ?_) (fun c1 => ?_)
    · refine wp_some ?_
      first | trivial | assumption | lia
    · refine wp_eq (gR_42_56 (by assumption)) ?_
      refine wp_bindE (sZ_80 (by assumption) (by lia) (by lia) (by lia)) fun h3 E_h3 p_h3 => ?_
      refine wp_bind (t_X12_findCustoms_L21 (by first | lia | assumption | exact Or.inr (by assumption)) (by first | lia | assumption | exact Or.inr (by assumption)) _ (by assumption) (by first | lia | assumption | exact Or.inr (by assumption)) (mu_0 (by lia))) fun m22 p_m22 => ?_
      refine wp_eq (gR_42_56 (by assumption)) ?_
      refine wp_bindE (aZ_80 (by assumption) (by lia) (by lia)) fun x24 E_x24 p_x24 => ?_
      refine wp_ite (fun c2 => ?_) (fun c2 => ?_)
      · refine wp_zletE fun x26 e_x26 => ?_
        refine wp_mono (ih (by assumption) (by first | lia | assumption | exact Or.inr (by assumption)) (mu_up (by lia) (by lia) hm)) fun z3 p_z3 => ?_
        try dsimp only at p_z3
        first | trivial | assumption | lia
      · refine wp_zletE fun x27 e_x27 => ?_
        refine wp_mono (ih (by assumption) (by first | lia | assumption | exact Or.inr (by assumption)) (mu_up (by lia) (by lia) hm)) fun z4 p_z4 => ?_
        try dsimp only at p_z4
        first | trivial | assumption | lia
set_option maxRecDepth 100000 in
set_option maxHeartbeats 4000000 in
theorem t_X12_findCustoms {v1 : Int32} (w : WT n b L xs τ g h) : wp (f_X12_findCustoms 10000 (n + 42) v1 h) (fun r => WT n b L xs τ g r.2) := by
  unfold f_X12_findCustoms
  refine wp_bind (t_X12_findCustoms_L4 _ (by assumption) (by first | lia | assumption | exact Or.inr (by assumption)) (mu_0 (by lia))) fun m28 p_m28 => ?_
  refine wp_some ?_
  first | trivial | assumption | lia
set_option maxRecDepth 100000 in
set_option maxHeartbeats 4000000 in
theorem t_X12_customs {v1 : Int32} (w : WT n b L xs τ g h) (p0 : ∀ i : Int32, 0 ≤ i → i < g.1 42 27 → 1 ≤ g.2.1 65 i.toNatClampNeg) : wp (f_X12_customs 10000 (n + 42) v1 h) (fun r => WT n b L xs τ g r.2) := by
  unfold f_X12_customs
  refine wp_bindE (pI_42_0 (by assumption)) fun h1 E_h1 p_h1 => ?_
  refine wp_bind (t_X12_isYear (by assumption)) fun q2 p_q2 => ?_
  refine wp_ite (fun c1 => ?_) (fun c1 => ?_)
  · refine wp_some ?_
    first | trivial | assumption | lia
  · refine wp_zif (ob_42 (by assumption)) ?_
    refine wp_bind (t_X12_findSigns (by assumption) (by assumption)) fun h5 p_h5 => ?_
    refine wp_zif (ob_42 (by assumption)) ?_
    refine wp_bind (t_X12_findCustoms (by assumption)) fun q7 p_q7 => ?_
    refine wp_some ?_
    first | trivial | assumption | lia
set_option maxRecDepth 100000 in
set_option maxHeartbeats 4000000 in
theorem t_X12_held_L44 {v1 : Int32} (w : WT n b L xs τ g h) (p0 : 0 ≤ v1) (p1 : v1 < 40) : ∀ (m : Nat) {v3 : Int32} {v4 : Int32} {v5 : Int32}, 0 ≤ v5 → (9000 - v5.toInt).toNat < m → wp (f_X12_held_L44 10000 (n + 42) v1 h m v3 v4 v5) (fun r => True) := by
  intro m
  induction m with
  | zero => intro v3 v4 v5 i0 hm; exact absurd hm (Nat.not_lt_zero _)
  | succ m ih =>
    intro v3 v4 v5 i0 hm
    rw [f_X12_held_L44.eq_2]
    refine wp_ite (fun c1 => ?_) (fun c1 => ?_)
    · refine wp_some ?_
      first | trivial | assumption | lia
    · refine wp_eq (gR_42_56 (by assumption)) ?_
      refine wp_bindE (aZ_80 (by assumption) (by lia) (by lia)) fun x14 E_x14 p_x14 => ?_
      refine wp_ite (fun c2 => ?_) (fun c2 => ?_)
      · refine wp_mono (ih (by first | lia | assumption | exact Or.inr (by assumption)) (mu_up (by lia) (by lia) hm)) fun z3 p_z3 => ?_
        try dsimp only at p_z3
        first | trivial | assumption | lia
      · refine wp_bite (fun c4 => ?_) (fun c4 => ?_)
        · refine wp_bsome ?_
          refine wp_ite (fun c5 => ?_) (fun c5 => ?_)
          · refine wp_eq (gR_42_53 (by assumption)) ?_
            refine wp_bindE (aI_77 (by assumption) (by lia) (by lia)) fun x25 E_x25 p_x25 => ?_
            refine wp_zif (ob_42 (by assumption)) ?_
            refine wp_bind (t_X12_isSo (by assumption) (by first | lia | assumption | exact Or.inr (by assumption)) (by first | lia | assumption | exact Or.inr (by assumption))) fun q27 p_q27 => ?_
            refine wp_ite (fun c6 => ?_) (fun c6 => ?_)
            · refine wp_mono (ih (by first | lia | assumption | exact Or.inr (by assumption)) (mu_up (by lia) (by lia) hm)) fun z7 p_z7 => ?_
              try dsimp only at p_z7
              first | trivial | assumption | lia
            · refine wp_mono (ih (by first | lia | assumption | exact Or.inr (by assumption)) (mu_up (by lia) (by lia) hm)) fun z8 p_z8 => ?_
              try dsimp only at p_z8
              first | trivial | assumption | lia
          · refine wp_mono (ih (by first | lia | assumption | exact Or.inr (by assumption)) (mu_up (by lia) (by lia) hm)) fun z9 p_z9 => ?_
            try dsimp only at p_z9
            first | trivial | assumption | lia
        · refine wp_assoc ?_
          refine wp_eq (gR_42_53 (by assumption)) ?_
          refine wp_assoc ?_
          refine wp_bindE (aI_77 (by assumption) (by lia) (by lia)) fun x19 E_x19 p_x19 => ?_
          refine wp_bzif (ob_42 (by assumption)) ?_
          refine wp_assoc ?_
          refine wp_bind (t_X12_isSo (by assumption) (by first | lia | assumption | exact Or.inr (by assumption)) (by first | lia | assumption | exact Or.inr (by assumption))) fun q21 p_q21 => ?_
          refine wp_bite (fun c10 => ?_) (fun c10 => ?_)
          · refine wp_bsome ?_
            refine wp_ite (fun c11 => ?_) (fun c11 => ?_)
            · refine wp_eq (gR_42_53 (by assumption)) ?_
              refine wp_eq E_x19 ?_
              refine wp_zif (ob_42 (by assumption)) ?_
              refine wp_bind (t_X12_isSo (by assumption) (by first | lia | assumption | exact Or.inr (by assumption)) (by first | lia | assumption | exact Or.inr (by assumption))) fun q27 p_q27 => ?_
              refine wp_ite (fun c12 => ?_) (fun c12 => ?_)
              · refine wp_mono (ih (by first | lia | assumption | exact Or.inr (by assumption)) (mu_up (by lia) (by lia) hm)) fun z13 p_z13 => ?_
                try dsimp only at p_z13
                first | trivial | assumption | lia
              · refine wp_mono (ih (by first | lia | assumption | exact Or.inr (by assumption)) (mu_up (by lia) (by lia) hm)) fun z14 p_z14 => ?_
                try dsimp only at p_z14
                first | trivial | assumption | lia
            · refine wp_mono (ih (by first | lia | assumption | exact Or.inr (by assumption)) (mu_up (by lia) (by lia) hm)) fun z15 p_z15 => ?_
              try dsimp only at p_z15
              first | trivial | assumption | lia
          · refine wp_bsome ?_
            refine wp_ite (fun c16 => ?_) (fun c16 => ?_)
            · refine wp_eq (gR_42_53 (by assumption)) ?_
              refine wp_eq E_x19 ?_
              refine wp_zif (ob_42 (by assumption)) ?_
              refine wp_bind (t_X12_isSo (by assumption) (by first | lia | assumption | exact Or.inr (by assumption)) (by first | lia | assumption | exact Or.inr (by assumption))) fun q27 p_q27 => ?_
              refine wp_ite (fun c17 => ?_) (fun c17 => ?_)
              · refine wp_mono (ih (by first | lia | assumption | exact Or.inr (by assumption)) (mu_up (by lia) (by lia) hm)) fun z18 p_z18 => ?_
                try dsimp only at p_z18
                first | trivial | assumption | lia
              · refine wp_mono (ih (by first | lia | assumption | exact Or.inr (by assumption)) (mu_up (by lia) (by lia) hm)) fun z19 p_z19 => ?_
                try dsimp only at p_z19
                first | trivial | assumption | lia
            · refine wp_mono (ih (by first | lia | assumption | exact Or.inr (by assumption)) (mu_up (by lia) (by lia) hm)) fun z20 p_z20 => ?_
              try dsimp only at p_z20
              first | trivial | assumption | lia
set_option maxRecDepth 100000 in
set_option maxHeartbeats 4000000 in
theorem t_X12_held {v1 : Int32} {v2 : Int32} (w : WT n b L xs τ g h) (p0 : ∀ i : Int32, 0 ≤ i → i < g.1 42 27 → 1 ≤ g.2.1 65 i.toNatClampNeg) : wp (f_X12_held 10000 (n + 42) v1 v2 h) (fun r => (r.1 = (-1) ∨ r.1 = 0 ∨ r.1 = 1 ∨ r.1 = 2) ∧ WT n b L xs τ g r.2) := by
  unfold f_X12_held
  have gm := gr_42_27 w
  refine wp_bindE (pI_42_0 (by assumption)) fun h1 E_h1 p_h1 => ?_
  refine wp_zif (ob_42 (by assumption)) ?_
  refine wp_bind (t_X12_isMeeting (by assumption)) fun q3 p_q3 => ?_
  refine wp_ite (fun c1 => ?_) (fun c1 => ?_)
  · refine wp_some ?_
    refine ⟨?_, ?_⟩ <;> first | trivial | assumption | lia
  · refine wp_bind (t_X12_isYear (by assumption)) fun q5 p_q5 => ?_
    refine wp_ite (fun c2 => ?_) (fun c2 => ?_)
    · refine wp_some ?_
      refine ⟨?_, ?_⟩ <;> first | trivial | assumption | lia
    · refine wp_zif (ob_42 (by assumption)) ?_
      refine wp_bind (t_X12_findSigns (by assumption) (by assumption)) fun h8 p_h8 => ?_
      refine wp_zif (ob_42 (by assumption)) ?_
      refine wp_bind (t_X12_findCustoms (by assumption)) fun q10 p_q10 => ?_
      refine wp_ite (fun c3 => ?_) (fun c3 => ?_)
      · refine wp_some ?_
        refine ⟨?_, ?_⟩ <;> first | trivial | assumption | lia
      · refine wp_bind (t_X12_held_L44 (by assumption) (by first | lia | assumption | exact Or.inr (by assumption)) (by first | lia | assumption | exact Or.inr (by assumption)) _ (by first | lia | assumption | exact Or.inr (by assumption)) (mu_0 (by lia))) fun m29 p_m29 => ?_
        refine wp_ite (fun c4 => ?_) (fun c4 => ?_)
        · refine wp_ite (fun c5 => ?_) (fun c5 => ?_)
          · refine wp_some ?_
            refine ⟨?_, ?_⟩ <;> first | trivial | assumption | lia
          · refine wp_some ?_
            refine ⟨?_, ?_⟩ <;> first | trivial | assumption | lia
        · refine wp_some ?_
          refine ⟨?_, ?_⟩ <;> first | trivial | assumption | lia
set_option maxRecDepth 100000 in
set_option maxHeartbeats 4000000 in
theorem t_X12_since_L36 {v2 : Int32} (w : WT n b L xs τ g h) : ∀ (m : Nat) {v3 : Int32} {v4 : Int32}, 0 ≤ v4 → (9000 - v4.toInt).toNat < m → wp (f_X12_since_L36 10000 (n + 42) v2 h m v3 v4) (fun r => True) := by
  intro m
  induction m with
  | zero => intro v3 v4 i0 hm; exact absurd hm (Nat.not_lt_zero _)
  | succ m ih =>
    intro v3 v4 i0 hm
    rw [f_X12_since_L36.eq_2]
    refine wp_bindE (gI_42_49 (by assumption)) fun x8 E_x8 p_x8 => ?_
    refine wp_ite (fun c1 => ?_) (fun c1 => ?_)
    · refine wp_some ?_
      first | trivial | assumption | lia
    · refine wp_ite (fun c2 => ?_) (fun c2 => ?_)
      · refine wp_eq (gR_42_52 (by assumption)) ?_
        refine wp_bindE (aI_76 (by assumption) (by lia) (by lia)) fun x12 E_x12 p_x12 => ?_
        refine wp_zif (ob_42 (by assumption)) ?_
        refine wp_bind (t_X12_viewYear (by assumption)) fun q14 p_q14 => ?_
        obtain ⟨p0_q14, p1_q14⟩ := p_q14
        refine in12 (fun c3 => ?_) (fun c3 => ?_)
        · refine wp_mono (ih (by first | lia | assumption | exact Or.inr (by assumption)) (mu_up (by lia) (by lia) hm)) fun z4 p_z4 => ?_
          try dsimp only at p_z4
          first | trivial | assumption | lia
        · refine wp_mono (ih (by first | lia | assumption | exact Or.inr (by assumption)) (mu_up (by lia) (by lia) hm)) fun z5 p_z5 => ?_
          try dsimp only at p_z5
          first | trivial | assumption | lia
      · refine wp_mono (ih (by first | lia | assumption | exact Or.inr (by assumption)) (mu_up (by lia) (by lia) hm)) fun z6 p_z6 => ?_
        try dsimp only at p_z6
        first | trivial | assumption | lia
set_option maxRecDepth 100000 in
set_option maxHeartbeats 4000000 in
theorem t_X12_since_L101 {v1 : Int32} (w : WT n b L xs τ g h) : ∀ (m : Nat) {v4 : Int32} {v5 : Int32}, 0 ≤ v5 → (9000 - v5.toInt).toNat < m → wp (f_X12_since_L101 10000 (n + 42) v1 h m v4 v5) (fun r => True) := by
  intro m
  induction m with
  | zero => intro v4 v5 i0 hm; exact absurd hm (Nat.not_lt_zero _)
  | succ m ih =>
    intro v4 v5 i0 hm
    rw [f_X12_since_L101.eq_2]
    refine wp_ite (fun c1 => ?_) (fun c1 => ?_)
    · refine wp_some ?_
      first | trivial | assumption | lia
    · refine wp_ite (fun c2 => ?_) (fun c2 => ?_)
      · refine wp_some ?_
        first | trivial | assumption | lia
      · refine wp_eq (gR_42_56 (by assumption)) ?_
        refine wp_bindE (aZ_80 (by assumption) (by lia) (by lia)) fun x25 E_x25 p_x25 => ?_
        refine wp_ite (fun c3 => ?_) (fun c3 => ?_)
        · refine wp_mono (ih (by first | lia | assumption | exact Or.inr (by assumption)) (mu_up (by lia) (by lia) hm)) fun z4 p_z4 => ?_
          try dsimp only at p_z4
          first | trivial | assumption | lia
        · refine wp_eq (gR_42_54 (by assumption)) ?_
          refine wp_bindE (aI_78 (by assumption) (by lia) (by lia)) fun x28 E_x28 p_x28 => ?_
          refine wp_ite (fun c5 => ?_) (fun c5 => ?_)
          · refine wp_mono (ih (by first | lia | assumption | exact Or.inr (by assumption)) (mu_up (by lia) (by lia) hm)) fun z6 p_z6 => ?_
            try dsimp only at p_z6
            first | trivial | assumption | lia
          · refine wp_eq (gR_42_55 (by assumption)) ?_
            refine wp_bindE (aI_79 (by assumption) (by lia) (by lia)) fun x31 E_x31 p_x31 => ?_
            refine wp_ite (fun c7 => ?_) (fun c7 => ?_)
            · refine wp_mono (ih (by first | lia | assumption | exact Or.inr (by assumption)) (mu_up (by lia) (by lia) hm)) fun z8 p_z8 => ?_
              try dsimp only at p_z8
              first | trivial | assumption | lia
            · refine wp_mono (ih (by first | lia | assumption | exact Or.inr (by assumption)) (mu_up (by lia) (by lia) hm)) fun z9 p_z9 => ?_
              try dsimp only at p_z9
              first | trivial | assumption | lia
set_option maxRecDepth 100000 in
set_option maxHeartbeats 4000000 in
theorem t_X12_since_L23 {v1 : Int32}  : ∀ (m : Nat) {v2 : Int32} {h : zH}, WT n b L xs τ g h → 0 ≤ v2 → (9000 - v2.toInt).toNat < m → wp (f_X12_since_L23 10000 (n + 42) v1 m v2 h) (fun r => (match r with | .inl a => WT n b L xs τ g a | .inr a => WT n b L xs τ g a.2)) := by
  intro m
  induction m with
  | zero => intro v2 h w i0 hm; exact absurd hm (Nat.not_lt_zero _)
  | succ m ih =>
    intro v2 h w i0 hm
    rw [f_X12_since_L23.eq_2]
    refine wp_zif (ob_42 (by assumption)) ?_
    refine wp_bind (t_X12_viewYear (by assumption)) fun q6 p_q6 => ?_
    obtain ⟨p0_q6, p1_q6⟩ := p_q6
    refine wp_ite (fun c1 => ?_) (fun c1 => ?_)
    · refine wp_some ?_
      first | trivial | assumption | lia | (refine ⟨?_, ?_⟩ <;> first | trivial | assumption | lia)
    · refine wp_bind (t_X12_since_L36 (by assumption) _ (by first | lia | assumption | exact Or.inr (by assumption)) (mu_0 (by lia))) fun m16 p_m16 => ?_
      refine wp_bite (fun c2 => ?_) (fun c2 => ?_)
      · refine wp_bsome ?_
        try dsimp only
        refine wp_bind (t_X12_since_L101 (by assumption) _ (by first | lia | assumption | exact Or.inr (by assumption)) (mu_0 (by lia))) fun m33 p_m33 => ?_
        refine wp_ite (fun c3 => ?_) (fun c3 => ?_)
        · refine wp_mono (ih (by assumption) (by first | lia | assumption | exact Or.inr (by assumption)) (mu_up (by lia) (by lia) hm)) fun z4 p_z4 => ?_
          try dsimp only at p_z4
          first | trivial | assumption | lia | (refine ⟨?_, ?_⟩ <;> first | trivial | assumption | lia)
        · refine wp_some ?_
          first | trivial | assumption | lia | (refine ⟨?_, ?_⟩ <;> first | trivial | assumption | lia)
      · refine wp_bzif (ob_42 (by assumption)) ?_
        refine wp_assoc ?_
        refine wp_bind (t_X12_findCustoms (by assumption)) fun q20 p_q20 => ?_
        refine wp_bite (fun c5 => ?_) (fun c5 => ?_)
        · refine wp_bsome ?_
          try dsimp only
          refine wp_bind (t_X12_since_L101 (by assumption) _ (by first | lia | assumption | exact Or.inr (by assumption)) (mu_0 (by lia))) fun m33 p_m33 => ?_
          refine wp_ite (fun c6 => ?_) (fun c6 => ?_)
          · refine wp_mono (ih (by assumption) (by first | lia | assumption | exact Or.inr (by assumption)) (mu_up (by lia) (by lia) hm)) fun z7 p_z7 => ?_
            try dsimp only at p_z7
            first | trivial | assumption | lia | (refine ⟨?_, ?_⟩ <;> first | trivial | assumption | lia)
          · refine wp_some ?_
            first | trivial | assumption | lia | (refine ⟨?_, ?_⟩ <;> first | trivial | assumption | lia)
        · refine wp_bsome ?_
          try dsimp only
          refine wp_bind (t_X12_since_L101 (by assumption) _ (by first | lia | assumption | exact Or.inr (by assumption)) (mu_0 (by lia))) fun m33 p_m33 => ?_
          refine wp_ite (fun c8 => ?_) (fun c8 => ?_)
          · refine wp_mono (ih (by assumption) (by first | lia | assumption | exact Or.inr (by assumption)) (mu_up (by lia) (by lia) hm)) fun z9 p_z9 => ?_
            try dsimp only at p_z9
            first | trivial | assumption | lia | (refine ⟨?_, ?_⟩ <;> first | trivial | assumption | lia)
          · refine wp_some ?_
            first | trivial | assumption | lia | (refine ⟨?_, ?_⟩ <;> first | trivial | assumption | lia)
set_option maxRecDepth 100000 in
set_option maxHeartbeats 4000000 in
theorem t_X12_since {v1 : Int32} (w : WT n b L xs τ g h) (p0 : ∀ i : Int32, 0 ≤ i → i < g.1 42 27 → 1 ≤ g.2.1 65 i.toNatClampNeg) : wp (f_X12_since 10000 (n + 42) v1 h) (fun r => WT n b L xs τ g r.2) := by
  unfold f_X12_since
  refine wp_bindE (pI_42_0 (by assumption)) fun h1 E_h1 p_h1 => ?_
  refine in12 (fun c1 => ?_) (fun c1 => ?_)
  · refine wp_some ?_
    first | trivial | assumption | lia
  · refine wp_zif (ob_42 (by assumption)) ?_
    refine wp_bind (t_X12_findSigns (by assumption) (by assumption)) fun h4 p_h4 => ?_
    refine wp_bind (t_X12_since_L23 _ (by assumption) (by first | lia | assumption | exact Or.inr (by assumption)) (mu_0 (by lia))) fun m35 p_m35 => ?_
    rcases m35 with s36 | y2
    · refine wp_zsL ?_
      refine wp_some ?_
      first | trivial | assumption | lia
    · refine wp_zsR ?_
      first | trivial | assumption | lia
set_option maxRecDepth 100000 in
set_option maxHeartbeats 4000000 in
theorem t_X12_isStreamNumber {v0 : Int32} (w : WT n b L xs τ g h) : wp (f_X12_isStreamNumber 10000 v0 h) (fun r => ((r = 0 ∧ ¬ (0 ≤ v0 ∧ v0 ≤ 3)) ∨ (r = 1 ∧ 0 ≤ v0 ∧ v0 ≤ 3))) := by
  unfold f_X12_isStreamNumber
  refine wp_rZ0w (fun c => ?_) (fun c => ?_)
  · first | trivial | assumption | lia
  · first | trivial | assumption | lia
set_option maxRecDepth 100000 in
set_option maxHeartbeats 4000000 in
theorem t_X12_votes_L20 {v1 : Int32} {v4 : Int32} (w : WT n b L xs τ g h) (p0 : 0 ≤ v4) (p1 : v4 < 8) : ∀ (m : Nat) {v5 : Int32} {v6 : Int32}, 0 ≤ v6 → (9000 - v6.toInt).toNat < m → wp (f_X12_votes_L20 10000 (n + 42) v1 v4 h m v5 v6) (fun r => True) := by
  intro m
  induction m with
  | zero => intro v5 v6 i0 hm; exact absurd hm (Nat.not_lt_zero _)
  | succ m ih =>
    intro v5 v6 i0 hm
    rw [f_X12_votes_L20.eq_2]
    refine wp_ite (fun c1 => ?_) (fun c1 => ?_)
    · refine wp_some ?_
      first | trivial | assumption | lia
    · refine wp_ite (fun c2 => ?_) (fun c2 => ?_)
      · refine wp_eq (gR_42_69 (by assumption)) ?_
        refine wp_bindE (aI_89 (by assumption) (by lia) (by lia)) fun x7 E_x7 p_x7 => ?_
        refine wp_zletE fun x8 e_x8 => ?_
        refine wp_mono (ih (by first | lia | assumption | exact Or.inr (by assumption)) (mu_up (by lia) (by lia) hm)) fun z3 p_z3 => ?_
        try dsimp only at p_z3
        first | trivial | assumption | lia
      · refine wp_zletE fun x5 e_x5 => ?_
        refine wp_mono (ih (by first | lia | assumption | exact Or.inr (by assumption)) (mu_up (by lia) (by lia) hm)) fun z4 p_z4 => ?_
        try dsimp only at p_z4
        first | trivial | assumption | lia
set_option maxRecDepth 100000 in
set_option maxHeartbeats 4000000 in
theorem t_X12_votes_L5 {v1 : Int32} {v2 : Int32} (w : WT n b L xs τ g h) : ∀ (m : Nat) {v3 : Int32} {v4 : Int32}, 0 ≤ v4 → (9000 - v4.toInt).toNat < m → wp (f_X12_votes_L5 10000 (n + 42) v1 v2 h m v3 v4) (fun r => True) := by
  intro m
  induction m with
  | zero => intro v3 v4 i0 hm; exact absurd hm (Nat.not_lt_zero _)
  | succ m ih =>
    intro v3 v4 i0 hm
    rw [f_X12_votes_L5.eq_2]
    refine wp_bindE (gI_42_67 (by assumption)) fun x1 E_x1 p_x1 => ?_
    refine wp_ite (fun c1 => ?_) (fun c1 => ?_)
    · refine wp_some ?_
      first | trivial | assumption | lia
    · refine wp_bind (t_X12_votes_L20 (by assumption) (by first | lia | assumption | exact Or.inr (by assumption)) (by first | lia | assumption | exact Or.inr (by assumption)) _ (by first | lia | assumption | exact Or.inr (by assumption)) (mu_0 (by lia))) fun m9 p_m9 => ?_
      refine wp_bite (fun c2 => ?_) (fun c2 => ?_)
      · refine wp_bsome ?_
        refine wp_ite (fun c3 => ?_) (fun c3 => ?_)
        · refine wp_eq (gR_42_68 (by assumption)) ?_
          refine wp_bindE (aI_88 (by assumption) (by lia) (by lia)) fun x15 E_x15 p_x15 => ?_
          refine wp_zletE fun x16 e_x16 => ?_
          refine wp_mono (ih (by first | lia | assumption | exact Or.inr (by assumption)) (mu_up (by lia) (by lia) hm)) fun z4 p_z4 => ?_
          try dsimp only at p_z4
          first | trivial | assumption | lia
        · refine wp_zletE fun x13 e_x13 => ?_
          refine wp_mono (ih (by first | lia | assumption | exact Or.inr (by assumption)) (mu_up (by lia) (by lia) hm)) fun z5 p_z5 => ?_
          try dsimp only at p_z5
          first | trivial | assumption | lia
      · refine wp_bsome ?_
        refine wp_ite (fun c6 => ?_) (fun c6 => ?_)
        · refine wp_eq (gR_42_68 (by assumption)) ?_
          refine wp_bindE (aI_88 (by assumption) (by lia) (by lia)) fun x15 E_x15 p_x15 => ?_
          refine wp_zletE fun x16 e_x16 => ?_
          refine wp_mono (ih (by first | lia | assumption | exact Or.inr (by assumption)) (mu_up (by lia) (by lia) hm)) fun z7 p_z7 => ?_
          try dsimp only at p_z7
          first | trivial | assumption | lia
        · refine wp_zletE fun x13 e_x13 => ?_
          refine wp_mono (ih (by first | lia | assumption | exact Or.inr (by assumption)) (mu_up (by lia) (by lia) hm)) fun z8 p_z8 => ?_
          try dsimp only at p_z8
          first | trivial | assumption | lia
set_option maxRecDepth 100000 in
set_option maxHeartbeats 4000000 in
theorem t_X12_votes {v1 : Int32} {v2 : Int32} (w : WT n b L xs τ g h) : wp (f_X12_votes 10000 (n + 42) v1 v2 h) (fun r => True) := by
  unfold f_X12_votes
  refine wp_bind (t_X12_votes_L5 (by assumption) _ (by first | lia | assumption | exact Or.inr (by assumption)) (mu_0 (by lia))) fun m17 p_m17 => ?_
  refine wp_some ?_
  first | trivial | assumption | lia
set_option maxRecDepth 100000 in
set_option maxHeartbeats 4000000 in
theorem t_X12_isPassed {v1 : Int32} (w : WT n b L xs τ g h) : wp (f_X12_isPassed 10000 (n + 42) v1 h) (fun r => (r = 0 ∨ r = 1)) := by
  unfold f_X12_isPassed
  refine wp_zif (ob_42 (by assumption)) ?_
  refine wp_bind (t_X12_votes (by assumption)) fun q2 p_q2 => ?_
  refine wp_zif (ob_42 (by assumption)) ?_
  refine wp_bind (t_X12_votes (by assumption)) fun q4 p_q4 => ?_
  refine wp_ite (fun c1 => ?_) (fun c1 => ?_)
  · refine wp_some ?_
    first | trivial | assumption | lia
  · refine wp_some ?_
    first | trivial | assumption | lia
set_option maxRecDepth 100000 in
set_option maxHeartbeats 4000000 in
theorem t_X12_isClauses {v0 : Int32} (w : WT n b L xs τ g h) : wp (f_X12_isClauses 10000 v0 h) (fun r => ((r = 0 ∧ ¬ (0 ≤ v0 ∧ v0 ≤ 511)) ∨ (r = 1 ∧ 0 ≤ v0 ∧ v0 ≤ 511))) := by
  unfold f_X12_isClauses
  refine wp_rZ0w (fun c => ?_) (fun c => ?_)
  · first | trivial | assumption | lia
  · first | trivial | assumption | lia
set_option maxRecDepth 100000 in
set_option maxHeartbeats 4000000 in
theorem t_X12_passes {v1 : Int32} (w : WT n b L xs τ g h) : wp (f_X12_passes 10000 (n + 42) v1 h) (fun r => (r.1 = (-1) ∨ r.1 = 0 ∨ r.1 = 1) ∧ WT n b L xs τ g r.2) := by
  unfold f_X12_passes
  refine wp_bindE (pI_42_0 (by assumption)) fun h1 E_h1 p_h1 => ?_
  refine wp_bind (t_X12_isClauses (by assumption)) fun q2 p_q2 => ?_
  refine wp_ite (fun c1 => ?_) (fun c1 => ?_)
  · refine wp_some ?_
    refine ⟨?_, ?_⟩ <;> first | trivial | assumption | lia
  · refine wp_zif (ob_42 (by assumption)) ?_
    refine wp_bind (t_X12_isPassed (by assumption)) fun q5 p_q5 => ?_
    refine wp_ite (fun c2 => ?_) (fun c2 => ?_)
    · refine wp_some ?_
      refine ⟨?_, ?_⟩ <;> first | trivial | assumption | lia
    · refine wp_some ?_
      refine ⟨?_, ?_⟩ <;> first | trivial | assumption | lia
set_option maxRecDepth 100000 in
set_option maxHeartbeats 4000000 in
theorem t_X12_bits_L4 {v0 : Int32} (w : WT n b L xs τ g h) : ∀ (m : Nat) {v1 : Int32} {v2 : Int32}, 0 ≤ v2 → (9000 - v2.toInt).toNat < m → wp (f_X12_bits_L4 10000 v0 h m v1 v2) (fun r => True) := by
  intro m
  induction m with
  | zero => intro v1 v2 i0 hm; exact absurd hm (Nat.not_lt_zero _)
  | succ m ih =>
    intro v1 v2 i0 hm
    rw [f_X12_bits_L4.eq_2]
    refine wp_ite (fun c1 => ?_) (fun c1 => ?_)
    · refine wp_some ?_
      first | trivial | assumption | lia
    · refine wp_zletE fun x2 e_x2 => ?_
      refine wp_mono (ih (by first | lia | assumption | exact Or.inr (by assumption)) (mu_up (by lia) (by lia) hm)) fun z2 p_z2 => ?_
      try dsimp only at p_z2
      first | trivial | assumption | lia
set_option maxRecDepth 100000 in
set_option maxHeartbeats 4000000 in
theorem t_X12_bits {v0 : Int32} (w : WT n b L xs τ g h) : wp (f_X12_bits 10000 v0 h) (fun r => True) := by
  unfold f_X12_bits
  refine wp_bind (t_X12_bits_L4 (by assumption) _ (by first | lia | assumption | exact Or.inr (by assumption)) (mu_0 (by lia))) fun m3 p_m3 => ?_
  refine wp_some ?_
  first | trivial | assumption | lia
set_option maxRecDepth 100000 in
set_option maxHeartbeats 4000000 in
theorem t_X12_most_L18 {v1 : Int32} (w : WT n b L xs τ g h) (p0 : v1 ≤ 511) : ∀ (m : Nat) {v2 : Int32} {v3 : Int32}, 0 ≤ v3 → (9000 - v3.toInt).toNat < m → wp (f_X12_most_L18 10000 (n + 42) v1 h m v2 v3) (fun r => True) := by
  intro m
  induction m with
  | zero => intro v2 v3 i0 hm; exact absurd hm (Nat.not_lt_zero _)
  | succ m ih =>
    intro v2 v3 i0 hm
    rw [f_X12_most_L18.eq_2]
    refine wp_ite (fun c1 => ?_) (fun c1 => ?_)
    · refine wp_some ?_
      first | trivial | assumption | lia
    · refine wp_ite (fun c2 => ?_) (fun c2 => ?_)
      · refine wp_zif (ob_42 (by assumption)) ?_
        refine wp_bind (t_X12_isPassed (by assumption)) fun q7 p_q7 => ?_
        refine wp_ite (fun c3 => ?_) (fun c3 => ?_)
        · refine wp_mono (ih (by first | lia | assumption | exact Or.inr (by assumption)) (mu_up (by lia) (by lia) hm)) fun z4 p_z4 => ?_
          try dsimp only at p_z4
          first | trivial | assumption | lia
        · refine wp_bite (fun c5 => ?_) (fun c5 => ?_)
          · refine wp_bsome ?_
            refine wp_bite (fun c6 => ?_) (fun c6 => ?_)
            · refine wp_bsome ?_
              refine wp_ite (fun c7 => ?_) (fun c7 => ?_)
              · refine wp_ite (fun c8 => ?_) (fun c8 => ?_)
                · refine wp_mono (ih (by first | lia | assumption | exact Or.inr (by assumption)) (mu_up (by lia) (by lia) hm)) fun z9 p_z9 => ?_
                  try dsimp only at p_z9
                  first | trivial | assumption | lia
                · refine wp_zif (ob_42 (by assumption)) ?_
                  refine wp_bind (t_X12_votes (by assumption)) fun q22 p_q22 => ?_
                  refine wp_zif (ob_42 (by assumption)) ?_
                  refine wp_bind (t_X12_votes (by assumption)) fun q24 p_q24 => ?_
                  refine wp_ite (fun c10 => ?_) (fun c10 => ?_)
                  · refine wp_mono (ih (by first | lia | assumption | exact Or.inr (by assumption)) (mu_up (by lia) (by lia) hm)) fun z11 p_z11 => ?_
                    try dsimp only at p_z11
                    first | trivial | assumption | lia
                  · refine wp_mono (ih (by first | lia | assumption | exact Or.inr (by assumption)) (mu_up (by lia) (by lia) hm)) fun z12 p_z12 => ?_
                    try dsimp only at p_z12
                    first | trivial | assumption | lia
              · refine wp_mono (ih (by first | lia | assumption | exact Or.inr (by assumption)) (mu_up (by lia) (by lia) hm)) fun z13 p_z13 => ?_
                try dsimp only at p_z13
                first | trivial | assumption | lia
            · refine wp_assoc ?_
              refine wp_bind (t_X12_bits (by assumption)) fun q16 p_q16 => ?_
              refine wp_assoc ?_
              refine wp_bind (t_X12_bits (by assumption)) fun q17 p_q17 => ?_
              refine wp_bite (fun c14 => ?_) (fun c14 => ?_)
              · refine wp_bsome ?_
                refine wp_ite (fun c15 => ?_) (fun c15 => ?_)
                · refine wp_ite (fun c16 => ?_) (fun c16 => ?_)
                  · refine wp_mono (ih (by first | lia | assumption | exact Or.inr (by assumption)) (mu_up (by lia) (by lia) hm)) fun z17 p_z17 => ?_
                    try dsimp only at p_z17
                    first | trivial | assumption | lia
                  · refine wp_zif (ob_42 (by assumption)) ?_
                    refine wp_bind (t_X12_votes (by assumption)) fun q22 p_q22 => ?_
                    refine wp_zif (ob_42 (by assumption)) ?_
                    refine wp_bind (t_X12_votes (by assumption)) fun q24 p_q24 => ?_
                    refine wp_ite (fun c18 => ?_) (fun c18 => ?_)
                    · refine wp_mono (ih (by first | lia | assumption | exact Or.inr (by assumption)) (mu_up (by lia) (by lia) hm)) fun z19 p_z19 => ?_
                      try dsimp only at p_z19
                      first | trivial | assumption | lia
                    · refine wp_mono (ih (by first | lia | assumption | exact Or.inr (by assumption)) (mu_up (by lia) (by lia) hm)) fun z20 p_z20 => ?_
                      try dsimp only at p_z20
                      first | trivial | assumption | lia
                · refine wp_mono (ih (by first | lia | assumption | exact Or.inr (by assumption)) (mu_up (by lia) (by lia) hm)) fun z21 p_z21 => ?_
                  try dsimp only at p_z21
                  first | trivial | assumption | lia
              · refine wp_bsome ?_
                refine wp_ite (fun c22 => ?_) (fun c22 => ?_)
                · refine wp_ite (fun c23 => ?_) (fun c23 => ?_)
                  · refine wp_mono (ih (by first | lia | assumption | exact Or.inr (by assumption)) (mu_up (by lia) (by lia) hm)) fun z24 p_z24 => ?_
                    try dsimp only at p_z24
                    first | trivial | assumption | lia
                  · refine wp_zif (ob_42 (by assumption)) ?_
                    refine wp_bind (t_X12_votes (by assumption)) fun q22 p_q22 => ?_
                    refine wp_zif (ob_42 (by assumption)) ?_
                    refine wp_bind (t_X12_votes (by assumption)) fun q24 p_q24 => ?_
                    refine wp_ite (fun c25 => ?_) (fun c25 => ?_)
                    · refine wp_mono (ih (by first | lia | assumption | exact Or.inr (by assumption)) (mu_up (by lia) (by lia) hm)) fun z26 p_z26 => ?_
                      try dsimp only at p_z26
                      first | trivial | assumption | lia
                    · refine wp_mono (ih (by first | lia | assumption | exact Or.inr (by assumption)) (mu_up (by lia) (by lia) hm)) fun z27 p_z27 => ?_
                      try dsimp only at p_z27
                      first | trivial | assumption | lia
                · refine wp_mono (ih (by first | lia | assumption | exact Or.inr (by assumption)) (mu_up (by lia) (by lia) hm)) fun z28 p_z28 => ?_
                  try dsimp only at p_z28
                  first | trivial | assumption | lia
          · refine wp_assoc ?_
            refine wp_bind (t_X12_bits (by assumption)) fun q11 p_q11 => ?_
            refine wp_assoc ?_
            refine wp_bind (t_X12_bits (by assumption)) fun q12 p_q12 => ?_
            refine wp_bite (fun c29 => ?_) (fun c29 => ?_)
            · refine wp_bsome ?_
              refine wp_bite (fun c30 => ?_) (fun c30 => ?_)
              · refine wp_bsome ?_
                refine wp_ite (fun c31 => ?_) (fun c31 => ?_)
                · refine wp_ite (fun c32 => ?_) (fun c32 => ?_)
                  · refine wp_mono (ih (by first | lia | assumption | exact Or.inr (by assumption)) (mu_up (by lia) (by lia) hm)) fun z33 p_z33 => ?_
                    try dsimp only at p_z33
                    first | trivial | assumption | lia
                  · refine wp_zif (ob_42 (by assumption)) ?_
                    refine wp_bind (t_X12_votes (by assumption)) fun q22 p_q22 => ?_
                    refine wp_zif (ob_42 (by assumption)) ?_
                    refine wp_bind (t_X12_votes (by assumption)) fun q24 p_q24 => ?_
                    refine wp_ite (fun c34 => ?_) (fun c34 => ?_)
                    · refine wp_mono (ih (by first | lia | assumption | exact Or.inr (by assumption)) (mu_up (by lia) (by lia) hm)) fun z35 p_z35 => ?_
                      try dsimp only at p_z35
                      first | trivial | assumption | lia
                    · refine wp_mono (ih (by first | lia | assumption | exact Or.inr (by assumption)) (mu_up (by lia) (by lia) hm)) fun z36 p_z36 => ?_
                      try dsimp only at p_z36
                      first | trivial | assumption | lia
                · refine wp_mono (ih (by first | lia | assumption | exact Or.inr (by assumption)) (mu_up (by lia) (by lia) hm)) fun z37 p_z37 => ?_
                  try dsimp only at p_z37
                  first | trivial | assumption | lia
              · refine wp_assoc ?_
                refine wp_bind (t_X12_bits (by assumption)) fun q16 p_q16 => ?_
                refine wp_assoc ?_
                refine wp_bind (t_X12_bits (by assumption)) fun q17 p_q17 => ?_
                refine wp_bite (fun c38 => ?_) (fun c38 => ?_)
                · refine wp_bsome ?_
                  refine wp_ite (fun c39 => ?_) (fun c39 => ?_)
                  · refine wp_ite (fun c40 => ?_) (fun c40 => ?_)
                    · refine wp_mono (ih (by first | lia | assumption | exact Or.inr (by assumption)) (mu_up (by lia) (by lia) hm)) fun z41 p_z41 => ?_
                      try dsimp only at p_z41
                      first | trivial | assumption | lia
                    · refine wp_zif (ob_42 (by assumption)) ?_
                      refine wp_bind (t_X12_votes (by assumption)) fun q22 p_q22 => ?_
                      refine wp_zif (ob_42 (by assumption)) ?_
                      refine wp_bind (t_X12_votes (by assumption)) fun q24 p_q24 => ?_
                      refine wp_ite (fun c42 => ?_) (fun c42 => ?_)
                      · refine wp_mono (ih (by first | lia | assumption | exact Or.inr (by assumption)) (mu_up (by lia) (by lia) hm)) fun z43 p_z43 => ?_
                        try dsimp only at p_z43
                        first | trivial | assumption | lia
                      · refine wp_mono (ih (by first | lia | assumption | exact Or.inr (by assumption)) (mu_up (by lia) (by lia) hm)) fun z44 p_z44 => ?_
                        try dsimp only at p_z44
                        first | trivial | assumption | lia
                  · refine wp_mono (ih (by first | lia | assumption | exact Or.inr (by assumption)) (mu_up (by lia) (by lia) hm)) fun z45 p_z45 => ?_
                    try dsimp only at p_z45
                    first | trivial | assumption | lia
                · refine wp_bsome ?_
                  refine wp_ite (fun c46 => ?_) (fun c46 => ?_)
                  · refine wp_ite (fun c47 => ?_) (fun c47 => ?_)
                    · refine wp_mono (ih (by first | lia | assumption | exact Or.inr (by assumption)) (mu_up (by lia) (by lia) hm)) fun z48 p_z48 => ?_
                      try dsimp only at p_z48
                      first | trivial | assumption | lia
                    · refine wp_zif (ob_42 (by assumption)) ?_
                      refine wp_bind (t_X12_votes (by assumption)) fun q22 p_q22 => ?_
                      refine wp_zif (ob_42 (by assumption)) ?_
                      refine wp_bind (t_X12_votes (by assumption)) fun q24 p_q24 => ?_
                      refine wp_ite (fun c49 => ?_) (fun c49 => ?_)
                      · refine wp_mono (ih (by first | lia | assumption | exact Or.inr (by assumption)) (mu_up (by lia) (by lia) hm)) fun z50 p_z50 => ?_
                        try dsimp only at p_z50
                        first | trivial | assumption | lia
                      · refine wp_mono (ih (by first | lia | assumption | exact Or.inr (by assumption)) (mu_up (by lia) (by lia) hm)) fun z51 p_z51 => ?_
                        try dsimp only at p_z51
                        first | trivial | assumption | lia
                  · refine wp_mono (ih (by first | lia | assumption | exact Or.inr (by assumption)) (mu_up (by lia) (by lia) hm)) fun z52 p_z52 => ?_
                    try dsimp only at p_z52
                    first | trivial | assumption | lia
            · refine wp_bsome ?_
              refine wp_bite (fun c53 => ?_) (fun c53 => ?_)
              · refine wp_bsome ?_
                refine wp_ite (fun c54 => ?_) (fun c54 => ?_)
                · refine wp_ite (fun c55 => ?_) (fun c55 => ?_)
                  · refine wp_mono (ih (by first | lia | assumption | exact Or.inr (by assumption)) (mu_up (by lia) (by lia) hm)) fun z56 p_z56 => ?_
                    try dsimp only at p_z56
                    first | trivial | assumption | lia
                  · refine wp_zif (ob_42 (by assumption)) ?_
                    refine wp_bind (t_X12_votes (by assumption)) fun q22 p_q22 => ?_
                    refine wp_zif (ob_42 (by assumption)) ?_
                    refine wp_bind (t_X12_votes (by assumption)) fun q24 p_q24 => ?_
                    refine wp_ite (fun c57 => ?_) (fun c57 => ?_)
                    · refine wp_mono (ih (by first | lia | assumption | exact Or.inr (by assumption)) (mu_up (by lia) (by lia) hm)) fun z58 p_z58 => ?_
                      try dsimp only at p_z58
                      first | trivial | assumption | lia
                    · refine wp_mono (ih (by first | lia | assumption | exact Or.inr (by assumption)) (mu_up (by lia) (by lia) hm)) fun z59 p_z59 => ?_
                      try dsimp only at p_z59
                      first | trivial | assumption | lia
                · refine wp_mono (ih (by first | lia | assumption | exact Or.inr (by assumption)) (mu_up (by lia) (by lia) hm)) fun z60 p_z60 => ?_
                  try dsimp only at p_z60
                  first | trivial | assumption | lia
              · refine wp_assoc ?_
                refine wp_bind (t_X12_bits (by assumption)) fun q16 p_q16 => ?_
                refine wp_assoc ?_
                refine wp_bind (t_X12_bits (by assumption)) fun q17 p_q17 => ?_
                refine wp_bite (fun c61 => ?_) (fun c61 => ?_)
                · refine wp_bsome ?_
                  refine wp_ite (fun c62 => ?_) (fun c62 => ?_)
                  · refine wp_ite (fun c63 => ?_) (fun c63 => ?_)
                    · refine wp_mono (ih (by first | lia | assumption | exact Or.inr (by assumption)) (mu_up (by lia) (by lia) hm)) fun z64 p_z64 => ?_
                      try dsimp only at p_z64
                      first | trivial | assumption | lia
                    · refine wp_zif (ob_42 (by assumption)) ?_
                      refine wp_bind (t_X12_votes (by assumption)) fun q22 p_q22 => ?_
                      refine wp_zif (ob_42 (by assumption)) ?_
                      refine wp_bind (t_X12_votes (by assumption)) fun q24 p_q24 => ?_
                      refine wp_ite (fun c65 => ?_) (fun c65 => ?_)
                      · refine wp_mono (ih (by first | lia | assumption | exact Or.inr (by assumption)) (mu_up (by lia) (by lia) hm)) fun z66 p_z66 => ?_
                        try dsimp only at p_z66
                        first | trivial | assumption | lia
                      · refine wp_mono (ih (by first | lia | assumption | exact Or.inr (by assumption)) (mu_up (by lia) (by lia) hm)) fun z67 p_z67 => ?_
                        try dsimp only at p_z67
                        first | trivial | assumption | lia
                  · refine wp_mono (ih (by first | lia | assumption | exact Or.inr (by assumption)) (mu_up (by lia) (by lia) hm)) fun z68 p_z68 => ?_
                    try dsimp only at p_z68
                    first | trivial | assumption | lia
                · refine wp_bsome ?_
                  refine wp_ite (fun c69 => ?_) (fun c69 => ?_)
                  · refine wp_ite (fun c70 => ?_) (fun c70 => ?_)
                    · refine wp_mono (ih (by first | lia | assumption | exact Or.inr (by assumption)) (mu_up (by lia) (by lia) hm)) fun z71 p_z71 => ?_
                      try dsimp only at p_z71
                      first | trivial | assumption | lia
                    · refine wp_zif (ob_42 (by assumption)) ?_
                      refine wp_bind (t_X12_votes (by assumption)) fun q22 p_q22 => ?_
                      refine wp_zif (ob_42 (by assumption)) ?_
                      refine wp_bind (t_X12_votes (by assumption)) fun q24 p_q24 => ?_
                      refine wp_ite (fun c72 => ?_) (fun c72 => ?_)
                      · refine wp_mono (ih (by first | lia | assumption | exact Or.inr (by assumption)) (mu_up (by lia) (by lia) hm)) fun z73 p_z73 => ?_
                        try dsimp only at p_z73
                        first | trivial | assumption | lia
                      · refine wp_mono (ih (by first | lia | assumption | exact Or.inr (by assumption)) (mu_up (by lia) (by lia) hm)) fun z74 p_z74 => ?_
                        try dsimp only at p_z74
                        first | trivial | assumption | lia
                  · refine wp_mono (ih (by first | lia | assumption | exact Or.inr (by assumption)) (mu_up (by lia) (by lia) hm)) fun z75 p_z75 => ?_
                    try dsimp only at p_z75
                    first | trivial | assumption | lia
      · refine wp_mono (ih (by first | lia | assumption | exact Or.inr (by assumption)) (mu_up (by lia) (by lia) hm)) fun z76 p_z76 => ?_
        try dsimp only at p_z76
        first | trivial | assumption | lia
set_option maxRecDepth 100000 in
set_option maxHeartbeats 4000000 in
theorem t_X12_most {v1 : Int32} (w : WT n b L xs τ g h) : wp (f_X12_most 10000 (n + 42) v1 h) (fun r => WT n b L xs τ g r.2) := by
  unfold f_X12_most
  refine wp_bindE (pI_42_0 (by assumption)) fun h1 E_h1 p_h1 => ?_
  refine wp_bind (t_X12_isClauses (by assumption)) fun q2 p_q2 => ?_
  refine wp_ite (fun c1 => ?_) (fun c1 => ?_)
  · refine wp_some ?_
    first | trivial | assumption | lia
  · refine wp_bind (t_X12_most_L18 (by assumption) (by first | lia | assumption | exact Or.inr (by assumption)) _ (by first | lia | assumption | exact Or.inr (by assumption)) (mu_0 (by lia))) fun m26 p_m26 => ?_
    refine wp_some ?_
    first | trivial | assumption | lia
set_option maxRecDepth 100000 in
set_option maxHeartbeats 4000000 in
theorem t_X12_fell {v1 : Int32} {v2 : Int32} {v3 : Int32} (w : WT n b L xs τ g h) : wp (f_X12_fell 10000 (n + 42) v1 v2 v3 h) (fun r => (r.1 = (-1) ∨ r.1 = 0 ∨ r.1 = 1 ∨ r.1 = 2) ∧ WT n b L xs τ g r.2) := by
  unfold f_X12_fell
  refine wp_bindE (pI_42_0 (by assumption)) fun h1 E_h1 p_h1 => ?_
  refine in12 (fun c1 => ?_) (fun c1 => ?_)
  · refine wp_some ?_
    refine ⟨?_, ?_⟩ <;> first | trivial | assumption | lia
  · refine wp_bind (t_X12_isYear (by assumption)) fun q3 p_q3 => ?_
    refine wp_ite (fun c2 => ?_) (fun c2 => ?_)
    · refine wp_some ?_
      refine ⟨?_, ?_⟩ <;> first | trivial | assumption | lia
    · refine wp_bind (t_X12_isYear (by assumption)) fun q5 p_q5 => ?_
      refine wp_ite (fun c3 => ?_) (fun c3 => ?_)
      · refine wp_some ?_
        refine ⟨?_, ?_⟩ <;> first | trivial | assumption | lia
      · refine wp_ite (fun c4 => ?_) (fun c4 => ?_)
        · refine wp_zletE fun x8 e_x8 => ?_
          refine wp_zletE fun x9 e_x9 => ?_
          refine wp_eq (gR_42_70 (by assumption)) ?_
          refine wp_bindE (aI_90 (by assumption) (by lia) (by lia)) fun x11 E_x11 p_x11 => ?_
          refine wp_ite (fun c5 => ?_) (fun c5 => ?_)
          · refine wp_some ?_
            refine ⟨?_, ?_⟩ <;> first | trivial | assumption | lia
          · refine wp_eq (gR_42_70 (by assumption)) ?_
            refine wp_bindE (aI_90 (by assumption) (by lia) (by lia)) fun x14 E_x14 p_x14 => ?_
            refine wp_ite (fun c6 => ?_) (fun c6 => ?_)
            · refine wp_eq (gR_42_70 (by assumption)) ?_
              refine wp_eq E_x14 ?_
              refine wp_eq (gR_42_70 (by assumption)) ?_
              refine wp_eq E_x11 ?_
              refine wp_ite (fun c7 => ?_) (fun c7 => ?_)
              · refine wp_eq (gR_42_70 (by assumption)) ?_
                refine wp_eq E_x14 ?_
                refine wp_eq (gR_42_71 (by assumption)) ?_
                refine wp_bindE (aI_91 (by assumption) (by lia) (by lia)) fun x24 E_x24 p_x24 => ?_
                refine wp_eq (gR_42_70 (by assumption)) ?_
                refine wp_eq E_x11 ?_
                refine wp_eq (gR_42_71 (by assumption)) ?_
                refine wp_bindE (aI_91 (by assumption) (by lia) (by lia)) fun x28 E_x28 p_x28 => ?_
                refine wp_ite (fun c8 => ?_) (fun c8 => ?_)
                · refine wp_some ?_
                  refine ⟨?_, ?_⟩ <;> first | trivial | assumption | lia
                · refine wp_some ?_
                  refine ⟨?_, ?_⟩ <;> first | trivial | assumption | lia
              · refine wp_some ?_
                refine ⟨?_, ?_⟩ <;> first | trivial | assumption | lia
            · refine wp_some ?_
              refine ⟨?_, ?_⟩ <;> first | trivial | assumption | lia
        · refine wp_some ?_
          refine ⟨?_, ?_⟩ <;> first | trivial | assumption | lia
set_option maxRecDepth 100000 in
set_option maxHeartbeats 4000000 in
theorem t_X12_isPlace {v0 : Int32} (w : WT n b L xs τ g h) : wp (f_X12_isPlace 10000 v0 h) (fun r => ((r = 0 ∧ ¬ (0 ≤ v0 ∧ v0 ≤ 7)) ∨ (r = 1 ∧ 0 ≤ v0 ∧ v0 ≤ 7))) := by
  unfold f_X12_isPlace
  refine wp_rZ0w (fun c => ?_) (fun c => ?_)
  · first | trivial | assumption | lia
  · first | trivial | assumption | lia
set_option maxRecDepth 100000 in
set_option maxHeartbeats 4000000 in
theorem t_X12_street {v1 : Int32} {v2 : Int32} {v3 : Int32} {v4 : Int32} {v5 : Int32} {v6 : Int32} (w : WT n b L xs τ g h) : wp (f_X12_street 10000 (n + 42) v1 v2 v3 v4 v5 v6 h) (fun r => (r.1 = 0 ∨ r.1 = 1) ∧ WT n b L xs τ g r.2) := by
  unfold f_X12_street
  refine wp_bindE (pI_42_0 (by assumption)) fun h1 E_h1 p_h1 => ?_
  refine wp_bind (R := fun r => r = 0 ∨ r = 1) ?_ (fun m2 p_m2 => ?_)
  · refine in12 (fun c1 => ?_) (fun c1 => ?_)
    · refine wp_some ?_
      first | trivial | assumption | lia
    · refine in12 (fun c2 => ?_) (fun c2 => ?_)
      · refine wp_some ?_
        first | trivial | assumption | lia
      · refine in12 (fun c3 => ?_) (fun c3 => ?_)
        · refine wp_some ?_
          first | trivial | assumption | lia
        · refine wp_some ?_
          first | trivial | assumption | lia
  · refine in12 (fun c4 => ?_) (fun c4 => ?_)
    · refine wp_some ?_
      refine ⟨?_, ?_⟩ <;> first | trivial | assumption | lia
    · refine wp_bind (t_X12_isPlace (by assumption)) fun q7 p_q7 => ?_
      refine wp_ite (fun c5 => ?_) (fun c5 => ?_)
      · refine wp_some ?_
        refine ⟨?_, ?_⟩ <;> first | trivial | assumption | lia
      · refine wp_bind (t_X12_isPlace (by assumption)) fun q9 p_q9 => ?_
        refine wp_ite (fun c6 => ?_) (fun c6 => ?_)
        · refine wp_some ?_
          refine ⟨?_, ?_⟩ <;> first | trivial | assumption | lia
        · refine wp_ite (fun c7 => ?_) (fun c7 => ?_)
          · refine wp_some ?_
            refine ⟨?_, ?_⟩ <;> first | trivial | assumption | lia
          · refine wp_ite (fun c8 => ?_) (fun c8 => ?_)
            · refine wp_some ?_
              refine ⟨?_, ?_⟩ <;> first | trivial | assumption | lia
            · refine wp_eq (gR_42_72 (by assumption)) ?_
              refine wp_bindE (sZ_92 (by assumption) (by lia) (by lia) (by lia)) fun h14 E_h14 p_h14 => ?_
              refine wp_eq (gR_42_73 (by assumption)) ?_
              refine wp_bindE (sI_93 (by assumption) (by lia) (by lia) (by lia) (by lia)) fun h16 E_h16 p_h16 => ?_
              refine wp_eq (gR_42_74 (by assumption)) ?_
              refine wp_bindE (sI_94 (by assumption) (by lia) (by lia) (by lia) (by lia)) fun h18 E_h18 p_h18 => ?_
              refine wp_eq (gR_42_75 (by assumption)) ?_
              refine wp_bindE (sI_95 (by assumption) (by lia) (by lia)) fun h20 E_h20 p_h20 => ?_
              refine wp_eq (gR_42_75 (by assumption)) ?_
              refine wp_bindE (sI_95 (by assumption) (by lia) (by lia)) fun h22 E_h22 p_h22 => ?_
              refine wp_eq (gR_42_75 (by assumption)) ?_
              refine wp_bindE (sI_95 (by assumption) (by lia) (by lia)) fun h24 E_h24 p_h24 => ?_
              refine wp_some ?_
              refine ⟨?_, ?_⟩ <;> first | trivial | assumption | lia
set_option maxRecDepth 100000 in
set_option maxHeartbeats 4000000 in
theorem t_X12_doneTo {v1 : Int32} {v2 : Int32} (w : WT n b L xs τ g h) (p0 : 0 ≤ v1) (p1 : 0 ≤ v2) (p2 : v2 < 8) : wp (f_X12_doneTo 10000 (n + 42) v1 v2 h) (fun r => 0 ≤ r ∧ r ≤ 2) := by
  unfold f_X12_doneTo
  refine wp_eq (gR_42_79 (by assumption)) ?_
  refine wp_bindE (aI_98 (by assumption) (by lia) (by lia)) fun x2 E_x2 p_x2 => ?_
  refine wp_zdiv (by lia) ?_
  refine wp_some ?_
  exact rem3 (div_0 p0 p_x2.1)
set_option maxRecDepth 100000 in
set_option maxHeartbeats 4000000 in
theorem t_X12_comesTo_L20 {v1 : Int32} {v3 : Int32} (w : WT n b L xs τ g h) (p0 : 0 ≤ v1) : ∀ (m : Nat) {v4 : Int32} {v7 : Int32}, 0 ≤ v7 → 0 ≤ v4 → v4 ≤ 255 → (9000 - v7.toInt).toNat < m → wp (f_X12_comesTo_L20 10000 (n + 42) v1 v3 h m v4 v7) (fun r => v4 ≤ r ∧ r ≤ 255) := by
  intro m
  induction m with
  | zero => intro v4 v7 i0 i1 i2 hm; exact absurd hm (Nat.not_lt_zero _)
  | succ m ih =>
    intro v4 v7 i0 i1 i2 hm
    rw [f_X12_comesTo_L20.eq_2]
    refine wp_ite (fun c1 => ?_) (fun c1 => ?_)
    · refine wp_some ?_
      refine ⟨?_, ?_⟩ <;> first | trivial | assumption | lia
    · refine wp_eq (gR_42_72 (by assumption)) ?_
      refine wp_bindE (aZ_92 (by assumption) (by lia) (by lia)) fun x5 E_x5 p_x5 => ?_
      refine wp_bind (R := fun r => r = 0 ∨ r = 1) ?_ (fun m6 p_m6 => ?_)
      · refine wp_ite (fun c2 => ?_) (fun c2 => ?_)
        · refine wp_some ?_
          first | trivial | assumption | lia
        · refine wp_zif (ob_42 (by assumption)) ?_
          refine wp_bind (t_X12_doneTo (by assumption) (by first | lia | assumption | exact Or.inr (by assumption)) (by first | lia | assumption | exact Or.inr (by assumption)) (by first | lia | assumption | exact Or.inr (by assumption))) fun q9 p_q9 => ?_
          obtain ⟨p0_q9, p1_q9⟩ := p_q9
          refine wp_ite (fun c3 => ?_) (fun c3 => ?_)
          · refine wp_some ?_
            first | trivial | assumption | lia
          · refine wp_eq (gR_42_73 (by assumption)) ?_
            refine wp_bindE (aI_93 (by assumption) (by lia) (by lia)) fun x12 E_x12 p_x12 => ?_
            refine wp_ite (fun c4 => ?_) (fun c4 => ?_)
            · refine wp_some ?_
              first | trivial | assumption | lia
            · refine wp_eq (gR_42_74 (by assumption)) ?_
              refine wp_bindE (aI_94 (by assumption) (by lia) (by lia)) fun x15 E_x15 p_x15 => ?_
              refine wp_ite (fun c5 => ?_) (fun c5 => ?_)
              · refine wp_some ?_
                first | trivial | assumption | lia
              · refine wp_some ?_
                first | trivial | assumption | lia
      · refine wp_ite (fun c6 => ?_) (fun c6 => ?_)
        · refine wp_zletE fun x18 e_x18 => ?_
          have b_x18 := or_r (a := v4) (c := 0) (by lia) (by lia) (by decide) (by decide)
          rw [← e_x18] at b_x18
          refine wp_mono (ih (by first | lia | assumption | exact Or.inr (by assumption)) (by first | lia | assumption | exact Or.inr (by assumption)) (by first | lia | assumption | exact Or.inr (by assumption)) (mu_up (by lia) (by lia) hm)) fun z7 p_z7 => ?_
          try dsimp only at p_z7
          obtain ⟨p0_z7, p1_z7⟩ := p_z7
          refine ⟨?_, ?_⟩ <;> first | trivial | assumption | lia
        · refine wp_eq (gR_42_73 (by assumption)) ?_
          refine wp_bindE (aI_93 (by assumption) (by lia) (by lia)) fun x20 E_x20 p_x20 => ?_
          refine wp_eq (gR_42_74 (by assumption)) ?_
          refine wp_bindE (aI_94 (by assumption) (by lia) (by lia)) fun x22 E_x22 p_x22 => ?_
          refine wp_zletE fun x23 e_x23 => ?_
          have s1 := shl_7 (c := x20) (by lia) (by lia)
          have s2 := shl_7 (c := x22) (by lia) (by lia)
          have s3 := or_r (a := 1 <<< (x20 &&& 31)) (c := 1 <<< (x22 &&& 31)) (by lia) (by lia) (by lia) (by lia)
          have b_x23 := or_r (a := v4) (c := (1 <<< (x20 &&& 31)) ||| (1 <<< (x22 &&& 31))) (by lia) (by lia) (by lia) (by lia)
          rw [← e_x23] at b_x23
          refine wp_mono (ih (by first | lia | assumption | exact Or.inr (by assumption)) (by first | lia | assumption | exact Or.inr (by assumption)) (by first | lia | assumption | exact Or.inr (by assumption)) (mu_up (by lia) (by lia) hm)) fun z8 p_z8 => ?_
          try dsimp only at p_z8
          obtain ⟨p0_z8, p1_z8⟩ := p_z8
          refine ⟨?_, ?_⟩ <;> first | trivial | assumption | lia
end TOT
