section TOT
variable {n b L : Nat} {xs : Nat → Int32} {τ : Nat → Nat} {g : zGh} {h : zH}
set_option maxRecDepth 100000 in
set_option maxHeartbeats 4000000 in
theorem t_X6_end {v0 : Nat} (w : WT n b L xs τ g h) (e_v0 : τ v0 = 1) : wp (f_X6_end 10000 v0 h) (fun r => True) := by
  unfold f_X6_end
  refine wp_bindE (gI_m_11 (by assumption) (by assumption)) fun x1 E_x1 p_x1 => ?_
  refine wp_ite (fun c1 => ?_) (fun c1 => ?_)
  · refine wp_some ?_
    first | trivial | assumption | lia
  · refine wp_eq E_x1 ?_
    refine wp_some ?_
    first | trivial | assumption | lia
set_option maxRecDepth 100000 in
set_option maxHeartbeats 4000000 in
theorem t_X6_seen {v0 : Nat} (w : WT n b L xs τ g h) (e_v0 : τ v0 = 1) : wp (f_X6_seen 10000 v0 h) (fun r => True) := by
  unfold f_X6_seen
  refine wp_bindE (gI_m_12 (by assumption) (by assumption)) fun x1 E_x1 p_x1 => ?_
  refine wp_ite (fun c1 => ?_) (fun c1 => ?_)
  · refine wp_some ?_
    first | trivial | assumption | lia
  · refine wp_zif (ob_m (by assumption) (by assumption)) ?_
    refine wp_bind (t_X6_end (by assumption) (by assumption)) fun q4 p_q4 => ?_
    refine wp_eq E_x1 ?_
    refine wp_some ?_
    first | trivial | assumption | lia
set_option maxRecDepth 100000 in
set_option maxHeartbeats 4000000 in
theorem t_X6_signs {v0 : Nat} (w : WT n b L xs τ g h) (e_v0 : τ v0 = 1) : wp (f_X6_signs 10000 v0 h) (fun r => True) := by
  unfold f_X6_signs
  refine wp_bindE (gI_m_1 (by assumption) (by assumption)) fun x1 E_x1 p_x1 => ?_
  refine wp_bind (R := fun r => r = 0 ∨ r = 1) ?_ (fun m2 p_m2 => ?_)
  · refine wp_ite (fun c1 => ?_) (fun c1 => ?_)
    · refine wp_some ?_
      first | trivial | assumption | lia
    · refine wp_some ?_
      first | trivial | assumption | lia
  · refine wp_bindE (gI_m_6 (by assumption) (by assumption)) fun x4 E_x4 p_x4 => ?_
    refine wp_bite (fun c2 => ?_) (fun c2 => ?_)
    · refine wp_bsome ?_
      refine wp_eq E_x4 ?_
      refine wp_bite (fun c3 => ?_) (fun c3 => ?_)
      · refine wp_bsome ?_
        refine wp_zif (ob_m (by assumption) (by assumption)) ?_
        refine wp_bind (t_X6_seen (by assumption) (by assumption)) fun q11 p_q11 => ?_
        refine wp_bite (fun c4 => ?_) (fun c4 => ?_)
        · refine wp_bsome ?_
          refine wp_bindE (gI_m_5 (by assumption) (by assumption)) fun x14 E_x14 p_x14 => ?_
          refine wp_bindE (gI_m_7 (by assumption) (by assumption)) fun x15 E_x15 p_x15 => ?_
          refine wp_bite (fun c5 => ?_) (fun c5 => ?_)
          · refine wp_bsome ?_
            refine wp_bindE (gI_m_9 (by assumption) (by assumption)) fun x18 E_x18 p_x18 => ?_
            refine wp_bite (fun c6 => ?_) (fun c6 => ?_)
            · refine wp_bsome ?_
              refine wp_bindE (gI_m_10 (by assumption) (by assumption)) fun x21 E_x21 p_x21 => ?_
              refine wp_bite (fun c7 => ?_) (fun c7 => ?_)
              · refine wp_bsome ?_
                refine wp_some ?_
                first | trivial | assumption | lia
              · refine wp_bsome ?_
                refine wp_some ?_
                first | trivial | assumption | lia
            · refine wp_bsome ?_
              refine wp_bindE (gI_m_10 (by assumption) (by assumption)) fun x21 E_x21 p_x21 => ?_
              refine wp_bite (fun c8 => ?_) (fun c8 => ?_)
              · refine wp_bsome ?_
                refine wp_some ?_
                first | trivial | assumption | lia
              · refine wp_bsome ?_
                refine wp_some ?_
                first | trivial | assumption | lia
          · refine wp_bsome ?_
            refine wp_bindE (gI_m_9 (by assumption) (by assumption)) fun x18 E_x18 p_x18 => ?_
            refine wp_bite (fun c9 => ?_) (fun c9 => ?_)
            · refine wp_bsome ?_
              refine wp_bindE (gI_m_10 (by assumption) (by assumption)) fun x21 E_x21 p_x21 => ?_
              refine wp_bite (fun c10 => ?_) (fun c10 => ?_)
              · refine wp_bsome ?_
                refine wp_some ?_
                first | trivial | assumption | lia
              · refine wp_bsome ?_
                refine wp_some ?_
                first | trivial | assumption | lia
            · refine wp_bsome ?_
              refine wp_bindE (gI_m_10 (by assumption) (by assumption)) fun x21 E_x21 p_x21 => ?_
              refine wp_bite (fun c11 => ?_) (fun c11 => ?_)
              · refine wp_bsome ?_
                refine wp_some ?_
                first | trivial | assumption | lia
              · refine wp_bsome ?_
                refine wp_some ?_
                first | trivial | assumption | lia
        · refine wp_bsome ?_
          refine wp_bindE (gI_m_5 (by assumption) (by assumption)) fun x14 E_x14 p_x14 => ?_
          refine wp_bindE (gI_m_7 (by assumption) (by assumption)) fun x15 E_x15 p_x15 => ?_
          refine wp_bite (fun c12 => ?_) (fun c12 => ?_)
          · refine wp_bsome ?_
            refine wp_bindE (gI_m_9 (by assumption) (by assumption)) fun x18 E_x18 p_x18 => ?_
            refine wp_bite (fun c13 => ?_) (fun c13 => ?_)
            · refine wp_bsome ?_
              refine wp_bindE (gI_m_10 (by assumption) (by assumption)) fun x21 E_x21 p_x21 => ?_
              refine wp_bite (fun c14 => ?_) (fun c14 => ?_)
              · refine wp_bsome ?_
                refine wp_some ?_
                first | trivial | assumption | lia
              · refine wp_bsome ?_
                refine wp_some ?_
                first | trivial | assumption | lia
            · refine wp_bsome ?_
              refine wp_bindE (gI_m_10 (by assumption) (by assumption)) fun x21 E_x21 p_x21 => ?_
              refine wp_bite (fun c15 => ?_) (fun c15 => ?_)
              · refine wp_bsome ?_
                refine wp_some ?_
                first | trivial | assumption | lia
              · refine wp_bsome ?_
                refine wp_some ?_
                first | trivial | assumption | lia
          · refine wp_bsome ?_
            refine wp_bindE (gI_m_9 (by assumption) (by assumption)) fun x18 E_x18 p_x18 => ?_
            refine wp_bite (fun c16 => ?_) (fun c16 => ?_)
            · refine wp_bsome ?_
              refine wp_bindE (gI_m_10 (by assumption) (by assumption)) fun x21 E_x21 p_x21 => ?_
              refine wp_bite (fun c17 => ?_) (fun c17 => ?_)
              · refine wp_bsome ?_
                refine wp_some ?_
                first | trivial | assumption | lia
              · refine wp_bsome ?_
                refine wp_some ?_
                first | trivial | assumption | lia
            · refine wp_bsome ?_
              refine wp_bindE (gI_m_10 (by assumption) (by assumption)) fun x21 E_x21 p_x21 => ?_
              refine wp_bite (fun c18 => ?_) (fun c18 => ?_)
              · refine wp_bsome ?_
                refine wp_some ?_
                first | trivial | assumption | lia
              · refine wp_bsome ?_
                refine wp_some ?_
                first | trivial | assumption | lia
      · refine wp_bsome ?_
        refine wp_zif (ob_m (by assumption) (by assumption)) ?_
        refine wp_bind (t_X6_seen (by assumption) (by assumption)) fun q11 p_q11 => ?_
        refine wp_bite (fun c19 => ?_) (fun c19 => ?_)
        · refine wp_bsome ?_
          refine wp_bindE (gI_m_5 (by assumption) (by assumption)) fun x14 E_x14 p_x14 => ?_
          refine wp_bindE (gI_m_7 (by assumption) (by assumption)) fun x15 E_x15 p_x15 => ?_
          refine wp_bite (fun c20 => ?_) (fun c20 => ?_)
          · refine wp_bsome ?_
            refine wp_bindE (gI_m_9 (by assumption) (by assumption)) fun x18 E_x18 p_x18 => ?_
            refine wp_bite (fun c21 => ?_) (fun c21 => ?_)
            · refine wp_bsome ?_
              refine wp_bindE (gI_m_10 (by assumption) (by assumption)) fun x21 E_x21 p_x21 => ?_
              refine wp_bite (fun c22 => ?_) (fun c22 => ?_)
              · refine wp_bsome ?_
                refine wp_some ?_
                first | trivial | assumption | lia
              · refine wp_bsome ?_
                refine wp_some ?_
                first | trivial | assumption | lia
            · refine wp_bsome ?_
              refine wp_bindE (gI_m_10 (by assumption) (by assumption)) fun x21 E_x21 p_x21 => ?_
              refine wp_bite (fun c23 => ?_) (fun c23 => ?_)
              · refine wp_bsome ?_
                refine wp_some ?_
                first | trivial | assumption | lia
              · refine wp_bsome ?_
                refine wp_some ?_
                first | trivial | assumption | lia
          · refine wp_bsome ?_
            refine wp_bindE (gI_m_9 (by assumption) (by assumption)) fun x18 E_x18 p_x18 => ?_
            refine wp_bite (fun c24 => ?_) (fun c24 => ?_)
            · refine wp_bsome ?_
              refine wp_bindE (gI_m_10 (by assumption) (by assumption)) fun x21 E_x21 p_x21 => ?_
              refine wp_bite (fun c25 => ?_) (fun c25 => ?_)
              · refine wp_bsome ?_
                refine wp_some ?_
                first | trivial | assumption | lia
              · refine wp_bsome ?_
                refine wp_some ?_
                first | trivial | assumption | lia
            · refine wp_bsome ?_
              refine wp_bindE (gI_m_10 (by assumption) (by assumption)) fun x21 E_x21 p_x21 => ?_
              refine wp_bite (fun c26 => ?_) (fun c26 => ?_)
              · refine wp_bsome ?_
                refine wp_some ?_
                first | trivial | assumption | lia
              · refine wp_bsome ?_
                refine wp_some ?_
                first | trivial | assumption | lia
        · refine wp_bsome ?_
          refine wp_bindE (gI_m_5 (by assumption) (by assumption)) fun x14 E_x14 p_x14 => ?_
          refine wp_bindE (gI_m_7 (by assumption) (by assumption)) fun x15 E_x15 p_x15 => ?_
          refine wp_bite (fun c27 => ?_) (fun c27 => ?_)
          · refine wp_bsome ?_
            refine wp_bindE (gI_m_9 (by assumption) (by assumption)) fun x18 E_x18 p_x18 => ?_
            refine wp_bite (fun c28 => ?_) (fun c28 => ?_)
            · refine wp_bsome ?_
              refine wp_bindE (gI_m_10 (by assumption) (by assumption)) fun x21 E_x21 p_x21 => ?_
              refine wp_bite (fun c29 => ?_) (fun c29 => ?_)
              · refine wp_bsome ?_
                refine wp_some ?_
                first | trivial | assumption | lia
              · refine wp_bsome ?_
                refine wp_some ?_
                first | trivial | assumption | lia
            · refine wp_bsome ?_
              refine wp_bindE (gI_m_10 (by assumption) (by assumption)) fun x21 E_x21 p_x21 => ?_
              refine wp_bite (fun c30 => ?_) (fun c30 => ?_)
              · refine wp_bsome ?_
                refine wp_some ?_
                first | trivial | assumption | lia
              · refine wp_bsome ?_
                refine wp_some ?_
                first | trivial | assumption | lia
          · refine wp_bsome ?_
            refine wp_bindE (gI_m_9 (by assumption) (by assumption)) fun x18 E_x18 p_x18 => ?_
            refine wp_bite (fun c31 => ?_) (fun c31 => ?_)
            · refine wp_bsome ?_
              refine wp_bindE (gI_m_10 (by assumption) (by assumption)) fun x21 E_x21 p_x21 => ?_
              refine wp_bite (fun c32 => ?_) (fun c32 => ?_)
              · refine wp_bsome ?_
                refine wp_some ?_
                first | trivial | assumption | lia
              · refine wp_bsome ?_
                refine wp_some ?_
                first | trivial | assumption | lia
            · refine wp_bsome ?_
              refine wp_bindE (gI_m_10 (by assumption) (by assumption)) fun x21 E_x21 p_x21 => ?_
              refine wp_bite (fun c33 => ?_) (fun c33 => ?_)
              · refine wp_bsome ?_
                refine wp_some ?_
                first | trivial | assumption | lia
              · refine wp_bsome ?_
                refine wp_some ?_
                first | trivial | assumption | lia
    · refine wp_bsome ?_
      refine wp_eq E_x4 ?_
      refine wp_bite (fun c34 => ?_) (fun c34 => ?_)
      · refine wp_bsome ?_
        refine wp_zif (ob_m (by assumption) (by assumption)) ?_
        refine wp_bind (t_X6_seen (by assumption) (by assumption)) fun q11 p_q11 => ?_
        refine wp_bite (fun c35 => ?_) (fun c35 => ?_)
        · refine wp_bsome ?_
          refine wp_bindE (gI_m_5 (by assumption) (by assumption)) fun x14 E_x14 p_x14 => ?_
          refine wp_bindE (gI_m_7 (by assumption) (by assumption)) fun x15 E_x15 p_x15 => ?_
          refine wp_bite (fun c36 => ?_) (fun c36 => ?_)
          · refine wp_bsome ?_
            refine wp_bindE (gI_m_9 (by assumption) (by assumption)) fun x18 E_x18 p_x18 => ?_
            refine wp_bite (fun c37 => ?_) (fun c37 => ?_)
            · refine wp_bsome ?_
              refine wp_bindE (gI_m_10 (by assumption) (by assumption)) fun x21 E_x21 p_x21 => ?_
              refine wp_bite (fun c38 => ?_) (fun c38 => ?_)
              · refine wp_bsome ?_
                refine wp_some ?_
                first | trivial | assumption | lia
              · refine wp_bsome ?_
                refine wp_some ?_
                first | trivial | assumption | lia
            · refine wp_bsome ?_
              refine wp_bindE (gI_m_10 (by assumption) (by assumption)) fun x21 E_x21 p_x21 => ?_
              refine wp_bite (fun c39 => ?_) (fun c39 => ?_)
              · refine wp_bsome ?_
                refine wp_some ?_
                first | trivial | assumption | lia
              · refine wp_bsome ?_
                refine wp_some ?_
                first | trivial | assumption | lia
          · refine wp_bsome ?_
            refine wp_bindE (gI_m_9 (by assumption) (by assumption)) fun x18 E_x18 p_x18 => ?_
            refine wp_bite (fun c40 => ?_) (fun c40 => ?_)
            · refine wp_bsome ?_
              refine wp_bindE (gI_m_10 (by assumption) (by assumption)) fun x21 E_x21 p_x21 => ?_
              refine wp_bite (fun c41 => ?_) (fun c41 => ?_)
              · refine wp_bsome ?_
                refine wp_some ?_
                first | trivial | assumption | lia
              · refine wp_bsome ?_
                refine wp_some ?_
                first | trivial | assumption | lia
            · refine wp_bsome ?_
              refine wp_bindE (gI_m_10 (by assumption) (by assumption)) fun x21 E_x21 p_x21 => ?_
              refine wp_bite (fun c42 => ?_) (fun c42 => ?_)
              · refine wp_bsome ?_
                refine wp_some ?_
                first | trivial | assumption | lia
              · refine wp_bsome ?_
                refine wp_some ?_
                first | trivial | assumption | lia
        · refine wp_bsome ?_
          refine wp_bindE (gI_m_5 (by assumption) (by assumption)) fun x14 E_x14 p_x14 => ?_
          refine wp_bindE (gI_m_7 (by assumption) (by assumption)) fun x15 E_x15 p_x15 => ?_
          refine wp_bite (fun c43 => ?_) (fun c43 => ?_)
          · refine wp_bsome ?_
            refine wp_bindE (gI_m_9 (by assumption) (by assumption)) fun x18 E_x18 p_x18 => ?_
            refine wp_bite (fun c44 => ?_) (fun c44 => ?_)
            · refine wp_bsome ?_
              refine wp_bindE (gI_m_10 (by assumption) (by assumption)) fun x21 E_x21 p_x21 => ?_
              refine wp_bite (fun c45 => ?_) (fun c45 => ?_)
              · refine wp_bsome ?_
                refine wp_some ?_
                first | trivial | assumption | lia
              · refine wp_bsome ?_
                refine wp_some ?_
                first | trivial | assumption | lia
            · refine wp_bsome ?_
              refine wp_bindE (gI_m_10 (by assumption) (by assumption)) fun x21 E_x21 p_x21 => ?_
              refine wp_bite (fun c46 => ?_) (fun c46 => ?_)
              · refine wp_bsome ?_
                refine wp_some ?_
                first | trivial | assumption | lia
              · refine wp_bsome ?_
                refine wp_some ?_
                first | trivial | assumption | lia
          · refine wp_bsome ?_
            refine wp_bindE (gI_m_9 (by assumption) (by assumption)) fun x18 E_x18 p_x18 => ?_
            refine wp_bite (fun c47 => ?_) (fun c47 => ?_)
            · refine wp_bsome ?_
              refine wp_bindE (gI_m_10 (by assumption) (by assumption)) fun x21 E_x21 p_x21 => ?_
              refine wp_bite (fun c48 => ?_) (fun c48 => ?_)
              · refine wp_bsome ?_
                refine wp_some ?_
                first | trivial | assumption | lia
              · refine wp_bsome ?_
                refine wp_some ?_
                first | trivial | assumption | lia
            · refine wp_bsome ?_
              refine wp_bindE (gI_m_10 (by assumption) (by assumption)) fun x21 E_x21 p_x21 => ?_
              refine wp_bite (fun c49 => ?_) (fun c49 => ?_)
              · refine wp_bsome ?_
                refine wp_some ?_
                first | trivial | assumption | lia
              · refine wp_bsome ?_
                refine wp_some ?_
                first | trivial | assumption | lia
      · refine wp_bsome ?_
        refine wp_zif (ob_m (by assumption) (by assumption)) ?_
        refine wp_bind (t_X6_seen (by assumption) (by assumption)) fun q11 p_q11 => ?_
        refine wp_bite (fun c50 => ?_) (fun c50 => ?_)
        · refine wp_bsome ?_
          refine wp_bindE (gI_m_5 (by assumption) (by assumption)) fun x14 E_x14 p_x14 => ?_
          refine wp_bindE (gI_m_7 (by assumption) (by assumption)) fun x15 E_x15 p_x15 => ?_
          refine wp_bite (fun c51 => ?_) (fun c51 => ?_)
          · refine wp_bsome ?_
            refine wp_bindE (gI_m_9 (by assumption) (by assumption)) fun x18 E_x18 p_x18 => ?_
            refine wp_bite (fun c52 => ?_) (fun c52 => ?_)
            · refine wp_bsome ?_
              refine wp_bindE (gI_m_10 (by assumption) (by assumption)) fun x21 E_x21 p_x21 => ?_
              refine wp_bite (fun c53 => ?_) (fun c53 => ?_)
              · refine wp_bsome ?_
                refine wp_some ?_
                first | trivial | assumption | lia
              · refine wp_bsome ?_
                refine wp_some ?_
                first | trivial | assumption | lia
            · refine wp_bsome ?_
              refine wp_bindE (gI_m_10 (by assumption) (by assumption)) fun x21 E_x21 p_x21 => ?_
              refine wp_bite (fun c54 => ?_) (fun c54 => ?_)
              · refine wp_bsome ?_
                refine wp_some ?_
                first | trivial | assumption | lia
              · refine wp_bsome ?_
                refine wp_some ?_
                first | trivial | assumption | lia
          · refine wp_bsome ?_
            refine wp_bindE (gI_m_9 (by assumption) (by assumption)) fun x18 E_x18 p_x18 => ?_
            refine wp_bite (fun c55 => ?_) (fun c55 => ?_)
            · refine wp_bsome ?_
              refine wp_bindE (gI_m_10 (by assumption) (by assumption)) fun x21 E_x21 p_x21 => ?_
              refine wp_bite (fun c56 => ?_) (fun c56 => ?_)
              · refine wp_bsome ?_
                refine wp_some ?_
                first | trivial | assumption | lia
              · refine wp_bsome ?_
                refine wp_some ?_
                first | trivial | assumption | lia
            · refine wp_bsome ?_
              refine wp_bindE (gI_m_10 (by assumption) (by assumption)) fun x21 E_x21 p_x21 => ?_
              refine wp_bite (fun c57 => ?_) (fun c57 => ?_)
              · refine wp_bsome ?_
                refine wp_some ?_
                first | trivial | assumption | lia
              · refine wp_bsome ?_
                refine wp_some ?_
                first | trivial | assumption | lia
        · refine wp_bsome ?_
          refine wp_bindE (gI_m_5 (by assumption) (by assumption)) fun x14 E_x14 p_x14 => ?_
          refine wp_bindE (gI_m_7 (by assumption) (by assumption)) fun x15 E_x15 p_x15 => ?_
          refine wp_bite (fun c58 => ?_) (fun c58 => ?_)
          · refine wp_bsome ?_
            refine wp_bindE (gI_m_9 (by assumption) (by assumption)) fun x18 E_x18 p_x18 => ?_
            refine wp_bite (fun c59 => ?_) (fun c59 => ?_)
            · refine wp_bsome ?_
              refine wp_bindE (gI_m_10 (by assumption) (by assumption)) fun x21 E_x21 p_x21 => ?_
              refine wp_bite (fun c60 => ?_) (fun c60 => ?_)
              · refine wp_bsome ?_
                refine wp_some ?_
                first | trivial | assumption | lia
              · refine wp_bsome ?_
                refine wp_some ?_
                first | trivial | assumption | lia
            · refine wp_bsome ?_
              refine wp_bindE (gI_m_10 (by assumption) (by assumption)) fun x21 E_x21 p_x21 => ?_
              refine wp_bite (fun c61 => ?_) (fun c61 => ?_)
              · refine wp_bsome ?_
                refine wp_some ?_
                first | trivial | assumption | lia
              · refine wp_bsome ?_
                refine wp_some ?_
                first | trivial | assumption | lia
          · refine wp_bsome ?_
            refine wp_bindE (gI_m_9 (by assumption) (by assumption)) fun x18 E_x18 p_x18 => ?_
            refine wp_bite (fun c62 => ?_) (fun c62 => ?_)
            · refine wp_bsome ?_
              refine wp_bindE (gI_m_10 (by assumption) (by assumption)) fun x21 E_x21 p_x21 => ?_
              refine wp_bite (fun c63 => ?_) (fun c63 => ?_)
              · refine wp_bsome ?_
                refine wp_some ?_
                first | trivial | assumption | lia
              · refine wp_bsome ?_
                refine wp_some ?_
                first | trivial | assumption | lia
            · refine wp_bsome ?_
              refine wp_bindE (gI_m_10 (by assumption) (by assumption)) fun x21 E_x21 p_x21 => ?_
              refine wp_bite (fun c64 => ?_) (fun c64 => ?_)
              · refine wp_bsome ?_
                refine wp_some ?_
                first | trivial | assumption | lia
              · refine wp_bsome ?_
                refine wp_some ?_
                first | trivial | assumption | lia
set_option maxRecDepth 100000 in
set_option maxHeartbeats 4000000 in
theorem t_X6_words {v0 : Nat} (w : WT n b L xs τ g h) (e_v0 : τ v0 = 1) : wp (f_X6_words 10000 v0 h) (fun r => True) := by
  unfold f_X6_words
  refine wp_zif (ob_m (by assumption) (by assumption)) ?_
  refine wp_bind (t_X6_signs (by assumption) (by assumption)) fun q2 p_q2 => ?_
  refine wp_some ?_
  first | trivial | assumption | lia
set_option maxRecDepth 100000 in
set_option maxHeartbeats 4000000 in
theorem t_X6_fact {v0 : Nat} {v1 : Int32} (w : WT n b L xs τ g h) (e_v0 : τ v0 = 1) : wp (f_X6_fact 10000 v0 v1 h) (fun r => True) := by
  unfold f_X6_fact
  refine wp_ite (fun c1 => ?_) (fun c1 => ?_)
  · refine wp_bindE (gI_m_1 (by assumption) (by assumption)) fun x2 E_x2 p_x2 => ?_
    refine wp_some ?_
    first | trivial | assumption | lia
  · refine wp_ite (fun c2 => ?_) (fun c2 => ?_)
    · refine wp_bindE (gI_m_4 (by assumption) (by assumption)) fun x4 E_x4 p_x4 => ?_
      refine wp_some ?_
      first | trivial | assumption | lia
    · refine wp_ite (fun c3 => ?_) (fun c3 => ?_)
      · refine wp_zif (ob_m (by assumption) (by assumption)) ?_
        refine wp_bind (t_X6_seen (by assumption) (by assumption)) fun q7 p_q7 => ?_
        refine wp_some ?_
        first | trivial | assumption | lia
      · refine wp_ite (fun c4 => ?_) (fun c4 => ?_)
        · refine wp_bindE (gI_m_11 (by assumption) (by assumption)) fun x9 E_x9 p_x9 => ?_
          refine wp_ite (fun c5 => ?_) (fun c5 => ?_)
          · refine wp_some ?_
            first | trivial | assumption | lia
          · refine wp_some ?_
            first | trivial | assumption | lia
        · refine wp_ite (fun c6 => ?_) (fun c6 => ?_)
          · refine wp_bindE (gI_m_5 (by assumption) (by assumption)) fun x12 E_x12 p_x12 => ?_
            refine wp_ite (fun c7 => ?_) (fun c7 => ?_)
            · refine wp_some ?_
              first | trivial | assumption | lia
            · refine wp_some ?_
              first | trivial | assumption | lia
          · refine wp_ite (fun c8 => ?_) (fun c8 => ?_)
            · refine wp_bindE (gI_m_6 (by assumption) (by assumption)) fun x15 E_x15 p_x15 => ?_
              refine wp_some ?_
              first | trivial | assumption | lia
            · refine wp_ite (fun c9 => ?_) (fun c9 => ?_)
              · refine wp_bindE (gI_m_9 (by assumption) (by assumption)) fun x17 E_x17 p_x17 => ?_
                refine wp_some ?_
                first | trivial | assumption | lia
              · refine wp_ite (fun c10 => ?_) (fun c10 => ?_)
                · refine wp_bindE (gI_m_10 (by assumption) (by assumption)) fun x19 E_x19 p_x19 => ?_
                  refine wp_some ?_
                  first | trivial | assumption | lia
                · refine wp_ite (fun c11 => ?_) (fun c11 => ?_)
                  · refine wp_bindE (gI_m_7 (by assumption) (by assumption)) fun x21 E_x21 p_x21 => ?_
                    refine wp_ite (fun c12 => ?_) (fun c12 => ?_)
                    · refine wp_some ?_
                      first | trivial | assumption | lia
                    · refine wp_some ?_
                      first | trivial | assumption | lia
                  · refine wp_some ?_
                    first | trivial | assumption | lia
set_option maxRecDepth 100000 in
set_option maxHeartbeats 4000000 in
theorem t_X2_tell {v1 : Int32} {v2 : Int32} {v3 : Int32} (w : WT n b L xs τ g h) : wp (f_X2_tell 10000 (n + 20) v1 v2 v3 h) (fun r => WT n b L xs τ g r) := by
  unfold f_X2_tell
  refine inS (fun c1 => ?_) (fun c1 => ?_)
  · refine wp_some ?_
    first | trivial | assumption | lia
  · refine wp_eq (gR_20_0 (by assumption)) ?_
    refine wp_bindE (sI_21 (by assumption) (by lia) (by lia)) fun h3 E_h3 p_h3 => ?_
    refine wp_eq (gR_20_1 (by assumption)) ?_
    refine wp_bindE (sI_22 (by assumption) (by lia) (by lia)) fun h5 E_h5 p_h5 => ?_
    refine wp_some ?_
    first | trivial | assumption | lia
set_option maxRecDepth 100000 in
set_option maxHeartbeats 4000000 in
theorem t_X2_pair {v1 : Int32} {v2 : Int32} {v3 : Int32} (w : WT n b L xs τ g h) : wp (f_X2_pair 10000 (n + 20) v1 v2 v3 h) (fun r => WT n b L xs τ g r) := by
  unfold f_X2_pair
  refine inS (fun c1 => ?_) (fun c1 => ?_)
  · refine wp_some ?_
    first | trivial | assumption | lia
  · refine wp_eq (gR_20_2 (by assumption)) ?_
    refine wp_ite (fun c2 => ?_) (fun c2 => ?_)
    · refine wp_eq (gR_20_2 (by assumption)) ?_
      refine wp_bindE (aI_23 (by assumption) (by lia) (by lia)) fun x5 E_x5 p_x5 => ?_
      refine wp_bindE (sI_23 (by assumption) (by lia) (by lia)) fun h6 E_h6 p_h6 => ?_
      refine wp_some ?_
      first | trivial | assumption | lia
    · refine wp_eq (gR_20_2 (by assumption)) ?_
      refine wp_bindE (aI_23 (by assumption) (by lia) (by lia)) fun x8 E_x8 p_x8 => ?_
      refine wp_bindE (sI_23 (by assumption) (by lia) (by lia)) fun h9 E_h9 p_h9 => ?_
      refine wp_some ?_
      first | trivial | assumption | lia
set_option maxRecDepth 100000 in
set_option maxHeartbeats 4000000 in
theorem t_X2_isTold {v1 : Int32} (w : WT n b L xs τ g h) : wp (f_X2_isTold 10000 (n + 20) v1 h) (fun r => (r = 0 ∨ (r = 1 ∧ 0 ≤ v1 ∧ v1 < 4))) := by
  unfold f_X2_isTold
  refine inS (fun c1 => ?_) (fun c1 => ?_)
  · refine wp_some ?_
    first | trivial | assumption | lia
  · refine wp_eq (gR_20_0 (by assumption)) ?_
    refine wp_bindE (aI_21 (by assumption) (by lia) (by lia)) fun x3 E_x3 p_x3 => ?_
    refine wp_ite (fun c2 => ?_) (fun c2 => ?_)
    · refine wp_some ?_
      first | trivial | assumption | lia
    · refine wp_some ?_
      first | trivial | assumption | lia
set_option maxRecDepth 100000 in
set_option maxHeartbeats 4000000 in
theorem t_X2_streams_L4 (w : WT n b L xs τ g h) : ∀ (m : Nat) {v1 : Int32} {v2 : Int32}, 0 ≤ v2 → (9000 - v2.toInt).toNat < m → wp (f_X2_streams_L4 10000 (n + 20) h m v1 v2) (fun r => True) := by
  intro m
  induction m with
  | zero => intro v1 v2 i0 hm; exact absurd hm (Nat.not_lt_zero _)
  | succ m ih =>
    intro v1 v2 i0 hm
    rw [f_X2_streams_L4.eq_2]
    refine wp_ite (fun c1 => ?_) (fun c1 => ?_)
    · refine wp_some ?_
      first | trivial | assumption | lia
    · refine wp_zif (ob_20 (by assumption)) ?_
      refine wp_bind (t_X2_isTold (by assumption)) fun q3 p_q3 => ?_
      refine wp_ite (fun c2 => ?_) (fun c2 => ?_)
      · refine wp_mono (ih (by first | lia | assumption | exact Or.inr (by assumption)) (mu_up (by lia) (by lia) hm)) fun z3 p_z3 => ?_
        try dsimp only at p_z3
        first | trivial | assumption | lia
      · refine wp_mono (ih (by first | lia | assumption | exact Or.inr (by assumption)) (mu_up (by lia) (by lia) hm)) fun z4 p_z4 => ?_
        try dsimp only at p_z4
        first | trivial | assumption | lia
set_option maxRecDepth 100000 in
set_option maxHeartbeats 4000000 in
theorem t_X2_streams (w : WT n b L xs τ g h) : wp (f_X2_streams 10000 (n + 20) h) (fun r => True) := by
  unfold f_X2_streams
  refine wp_bind (t_X2_streams_L4 (by assumption) _ (by first | lia | assumption | exact Or.inr (by assumption)) (mu_0 (by lia))) fun m5 p_m5 => ?_
  refine wp_some ?_
  first | trivial | assumption | lia
set_option maxRecDepth 100000 in
set_option maxHeartbeats 4000000 in
theorem t_X2_mayJoin_L2 {v1 : Int32} {v2 : Int32} (w : WT n b L xs τ g h) : ∀ (m : Nat) {v3 : Int32}, 0 ≤ v3 → (9000 - v3.toInt).toNat < m → wp (f_X2_mayJoin_L2 10000 (n + 20) v1 v2 h m v3) (fun r => (match r with | .inl a => True | .inr a => True)) := by
  intro m
  induction m with
  | zero => intro v3 i0 hm; exact absurd hm (Nat.not_lt_zero _)
  | succ m ih =>
    intro v3 i0 hm
    rw [f_X2_mayJoin_L2.eq_2]
    refine wp_ite (fun c1 => ?_) (fun c1 => ?_)
    · refine wp_some ?_
      first | trivial | assumption | lia | (refine ⟨?_, ?_⟩ <;> first | trivial | assumption | lia)
    · refine inS (fun c2 => ?_) (fun c2 => ?_)
      · refine wp_some ?_
        first | trivial | assumption | lia | (refine ⟨?_, ?_⟩ <;> first | trivial | assumption | lia)
      · refine wp_zif (ob_20 (by assumption)) ?_
        refine wp_bind (t_X2_isTold (by assumption)) fun q4 p_q4 => ?_
        refine wp_bite (fun c3 => ?_) (fun c3 => ?_)
        · refine wp_bsome ?_
          refine wp_ite (fun c4 => ?_) (fun c4 => ?_)
          · refine wp_mono (ih (by first | lia | assumption | exact Or.inr (by assumption)) (mu_up (by lia) (by lia) hm)) fun z5 p_z5 => ?_
            try dsimp only at p_z5
            first | trivial | assumption | lia | (refine ⟨?_, ?_⟩ <;> first | trivial | assumption | lia)
          · refine wp_eq (gR_20_2 (by assumption)) ?_
            refine wp_bindE (aI_23 (by assumption) (by lia) (by lia)) fun x10 E_x10 p_x10 => ?_
            refine wp_ite (fun c6 => ?_) (fun c6 => ?_)
            · refine wp_some ?_
              first | trivial | assumption | lia | (refine ⟨?_, ?_⟩ <;> first | trivial | assumption | lia)
            · refine wp_mono (ih (by first | lia | assumption | exact Or.inr (by assumption)) (mu_up (by lia) (by lia) hm)) fun z7 p_z7 => ?_
              try dsimp only at p_z7
              first | trivial | assumption | lia | (refine ⟨?_, ?_⟩ <;> first | trivial | assumption | lia)
        · refine wp_bite (fun c8 => ?_) (fun c8 => ?_)
          · refine wp_bsome ?_
            refine wp_ite (fun c9 => ?_) (fun c9 => ?_)
            · refine wp_mono (ih (by first | lia | assumption | exact Or.inr (by assumption)) (mu_up (by lia) (by lia) hm)) fun z10 p_z10 => ?_
              try dsimp only at p_z10
              first | trivial | assumption | lia | (refine ⟨?_, ?_⟩ <;> first | trivial | assumption | lia)
            · refine wp_eq (gR_20_2 (by assumption)) ?_
              refine wp_bindE (aI_23 (by assumption) (by lia) (by lia)) fun x10 E_x10 p_x10 => ?_
              refine wp_ite (fun c11 => ?_) (fun c11 => ?_)
              · refine wp_some ?_
                first | trivial | assumption | lia | (refine ⟨?_, ?_⟩ <;> first | trivial | assumption | lia)
              · refine wp_mono (ih (by first | lia | assumption | exact Or.inr (by assumption)) (mu_up (by lia) (by lia) hm)) fun z12 p_z12 => ?_
                try dsimp only at p_z12
                first | trivial | assumption | lia | (refine ⟨?_, ?_⟩ <;> first | trivial | assumption | lia)
          · refine wp_bsome ?_
            refine wp_ite (fun c13 => ?_) (fun c13 => ?_)
            · refine wp_mono (ih (by first | lia | assumption | exact Or.inr (by assumption)) (mu_up (by lia) (by lia) hm)) fun z14 p_z14 => ?_
              try dsimp only at p_z14
              first | trivial | assumption | lia | (refine ⟨?_, ?_⟩ <;> first | trivial | assumption | lia)
            · refine wp_eq (gR_20_2 (by assumption)) ?_
              refine wp_bindE (aI_23 (by assumption) (by lia) (by lia)) fun x10 E_x10 p_x10 => ?_
              refine wp_ite (fun c15 => ?_) (fun c15 => ?_)
              · refine wp_some ?_
                first | trivial | assumption | lia | (refine ⟨?_, ?_⟩ <;> first | trivial | assumption | lia)
              · refine wp_mono (ih (by first | lia | assumption | exact Or.inr (by assumption)) (mu_up (by lia) (by lia) hm)) fun z16 p_z16 => ?_
                try dsimp only at p_z16
                first | trivial | assumption | lia | (refine ⟨?_, ?_⟩ <;> first | trivial | assumption | lia)
set_option maxRecDepth 100000 in
set_option maxHeartbeats 4000000 in
theorem t_X2_mayJoin {v1 : Int32} {v2 : Int32} (w : WT n b L xs τ g h) : wp (f_X2_mayJoin 10000 (n + 20) v1 v2 h) (fun r => True) := by
  unfold f_X2_mayJoin
  refine wp_bind (t_X2_mayJoin_L2 (by assumption) _ (by first | lia | assumption | exact Or.inr (by assumption)) (mu_0 (by lia))) fun m12 p_m12 => ?_
  rcases m12 with s13 | y1
  · refine wp_zsL ?_
    refine wp_some ?_
    first | trivial | assumption | lia
  · refine wp_zsR ?_
    first | trivial | assumption | lia
set_option maxRecDepth 100000 in
set_option maxHeartbeats 4000000 in
theorem t_X2_arrange_L7  : ∀ (m : Nat) {v2 : Int32} {h : zH}, WT n b L xs τ g h → 0 ≤ v2 → (9000 - v2.toInt).toNat < m → wp (f_X2_arrange_L7 10000 (n + 20) m v2 h) (fun r => WT n b L xs τ g r) := by
  intro m
  induction m with
  | zero => intro v2 h w i0 hm; exact absurd hm (Nat.not_lt_zero _)
  | succ m ih =>
    intro v2 h w i0 hm
    rw [f_X2_arrange_L7.eq_2]
    refine wp_ite (fun c1 => ?_) (fun c1 => ?_)
    · refine wp_some ?_
      first | trivial | assumption | lia
    · refine wp_eq (gR_20_3 (by assumption)) ?_
      refine wp_bindE (sI_24 (by assumption) (by lia) (by lia)) fun h4 E_h4 p_h4 => ?_
      refine wp_mono (ih (by assumption) (by first | lia | assumption | exact Or.inr (by assumption)) (mu_up (by lia) (by lia) hm)) fun z2 p_z2 => ?_
      try dsimp only at p_z2
      first | trivial | assumption | lia
set_option maxRecDepth 100000 in
set_option maxHeartbeats 4000000 in
theorem t_X2_arrange_L27 {v1 : Int32}  : ∀ (m : Nat) {v2 : Int32} {h : zH}, WT n b L xs τ g h → 0 ≤ v2 → (9000 - v2.toInt).toNat < m → wp (f_X2_arrange_L27 10000 (n + 20) v1 m v2 h) (fun r => (match r with | .inl a => WT n b L xs τ g a | .inr a => WT n b L xs τ g a.2)) := by
  intro m
  induction m with
  | zero => intro v2 h w i0 hm; exact absurd hm (Nat.not_lt_zero _)
  | succ m ih =>
    intro v2 h w i0 hm
    rw [f_X2_arrange_L27.eq_2]
    refine wp_ite (fun c1 => ?_) (fun c1 => ?_)
    · refine wp_some ?_
      first | trivial | assumption | lia | (refine ⟨?_, ?_⟩ <;> first | trivial | assumption | lia)
    · refine wp_zletE fun x7 e_x7 => ?_
      have b_x7 : 0 ≤ x7 ∧ x7 ≤ 3 := by rw [e_x7]; exact ph2_r _ _
      refine wp_zif (ob_20 (by assumption)) ?_
      refine wp_bind (t_X2_isTold (by assumption)) fun q9 p_q9 => ?_
      refine wp_bite (fun c2 => ?_) (fun c2 => ?_)
      · refine wp_bsome ?_
        try dsimp only
        refine wp_zsL ?_
        try dsimp only
        refine wp_zif (ob_20 (by assumption)) ?_
        refine wp_bind (t_X2_isTold (by assumption)) fun q28 p_q28 => ?_
        refine wp_ite (fun c3 => ?_) (fun c3 => ?_)
        · refine wp_ite (fun c4 => ?_) (fun c4 => ?_)
          · refine wp_mono (ih (by assumption) (by first | lia | assumption | exact Or.inr (by assumption)) (mu_up (by lia) (by lia) hm)) fun z5 p_z5 => ?_
            try dsimp only at p_z5
            first | trivial | assumption | lia | (refine ⟨?_, ?_⟩ <;> first | trivial | assumption | lia)
          · refine wp_some ?_
            first | trivial | assumption | lia | (refine ⟨?_, ?_⟩ <;> first | trivial | assumption | lia)
        · refine wp_some ?_
          first | trivial | assumption | lia | (refine ⟨?_, ?_⟩ <;> first | trivial | assumption | lia)
      · refine wp_assoc ?_
        refine wp_bindE (gI_20_4 (by assumption)) fun x13 E_x13 p_x13 => ?_
        refine wp_bite (fun c6 => ?_) (fun c6 => ?_)
        · refine wp_bsome ?_
          try dsimp only
          refine wp_zsL ?_
          try dsimp only
          refine wp_zif (ob_20 (by assumption)) ?_
          refine wp_bind (t_X2_isTold (by assumption)) fun q28 p_q28 => ?_
          refine wp_ite (fun c7 => ?_) (fun c7 => ?_)
          · refine wp_ite (fun c8 => ?_) (fun c8 => ?_)
            · refine wp_mono (ih (by assumption) (by first | lia | assumption | exact Or.inr (by assumption)) (mu_up (by lia) (by lia) hm)) fun z9 p_z9 => ?_
              try dsimp only at p_z9
              first | trivial | assumption | lia | (refine ⟨?_, ?_⟩ <;> first | trivial | assumption | lia)
            · refine wp_some ?_
              first | trivial | assumption | lia | (refine ⟨?_, ?_⟩ <;> first | trivial | assumption | lia)
          · refine wp_some ?_
            first | trivial | assumption | lia | (refine ⟨?_, ?_⟩ <;> first | trivial | assumption | lia)
        · refine wp_bzif (ob_20 (by assumption)) ?_
          refine wp_assoc ?_
          refine wp_bind (t_X2_mayJoin (by assumption)) fun q16 p_q16 => ?_
          refine wp_bite (fun c10 => ?_) (fun c10 => ?_)
          · refine wp_bsome ?_
            try dsimp only
            refine wp_zsL ?_
            try dsimp only
            refine wp_zif (ob_20 (by assumption)) ?_
            refine wp_bind (t_X2_isTold (by assumption)) fun q28 p_q28 => ?_
            refine wp_ite (fun c11 => ?_) (fun c11 => ?_)
            · refine wp_ite (fun c12 => ?_) (fun c12 => ?_)
              · refine wp_mono (ih (by assumption) (by first | lia | assumption | exact Or.inr (by assumption)) (mu_up (by lia) (by lia) hm)) fun z13 p_z13 => ?_
                try dsimp only at p_z13
                first | trivial | assumption | lia | (refine ⟨?_, ?_⟩ <;> first | trivial | assumption | lia)
              · refine wp_some ?_
                first | trivial | assumption | lia | (refine ⟨?_, ?_⟩ <;> first | trivial | assumption | lia)
            · refine wp_some ?_
              first | trivial | assumption | lia | (refine ⟨?_, ?_⟩ <;> first | trivial | assumption | lia)
          · refine wp_assoc ?_
            refine wp_eq E_x13 ?_
            refine wp_assoc ?_
            refine wp_bindE (pI_20_4 (by assumption) (by lia) (by lia)) fun h19 E_h19 p_h19 => ?_
            refine wp_assoc ?_
            refine wp_eq (gR_20_3 (by assumption)) ?_
            refine wp_assoc ?_
            refine wp_eq (gR_20_3 (by assumption)) ?_
            refine wp_assoc ?_
            refine wp_bindE (aI_24 (by assumption) (by lia) (by lia)) fun x22 E_x22 p_x22 => ?_
            refine wp_assoc ?_
            refine wp_eq (gR_20_0 (by assumption)) ?_
            refine wp_assoc ?_
            refine wp_bindE (aI_21 (by assumption) (by lia) (by lia)) fun x24 E_x24 p_x24 => ?_
            refine wp_assoc ?_
            refine wp_bindE (sI_24 (by assumption) (by lia) (by lia)) fun h25 E_h25 p_h25 => ?_
            refine wp_bmap ?_
            refine wp_bind (ih (by assumption) (by first | lia | assumption | exact Or.inr (by assumption)) (mu_up (by lia) (by lia) hm)) fun z14 p_z14 => ?_
            refine wp_zsR ?_
            first | trivial | assumption | lia | (refine ⟨?_, ?_⟩ <;> first | trivial | assumption | lia)
set_option maxRecDepth 100000 in
set_option maxHeartbeats 4000000 in
theorem t_X2_arrange {v1 : Int32} (w : WT n b L xs τ g h) : wp (f_X2_arrange 10000 (n + 20) v1 h) (fun r => WT n b L xs τ g r.2) := by
  unfold f_X2_arrange
  refine wp_bindE (pI_20_4 (by assumption) (by lia) (by lia)) fun h1 E_h1 p_h1 => ?_
  refine wp_bind (t_X2_arrange_L7 _ (by assumption) (by first | lia | assumption | exact Or.inr (by assumption)) (mu_0 (by lia))) fun m5 p_m5 => ?_
  refine wp_bind (t_X2_arrange_L27 _ (by assumption) (by first | lia | assumption | exact Or.inr (by assumption)) (mu_0 (by lia))) fun m31 p_m31 => ?_
  rcases m31 with s32 | y1
  · refine wp_zsL ?_
    refine wp_some ?_
    first | trivial | assumption | lia
  · refine wp_zsR ?_
    first | trivial | assumption | lia
set_option maxRecDepth 100000 in
set_option maxHeartbeats 4000000 in
theorem t_X2_round_L9 (w : WT n b L xs τ g h) : ∀ (m : Nat) {v2 : Int32} {v3 : Int32}, 0 ≤ v3 → (9000 - v3.toInt).toNat < m → wp (f_X2_round_L9 10000 (n + 20) h m v2 v3) (fun r => True) := by
  intro m
  induction m with
  | zero => intro v2 v3 i0 hm; exact absurd hm (Nat.not_lt_zero _)
  | succ m ih =>
    intro v2 v3 i0 hm
    rw [f_X2_round_L9.eq_2]
    refine wp_ite (fun c1 => ?_) (fun c1 => ?_)
    · refine wp_some ?_
      first | trivial | assumption | lia
    · refine wp_eq (gR_20_3 (by assumption)) ?_
      refine wp_bindE (aI_24 (by assumption) (by lia) (by lia)) fun x5 E_x5 p_x5 => ?_
      refine wp_zletE fun x6 e_x6 => ?_
      refine wp_mono (ih (by first | lia | assumption | exact Or.inr (by assumption)) (mu_up (by lia) (by lia) hm)) fun z2 p_z2 => ?_
      try dsimp only at p_z2
      first | trivial | assumption | lia
set_option maxRecDepth 100000 in
set_option maxHeartbeats 4000000 in
theorem t_X2_round {v1 : Int32} (w : WT n b L xs τ g h) : wp (f_X2_round 10000 (n + 20) v1 h) (fun r => True) := by
  unfold f_X2_round
  refine wp_bindE (gI_20_4 (by assumption)) fun x1 E_x1 p_x1 => ?_
  refine wp_zletE fun x2 e_x2 => ?_
  refine wp_bind (t_X2_round_L9 (by assumption) _ (by first | lia | assumption | exact Or.inr (by assumption)) (mu_0 (by lia))) fun m7 p_m7 => ?_
  refine wp_some ?_
  first | trivial | assumption | lia
set_option maxRecDepth 100000 in
set_option maxHeartbeats 4000000 in
theorem t_X2_waitingOf {v1 : Int32} {v2 : Int32} {v3 : Int32} (w : WT n b L xs τ g h) : wp (f_X2_waitingOf 10000 (n + 20) v1 v2 v3 h) (fun r => True) := by
  unfold f_X2_waitingOf
  refine wp_zif (ob_20 (by assumption)) ?_
  refine wp_bind (t_X2_isTold (by assumption)) fun q2 p_q2 => ?_
  refine wp_ite (fun c1 => ?_) (fun c1 => ?_)
  · refine wp_some ?_
    first | trivial | assumption | lia
  · refine wp_eq (gR_20_1 (by assumption)) ?_
    refine wp_bindE (aI_22 (by assumption) (by lia) (by lia)) fun x5 E_x5 p_x5 => ?_
    refine wp_eq (gR_20_3 (by assumption)) ?_
    have f2 := ph2_r v2 v1
    refine wp_bindE (aI_24 (by assumption) (by lia) (by lia)) fun x7 E_x7 p_x7 => ?_
    refine wp_some ?_
    first | trivial | assumption | lia
set_option maxRecDepth 100000 in
set_option maxHeartbeats 4000000 in
theorem t_X2_compare_L19 {v1 : Int32} {v3 : Int32} (w : WT n b L xs τ g h) : ∀ (m : Nat) {v4 : Int32} {v5 : Int32}, 0 ≤ v5 → (9000 - v5.toInt).toNat < m → wp (f_X2_compare_L19 10000 (n + 20) v1 v3 h m v4 v5) (fun r => True) := by
  intro m
  induction m with
  | zero => intro v4 v5 i0 hm; exact absurd hm (Nat.not_lt_zero _)
  | succ m ih =>
    intro v4 v5 i0 hm
    rw [f_X2_compare_L19.eq_2]
    refine wp_ite (fun c1 => ?_) (fun c1 => ?_)
    · refine wp_some ?_
      first | trivial | assumption | lia
    · refine wp_zif (ob_20 (by assumption)) ?_
      refine wp_bind (t_X2_waitingOf (by assumption)) fun q6 p_q6 => ?_
      refine wp_zletE fun x7 e_x7 => ?_
      refine wp_mono (ih (by first | lia | assumption | exact Or.inr (by assumption)) (mu_up (by lia) (by lia) hm)) fun z2 p_z2 => ?_
      try dsimp only at p_z2
      first | trivial | assumption | lia
set_option maxRecDepth 100000 in
set_option maxHeartbeats 4000000 in
theorem t_X2_compare {v1 : Int32} {v2 : Int32} (w : WT n b L xs τ g h) : wp (f_X2_compare 10000 (n + 20) v1 v2 h) (fun r => WT n b L xs τ g r) := by
  unfold f_X2_compare
  refine wp_zif (ob_20 (by assumption)) ?_
  refine wp_bind (t_X2_round (by assumption)) fun q2 p_q2 => ?_
  refine wp_ite (fun c1 => ?_) (fun c1 => ?_)
  · refine wp_bind (t_X2_compare_L19 (by assumption) _ (by first | lia | assumption | exact Or.inr (by assumption)) (mu_0 (by lia))) fun m8 p_m8 => ?_
    refine wp_bindE (gI_20_5 (by assumption)) fun x9 E_x9 p_x9 => ?_
    refine wp_bite (fun c2 => ?_) (fun c2 => ?_)
    · refine wp_bsome ?_
      refine wp_zsL ?_
      try dsimp only
      refine wp_bindE (pI_20_5 (by assumption)) fun h21 E_h21 p_h21 => ?_
      refine wp_bindE (pI_20_6 (by assumption)) fun h22 E_h22 p_h22 => ?_
      refine wp_bindE (pI_20_7 (by assumption)) fun h23 E_h23 p_h23 => ?_
      refine wp_some ?_
      first | trivial | assumption | lia
    · refine wp_assoc ?_
      refine wp_bindE (gI_20_7 (by assumption)) fun x13 E_x13 p_x13 => ?_
      refine wp_bite (fun c3 => ?_) (fun c3 => ?_)
      · refine wp_bsome ?_
        refine wp_zsL ?_
        try dsimp only
        refine wp_bindE (pI_20_5 (by assumption)) fun h21 E_h21 p_h21 => ?_
        refine wp_bindE (pI_20_6 (by assumption)) fun h22 E_h22 p_h22 => ?_
        refine wp_bindE (pI_20_7 (by assumption)) fun h23 E_h23 p_h23 => ?_
        refine wp_some ?_
        first | trivial | assumption | lia
      · refine wp_assoc ?_
        refine wp_eq E_x13 ?_
        refine wp_bite (fun c4 => ?_) (fun c4 => ?_)
        · refine wp_assoc ?_
          refine wp_bindE (gI_20_6 (by assumption)) fun x18 E_x18 p_x18 => ?_
          refine wp_bite (fun c5 => ?_) (fun c5 => ?_)
          · refine wp_bmap ?_
            refine wp_bsome ?_
            refine wp_zsR ?_
            first | trivial | assumption | lia
          · refine wp_bsome ?_
            refine wp_zsL ?_
            try dsimp only
            refine wp_bindE (pI_20_5 (by assumption)) fun h21 E_h21 p_h21 => ?_
            refine wp_bindE (pI_20_6 (by assumption)) fun h22 E_h22 p_h22 => ?_
            refine wp_bindE (pI_20_7 (by assumption)) fun h23 E_h23 p_h23 => ?_
            refine wp_some ?_
            first | trivial | assumption | lia
        · refine wp_bmap ?_
          refine wp_bsome ?_
          refine wp_zsR ?_
          first | trivial | assumption | lia
  · refine wp_some ?_
    first | trivial | assumption | lia
set_option maxRecDepth 100000 in
set_option maxHeartbeats 4000000 in
theorem t_X2_findBest_L16 {v1 : Int32}  : ∀ (m : Nat) {v2 : Int32} {h : zH}, WT n b L xs τ g h → 0 ≤ v2 → (9000 - v2.toInt).toNat < m → wp (f_X2_findBest_L16 10000 (n + 20) v1 m v2 h) (fun r => WT n b L xs τ g r) := by
  intro m
  induction m with
  | zero => intro v2 h w i0 hm; exact absurd hm (Nat.not_lt_zero _)
  | succ m ih =>
    intro v2 h w i0 hm
    rw [f_X2_findBest_L16.eq_2]
    refine wp_ite (fun c1 => ?_) (fun c1 => ?_)
    · refine wp_some ?_
      first | trivial | assumption | lia
    · refine wp_zif (ob_20 (by assumption)) ?_
      refine wp_bind (t_X2_arrange (by assumption)) fun q7 p_q7 => ?_
      refine wp_ite (fun c2 => ?_) (fun c2 => ?_)
      · refine wp_mono (ih (by assumption) (by first | lia | assumption | exact Or.inr (by assumption)) (mu_up (by lia) (by lia) hm)) fun z3 p_z3 => ?_
        try dsimp only at p_z3
        first | trivial | assumption | lia
      · refine wp_zif (ob_20 (by assumption)) ?_
        refine wp_bind (t_X2_compare (by assumption)) fun h10 p_h10 => ?_
        refine wp_mono (ih (by assumption) (by first | lia | assumption | exact Or.inr (by assumption)) (mu_up (by lia) (by lia) hm)) fun z4 p_z4 => ?_
        try dsimp only at p_z4
        first | trivial | assumption | lia
set_option maxRecDepth 100000 in
set_option maxHeartbeats 4000000 in
theorem t_X2_findBest {v1 : Int32} (w : WT n b L xs τ g h) : wp (f_X2_findBest 10000 (n + 20) v1 h) (fun r => (r.1 = 0 ∨ r.1 = 1) ∧ WT n b L xs τ g r.2) := by
  unfold f_X2_findBest
  refine wp_bindE (pI_20_5 (by assumption)) fun h1 E_h1 p_h1 => ?_
  refine wp_zif (ob_20 (by assumption)) ?_
  refine wp_bind (t_X2_streams (by assumption)) fun q3 p_q3 => ?_
  refine wp_ite (fun c1 => ?_) (fun c1 => ?_)
  · refine wp_some ?_
    refine ⟨?_, ?_⟩ <;> first | trivial | assumption | lia
  · refine wp_bind (t_X2_findBest_L16 _ (by assumption) (by first | lia | assumption | exact Or.inr (by assumption)) (mu_0 (by lia))) fun m11 p_m11 => ?_
    refine wp_bindE (gI_20_5 (by assumption)) fun x12 E_x12 p_x12 => ?_
    refine wp_ite (fun c2 => ?_) (fun c2 => ?_)
    · refine wp_some ?_
      refine ⟨?_, ?_⟩ <;> first | trivial | assumption | lia
    · refine wp_some ?_
      refine ⟨?_, ?_⟩ <;> first | trivial | assumption | lia
set_option maxRecDepth 100000 in
set_option maxHeartbeats 4000000 in
theorem t_X2_bestPhaseOf {v1 : Int32} (w : WT n b L xs τ g h) : wp (f_X2_bestPhaseOf 10000 (n + 20) v1 h) (fun r => True) := by
  unfold f_X2_bestPhaseOf
  refine wp_bindE (gI_20_5 (by assumption)) fun x1 E_x1 p_x1 => ?_
  refine wp_some ?_
  first | trivial | assumption | lia
set_option maxRecDepth 100000 in
set_option maxHeartbeats 4000000 in
theorem t_X2_bestWaitingOf {v1 : Int32} {v2 : Int32} (w : WT n b L xs τ g h) : wp (f_X2_bestWaitingOf 10000 (n + 20) v1 v2 h) (fun r => WT n b L xs τ g r.2) := by
  unfold f_X2_bestWaitingOf
  refine wp_bindE (gI_20_5 (by assumption)) fun x1 E_x1 p_x1 => ?_
  refine wp_zif (ob_20 (by assumption)) ?_
  refine wp_bind (t_X2_arrange (by assumption)) fun q3 p_q3 => ?_
  refine wp_ite (fun c1 => ?_) (fun c1 => ?_)
  · refine wp_some ?_
    first | trivial | assumption | lia
  · refine wp_bindE (gI_20_5 (by assumption)) fun x5 E_x5 p_x5 => ?_
    refine wp_zif (ob_20 (by assumption)) ?_
    refine wp_bind (t_X2_round (by assumption)) fun q7 p_q7 => ?_
    refine wp_zif (ob_20 (by assumption)) ?_
    refine wp_bind (t_X2_waitingOf (by assumption)) fun q9 p_q9 => ?_
    refine wp_some ?_
    first | trivial | assumption | lia
set_option maxRecDepth 100000 in
set_option maxHeartbeats 4000000 in
theorem t_X3_lean {v1 : Int32} {v2 : Int32} {v3 : Int32} (w : WT n b L xs τ g h) : wp (f_X3_lean 10000 (n + 25) v1 v2 v3 h) (fun r => WT n b L xs τ g r) := by
  unfold f_X3_lean
  refine in11 (fun c1 => ?_) (fun c1 => ?_)
  · refine wp_some ?_
    first | trivial | assumption | lia
  · refine in11 (fun c2 => ?_) (fun c2 => ?_)
    · refine wp_some ?_
      first | trivial | assumption | lia
    · refine wp_eq (gR_25_1 (by assumption)) ?_
      refine wp_bindE (sI_27 (by assumption) (by lia) (by lia)) fun h4 E_h4 p_h4 => ?_
      refine wp_bindE (pZ_25_4 (by assumption) (by lia)) fun h5 E_h5 p_h5 => ?_
      refine wp_some ?_
      first | trivial | assumption | lia
set_option maxRecDepth 100000 in
set_option maxHeartbeats 4000000 in
theorem t_X3_addUp_L41 {v3 : Int32} {v4 : Int32}  (p0 : 0 < v4) (p1 : v4 ≤ 256) : ∀ (m : Nat) {v5 : Int32} {h : zH}, WT n b L xs τ g h → 0 ≤ v5 → (9000 - v5.toInt).toNat < m → wp (f_X3_addUp_L41 10000 (n + 25) v3 v4 m v5 h) (fun r => WT n b L xs τ g r) := by
  intro m
  induction m with
  | zero => intro v5 h w i0 hm; exact absurd hm (Nat.not_lt_zero _)
  | succ m ih =>
    intro v5 h w i0 hm
    rw [f_X3_addUp_L41.eq_2]
    refine wp_ite (fun c1 => ?_) (fun c1 => ?_)
    · refine wp_some ?_
      first | trivial | assumption | lia
    · refine wp_eq (gR_25_3 (by assumption)) ?_
      refine wp_eq (gR_25_3 (by assumption)) ?_
      refine wp_bindE (aI_29 (by assumption) (by lia) (by lia)) fun x11 E_x11 p_x11 => ?_
      refine wp_bindE (sI_29 (by assumption) (by lia) (by lia)) fun h12 E_h12 p_h12 => ?_
      refine wp_mono (ih (by assumption) (by first | lia | assumption | exact Or.inr (by assumption)) (mu_up (by lia) (by lia) hm)) fun z2 p_z2 => ?_
      try dsimp only at p_z2
      first | trivial | assumption | lia
set_option maxRecDepth 100000 in
set_option maxHeartbeats 4000000 in
theorem t_X3_addUp_L9 {v1 : Int32}  (p0 : 0 ≤ v1) : ∀ (m : Nat) {v2 : Int32} {h : zH}, WT n b L xs τ g h → 0 ≤ v2 → (9000 - v2.toInt).toNat < m → wp (f_X3_addUp_L9 10000 (n + 25) v1 m v2 h) (fun r => WT n b L xs τ g r) := by
  intro m
  induction m with
  | zero => intro v2 h w i0 hm; exact absurd hm (Nat.not_lt_zero _)
  | succ m ih =>
    intro v2 h w i0 hm
    rw [f_X3_addUp_L9.eq_2]
    refine wp_ite (fun c1 => ?_) (fun c1 => ?_)
    · refine wp_some ?_
      first | trivial | assumption | lia
    · refine wp_ite (fun c2 => ?_) (fun c2 => ?_)
      · refine wp_some ?_
        first | trivial | assumption | lia
      · refine wp_eq (gR_25_1 (by assumption)) ?_
        refine wp_bindE (aI_27 (by assumption) (by lia) (by lia)) fun x6 E_x6 p_x6 => ?_
        refine wp_zletE fun x7 e_x7 => ?_
        have b_x7 := shl_r (c := v2) (by lia) (by lia)
        rw [← e_x7] at b_x7
        refine wp_bind (t_X3_addUp_L41 (by first | lia | assumption | exact Or.inr (by assumption)) (by first | lia | assumption | exact Or.inr (by assumption)) _ (by assumption) (by first | lia | assumption | exact Or.inr (by assumption)) (mu_0 (by lia))) fun m13 p_m13 => ?_
        refine wp_mono (ih (by assumption) (by first | lia | assumption | exact Or.inr (by assumption)) (mu_up (by lia) (by lia) hm)) fun z3 p_z3 => ?_
        try dsimp only at p_z3
        first | trivial | assumption | lia
set_option maxRecDepth 100000 in
set_option maxHeartbeats 4000000 in
theorem t_X3_addUp {v1 : Int32} (w : WT n b L xs τ g h) (p0 : 0 ≤ v1) : wp (f_X3_addUp 10000 (n + 25) v1 h) (fun r => WT n b L xs τ g r) := by
  unfold f_X3_addUp
  refine wp_eq (gR_25_3 (by assumption)) ?_
  refine wp_bindE (sI_29 (by assumption) (by lia) (by lia)) fun h2 E_h2 p_h2 => ?_
  refine wp_bind (t_X3_addUp_L9 (by first | lia | assumption | exact Or.inr (by assumption)) _ (by assumption) (by first | lia | assumption | exact Or.inr (by assumption)) (mu_0 (by lia))) fun m14 p_m14 => ?_
  refine wp_some ?_
  first | trivial | assumption | lia
set_option maxRecDepth 100000 in
set_option maxHeartbeats 4000000 in
theorem t_X3_poll_L31 {v1 : Int32}  (p0 : 0 ≤ v1) (p1 : v1 < 8) : ∀ (m : Nat) {v2 : Int32} {h : zH}, WT n b L xs τ g h → 0 ≤ v2 → (9000 - v2.toInt).toNat < m → wp (f_X3_poll_L31 10000 (n + 25) v1 m v2 h) (fun r => WT n b L xs τ g r) := by
  intro m
  induction m with
  | zero => intro v2 h w i0 hm; exact absurd hm (Nat.not_lt_zero _)
  | succ m ih =>
    intro v2 h w i0 hm
    rw [f_X3_poll_L31.eq_2]
    refine wp_ite (fun c1 => ?_) (fun c1 => ?_)
    · refine wp_some ?_
      first | trivial | assumption | lia
    · refine wp_eq (gR_25_3 (by assumption)) ?_
      refine wp_bindE (aI_29 (by assumption) (by lia) (by lia)) fun x10 E_x10 p_x10 => ?_
      refine wp_ite (fun c2 => ?_) (fun c2 => ?_)
      · refine wp_mono (ih (by assumption) (by first | lia | assumption | exact Or.inr (by assumption)) (mu_up (by lia) (by lia) hm)) fun z3 p_z3 => ?_
        try dsimp only at p_z3
        first | trivial | assumption | lia
      · refine wp_eq (gR_25_2 (by assumption)) ?_
        refine wp_bindE (aI_28 (by assumption) (by lia) (by lia)) fun x13 E_x13 p_x13 => ?_
        refine wp_eq (gR_25_0 (by assumption)) ?_
        refine wp_bindE (aI_26 (by assumption) (by lia) (by lia)) fun x15 E_x15 p_x15 => ?_
        refine wp_bindE (sI_28 (by assumption) (by lia) (by lia)) fun h16 E_h16 p_h16 => ?_
        refine wp_mono (ih (by assumption) (by first | lia | assumption | exact Or.inr (by assumption)) (mu_up (by lia) (by lia) hm)) fun z4 p_z4 => ?_
        try dsimp only at p_z4
        first | trivial | assumption | lia
set_option maxRecDepth 100000 in
set_option maxHeartbeats 4000000 in
theorem t_X3_poll_L10  : ∀ (m : Nat) {v1 : Int32} {h : zH}, WT n b L xs τ g h → 0 ≤ v1 → (9000 - v1.toInt).toNat < m → wp (f_X3_poll_L10 10000 (n + 25) m v1 h) (fun r => WT n b L xs τ g r) := by
  intro m
  induction m with
  | zero => intro v1 h w i0 hm; exact absurd hm (Nat.not_lt_zero _)
  | succ m ih =>
    intro v1 h w i0 hm
    rw [f_X3_poll_L10.eq_2]
    refine wp_bindE (gI_25_6 (by assumption)) fun x3 E_x3 p_x3 => ?_
    refine wp_ite (fun c1 => ?_) (fun c1 => ?_)
    · refine wp_some ?_
      first | trivial | assumption | lia
    · refine wp_ite (fun c2 => ?_) (fun c2 => ?_)
      · refine wp_some ?_
        first | trivial | assumption | lia
      · refine wp_zif (ob_25 (by assumption)) ?_
        refine wp_bind (t_X3_addUp (by assumption) (by first | lia | assumption | exact Or.inr (by assumption))) fun h7 p_h7 => ?_
        refine wp_bind (t_X3_poll_L31 (by first | lia | assumption | exact Or.inr (by assumption)) (by first | lia | assumption | exact Or.inr (by assumption)) _ (by assumption) (by first | lia | assumption | exact Or.inr (by assumption)) (mu_0 (by lia))) fun m17 p_m17 => ?_
        refine wp_mono (ih (by assumption) (by first | lia | assumption | exact Or.inr (by assumption)) (mu_up (by lia) (by lia) hm)) fun z3 p_z3 => ?_
        try dsimp only at p_z3
        first | trivial | assumption | lia
set_option maxRecDepth 100000 in
set_option maxHeartbeats 4000000 in
theorem t_X3_poll (w : WT n b L xs τ g h) : wp (f_X3_poll 10000 (n + 25) h) (fun r => WT n b L xs τ g r) := by
  unfold f_X3_poll
  refine wp_eq (gR_25_2 (by assumption)) ?_
  refine wp_bind (fill_28 (by assumption)) fun h2 p_h2 => ?_
  refine wp_bind (t_X3_poll_L10 _ (by assumption) (by first | lia | assumption | exact Or.inr (by assumption)) (mu_0 (by lia))) fun m18 p_m18 => ?_
  refine wp_some ?_
  first | trivial | assumption | lia
set_option maxRecDepth 100000 in
set_option maxHeartbeats 4000000 in
theorem t_X3_yesFor {v1 : Int32} (w : WT n b L xs τ g h) : wp (f_X3_yesFor 10000 (n + 25) v1 h) (fun r => WT n b L xs τ g r.2) := by
  unfold f_X3_yesFor
  refine wp_bindE (gI_25_4 (by assumption)) fun x1 E_x1 p_x1 => ?_
  refine wp_bite (fun c1 => ?_) (fun c1 => ?_)
  · refine wp_bsome ?_
    refine wp_ite (fun c2 => ?_) (fun c2 => ?_)
    · refine wp_some ?_
      first | trivial | assumption | lia
    · refine wp_ite (fun c3 => ?_) (fun c3 => ?_)
      · refine wp_some ?_
        first | trivial | assumption | lia
      · refine wp_eq (gR_25_2 (by assumption)) ?_
        refine wp_bindE (aI_28 (by assumption) (by lia) (by lia)) fun x10 E_x10 p_x10 => ?_
        refine wp_some ?_
        first | trivial | assumption | lia
  · refine wp_bzif (ob_25 (by assumption)) ?_
    refine wp_assoc ?_
    refine wp_bind (t_X3_poll (by assumption)) fun h5 p_h5 => ?_
    refine wp_assoc ?_
    refine wp_bindE (pZ_25_4 (by assumption) (by lia)) fun h6 E_h6 p_h6 => ?_
    refine wp_bsome ?_
    refine wp_ite (fun c4 => ?_) (fun c4 => ?_)
    · refine wp_some ?_
      first | trivial | assumption | lia
    · refine wp_ite (fun c5 => ?_) (fun c5 => ?_)
      · refine wp_some ?_
        first | trivial | assumption | lia
      · refine wp_eq (gR_25_2 (by assumption)) ?_
        refine wp_bindE (aI_28 (by assumption) (by lia) (by lia)) fun x10 E_x10 p_x10 => ?_
        refine wp_some ?_
        first | trivial | assumption | lia
set_option maxRecDepth 100000 in
set_option maxHeartbeats 4000000 in
theorem t_X3_isMore {v1 : Int32} (w : WT n b L xs τ g h) : wp (f_X3_isMore 10000 (n + 25) v1 h) (fun r => (r = 0 ∨ r = 1)) := by
  unfold f_X3_isMore
  refine wp_bindE (gI_25_5 (by assumption)) fun x1 E_x1 p_x1 => ?_
  refine wp_ite (fun c1 => ?_) (fun c1 => ?_)
  · refine wp_some ?_
    first | trivial | assumption | lia
  · refine wp_some ?_
    first | trivial | assumption | lia
set_option maxRecDepth 100000 in
set_option maxHeartbeats 4000000 in
theorem t_X3_isCarried {v1 : Int32} (w : WT n b L xs τ g h) : wp (f_X3_isCarried 10000 (n + 25) v1 h) (fun r => (r.1 = 0 ∨ r.1 = 1) ∧ WT n b L xs τ g r.2) := by
  unfold f_X3_isCarried
  refine wp_zif (ob_25 (by assumption)) ?_
  refine wp_bind (t_X3_yesFor (by assumption)) fun q2 p_q2 => ?_
  refine wp_zif (ob_25 (by assumption)) ?_
  refine wp_bind (t_X3_isMore (by assumption)) fun q4 p_q4 => ?_
  refine wp_rZ (by lia) ?_
  refine ⟨?_, ?_⟩ <;> first | trivial | assumption | lia
set_option maxRecDepth 100000 in
set_option maxHeartbeats 4000000 in
theorem t_X3_mostLeft_L12 {v1 : Int32}  : ∀ (m : Nat) {v2 : Int32} {v3 : Int32} {v4 : Int32} {v5 : Int32} {h : zH}, WT n b L xs τ g h → v5 ≤ 9000 → (v5.toInt + 1).toNat < m → wp (f_X3_mostLeft_L12 10000 (n + 25) v1 m v2 v3 v4 v5 h) (fun r => WT n b L xs τ g r.2) := by
  intro m
  induction m with
  | zero => intro v2 v3 v4 v5 h w i0 hm; exact absurd hm (Nat.not_lt_zero _)
  | succ m ih =>
    intro v2 v3 v4 v5 h w i0 hm
    rw [f_X3_mostLeft_L12.eq_2]
    refine wp_ite (fun c1 => ?_) (fun c1 => ?_)
    · refine wp_some ?_
      first | trivial | assumption | lia
    · refine wp_zletE fun x2 e_x2 => ?_
      refine wp_ite (fun c2 => ?_) (fun c2 => ?_)
      · refine wp_ite (fun c3 => ?_) (fun c3 => ?_)
        · refine wp_mono (ih (by assumption) (by first | lia | assumption | exact Or.inr (by assumption)) (mu_dp (by lia) (by lia) hm)) fun z4 p_z4 => ?_
          try dsimp only at p_z4
          first | trivial | assumption | lia
        · refine wp_zif (ob_25 (by assumption)) ?_
          refine wp_bind (t_X3_yesFor (by assumption)) fun q6 p_q6 => ?_
          refine wp_zif (ob_25 (by assumption)) ?_
          refine wp_bind (t_X3_isMore (by assumption)) fun q8 p_q8 => ?_
          refine wp_ite (fun c5 => ?_) (fun c5 => ?_)
          · refine wp_mono (ih (by assumption) (by first | lia | assumption | exact Or.inr (by assumption)) (mu_dp (by lia) (by lia) hm)) fun z6 p_z6 => ?_
            try dsimp only at p_z6
            first | trivial | assumption | lia
          · refine wp_bite (fun c7 => ?_) (fun c7 => ?_)
            · refine wp_bsome ?_
              refine wp_zsL ?_
              try dsimp only
              refine wp_mono (ih (by assumption) (by first | lia | assumption | exact Or.inr (by assumption)) (mu_dp (by lia) (by lia) hm)) fun z8 p_z8 => ?_
              try dsimp only at p_z8
              first | trivial | assumption | lia
            · refine wp_bite (fun c9 => ?_) (fun c9 => ?_)
              · refine wp_bmap ?_
                refine wp_bind (ih (by assumption) (by first | lia | assumption | exact Or.inr (by assumption)) (mu_dp (by lia) (by lia) hm)) fun z10 p_z10 => ?_
                refine wp_zsR ?_
                first | trivial | assumption | lia
              · refine wp_bsome ?_
                refine wp_zsL ?_
                try dsimp only
                refine wp_mono (ih (by assumption) (by first | lia | assumption | exact Or.inr (by assumption)) (mu_dp (by lia) (by lia) hm)) fun z11 p_z11 => ?_
                try dsimp only at p_z11
                first | trivial | assumption | lia
      · refine wp_mono (ih (by assumption) (by first | lia | assumption | exact Or.inr (by assumption)) (mu_dp (by lia) (by lia) hm)) fun z12 p_z12 => ?_
        try dsimp only at p_z12
        first | trivial | assumption | lia
set_option maxRecDepth 100000 in
set_option maxHeartbeats 4000000 in
theorem t_X3_mostLeft {v1 : Int32} (w : WT n b L xs τ g h) : wp (f_X3_mostLeft 10000 (n + 25) v1 h) (fun r => WT n b L xs τ g r.2) := by
  unfold f_X3_mostLeft
  refine wp_bind (t_X3_mostLeft_L12 _ (by assumption) (by first | lia | assumption | exact Or.inr (by assumption)) (mu_d0 (by lia))) fun m15 p_m15 => ?_
  refine wp_some ?_
  first | trivial | assumption | lia
set_option maxRecDepth 100000 in
set_option maxHeartbeats 4000000 in
theorem t_X5_compare {v1 : Int32} {v2 : Int32} {v3 : Int32} (w : WT n b L xs τ g h) : wp (f_X5_compare 10000 (n + 30) v1 v2 v3 h) (fun r => (r = (-1) ∨ r = 0 ∨ r = 1 ∨ r = 2)) := by
  unfold f_X5_compare
  refine wp_zletE fun x1 e_x1 => ?_
  refine wp_zletE fun x2 e_x2 => ?_
  refine wp_eq (gR_30_0 (by assumption)) ?_
  refine wp_eq (aN_31 (by assumption)) ?_
  refine in11 (fun c1 => ?_) (fun c1 => ?_)
  · refine wp_some ?_
    first | trivial | assumption | lia
  · refine wp_eq (gR_30_0 (by assumption)) ?_
    refine wp_eq (aN_31 (by assumption)) ?_
    refine in11 (fun c2 => ?_) (fun c2 => ?_)
    · refine wp_some ?_
      first | trivial | assumption | lia
    · refine wp_eq (gR_30_0 (by assumption)) ?_
      refine wp_bindE (aI_31 (by assumption) (by lia) (by lia)) fun x10 E_x10 p_x10 => ?_
      refine wp_ite (fun c3 => ?_) (fun c3 => ?_)
      · refine wp_some ?_
        first | trivial | assumption | lia
      · refine wp_eq (gR_30_0 (by assumption)) ?_
        refine wp_bindE (aI_31 (by assumption) (by lia) (by lia)) fun x13 E_x13 p_x13 => ?_
        refine wp_ite (fun c4 => ?_) (fun c4 => ?_)
        · refine wp_some ?_
          first | trivial | assumption | lia
        · refine wp_eq (gR_30_0 (by assumption)) ?_
          refine wp_eq E_x13 ?_
          refine wp_eq (gR_30_0 (by assumption)) ?_
          refine wp_eq E_x10 ?_
          refine wp_ite (fun c5 => ?_) (fun c5 => ?_)
          · refine wp_eq (gR_30_0 (by assumption)) ?_
            refine wp_eq E_x13 ?_
            refine wp_eq (gR_30_1 (by assumption)) ?_
            refine wp_bindE (aI_32 (by assumption) (by lia) (by lia)) fun x23 E_x23 p_x23 => ?_
            refine wp_eq (gR_30_0 (by assumption)) ?_
            refine wp_eq E_x10 ?_
            refine wp_eq (gR_30_1 (by assumption)) ?_
            refine wp_bindE (aI_32 (by assumption) (by lia) (by lia)) fun x27 E_x27 p_x27 => ?_
            refine wp_ite (fun c6 => ?_) (fun c6 => ?_)
            · refine wp_some ?_
              first | trivial | assumption | lia
            · refine wp_some ?_
              first | trivial | assumption | lia
          · refine wp_some ?_
            first | trivial | assumption | lia
end TOT
