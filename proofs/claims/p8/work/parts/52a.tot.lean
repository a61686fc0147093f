section TOT
variable {n b L : Nat} {xs : Nat → Int32} {τ : Nat → Nat} {g : zGh} {h : zH}
set_option maxRecDepth 100000 in
set_option maxHeartbeats 4000000 in
theorem t_X6_end {v0 : Nat} (w : WT n b L xs τ g h) (e_v0 : τ v0 = 1) : wp (f_X6_end 10000 v0 h) (fun r => True) := by
  unfold f_X6_end
  refine wp_bindE (gI_m_11 (by assumption) (by assumption)) fun x1 E_x1 p_x1 => ?_
  refine wp_ite (fun c1 => ?_) (fun c1 => ?_)
  · refine wp_some ?_
    first | trivial | assumption | lia
  · refine wp_eq E_x1 ?_
    refine wp_some ?_
    first | trivial | assumption | lia
set_option maxRecDepth 100000 in
set_option maxHeartbeats 4000000 in
theorem t_X6_seen {v0 : Nat} (w : WT n b L xs τ g h) (e_v0 : τ v0 = 1) : wp (f_X6_seen 10000 v0 h) (fun r => True) := by
  unfold f_X6_seen
  refine wp_bindE (gI_m_12 (by assumption) (by assumption)) fun x1 E_x1 p_x1 => ?_
  refine wp_ite (fun c1 => ?_) (fun c1 => ?_)
  · refine wp_some ?_
    first | trivial | assumption | lia
  · refine wp_zif (ob_m (by assumption) (by assumption)) ?_
    refine wp_bind (t_X6_end (by assumption) (by assumption)) fun q4 p_q4 => ?_
    refine wp_eq E_x1 ?_
    refine wp_some ?_
    first | trivial | assumption | lia
set_option maxRecDepth 100000 in
set_option maxHeartbeats 4000000 in
theorem t_X6_signs {v0 : Nat} (w : WT n b L xs τ g h) (e_v0 : τ v0 = 1) : wp (f_X6_signs 10000 v0 h) (fun r => True) := by
  unfold f_X6_signs
  refine wp_bindE (gI_m_1 (by assumption) (by assumption)) fun x1 E_x1 p_x1 => ?_
  refine wp_bind (R := fun r => r = 0 ∨ r = 1) ?_ (fun m2 p_m2 => ?_)
  · refine wp_ite (fun c1 => ?_) (fun c1 => ?_)
    · refine wp_some ?_
      first | trivial | assumption | lia
    · refine wp_some ?_
      first | trivial | assumption | lia
  · refine wp_bindE (gI_m_6 (by assumption) (by assumption)) fun x4 E_x4 p_x4 => ?_
    refine wp_bite (fun c2 => ?_) (fun c2 => ?_)
    · refine wp_bsome ?_
      refine wp_eq E_x4 ?_
      refine wp_bite (fun c3 => ?_) (fun c3 => ?_)
      · refine wp_bsome ?_
        refine wp_zif (ob_m (by assumption) (by assumption)) ?_
        refine wp_bind (t_X6_seen (by assumption) (by assumption)) fun q11 p_q11 => ?_
        refine wp_bite (fun c4 => ?_) (fun c4 => ?_)
        · refine wp_bsome ?_
          refine wp_bindE (gI_m_5 (by assumption) (by assumption)) fun x14 E_x14 p_x14 => ?_
          refine wp_bindE (gI_m_7 (by assumption) (by assumption)) fun x15 E_x15 p_x15 => ?_
          refine wp_bite (fun c5 => ?_) (fun c5 => ?_)
          · refine wp_bsome ?_
            refine wp_bindE (gI_m_9 (by assumption) (by assumption)) fun x18 E_x18 p_x18 => ?_
            refine wp_bite (fun c6 => ?_) (fun c6 => ?_)
            · refine wp_bsome ?_
              refine wp_bindE (gI_m_10 (by assumption) (by assumption)) fun x21 E_x21 p_x21 => ?_
              refine wp_bite (fun c7 => ?_) (fun c7 => ?_)
              · refine wp_bsome ?_
                refine wp_some ?_
                first | trivial | assumption | lia
              · refine wp_bsome ?_
                refine wp_some ?_
                first | trivial | assumption | lia
            · refine wp_bsome ?_
              refine wp_bindE (gI_m_10 (by assumption) (by assumption)) fun x21 E_x21 p_x21 => ?_
              refine wp_bite (fun c8 => ?_) (fun c8 => ?_)
              · refine wp_bsome ?_
                refine wp_some ?_
                first | trivial | assumption | lia
              · refine wp_bsome ?_
                refine wp_some ?_
                first | trivial | assumption | lia
          · refine wp_bsome ?_
            refine wp_bindE (gI_m_9 (by assumption) (by assumption)) fun x18 E_x18 p_x18 => ?_
            refine wp_bite (fun c9 => ?_) (fun c9 => ?_)
            · refine wp_bsome ?_
              refine wp_bindE (gI_m_10 (by assumption) (by assumption)) fun x21 E_x21 p_x21 => ?_
              refine wp_bite (fun c10 => ?_) (fun c10 => ?_)
              · refine wp_bsome ?_
                refine wp_some ?_
                first | trivial | assumption | lia
              · refine wp_bsome ?_
                refine wp_some ?_
                first | trivial | assumption | lia
            · refine wp_bsome ?_
              refine wp_bindE (gI_m_10 (by assumption) (by assumption)) fun x21 E_x21 p_x21 => ?_
              refine wp_bite (fun c11 => ?_) (fun c11 => ?_)
              · refine wp_bsome ?_
                refine wp_some ?_
                first | trivial | assumption | lia
              · refine wp_bsome ?_
                refine wp_some ?_
                first | trivial | assumption | lia
        · refine wp_bsome ?_
          refine wp_bindE (gI_m_5 (by assumption) (by assumption)) fun x14 E_x14 p_x14 => ?_
          refine wp_bindE (gI_m_7 (by assumption) (by assumption)) fun x15 E_x15 p_x15 => ?_
          refine wp_bite (fun c12 => ?_) (fun c12 => ?_)
          · refine wp_bsome ?_
            refine wp_bindE (gI_m_9 (by assumption) (by assumption)) fun x18 E_x18 p_x18 => ?_
            refine wp_bite (fun c13 => ?_) (fun c13 => ?_)
            · refine wp_bsome ?_
              refine wp_bindE (gI_m_10 (by assumption) (by assumption)) fun x21 E_x21 p_x21 => ?_
              refine wp_bite (fun c14 => ?_) (fun c14 => ?_)
              · refine wp_bsome ?_
                refine wp_some ?_
                first | trivial | assumption | lia
              · refine wp_bsome ?_
                refine wp_some ?_
                first | trivial | assumption | lia
            · refine wp_bsome ?_
              refine wp_bindE (gI_m_10 (by assumption) (by assumption)) fun x21 E_x21 p_x21 => ?_
              refine wp_bite (fun c15 => ?_) (fun c15 => ?_)
              · refine wp_bsome ?_
                refine wp_some ?_
                first | trivial | assumption | lia
              · refine wp_bsome ?_
                refine wp_some ?_
                first | trivial | assumption | lia
          · refine wp_bsome ?_
            refine wp_bindE (gI_m_9 (by assumption) (by assumption)) fun x18 E_x18 p_x18 => ?_
            refine wp_bite (fun c16 => ?_) (fun c16 => ?_)
            · refine wp_bsome ?_
              refine wp_bindE (gI_m_10 (by assumption) (by assumption)) fun x21 E_x21 p_x21 => ?_
              refine wp_bite (fun c17 => ?_) (fun c17 => ?_)
              · refine wp_bsome ?_
                refine wp_some ?_
                first | trivial | assumption | lia
              · refine wp_bsome ?_
                refine wp_some ?_
                first | trivial | assumption | lia
            · refine wp_bsome ?_
              refine wp_bindE (gI_m_10 (by assumption) (by assumption)) fun x21 E_x21 p_x21 => ?_
              refine wp_bite (fun c18 => ?_) (fun c18 => ?_)
              · refine wp_bsome ?_
                refine wp_some ?_
                first | trivial | assumption | lia
              · refine wp_bsome ?_
                refine wp_some ?_
                first | trivial | assumption | lia
      · refine wp_bsome ?_
        refine wp_zif (ob_m (by assumption) (by assumption)) ?_
        refine wp_bind (t_X6_seen (by assumption) (by assumption)) fun q11 p_q11 => ?_
        refine wp_bite (fun c19 => ?_) (fun c19 => ?_)
        · refine wp_bsome ?_
          refine wp_bindE (gI_m_5 (by assumption) (by assumption)) fun x14 E_x14 p_x14 => ?_
          refine wp_bindE (gI_m_7 (by assumption) (by assumption)) fun x15 E_x15 p_x15 => ?_
          refine wp_bite (fun c20 => ?_) (fun c20 => ?_)
          · refine wp_bsome ?_
            refine wp_bindE (gI_m_9 (by assumption) (by assumption)) fun x18 E_x18 p_x18 => ?_
            refine wp_bite (fun c21 => ?_) (fun c21 => ?_)
            · refine wp_bsome ?_
              refine wp_bindE (gI_m_10 (by assumption) (by assumption)) fun x21 E_x21 p_x21 => ?_
              refine wp_bite (fun c22 => ?_) (fun c22 => ?_)
              · refine wp_bsome ?_
                refine wp_some ?_
                first | trivial | assumption | lia
              · refine wp_bsome ?_
                refine wp_some ?_
                first | trivial | assumption | lia
            · refine wp_bsome ?_
              refine wp_bindE (gI_m_10 (by assumption) (by assumption)) fun x21 E_x21 p_x21 => ?_
              refine wp_bite (fun c23 => ?_) (fun c23 => ?_)
              · refine wp_bsome ?_
                refine wp_some ?_
                first | trivial | assumption | lia
              · refine wp_bsome ?_
                refine wp_some ?_
                first | trivial | assumption | lia
          · refine wp_bsome ?_
            refine wp_bindE (gI_m_9 (by assumption) (by assumption)) fun x18 E_x18 p_x18 => ?_
            refine wp_bite (fun c24 => ?_) (fun c24 => ?_)
            · refine wp_bsome ?_
              refine wp_bindE (gI_m_10 (by assumption) (by assumption)) fun x21 E_x21 p_x21 => ?_
              refine wp_bite (fun c25 => ?_) (fun c25 => ?_)
              · refine wp_bsome ?_
                refine wp_some ?_
                first | trivial | assumption | lia
              · refine wp_bsome ?_
                refine wp_some ?_
                first | trivial | assumption | lia
            · refine wp_bsome ?_
              refine wp_bindE (gI_m_10 (by assumption) (by assumption)) fun x21 E_x21 p_x21 => ?_
              refine wp_bite (fun c26 => ?_) (fun c26 => ?_)
              · refine wp_bsome ?_
                refine wp_some ?_
                first | trivial | assumption | lia
              · refine wp_bsome ?_
                refine wp_some ?_
                first | trivial | assumption | lia
        · refine wp_bsome ?_
          refine wp_bindE (gI_m_5 (by assumption) (by assumption)) fun x14 E_x14 p_x14 => ?_
          refine wp_bindE (gI_m_7 (by assumption) (by assumption)) fun x15 E_x15 p_x15 => ?_
          refine wp_bite (fun c27 => ?_) (fun c27 => ?_)
          · refine wp_bsome ?_
            refine wp_bindE (gI_m_9 (by assumption) (by assumption)) fun x18 E_x18 p_x18 => ?_
            refine wp_bite (fun c28 => ?_) (fun c28 => ?_)
            · refine wp_bsome ?_
              refine wp_bindE (gI_m_10 (by assumption) (by assumption)) fun x21 E_x21 p_x21 => ?_
              refine wp_bite (fun c29 => ?_) (fun c29 => ?_)
              · refine wp_bsome ?_
                refine wp_some ?_
                first | trivial | assumption | lia
              · refine wp_bsome ?_
                refine wp_some ?_
                first | trivial | assumption | lia
            · refine wp_bsome ?_
              refine wp_bindE (gI_m_10 (by assumption) (by assumption)) fun x21 E_x21 p_x21 => ?_
              refine wp_bite (fun c30 => ?_) (fun c30 => ?_)
              · refine wp_bsome ?_
                refine wp_some ?_
                first | trivial | assumption | lia
              · refine wp_bsome ?_
                refine wp_some ?_
                first | trivial | assumption | lia
          · refine wp_bsome ?_
            refine wp_bindE (gI_m_9 (by assumption) (by assumption)) fun x18 E_x18 p_x18 => ?_
            refine wp_bite (fun c31 => ?_) (fun c31 => ?_)
            · refine wp_bsome ?_
              refine wp_bindE (gI_m_10 (by assumption) (by assumption)) fun x21 E_x21 p_x21 => ?_
              refine wp_bite (fun c32 => ?_) (fun c32 => ?_)
              · refine wp_bsome ?_
                refine wp_some ?_
                first | trivial | assumption | lia
              · refine wp_bsome ?_
                refine wp_some ?_
                first | trivial | assumption | lia
            · refine wp_bsome ?_
              refine wp_bindE (gI_m_10 (by assumption) (by assumption)) fun x21 E_x21 p_x21 => ?_
              refine wp_bite (fun c33 => ?_) (fun c33 => ?_)
              · refine wp_bsome ?_
                refine wp_some ?_
                first | trivial | assumption | lia
              · refine wp_bsome ?_
                refine wp_some ?_
                first | trivial | assumption | lia
    · refine wp_bsome ?_
      refine wp_eq E_x4 ?_
      refine wp_bite (fun c34 => ?_) (fun c34 => ?_)
      · refine wp_bsome ?_
        refine wp_zif (ob_m (by assumption) (by assumption)) ?_
        refine wp_bind (t_X6_seen (by assumption) (by assumption)) fun q11 p_q11 => ?_
        refine wp_bite (fun c35 => ?_) (fun c35 => ?_)
        · refine wp_bsome ?_
          refine wp_bindE (gI_m_5 (by assumption) (by assumption)) fun x14 E_x14 p_x14 => ?_
          refine wp_bindE (gI_m_7 (by assumption) (by assumption)) fun x15 E_x15 p_x15 => ?_
          refine wp_bite (fun c36 => ?_) (fun c36 => ?_)
          · refine wp_bsome ?_
            refine wp_bindE (gI_m_9 (by assumption) (by assumption)) fun x18 E_x18 p_x18 => ?_
            refine wp_bite (fun c37 => ?_) (fun c37 => ?_)
            · refine wp_bsome ?_
              refine wp_bindE (gI_m_10 (by assumption) (by assumption)) fun x21 E_x21 p_x21 => ?_
              refine wp_bite (fun c38 => ?_) (fun c38 => ?_)
              · refine wp_bsome ?_
                refine wp_some ?_
                first | trivial | assumption | lia
              · refine wp_bsome ?_
                refine wp_some ?_
                first | trivial | assumption | lia
            · refine wp_bsome ?_
              refine wp_bindE (gI_m_10 (by assumption) (by assumption)) fun x21 E_x21 p_x21 => ?_
              refine wp_bite (fun c39 => ?_) (fun c39 => ?_)
              · refine wp_bsome ?_
                refine wp_some ?_
                first | trivial | assumption | lia
              · refine wp_bsome ?_
                refine wp_some ?_
                first | trivial | assumption | lia
          · refine wp_bsome ?_
            refine wp_bindE (gI_m_9 (by assumption) (by assumption)) fun x18 E_x18 p_x18 => ?_
            refine wp_bite (fun c40 => ?_) (fun c40 => ?_)
            · refine wp_bsome ?_
              refine wp_bindE (gI_m_10 (by assumption) (by assumption)) fun x21 E_x21 p_x21 => ?_
              refine wp_bite (fun c41 => ?_) (fun c41 => ?_)
              · refine wp_bsome ?_
                refine wp_some ?_
                first | trivial | assumption | lia
              · refine wp_bsome ?_
                refine wp_some ?_
                first | trivial | assumption | lia
            · refine wp_bsome ?_
              refine wp_bindE (gI_m_10 (by assumption) (by assumption)) fun x21 E_x21 p_x21 => ?_
              refine wp_bite (fun c42 => ?_) (fun c42 => ?_)
              · refine wp_bsome ?_
                refine wp_some ?_
                first | trivial | assumption | lia
              · refine wp_bsome ?_
                refine wp_some ?_
                first | trivial | assumption | lia
        · refine wp_bsome ?_
          refine wp_bindE (gI_m_5 (by assumption) (by assumption)) fun x14 E_x14 p_x14 => ?_
          refine wp_bindE (gI_m_7 (by assumption) (by assumption)) fun x15 E_x15 p_x15 => ?_
          refine wp_bite (fun c43 => ?_) (fun c43 => ?_)
          · refine wp_bsome ?_
            refine wp_bindE (gI_m_9 (by assumption) (by assumption)) fun x18 E_x18 p_x18 => ?_
            refine wp_bite (fun c44 => ?_) (fun c44 => ?_)
            · refine wp_bsome ?_
              refine wp_bindE (gI_m_10 (by assumption) (by assumption)) fun x21 E_x21 p_x21 => ?_
              refine wp_bite (fun c45 => ?_) (fun c45 => ?_)
              · refine wp_bsome ?_
                refine wp_some ?_
                first | trivial | assumption | lia
              · refine wp_bsome ?_
                refine wp_some ?_
                first | trivial | assumption | lia
            · refine wp_bsome ?_
              refine wp_bindE (gI_m_10 (by assumption) (by assumption)) fun x21 E_x21 p_x21 => ?_
              refine wp_bite (fun c46 => ?_) (fun c46 => ?_)
              · refine wp_bsome ?_
                refine wp_some ?_
                first | trivial | assumption | lia
              · refine wp_bsome ?_
                refine wp_some ?_
                first | trivial | assumption | lia
          · refine wp_bsome ?_
            refine wp_bindE (gI_m_9 (by assumption) (by assumption)) fun x18 E_x18 p_x18 => ?_
            refine wp_bite (fun c47 => ?_) (fun c47 => ?_)
            · refine wp_bsome ?_
              refine wp_bindE (gI_m_10 (by assumption) (by assumption)) fun x21 E_x21 p_x21 => ?_
              refine wp_bite (fun c48 => ?_) (fun c48 => ?_)
              · refine wp_bsome ?_
                refine wp_some ?_
                first | trivial | assumption | lia
              · refine wp_bsome ?_
                refine wp_some ?_
                first | trivial | assumption | lia
            · refine wp_bsome ?_
              refine wp_bindE (gI_m_10 (by assumption) (by assumption)) fun x21 E_x21 p_x21 => ?_
              refine wp_bite (fun c49 => ?_) (fun c49 => ?_)
              · refine wp_bsome ?_
                refine wp_some ?_
                first | trivial | assumption | lia
              · refine wp_bsome ?_
                refine wp_some ?_
                first | trivial | assumption | lia
      · refine wp_bsome ?_
        refine wp_zif (ob_m (by assumption) (by assumption)) ?_
        refine wp_bind (t_X6_seen (by assumption) (by assumption)) fun q11 p_q11 => ?_
        refine wp_bite (fun c50 => ?_) (fun c50 => ?_)
        · refine wp_bsome ?_
          refine wp_bindE (gI_m_5 (by assumption) (by assumption)) fun x14 E_x14 p_x14 => ?_
          refine wp_bindE (gI_m_7 (by assumption) (by assumption)) fun x15 E_x15 p_x15 => ?_
          refine wp_bite (fun c51 => ?_) (fun c51 => ?_)
          · refine wp_bsome ?_
            refine wp_bindE (gI_m_9 (by assumption) (by assumption)) fun x18 E_x18 p_x18 => ?_
            refine wp_bite (fun c52 => ?_) (fun c52 => ?_)
            · refine wp_bsome ?_
              refine wp_bindE (gI_m_10 (by assumption) (by assumption)) fun x21 E_x21 p_x21 => ?_
              refine wp_bite (fun c53 => ?_) (fun c53 => ?_)
              · refine wp_bsome ?_
                refine wp_some ?_
                first | trivial | assumption | lia
              · refine wp_bsome ?_
                refine wp_some ?_
                first | trivial | assumption | lia
            · refine wp_bsome ?_
              refine wp_bindE (gI_m_10 (by assumption) (by assumption)) fun x21 E_x21 p_x21 => ?_
              refine wp_bite (fun c54 => ?_) (fun c54 => ?_)
              · refine wp_bsome ?_
                refine wp_some ?_
                first | trivial | assumption | lia
              · refine wp_bsome ?_
                refine wp_some ?_
                first | trivial | assumption | lia
          · refine wp_bsome ?_
            refine wp_bindE (gI_m_9 (by assumption) (by assumption)) fun x18 E_x18 p_x18 => ?_
            refine wp_bite (fun c55 => ?_) (fun c55 => ?_)
            · refine wp_bsome ?_
              refine wp_bindE (gI_m_10 (by assumption) (by assumption)) fun x21 E_x21 p_x21 => ?_
              refine wp_bite (fun c56 => ?_) (fun c56 => ?_)
              · refine wp_bsome ?_
                refine wp_some ?_
                first | trivial | assumption | lia
              · refine wp_bsome ?_
                refine wp_some ?_
                first | trivial | assumption | lia
            · refine wp_bsome ?_
              refine wp_bindE (gI_m_10 (by assumption) (by assumption)) fun x21 E_x21 p_x21 => ?_
              refine wp_bite (fun c57 => ?_) (fun c57 => ?_)
              · refine wp_bsome ?_
                refine wp_some ?_
                first | trivial | assumption | lia
              · refine wp_bsome ?_
                refine wp_some ?_
                first | trivial | assumption | lia
        · refine wp_bsome ?_
          refine wp_bindE (gI_m_5 (by assumption) (by assumption)) fun x14 E_x14 p_x14 => ?_
          refine wp_bindE (gI_m_7 (by assumption) (by assumption)) fun x15 E_x15 p_x15 => ?_
          refine wp_bite (fun c58 => ?_) (fun c58 => ?_)
          · refine wp_bsome ?_
            refine wp_bindE (gI_m_9 (by assumption) (by assumption)) fun x18 E_x18 p_x18 => ?_
            refine wp_bite (fun c59 => ?_) (fun c59 => ?_)
            · refine wp_bsome ?_
              refine wp_bindE (gI_m_10 (by assumption) (by assumption)) fun x21 E_x21 p_x21 => ?_
              refine wp_bite (fun c60 => ?_) (fun c60 => ?_)
              · refine wp_bsome ?_
                refine wp_some ?_
                first | trivial | assumption | lia
              · refine wp_bsome ?_
                refine wp_some ?_
                first | trivial | assumption | lia
            · refine wp_bsome ?_
              refine wp_bindE (gI_m_10 (by assumption) (by assumption)) fun x21 E_x21 p_x21 => ?_
              refine wp_bite (fun c61 => ?_) (fun c61 => ?_)
              · refine wp_bsome ?_
                refine wp_some ?_
                first | trivial | assumption | lia
              · refine wp_bsome ?_
                refine wp_some ?_
                first | trivial | assumption | lia
          · refine wp_bsome ?_
            refine wp_bindE (gI_m_9 (by assumption) (by assumption)) fun x18 E_x18 p_x18 => ?_
            refine wp_bite (fun c62 => ?_) (fun c62 => ?_)
            · refine wp_bsome ?_
              refine wp_bindE (gI_m_10 (by assumption) (by assumption)) fun x21 E_x21 p_x21 => ?_
              refine wp_bite (fun c63 => ?_) (fun c63 => ?_)
              · refine wp_bsome ?_
                refine wp_some ?_
                first | trivial | assumption | lia
              · refine wp_bsome ?_
                refine wp_some ?_
                first | trivial | assumption | lia
            · refine wp_bsome ?_
              refine wp_bindE (gI_m_10 (by assumption) (by assumption)) fun x21 E_x21 p_x21 => ?_
              refine wp_bite (fun c64 => ?_) (fun c64 => ?_)
              · refine wp_bsome ?_
                refine wp_some ?_
                first | trivial | assumption | lia
              · refine wp_bsome ?_
                refine wp_some ?_
                first | trivial | assumption | lia
set_option maxRecDepth 100000 in
set_option maxHeartbeats 4000000 in
theorem t_X6_words {v0 : Nat} (w : WT n b L xs τ g h) (e_v0 : τ v0 = 1) : wp (f_X6_words 10000 v0 h) (fun r => True) := by
  unfold f_X6_words
  refine wp_zif (ob_m (by assumption) (by assumption)) ?_
  refine wp_bind (t_X6_signs (by assumption) (by assumption)) fun q2 p_q2 => ?_
  refine wp_some ?_
  first | trivial | assumption | lia
set_option maxRecDepth 100000 in
set_option maxHeartbeats 4000000 in
theorem t_X6_fact {v0 : Nat} {v1 : Int32} (w : WT n b L xs τ g h) (e_v0 : τ v0 = 1) : wp (f_X6_fact 10000 v0 v1 h) (fun r => True) := by
  unfold f_X6_fact
  refine wp_ite (fun c1 => ?_) (fun c1 => ?_)
  · refine wp_bindE (gI_m_1 (by assumption) (by assumption)) fun x2 E_x2 p_x2 => ?_
    refine wp_some ?_
    first | trivial | assumption | lia
  · refine wp_ite (fun c2 => ?_) (fun c2 => ?_)
    · refine wp_bindE (gI_m_4 (by assumption) (by assumption)) fun x4 E_x4 p_x4 => ?_
      refine wp_some ?_
      first | trivial | assumption | lia
    · refine wp_ite (fun c3 => ?_) (fun c3 => ?_)
      · refine wp_zif (ob_m (by assumption) (by assumption)) ?_
        refine wp_bind (t_X6_seen (by assumption) (by assumption)) fun q7 p_q7 => ?_
        refine wp_some ?_
        first | trivial | assumption | lia
      · refine wp_ite (fun c4 => ?_) (fun c4 => ?_)
        · refine wp_bindE (gI_m_11 (by assumption) (by assumption)) fun x9 E_x9 p_x9 => ?_
          refine wp_ite (fun c5 => ?_) (fun c5 => ?_)
          · refine wp_some ?_
            first | trivial | assumption | lia
          · refine wp_some ?_
            first | trivial | assumption | lia
        · refine wp_ite (fun c6 => ?_) (fun c6 => ?_)
          · refine wp_bindE (gI_m_5 (by assumption) (by assumption)) fun x12 E_x12 p_x12 => ?_
            refine wp_ite (fun c7 => ?_) (fun c7 => ?_)
            · refine wp_some ?_
              first | trivial | assumption | lia
            · refine wp_some ?_
              first | trivial | assumption | lia
          · refine wp_ite (fun c8 => ?_) (fun c8 => ?_)
            · refine wp_bindE (gI_m_6 (by assumption) (by assumption)) fun x15 E_x15 p_x15 => ?_
              refine wp_some ?_
              first | trivial | assumption | lia
            · refine wp_ite (fun c9 => ?_) (fun c9 => ?_)
              · refine wp_bindE (gI_m_9 (by assumption) (by assumption)) fun x17 E_x17 p_x17 => ?_
                refine wp_some ?_
                first | trivial | assumption | lia
              · refine wp_ite (fun c10 => ?_) (fun c10 => ?_)
                · refine wp_bindE (gI_m_10 (by assumption) (by assumption)) fun x19 E_x19 p_x19 => ?_
                  refine wp_some ?_
                  first | trivial | assumption | lia
                · refine wp_ite (fun c11 => ?_) (fun c11 => ?_)
                  · refine wp_bindE (gI_m_7 (by assumption) (by assumption)) fun x21 E_x21 p_x21 => ?_
                    refine wp_ite (fun c12 => ?_) (fun c12 => ?_)
                    · refine wp_some ?_
                      first | trivial | assumption | lia
                    · refine wp_some ?_
                      first | trivial | assumption | lia
                  · refine wp_some ?_
                    first | trivial | assumption | lia
set_option maxRecDepth 100000 in
set_option maxHeartbeats 4000000 in
theorem t_X2_isTold {v1 : Int32} (w : WT n b L xs τ g h) : wp (f_X2_isTold 10000 (n + 20) v1 h) (fun r => (r = 0 ∨ (r = 1 ∧ 0 ≤ v1 ∧ v1 < 4))) := by
  unfold f_X2_isTold
  refine inS (fun c1 => ?_) (fun c1 => ?_)
  · refine wp_some ?_
    first | trivial | assumption | lia
  · refine wp_eq (gR_20_0 (by assumption)) ?_
    refine wp_bindE (aI_21 (by assumption) (by lia) (by lia)) fun x3 E_x3 p_x3 => ?_
    refine wp_ite (fun c2 => ?_) (fun c2 => ?_)
    · refine wp_some ?_
      first | trivial | assumption | lia
    · refine wp_some ?_
      first | trivial | assumption | lia
set_option maxRecDepth 100000 in
set_option maxHeartbeats 4000000 in
theorem t_X2_streams_L4 (w : WT n b L xs τ g h) : ∀ (m : Nat) {v1 : Int32} {v2 : Int32}, 0 ≤ v2 → (9000 - v2.toInt).toNat < m → wp (f_X2_streams_L4 10000 (n + 20) h m v1 v2) (fun r => True) := by
  intro m
  induction m with
  | zero => intro v1 v2 i0 hm; exact absurd hm (Nat.not_lt_zero _)
  | succ m ih =>
    intro v1 v2 i0 hm
    rw [f_X2_streams_L4.eq_2]
    refine wp_ite (fun c1 => ?_) (fun c1 => ?_)
    · refine wp_some ?_
      first | trivial | assumption | lia
    · refine wp_zif (ob_20 (by assumption)) ?_
      refine wp_bind (t_X2_isTold (by assumption)) fun q3 p_q3 => ?_
      refine wp_ite (fun c2 => ?_) (fun c2 => ?_)
      · refine wp_mono (ih (by first | lia | assumption | exact Or.inr (by assumption)) (mu_up (by lia) (by lia) hm)) fun z3 p_z3 => ?_
        try dsimp only at p_z3
        first | trivial | assumption | lia
      · refine wp_mono (ih (by first | lia | assumption | exact Or.inr (by assumption)) (mu_up (by lia) (by lia) hm)) fun z4 p_z4 => ?_
        try dsimp only at p_z4
        first | trivial | assumption | lia
set_option maxRecDepth 100000 in
set_option maxHeartbeats 4000000 in
theorem t_X2_streams (w : WT n b L xs τ g h) : wp (f_X2_streams 10000 (n + 20) h) (fun r => True) := by
  unfold f_X2_streams
  refine wp_bind (t_X2_streams_L4 (by assumption) _ (by first | lia | assumption | exact Or.inr (by assumption)) (mu_0 (by lia))) fun m5 p_m5 => ?_
  refine wp_some ?_
  first | trivial | assumption | lia
set_option maxRecDepth 100000 in
set_option maxHeartbeats 4000000 in
theorem t_X3_isMore {v1 : Int32} (w : WT n b L xs τ g h) : wp (f_X3_isMore 10000 (n + 25) v1 h) (fun r => (r = 0 ∨ r = 1)) := by
  unfold f_X3_isMore
  refine wp_bindE (gI_25_5 (by assumption)) fun x1 E_x1 p_x1 => ?_
  refine wp_ite (fun c1 => ?_) (fun c1 => ?_)
  · refine wp_some ?_
    first | trivial | assumption | lia
  · refine wp_some ?_
    first | trivial | assumption | lia
set_option maxRecDepth 100000 in
set_option maxHeartbeats 4000000 in
theorem t_X5_compare {v1 : Int32} {v2 : Int32} {v3 : Int32} (w : WT n b L xs τ g h) : wp (f_X5_compare 10000 (n + 30) v1 v2 v3 h) (fun r => (r = (-1) ∨ r = 0 ∨ r = 1 ∨ r = 2)) := by
  unfold f_X5_compare
  refine wp_zletE fun x1 e_x1 => ?_
  refine wp_zletE fun x2 e_x2 => ?_
  refine wp_eq (gR_30_0 (by assumption)) ?_
  refine wp_eq (aN_31 (by assumption)) ?_
  refine in11 (fun c1 => ?_) (fun c1 => ?_)
  · refine wp_some ?_
    first | trivial | assumption | lia
  · refine wp_eq (gR_30_0 (by assumption)) ?_
    refine wp_eq (aN_31 (by assumption)) ?_
    refine in11 (fun c2 => ?_) (fun c2 => ?_)
    · refine wp_some ?_
      first | trivial | assumption | lia
    · refine wp_eq (gR_30_0 (by assumption)) ?_
      refine wp_bindE (aI_31 (by assumption) (by lia) (by lia)) fun x10 E_x10 p_x10 => ?_
      refine wp_ite (fun c3 => ?_) (fun c3 => ?_)
      · refine wp_some ?_
        first | trivial | assumption | lia
      · refine wp_eq (gR_30_0 (by assumption)) ?_
        refine wp_bindE (aI_31 (by assumption) (by lia) (by lia)) fun x13 E_x13 p_x13 => ?_
        refine wp_ite (fun c4 => ?_) (fun c4 => ?_)
        · refine wp_some ?_
          first | trivial | assumption | lia
        · refine wp_eq (gR_30_0 (by assumption)) ?_
          refine wp_eq E_x13 ?_
          refine wp_eq (gR_30_0 (by assumption)) ?_
          refine wp_eq E_x10 ?_
          refine wp_ite (fun c5 => ?_) (fun c5 => ?_)
          · refine wp_eq (gR_30_0 (by assumption)) ?_
            refine wp_eq E_x13 ?_
            refine wp_eq (gR_30_1 (by assumption)) ?_
            refine wp_bindE (aI_32 (by assumption) (by lia) (by lia)) fun x23 E_x23 p_x23 => ?_
            refine wp_eq (gR_30_0 (by assumption)) ?_
            refine wp_eq E_x10 ?_
            refine wp_eq (gR_30_1 (by assumption)) ?_
            refine wp_bindE (aI_32 (by assumption) (by lia) (by lia)) fun x27 E_x27 p_x27 => ?_
            refine wp_ite (fun c6 => ?_) (fun c6 => ?_)
            · refine wp_some ?_
              first | trivial | assumption | lia
            · refine wp_some ?_
              first | trivial | assumption | lia
          · refine wp_some ?_
            first | trivial | assumption | lia
end TOT
