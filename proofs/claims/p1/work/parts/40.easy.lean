section MM
variable {h : zH} {n b : Nat} {xs : Nat → Int32}
def Good (k : Option zH) (b : Nat) : Prop := ∃ h2, k = some h2 ∧ aN h2 b = some 8
theorem m_3 (F : Fr h n b xs) : Good (c_L_3 10000 b n (n + 42) 0 h) b := by
  refine ⟨h, ?_, sc_n F.2.1⟩
  have g := F.2.1
  unfold c_L_3 f_X11_stand f_X12_stand
  obtain ⟨x1, q1⟩ : ∃ x, (if xs 2 = 0 then some 1 else if p_X11_within (xs 2) (-9999) (-1) = 0 then some 0 else if p_X11_within (xs 3) (-999) (-1) = 0 then some 0 else some 1 : Option Int32) = some x := by
    repeat' split
    all_goals exact ⟨_, rfl⟩
  obtain ⟨x2, q2⟩ : ∃ x, (if xs 2 = 0 then some 1 else if p_X12_within (xs 2) (-9999) (-1) = 0 then some 0 else if p_X12_within (xs 3) (-999) (-1) = 0 then some 0 else some 1 : Option Int32) = some x := by
    repeat' split
    all_goals exact ⟨_, rfl⟩
  simp only [sc_1 g, sc_2 g, sc_3 g, sc_4 g, sc_5 g, ob_0 F, ob_42 g, zif_t, mOf F, isM g, t0 g, Option.bind_some, zopt, q1, q2, reduceIte]
theorem m_4 (F : Fr h n b xs) : Good (c_L_4 10000 b n (n + 42) 0 h) b := by
  refine ⟨h, ?_, sc_n F.2.1⟩
  have g := F.2.1
  unfold c_L_4 f_X11_look f_X12_look
  simp [sc_1 g, sd_1 g, sc_2 g, sd_2 g, ob_0 F, ob_42 g, zif_t, mOf F, isM g, t0 g, zopt]
theorem m_8 (F : Fr h n b xs) : Good (c_L_8 10000 b n (n + 42) 0 h) b := by
  refine ⟨h, ?_, sc_n F.2.1⟩
  have g := F.2.1
  unfold c_L_8 f_X11_whose f_X12_whose
  simp [sc_1 g, sd_1 g, sc_2 g, sd_2 g, sc_3 g, sd_3 g, ob_0 F, ob_42 g, zif_t, mOf F, isM g, t0 g, zopt]
theorem m_9 (F : Fr h n b xs) : Good (c_L_9 10000 b n (n + 42) 0 h) b := by
  refine ⟨h, ?_, sc_n F.2.1⟩
  have g := F.2.1
  unfold c_L_9 f_X11_changes f_X12_changes
  simp [sc_1 g, sd_1 g, sc_2 g, sd_2 g, ob_0 F, ob_42 g, zif_t, mOf F, isM g, t0 g, zopt]
theorem m_10 (F : Fr h n b xs) : Good (c_L_10 10000 b n (n + 42) 0 h) b := by
  refine ⟨h, ?_, sc_n F.2.1⟩
  have g := F.2.1
  unfold c_L_10 f_X11_ruling f_X12_ruling
  by_cases c : xs 2 = 0 <;> simp [c, sc_1 g, sd_1 g, sc_2 g, sd_2 g, ob_0 F, ob_42 g, zif_t, mOf F, isM g, t0 g, zopt]
theorem m_12 (F : Fr h n b xs) : Good (c_L_12 10000 b n (n + 42) 0 h) b := by
  refine ⟨h, ?_, sc_n F.2.1⟩
  have g := F.2.1
  unfold c_L_12 f_X11_held f_X12_held
  simp [sc_1 g, sd_1 g, sc_2 g, sd_2 g, ob_0 F, ob_42 g, zif_t, mOf F, isM g, t0 g, zopt]
/-! as a class's part and the reference's part -/
theorem good2 {h1 h2 : zH} (e : h2.2 b = h1.2 b) (g : G h1 n b xs) : aN h2 b = some 8 := by
  have q := sc_n g
  unfold aN at q ⊢
  rw [e]
  exact q
theorem pF42 {k : Nat} {v : Value} (g : G h n b xs) (hk : k < 80) : ∃ h2, pF h (n + 42) 12 k v = some h2 ∧ h2.2 b = h.2 b ∧ gV h2 (n + 42) 12 k = some v := by
  refine ⟨_, pF_of (fr_42 g) hk, zs_ne (by have := g.2.2.1; omega), ?_⟩
  unfold gV
  rw [zs_same]
  show (if (12 : Nat) = 12 then _ else _) = _
  rw [if_pos rfl, List.getElem?_set_self hk]
theorem m_0 (F : Fr h n b xs) : Good (c_L_0 10000 b n (n + 42) 0 h) b := by
  have g := F.2.1
  have e1 : ∃ h1, f_X11_years 10000 n (xs 1) h = some (if 0 ≤ xs 1 ∧ xs 1 ≤ 30 then xs 1 else -1, h1) ∧ G h1 n b xs := by
    unfold f_X11_years
    rw [rd_0_11 F]
    simp only [w11, Option.bind_some, Int32.zero_add]
    by_cases c : 0 ≤ xs 1 ∧ xs 1 ≤ 30
    · rw [if_neg (fun q => q c), if_pos c.2, if_pos c, pF_of (fr_0 F) (by exact Nat.le_of_ble_eq_true rfl)]
      simp only [Option.bind_some, gI_zs]
      exact ⟨_, rfl, g.zs0⟩
    · rw [if_pos c, if_neg c]
      exact ⟨_, rfl, g⟩
  obtain ⟨h1, e1, g1⟩ := e1
  have e2 : ∃ h2, f_X12_years 10000 (n + 42) (xs 1) h1 = some (if 0 ≤ xs 1 ∧ xs 1 ≤ 30 then xs 1 else -1, h2) ∧ h2.2 b = h1.2 b := by
    unfold f_X12_years f_X12_isYear
    rw [t0 g1]
    simp only [rZ_w, Option.bind_some, ite01, rd_42_25 g1, Int32.zero_add]
    by_cases c : 0 ≤ xs 1 ∧ xs 1 ≤ 30
    · rw [if_neg (fun q => q c), if_pos c.2, if_pos c]
      obtain ⟨h2, q1, q2, q3⟩ := pF42 (k := 25) (v := .int (xs 1)) g1 (by decide)
      rw [q1]
      refine ⟨h2, ?_, q2⟩
      simp [gI, q3, vI]
    · rw [if_pos c, if_neg c]
      exact ⟨_, rfl, rfl⟩
  obtain ⟨h2, e2, k2⟩ := e2
  refine ⟨h2, ?_, good2 k2 g1⟩
  unfold c_L_0
  simp [sc_1 g, sd_1 g, sc_1 g1, sd_1 g1, ob_0 F, ob_42 g1, zif_t, e1, e2]
theorem m_1 (F : Fr h n b xs) : Good (c_L_1 10000 b n (n + 42) 0 h) b := by
  have g := F.2.1
  have e1 : ∃ h1, f_X11_view 10000 n (xs 1) h = some (if 0 ≤ xs 1 ∧ xs 1 ≤ 0 then 1 else 0, h1) ∧ G h1 n b xs := by
    unfold f_X11_view
    rw [rd_0_11 F]
    simp only [w11, Option.bind_some]
    by_cases c : 0 ≤ xs 1 ∧ xs 1 ≤ 0
    · rw [if_neg (fun q => q c), if_pos c]
      split
      · rw [pF_of (fr_0 F) (by exact Nat.le_of_ble_eq_true rfl)]
        exact ⟨_, rfl, g.zs0⟩
      · rw [pF_of (fr_0 F) (by exact Nat.le_of_ble_eq_true rfl)]
        exact ⟨_, rfl, g.zs0⟩
    · rw [if_pos c, if_neg c]
      exact ⟨_, rfl, g⟩
  obtain ⟨h1, e1, g1⟩ := e1
  have e2 : ∃ h2, f_X12_view 10000 (n + 42) (xs 1) h1 = some (if 0 ≤ xs 1 ∧ xs 1 ≤ 0 then 1 else 0, h2) ∧ h2.2 b = h1.2 b := by
    unfold f_X12_view
    rw [t0 g1]
    simp only [w12, Option.bind_some, rd_42_25 g1]
    by_cases c : 0 ≤ xs 1 ∧ xs 1 ≤ 0
    · rw [if_neg (fun q => q c), if_pos c]
      split
      · obtain ⟨h2, q1, q2, q3⟩ := pF42 (k := 26) (v := .int (-1)) g1 (by decide)
        rw [q1]
        exact ⟨h2, rfl, q2⟩
      · obtain ⟨h2, q1, q2, q3⟩ := pF42 (k := 26) (v := .int (xs 1)) g1 (by decide)
        rw [q1]
        exact ⟨h2, rfl, q2⟩
    · rw [if_pos c, if_neg c]
      exact ⟨_, rfl, rfl⟩
  obtain ⟨h2, e2, k2⟩ := e2
  refine ⟨h2, ?_, good2 k2 g1⟩
  unfold c_L_1
  simp [sc_1 g, sd_1 g, sc_1 g1, sd_1 g1, ob_0 F, ob_42 g1, zif_t, e1, e2]
theorem m_18 (F : Fr h n b xs) : Good (c_L_18 10000 b n (n + 42) 0 h) b := by
  refine ⟨h, ?_, sc_n F.2.1⟩
  have g := F.2.1
  have hz : ¬ (0 ≤ xs 1 ∧ xs 1 ≤ 0 - 1) := fun q => absurd (Int32.le_trans q.1 q.2) (by decide)
  unfold c_L_18 f_X11_leans f_X12_leans
  simp only [sc_1 g, sd_1 g, sc_2 g, sd_2 g, sc_3 g, sd_3 g, ob_0 F, ob_42 g, zif_t, t0 g, Option.bind_some, rd_0_7 F, rd_25_6 F, rd_42_67 g, w11, w12, hz, not_false_eq_true, if_true, reduceIte]
end MM
