section MO
variable {h : zH} {n b : Nat} {xs : Nat → Int32}
theorem m_22 (F : Fr h n b xs) : Good (c_L_22 10000 b n (n + 42) 0 h) b := by
  have g := F.2.1
  have e1 : f_X11_fell 10000 n (xs 1) (xs 2) (xs 3) h = some (-1) := by
    unfold f_X11_fell
    simp only [w11]
    by_cases c1 : 0 ≤ xs 1 ∧ xs 1 ≤ 7
    · by_cases c2 : 0 ≤ xs 2 ∧ xs 2 ≤ 30
      · by_cases c3 : 0 ≤ xs 3 ∧ xs 3 ≤ 30
        · by_cases c4 : xs 2 < xs 3
          · obtain ⟨i, hi, ei⟩ := rng (m := 7) (by decide) c1.1 c1.2
            obtain ⟨j, hj, ej⟩ := rng (m := 30) (by decide) c2.1 c2.2
            obtain ⟨l, hl, el⟩ := rng (m := 30) (by decide) c3.1 c3.2
            have x1 : (xs 1 * 31 + xs 2 : Int32) = nI (i * 31 + j) := by rw [ei, ej, ← nI_add, ← nI_mul]; rfl
            have x2 : (xs 1 * 31 + xs 3 : Int32) = nI (i * 31 + l) := by rw [ei, el, ← nI_add, ← nI_mul]; rfl
            have k1 := in_rng (j := i * 31 + j) (m := 248) (by omega) (by decide)
            have q1 : (0 : Int32) ≤ nI (i * 31 + j) ∧ nI (i * 31 + j) ≤ Int32.ofNat 248 - 1 := ⟨nI_pos' (by omega), show nI (i * 31 + j) ≤ nI 247 from nI_le (by omega) (by decide)⟩
            have q2 : (0 : Int32) ≤ nI (i * 31 + l) ∧ nI (i * 31 + l) ≤ Int32.ofNat 248 - 1 := ⟨nI_pos' (by omega), show nI (i * 31 + l) ≤ nI 247 from nI_le (by omega) (by decide)⟩
            have a1 : aI h (n + 31) (nI (i * 31 + j)) = some (-1) := by
              rw [aI_of (fr_31 F) (Or.inl rfl) k1.1 k1.2, nI_clamp (by omega)]
              simp [zM1]; omega
            have cp : f_X5_compare 10000 (n + 30) (xs 1) (xs 2) (xs 3) h = some (-1) := by
              unfold f_X5_compare zlet
              simp only [x1, x2, rd_30_0 F, Option.bind_some, aN_of (fr_31 F) (by decide : (0 : Nat) < 10), w11]
              rw [if_neg (fun q => q q1), if_neg (fun q => q q2), a1]
              rfl
            simp [c1, c2, c3, c4, rd_0_8 F, ob_30 F, zif_t, cp]
          · simp [c1, c2, c3, c4]
        · simp [c1, c2, c3]
      · simp [c1, c2]
    · simp [c1]
  have e2 : f_X12_fell 10000 (n + 42) (xs 1) (xs 2) (xs 3) h = some (-1, h) := by
    unfold f_X12_fell f_X12_isYear
    rw [t0 g]
    simp only [w12, rZ_w, Option.bind_some, ite01, zlet]
    by_cases c1 : 0 ≤ xs 1 ∧ xs 1 ≤ 7
    · by_cases c2 : 0 ≤ xs 2 ∧ xs 2 ≤ 30
      · by_cases c3 : 0 ≤ xs 3 ∧ xs 3 ≤ 30
        · by_cases c4 : xs 2 < xs 3
          · obtain ⟨i, hi, ei⟩ := rng (m := 7) (by decide) c1.1 c1.2
            obtain ⟨j, hj, ej⟩ := rng (m := 30) (by decide) c2.1 c2.2
            have x1 : (31 * xs 1 + xs 2 : Int32) = nI (31 * i + j) := by rw [ei, ej, ← nI_add, ← nI_mul]; rfl
            have k1 := in_rng (j := 31 * i + j) (m := 248) (by omega) (by decide)
            have a1 : aI h (n + 90) (31 * xs 1 + xs 2) = some (-1) := by
              rw [x1, aI_of (fr_90 g) (Or.inl rfl) k1.1 k1.2, nI_clamp (by omega)]
              simp [zM1]; omega
            rw [if_neg (fun q => q c1), if_neg (fun q => q c2), if_neg (fun q => q c3), if_pos c4, rd_42_70 g]
            simp only [Option.bind_some, a1]
            rfl
          · simp [c1, c2, c3, c4]
        · simp [c1, c2, c3]
      · simp [c1, c2]
    · simp [c1]
  refine ⟨h, ?_, sc_n g⟩
  unfold c_L_22
  simp [sc_1 g, sd_1 g, sc_2 g, sd_2 g, sc_3 g, sd_3 g, ob_0 F, ob_42 g, zif_t, e1, e2]
theorem yesF (F : Fr h n b xs) (v : Int32) : f_X3_yesFor 10000 (n + 25) v h = some (0, h) := by
  unfold f_X3_yesFor
  rw [rd_25_4 F]
  simp only [Option.bind_some, reduceIte]
  by_cases c1 : v < 0
  · rw [if_pos c1]
  · rw [if_neg c1]
    by_cases c2 : 512 ≤ v
    · rw [if_pos c2]
    · rw [if_neg c2, rd_25_2 F]
      obtain ⟨j, hj, rfl⟩ := nI_of c1
      have hlt : j < 512 := by
        have := Int32.not_le.mp c2
        exact (nI_ltI hj (by decide)).mp this
      have k := in_rng (j := j) (m := 512) hlt (by decide)
      simp only [Option.bind_some, aI_of (fr_28 F) (Or.inl rfl) k.1 k.2]
theorem isMo (F : Fr h n b xs) : f_X3_isMore 10000 (n + 25) 0 h = some 0 := by
  unfold f_X3_isMore
  rw [rd_25_5 F]
  rfl
theorem vot (g : G h n b xs) (v y : Int32) : f_X12_votes 10000 (n + 42) v y h = some 0 := by
  unfold f_X12_votes
  unfold f_X12_votes_L5
  rw [rd_42_67 g]
  rfl
theorem isPa (g : G h n b xs) (v : Int32) : f_X12_isPassed 10000 (n + 42) v h = some 0 := by
  unfold f_X12_isPassed
  rw [ob_42 g, zif_t, vot g, vot g]
  rfl
theorem m_19 (F : Fr h n b xs) : Good (c_L_19 10000 b n (n + 42) 0 h) b := by
  have g := F.2.1
  have cr : f_X3_isCarried 10000 (n + 25) (xs 1) h = some (0, h) := by
    unfold f_X3_isCarried
    rw [ob_25 F, zif_t, yesF F]
    simp only [Option.bind_some, ob_25 F, zif_t, isMo F]
    rfl
  have e1 : f_X11_passes 10000 n (xs 1) h = some (if 0 ≤ xs 1 ∧ xs 1 ≤ 511 then 0 else -1, h) := by
    unfold f_X11_passes
    simp only [w11]
    by_cases c : 0 ≤ xs 1 ∧ xs 1 ≤ 511
    · rw [if_neg (fun q => q c), if_pos c, rd_0_7 F]
      simp only [Option.bind_some, ob_25 F, zif_t, cr, reduceIte]
    · rw [if_pos c, if_neg c]
  have e2 : f_X12_passes 10000 (n + 42) (xs 1) h = some (if 0 ≤ xs 1 ∧ xs 1 ≤ 511 then 0 else -1, h) := by
    unfold f_X12_passes f_X12_isClauses
    rw [t0 g]
    simp only [rZ_w, Option.bind_some, ite01]
    by_cases c : 0 ≤ xs 1 ∧ xs 1 ≤ 511
    · rw [if_neg (fun q => q c), if_pos c]
      simp only [Option.bind_some, ob_42 g, zif_t, isPa g, reduceIte]
    · rw [if_pos c, if_neg c]
  refine ⟨h, ?_, sc_n g⟩
  unfold c_L_19
  simp [sc_1 g, sd_1 g, ob_0 F, ob_42 g, zif_t, e1, e2]
theorem mostC (F : Fr h n b xs) (v : Int32) : ∀ (m j : Nat), j ≤ 512 → j < m → f_X3_mostLeft_L12 10000 (n + 25) v m (-1) (-1) 0 (nI j - 1) h = some (-1, h) := by
  intro m
  induction m with
  | zero => intro j _ h2; omega
  | succ m ih =>
    intro j h1 h2
    unfold f_X3_mostLeft_L12
    cases j with
    | zero => rw [if_pos (by decide)]
    | succ j =>
      have e1 : nI (j + 1) - 1 = nI j := nI_pred j
      have e2 : nI j + (-1) = nI j - 1 := by rw [Int32.sub_eq_add_neg]
      rw [e1, if_neg (nI_pos (by omega))]
      unfold zlet
      simp only [ob_25 F, zif_t, yesF F, isMo F, Option.bind_some, reduceIte, e2, ih j (by omega) (by omega)]
      split
      · split <;> rfl
      · rfl
theorem mostR (g : G h n b xs) (v : Int32) (hv : v ≤ 511) : ∀ (m j : Nat), j ≤ 512 → 512 - j < m → f_X12_most_L18 10000 (n + 42) v h m (-1) (nI j) = some (-1) := by
  intro m
  induction m with
  | zero => intro j _ h2; omega
  | succ m ih =>
    intro j h1 h2
    unfold f_X12_most_L18
    by_cases c : v < nI j
    · rw [if_pos c]
    · rw [if_neg c]
      have hj : j < 512 := by
        have q : nI j ≤ nI 511 := Int32.le_trans (Int32.not_lt.mp c) hv
        have := (nI_leI (by omega) (by decide)).mp q
        omega
      simp only [ob_42 g, zif_t, isPa g, Option.bind_some, reduceIte, nI_1, ih (j + 1) (by omega) (by omega)]
      split <;> rfl
theorem m_20 (F : Fr h n b xs) : Good (c_L_20 10000 b n (n + 42) 0 h) b := by
  have g := F.2.1
  have cr : f_X3_mostLeft 10000 (n + 25) (xs 1) h = some (-1, h) := by
    unfold f_X3_mostLeft
    have := mostC F (xs 1) 10000 512 (by decide) (by decide)
    rw [show nI 512 - 1 = (511 : Int32) by decide] at this
    rw [this]
    rfl
  have e1 : f_X11_most 10000 n (xs 1) h = some (-1, h) := by
    unfold f_X11_most
    simp only [w11]
    by_cases c : 0 ≤ xs 1 ∧ xs 1 ≤ 511
    · rw [if_neg (fun q => q c), rd_0_7 F]
      simp only [Option.bind_some, ob_25 F, zif_t, cr]
    · rw [if_pos c]
  have e2 : f_X12_most 10000 (n + 42) (xs 1) h = some (-1, h) := by
    unfold f_X12_most f_X12_isClauses
    rw [t0 g]
    simp only [rZ_w, Option.bind_some, ite01]
    by_cases c : 0 ≤ xs 1 ∧ xs 1 ≤ 511
    · have r := mostR g (xs 1) c.2 10000 0 (by decide) (by decide)
      rw [nI_0] at r
      rw [if_neg (fun q => q c), r]
      rfl
    · rw [if_pos c]
  refine ⟨h, ?_, sc_n g⟩
  unfold c_L_20
  simp [sc_1 g, sd_1 g, ob_0 F, ob_42 g, zif_t, e1, e2]
end MO
