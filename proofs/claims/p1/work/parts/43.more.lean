section MP
variable {h : zH} {n b : Nat} {xs : Nat → Int32}
theorem pF42x {k : Nat} {v : Value} (g : G h n b xs) (hk : k < 80) : ∃ h2, pF h (n + 42) 12 k v = some h2 ∧ h2.2 b = h.2 b ∧ gV h2 (n + 42) 12 k = some v ∧ zob h2 (n + 42) 12 = true ∧ (∀ j, j ≠ k → gV h2 (n + 42) 12 j = gV h (n + 42) 12 j) ∧ (∀ q, q ≠ n + 42 → h2.2 q = h.2 q) ∧ h2.1 = h.1 := by
  refine ⟨_, pF_of (fr_42 g) hk, zs_ne (by have := g.2.2.1; omega), ?_, zob_zs _ _ _ _, fun j hj => ?_, fun q hq => zs_ne hq, rfl⟩
  · unfold gV
    rw [zs_same]
    show (if (12 : Nat) = 12 then _ else _) = _
    rw [if_pos rfl, List.getElem?_set_self hk]
  · unfold gV
    rw [zs_same, fr_42 g]
    show (if (12 : Nat) = 12 then _ else _) = (if (12 : Nat) = 12 then _ else _)
    rw [if_pos rfl, if_pos rfl, List.getElem?_set_ne (Ne.symm hj)]
theorem strm0 {h1 : zH} (e1 : zob h1 (n + 20) 2 = true) (e2 : gR h1 (n + 20) 2 0 = some (n + 21)) (e3 : h1.2 (n + 21) = some (.inl (0, 4, .inl (fun _ => 0)))) : f_X2_streams 10000 (n + 20) h1 = some 0 := by
  have it : ∀ j : Nat, j < 4 → f_X2_isTold 10000 (n + 20) (nI j) h1 = some 0 := by
    intro j hj
    have k := in_rng (j := j) (m := 4) hj (by decide)
    unfold f_X2_isTold p_X2_isStream
    rw [if_neg k.1, if_neg (show ¬ (4 : Int32) ≤ nI j from nI_ge (b := 4) hj (by decide)), if_neg (by decide), e2]
    simp only [Option.bind_some, aI_of e3 (Or.inl rfl) k.1 k.2]
    rfl
  have lp : ∀ m j : Nat, j ≤ 4 → 4 - j < m → f_X2_streams_L4 10000 (n + 20) h1 m 0 (nI j) = some 0 := by
    intro m
    induction m with
    | zero => intro j _ h2; omega
    | succ m ih =>
      intro j h1 h2
      unfold f_X2_streams_L4
      by_cases c : j = 4
      · subst c; rw [if_pos (by decide)]
      · rw [if_neg (show ¬ (4 : Int32) ≤ nI j from nI_ge (b := 4) (by omega) (by decide)), e1, zif_t, it j (by omega)]
        simp only [Option.bind_some, reduceIte, nI_1]
        exact ih (j + 1) (by omega) (by omega)
  unfold f_X2_streams
  rw [show (0 : Int32) = nI 0 from nI_0.symm]
  have := lp 10000 0 (by decide) (by decide)
  rw [nI_0] at this ⊢
  rw [this]
  rfl
theorem many0 {a L : Nat} (hL : L < 100) (e : h.2 a = some (.inl (3, L, .inl (fun _ => 0)))) : f_X12_manyOf 10000 a h = some 0 := by
  have lp : ∀ m j : Nat, j ≤ L → L - j < m → f_X12_manyOf_L4 10000 a h m 0 (nI j) = some 0 := by
    intro m
    induction m with
    | zero => intro j _ h2; omega
    | succ m ih =>
      intro j h1 h2
      unfold f_X12_manyOf_L4
      rw [aN_of e (by decide)]
      show (if nI L ≤ nI j then _ else _) = _
      by_cases c : j = L
      · subst c; rw [if_pos (show nI j ≤ nI j from Int32.le_refl _)]
      · rw [if_neg (show ¬ nI L ≤ nI j from nI_ge (by omega) (by omega))]
        have k := in_rng (j := j) (m := L) (by omega) (by omega)
        have z : aZ h a (nI j) = some 0 := by simp [aZ, e, k.1, k.2]
        rw [z]
        simp only [Option.bind_some, reduceIte, zlet, nI_1]
        exact ih (j + 1) (by omega) (by omega)
  unfold f_X12_manyOf
  have := lp 10000 0 (by omega) (by omega)
  rw [nI_0] at this
  rw [this]
  rfl
theorem m_26 (F : Fr h n b xs) : Good (c_L_26 10000 b n (n + 42) 0 h) b := by
  have g := F.2.1
  have e1 : ∀ v : Int32, f_X11_count 10000 n v h = some (if v = 0 then 0 else if v = 1 then 0 else if v = 2 then 0 else if v = 3 then 0 else if v = 4 then 0 else if v = 5 then 0 else if v = 6 then 0 else if v = 7 then 0 else if v = 8 then 0 else if v = 9 then 0 else if v = 10 then 0 else if v = 11 then 0 else -1) := by
    intro v
    unfold f_X11_count
    by_cases c0 : v = 0
    · rw [if_pos c0, if_pos c0]
      rw [rd_0_11 F]; rfl
    · rw [if_neg c0, if_neg c0]
      by_cases c1 : v = 1
      · rw [if_pos c1, if_pos c1]
        rw [ob_0 F, zif_t, vNow F]; rfl
      · rw [if_neg c1, if_neg c1]
        by_cases c2 : v = 2
        · rw [if_pos c2, if_pos c2]
          rw [rd_0_10 F]; rfl
        · rw [if_neg c2, if_neg c2]
          by_cases c3 : v = 3
          · rw [if_pos c3, if_pos c3]
            rw [rd_0_4 F, Option.bind_some, rd_10_3 F]; rfl
          · rw [if_neg c3, if_neg c3]
            by_cases c4 : v = 4
            · rw [if_pos c4, if_pos c4]
              rw [rd_0_5 F, Option.bind_some, rd_14_5 F]; rfl
            · rw [if_neg c4, if_neg c4]
              by_cases c5 : v = 5
              · rw [if_pos c5, if_pos c5]
                rw [rd_0_5 F, Option.bind_some, ob_0 F, zif_t, vNow F, Option.bind_some, ob_14 F, zif_t]; unfold f_X0_toldBy f_X0_toldBy_L4; rw [rd_14_5 F]; rfl
              · rw [if_neg c5, if_neg c5]
                by_cases c6 : v = 6
                · rw [if_pos c6, if_pos c6]
                  rw [rd_0_2 F, Option.bind_some, rd_3_2 F]; rfl
                · rw [if_neg c6, if_neg c6]
                  by_cases c7 : v = 7
                  · rw [if_pos c7, if_pos c7]
                    rw [rd_0_6 F, Option.bind_some, ob_20 F, zif_t, strm0 (ob_20 F) (rd_20_0 F) (fr_21 F)]; rfl
                  · rw [if_neg c7, if_neg c7]
                    by_cases c8 : v = 8
                    · rw [if_pos c8, if_pos c8]
                      rw [rd_0_7 F, Option.bind_some, rd_25_6 F]; rfl
                    · rw [if_neg c8, if_neg c8]
                      by_cases c9 : v = 9
                      · rw [if_pos c9, if_pos c9]
                        rw [rd_0_9 F, Option.bind_some, rd_33_9 F]; rfl
                      · rw [if_neg c9, if_neg c9]
                        by_cases c10 : v = 10
                        · rw [if_pos c10, if_pos c10]
                          rw [rd_0_9 F, Option.bind_some, rd_33_10 F]; rfl
                        · rw [if_neg c10, if_neg c10]
                          by_cases c11 : v = 11
                          · rw [if_pos c11, if_pos c11]
                            rw [ob_0 F, zif_t]; unfold f_X11_meetingsMet f_X11_meetingsMet_L4; rw [rd_0_10 F]; rfl
                          · rw [if_neg c11, if_neg c11]
  have e2 : ∀ v : Int32, f_X12_count 10000 (n + 42) v h = some (if v = 0 then 0 else if v = 1 then 0 else if v = 2 then 0 else if v = 3 then 0 else if v = 4 then 0 else if v = 5 then 0 else if v = 6 then 0 else if v = 7 then 0 else if v = 8 then 0 else if v = 9 then 0 else if v = 10 then 0 else if v = 11 then 0 else -1, h) := by
    intro v
    unfold f_X12_count
    rw [t0 g, Option.bind_some]
    by_cases c0 : v = 0
    · rw [if_pos c0, if_pos c0]
      rw [rd_42_25 g]; rfl
    · rw [if_neg c0, if_neg c0]
      by_cases c1 : v = 1
      · rw [if_pos c1, if_pos c1]
        rw [ob_42 g, zif_t, vYear g]; rfl
      · rw [if_neg c1, if_neg c1]
        by_cases c2 : v = 2
        · rw [if_pos c2, if_pos c2]
          rw [rd_42_27 g]; rfl
        · rw [if_neg c2, if_neg c2]
          by_cases c3 : v = 3
          · rw [if_pos c3, if_pos c3]
            rw [rd_42_10 g]; rfl
          · rw [if_neg c3, if_neg c3]
            by_cases c4 : v = 4
            · rw [if_pos c4, if_pos c4]
              rw [rd_42_49 g]; rfl
            · rw [if_neg c4, if_neg c4]
              by_cases c5 : v = 5
              · rw [if_pos c5, if_pos c5]
                rw [ob_42 g, zif_t]; unfold f_X12_rulingsSeen f_X12_rulingsSeen_L4; rw [rd_42_49 g]; rfl
              · rw [if_neg c5, if_neg c5]
                by_cases c6 : v = 6
                · rw [if_pos c6, if_pos c6]
                  rw [rd_42_2 g]; rfl
                · rw [if_neg c6, if_neg c6]
                  by_cases c7 : v = 7
                  · rw [if_pos c7, if_pos c7]
                    rw [rd_42_57 g, Option.bind_some, many0 (by decide) (fr_81 g)]; rfl
                  · rw [if_neg c7, if_neg c7]
                    by_cases c8 : v = 8
                    · rw [if_pos c8, if_pos c8]
                      rw [rd_42_67 g]; rfl
                    · rw [if_neg c8, if_neg c8]
                      by_cases c9 : v = 9
                      · rw [if_pos c9, if_pos c9]
                        rw [rd_42_72 g, Option.bind_some, many0 (by decide) (fr_92 g)]; rfl
                      · rw [if_neg c9, if_neg c9]
                        by_cases c10 : v = 10
                        · rw [if_pos c10, if_pos c10]
                          rw [rd_42_76 g]; rfl
                        · rw [if_neg c10, if_neg c10]
                          by_cases c11 : v = 11
                          · rw [if_pos c11, if_pos c11]
                            rw [ob_42 g, zif_t]; unfold f_X12_metMany f_X12_metMany_L4; rw [rd_42_27 g]; rfl
                          · rw [if_neg c11, if_neg c11]
  refine ⟨h, ?_, sc_n g⟩
  unfold c_L_26
  simp only [sc_1 g, ob_0 F, ob_42 g, zif_t, e1, e2, Option.bind_some, reduceIte]
theorem m_16 (F : Fr h n b xs) : Good (c_L_16 10000 b n (n + 42) 0 h) b := by
  have g := F.2.1
  have e1 : ∃ h1, f_X11_lights 10000 n (xs 1) (xs 2) h = some (-1, h1) ∧ G h1 n b xs := by
    have fb : ∃ h1, f_X2_findBest 10000 (n + 20) (xs 1) h = some (0, h1) ∧ G h1 n b xs := by
      unfold f_X2_findBest
      rw [pF_of (fr_20 F) (by exact Nat.le_of_ble_eq_true rfl)]
      simp only [Option.bind_some]
      rw [zob_zs, zif_t, strm0 (zob_zs _ _ _ _) (by rw [gR_zs]; rfl) (by rw [zs_ne (by omega)]; exact fr_21 F)]
      exact ⟨_, rfl, g.zs (k := 20) (by decide)⟩
    obtain ⟨h1, f1, f2⟩ := fb
    unfold f_X11_lights
    simp only [w11]
    by_cases c1 : 0 ≤ xs 1 ∧ xs 1 ≤ 9
    · by_cases c2 : 0 ≤ xs 2 ∧ xs 2 ≤ 9
      · rw [if_neg (fun q => q c1), if_neg (fun q => q c2), rd_0_6 F]
        simp only [Option.bind_some, ob_20 F, zif_t, f1, reduceIte]
        exact ⟨_, rfl, f2⟩
      · rw [if_neg (fun q => q c1), if_pos c2]
        exact ⟨_, rfl, g⟩
    · rw [if_pos c1]
      exact ⟨_, rfl, g⟩
  obtain ⟨h1, e1, g1⟩ := e1
  have ap : ∀ (h2 : zH) (v : Int32), gR h2 (n + 42) 12 57 = some (n + 81) → h2.2 (n + 81) = some (.inl (3, 4, .inl (fun _ => 0))) → f_X12_arePhases 10000 (n + 42) v h2 = some 0 := by
    intro h2 v q1 q2
    have lp : ∀ m j : Nat, j ≤ 4 → 4 - j < m → f_X12_arePhases_L4 10000 (n + 42) v h2 m 0 (nI j) = some (.inl 0) ∨ f_X12_arePhases_L4 10000 (n + 42) v h2 m 0 (nI j) = some (.inr 0) := by
      intro m
      induction m with
      | zero => intro j _ h2; omega
      | succ m ih =>
        intro j p1 p2
        unfold f_X12_arePhases_L4
        by_cases c : j = 4
        · subst c; rw [if_pos (by decide)]; exact Or.inl rfl
        · have k := in_rng (j := j) (m := 4) (by omega) (by decide)
          have z : aZ h2 (n + 81) (nI j) = some 0 := by simp [aZ, q2, k.1, k.2]
          rw [if_neg (show ¬ (4 : Int32) ≤ nI j from nI_ge (b := 4) (by omega) (by decide)), q1]
          simp only [zlet, Option.bind_some, z, reduceIte, nI_1]
          split
          · exact ih (j + 1) (by omega) (by omega)
          · exact Or.inr rfl
    unfold f_X12_arePhases
    have := lp 10000 0 (by decide) (by decide)
    rw [nI_0] at this
    rcases this with q | q
    · rw [q]; rfl
    · rw [q]; rfl
  have e2 : ∃ h2, f_X12_lights 10000 (n + 42) (xs 1) (xs 2) h1 = some (-1, h2) ∧ h2.2 b = h1.2 b := by
    obtain ⟨h2, p1, p2, p3⟩ : ∃ h2, f_X12_findLights 10000 (n + 42) (xs 1) h1 = some h2 ∧ h2.2 b = h1.2 b ∧ gI h2 (n + 42) 12 63 = some (-1) := by
      unfold f_X12_findLights
      obtain ⟨h3, z1, z2, z3, z4, z5, z6, -⟩ := pF42x (k := 63) (v := .int (-1)) g1 (by decide)
      rw [z1]
      simp only [Option.bind_some]
      have lp : ∀ (h3 : zH) (m j : Nat), j ≤ 256 → 256 - j < m → zob h3 (n + 42) 12 = true → gR h3 (n + 42) 12 57 = some (n + 81) → h3.2 (n + 81) = some (.inl (3, 4, .inl (fun _ => 0))) → f_X12_findLights_L7 10000 (n + 42) (xs 1) m (nI j) h3 = some h3 := by
        intro h3 m
        induction m with
        | zero => intro j _ h2; omega
        | succ m ih =>
          intro j p1 p2 q0 q1 q2
          unfold f_X12_findLights_L7
          by_cases c : j = 256
          · subst c; rw [if_pos (by decide)]
          · rw [if_neg (show ¬ (256 : Int32) ≤ nI j from nI_ge (b := 256) (by omega) (by decide)), q0, zif_t, ap h3 _ q1 q2]
            simp only [Option.bind_some, reduceIte, nI_1]
            exact ih (j + 1) (by omega) (by omega) q0 q1 q2
      have := lp h3 10000 0 (by decide) (by decide) z4 (by unfold gR; rw [z5 57 (by decide)]; exact rd_42_57 g1) (by rw [z6 _ (by omega)]; exact fr_81 g1)
      rw [nI_0] at this
      rw [this]
      exact ⟨_, rfl, z2, by unfold gI; rw [z3]; rfl⟩
    obtain ⟨x4, q4⟩ : ∃ x, (if 4 ≤ xs 2 then (if xs 2 ≤ 5 then some (-1) else some (xs 2 - 6)) else some (xs 2) : Option Int32) = some x := by
      repeat' split
      all_goals exact ⟨_, rfl⟩
    unfold f_X12_lights
    rw [t0 g1]
    simp only [w12, Option.bind_some]
    by_cases c1 : 0 ≤ xs 1 ∧ xs 1 ≤ 9
    · by_cases c2 : 0 ≤ xs 2 ∧ xs 2 ≤ 9
      · rw [if_neg (fun q => q c1), if_neg (fun q => q c2), q4]
        simp only [Option.bind_some, ob_42 g1, zif_t, p1, p3]
        exact ⟨_, rfl, p2⟩
      · rw [if_neg (fun q => q c1), if_pos c2]
        exact ⟨_, rfl, rfl⟩
    · rw [if_pos c1]
      exact ⟨_, rfl, rfl⟩
  obtain ⟨h2, e2, k2⟩ := e2
  refine ⟨h2, ?_, good2 k2 g1⟩
  unfold c_L_16
  simp [sc_1 g, sd_1 g, sc_1 g1, sd_1 g1, sc_2 g, sd_2 g, sc_2 g1, sd_2 g1, ob_0 F, ob_42 g1, zif_t, e1, e2]
theorem m_23 (F : Fr h n b xs) : Good (c_L_23 10000 b n (n + 42) 0 h) b := by
  have g := F.2.1
  have e1 : ∃ h1, f_X11_street 10000 n (xs 1) (xs 2) (xs 3) (xs 4) (xs 5) (xs 6) h = some (if (0 ≤ xs 1 ∧ xs 1 ≤ 7) ∧ (0 ≤ xs 2 ∧ xs 2 ≤ 7) ∧ (0 ≤ xs 3 ∧ xs 3 ≤ 7) ∧ ¬ xs 2 = xs 3 ∧ (0 ≤ xs 4 ∧ xs 4 ≤ 999) ∧ (0 ≤ xs 5 ∧ xs 5 ≤ 999) ∧ 0 ≤ xs 6 ∧ xs 6 ≤ 999 then 1 else 0, h1) ∧ G h1 n b xs := by
    unfold f_X11_street
    simp only [w11]
    by_cases V : (0 ≤ xs 1 ∧ xs 1 ≤ 7) ∧ (0 ≤ xs 2 ∧ xs 2 ≤ 7) ∧ (0 ≤ xs 3 ∧ xs 3 ≤ 7) ∧ ¬ xs 2 = xs 3 ∧ (0 ≤ xs 4 ∧ xs 4 ≤ 999) ∧ (0 ≤ xs 5 ∧ xs 5 ≤ 999) ∧ 0 ≤ xs 6 ∧ xs 6 ≤ 999
    · rw [if_pos V]
      obtain ⟨c1, c2, c3, c7, c4, c5, c6⟩ := V
      obtain ⟨i, hi, ei⟩ := rng (m := 7) (by decide) c1.1 c1.2
      have x1 : (xs 1 * 2 : Int32) = nI (i * 2) := by rw [ei, ← nI_mul]; rfl
      have x2 : (nI (i * 2) + 1 : Int32) = nI (i * 2 + 1) := nI_1 _
      have x3 : (xs 1 * 3 : Int32) = nI (i * 3) := by rw [ei, ← nI_mul]; rfl
      have x4 : (nI (i * 3) + 1 : Int32) = nI (i * 3 + 1) := nI_1 _
      have x5 : (nI (i * 3) + 2 : Int32) = nI (i * 3 + 2) := nI_add _ 2
      have k1 := in_rng (j := i * 2) (m := 16) (by omega) (by decide)
      have k2 := in_rng (j := i * 2 + 1) (m := 16) (by omega) (by decide)
      have k3 := in_rng (j := i * 3) (m := 24) (by omega) (by decide)
      have k4 := in_rng (j := i * 3 + 1) (m := 24) (by omega) (by decide)
      have k5 := in_rng (j := i * 3 + 2) (m := 24) (by omega) (by decide)
      rw [if_neg (fun q => q c2), if_neg (fun q => q c3), if_neg c7, if_neg (fun q => q c4), if_neg (fun q => q c5), if_neg (fun q => q c6)]
      simp only [Option.bind_some]
      rw [if_neg (fun q => q c1), if_neg (by decide), if_neg (by decide), rd_0_9 F]
      unfold f_X10_lay f_X10_tellHurt
      simp only [w11, x1, x3, x2, x4, x5]
      simp [c1, ob_33 F, zif_t, gR, gI, gV, vR, vI, pF, pZ, sI, zob, zs_get, fr_0 F, fr_33 F, fr_34 F, fr_35 F, k1.1, k1.2, k2.1, k2.2, k3.1, k3.2, k4.1, k4.2, k5.1, k5.2]
      exact (((((((((g.zs (k := 34) (by decide)).zs (k := 34) (by decide)).zs (k := 33) (by decide)).zs (k := 33) (by decide)).zs (k := 35) (by decide)).zs (k := 35) (by decide)).zs (k := 35) (by decide)).zs (k := 33) (by decide)))
    · rw [if_neg V]
      by_cases c1 : 0 ≤ xs 1 ∧ xs 1 ≤ 7 <;> by_cases c2 : 0 ≤ xs 2 ∧ xs 2 ≤ 7 <;> by_cases c3 : 0 ≤ xs 3 ∧ xs 3 ≤ 7 <;> by_cases c7 : xs 2 = xs 3 <;> by_cases c4 : 0 ≤ xs 4 ∧ xs 4 ≤ 999 <;> by_cases c5 : 0 ≤ xs 5 ∧ xs 5 ≤ 999 <;> by_cases c6 : 0 ≤ xs 6 ∧ xs 6 ≤ 999 <;> (try (exfalso; exact V ⟨c1, c2, c3, c7, c4, c5, c6⟩)) <;> simp [c1, c2, c3, c4, c5, c6, c7, g]
  obtain ⟨h1, e1, g1⟩ := e1
  have hb := b_ne g1
  have e2 : ∃ h2, f_X12_street 10000 (n + 42) (xs 1) (xs 2) (xs 3) (xs 4) (xs 5) (xs 6) h1 = some (if (0 ≤ xs 1 ∧ xs 1 ≤ 7) ∧ (0 ≤ xs 2 ∧ xs 2 ≤ 7) ∧ (0 ≤ xs 3 ∧ xs 3 ≤ 7) ∧ ¬ xs 2 = xs 3 ∧ (0 ≤ xs 4 ∧ xs 4 ≤ 999) ∧ (0 ≤ xs 5 ∧ xs 5 ≤ 999) ∧ 0 ≤ xs 6 ∧ xs 6 ≤ 999 then 1 else 0, h2) ∧ h2.2 b = h1.2 b := by
    unfold f_X12_street f_X12_isPlace
    rw [t0 g1]
    simp only [w12, rZ_w, Option.bind_some, ite01]
    by_cases V : (0 ≤ xs 1 ∧ xs 1 ≤ 7) ∧ (0 ≤ xs 2 ∧ xs 2 ≤ 7) ∧ (0 ≤ xs 3 ∧ xs 3 ≤ 7) ∧ ¬ xs 2 = xs 3 ∧ (0 ≤ xs 4 ∧ xs 4 ≤ 999) ∧ (0 ≤ xs 5 ∧ xs 5 ≤ 999) ∧ 0 ≤ xs 6 ∧ xs 6 ≤ 999
    · rw [if_pos V]
      obtain ⟨c1, c2, c3, c7, c4, c5, c6⟩ := V
      obtain ⟨i, hi, ei⟩ := rng (m := 7) (by decide) c1.1 c1.2
      have x3 : (3 * xs 1 : Int32) = nI (3 * i) := by rw [ei, ← nI_mul]; rfl
      have x4 : (nI (3 * i) + 1 : Int32) = nI (3 * i + 1) := nI_1 _
      have x5 : (nI (3 * i) + 2 : Int32) = nI (3 * i + 2) := nI_add _ 2
      have k0 := in_rng (j := i) (m := 8) (by omega) (by decide)
      rw [← ei] at k0
      have k3 := in_rng (j := 3 * i) (m := 24) (by omega) (by decide)
      have k4 := in_rng (j := 3 * i + 1) (m := 24) (by omega) (by decide)
      have k5 := in_rng (j := 3 * i + 2) (m := 24) (by omega) (by decide)
      rw [if_neg (fun q => q c4), if_neg (fun q => q c5), if_neg (fun q => q c6)]
      simp only [Option.bind_some]
      rw [if_neg (fun q => q c1), if_neg (fun q => q c2), if_neg (fun q => q c3), if_neg c7, if_neg (by decide), x3, x4, x5]
      simp [gR, gV, vR, sI, sZ, zs_get, fr_42 g1, fr_92 g1, fr_93 g1, fr_94 g1, fr_95 g1, k0.1, k0.2, k3.1, k3.2, k4.1, k4.2, k5.1, k5.2, hb]
    · rw [if_neg V]
      by_cases c1 : 0 ≤ xs 1 ∧ xs 1 ≤ 7 <;> by_cases c2 : 0 ≤ xs 2 ∧ xs 2 ≤ 7 <;> by_cases c3 : 0 ≤ xs 3 ∧ xs 3 ≤ 7 <;> by_cases c7 : xs 2 = xs 3 <;> by_cases c4 : 0 ≤ xs 4 ∧ xs 4 ≤ 999 <;> by_cases c5 : 0 ≤ xs 5 ∧ xs 5 ≤ 999 <;> by_cases c6 : 0 ≤ xs 6 ∧ xs 6 ≤ 999 <;> (try (exfalso; exact V ⟨c1, c2, c3, c7, c4, c5, c6⟩)) <;> simp [c1, c2, c3, c4, c5, c6, c7]
  obtain ⟨h2, e2, k2⟩ := e2
  refine ⟨h2, ?_, good2 k2 g1⟩
  unfold c_L_23
  simp [sc_1 g, sd_1 g, sc_1 g1, sd_1 g1, sc_2 g, sd_2 g, sc_2 g1, sd_2 g1, sc_3 g, sd_3 g, sc_3 g1, sd_3 g1, sc_4 g, sd_4 g, sc_4 g1, sd_4 g1, sc_5 g, sd_5 g, sc_5 g1, sd_5 g1, sc_6 g, sd_6 g, sc_6 g1, sd_6 g1, ob_0 F, ob_42 g1, zif_t, e1, e2]
end MP
