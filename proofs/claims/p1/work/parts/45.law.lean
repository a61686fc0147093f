section MR
variable {h : zH} {n b : Nat} {xs : Nat → Int32}
theorem zn_get (h : zH) (c : zE) (q : Nat) : (znew h c).2 q = if q = h.1.1 then some c else h.2 q := rfl
theorem zn_sz (h : zH) (c : zE) : (znew h c).1.1 = h.1.1 + 1 := rfl
/-- h1 is h but for the class's cells and new ones -/
def Kp (h h1 : zH) (n : Nat) : Prop := (∀ q, (q < n ∨ n + 42 ≤ q ∧ q < n + 100) → h1.2 q = h.2 q) ∧ n + 100 ≤ h1.1.1
theorem Kp.g {h1 : zH} (k : Kp h h1 n) (F : G h n b xs) : G h1 n b xs := by
  obtain ⟨g1, g2, g3, g4⟩ := F
  exact ⟨fun j hj => by rw [k.1 _ (by omega)]; exact g1 j hj, by rw [k.1 _ (by omega)]; exact g2, g3, k.2⟩
theorem yr_ge {v : Int32} (h : ¬ (0 ≤ v ∧ v ≤ 30)) : v < 0 ∨ 31 ≤ v := by
  by_cases c : v < 0
  · exact Or.inl c
  · obtain ⟨j, hj, rfl⟩ := nI_of c
    refine Or.inr ?_
    have : ¬ j ≤ 30 := fun q => h ⟨Int32.not_lt.mp c, show nI j ≤ nI 30 from nI_le q (by decide)⟩
    exact show nI 31 ≤ nI j from nI_le (by omega) hj
theorem yr_lt {v : Int32} (h : 0 ≤ v ∧ v ≤ 30) : ¬ v < 0 ∧ ¬ 31 ≤ v := by
  obtain ⟨j, hj, rfl⟩ := rng (m := 30) (by decide) h.1 h.2
  exact ⟨Int32.not_lt.mpr h.1, show ¬ nI 31 ≤ nI j from nI_ge (by omega) (by decide)⟩
set_option maxHeartbeats 4000000 in
theorem m_7 (F : Fr h n b xs) (hs : h.1.1 = n + 100) : Good (c_L_7 10000 b n (n + 42) 0 h) b := by
  have g := F.2.1
  have e1 : ∃ h1, f_X11_law 10000 n (xs 1) h = some (if 0 ≤ xs 1 ∧ xs 1 ≤ 30 then 0 else -1, h1) ∧ Kp h h1 n := by
    unfold f_X11_law
    simp only [w11]
    by_cases c : 0 ≤ xs 1 ∧ xs 1 ≤ 30
    · rw [if_neg (fun q => q c), if_pos c]
      unfold f_X1_isFull f_X7_read f_X9_start f_X9_advance f_X9_advance_L0 f_X7_read_L29 f_X7_written f_J7_copyOf_59c91 f_X4_init f_X1_add
      simp [gR, gI, gV, vR, vI, pF, sI, sQ, aI, aN, zob, zs_get, zn_get, zn_sz, zs_1, zif, zlet, cpI, zsmall, zblank, hs, Nat.add_assoc, fr_0 F, fr_3 F, fr_6 F, fr_8 F, fr_10 F, fr_11 F]
      refine ⟨fun q hq => ?_, ?_⟩
      · simp only [zs_get, zn_get, zs_1, zn_sz, hs, Nat.add_assoc, Nat.reduceAdd]
        repeat rw [if_neg (by omega)]
      · simp only [zs_1, zn_sz, hs]
        omega
    · rw [if_pos c, if_neg c, rd_0_2 F]
      simp only [Option.bind_some]
      rw [pF_of (fr_3 F) (by exact Nat.le_of_ble_eq_true rfl)]
      refine ⟨_, rfl, fun q hq => zs_ne (by omega), ?_⟩
      rw [zs_1, hs]
      exact Nat.le_refl _
  obtain ⟨h1, e1, k1⟩ := e1
  have g1 := k1.g g
  have hb := b_ne g1
  have e2 : ∃ h2, f_X12_law 10000 (n + 42) (xs 1) h1 = some (if 0 ≤ xs 1 ∧ xs 1 ≤ 30 then 0 else -1, h2) ∧ h2.2 b = h1.2 b := by
    unfold f_X12_law
    rw [t0 g1]
    simp only [Option.bind_some]
    by_cases c : 0 ≤ xs 1 ∧ xs 1 ≤ 30
    · obtain ⟨c1, c2⟩ := yr_lt c
      rw [if_neg c1, if_neg c2, if_pos c, rd_42_10 g1]
      simp only [Option.bind_some]
      rw [if_neg (by decide)]
      unfold f_X12_cutAll f_X12_cutAll_L17 f_X12_law_L53 f_X12_keeps f_X12_keeps_L37 f_X12_keeps_L129
      simp [gR, gI, gV, vR, vI, pF, sI, aI, zob, zs_get, zif, upd, fr_42 g1, fr_44 g1, fr_45 g1, fr_48 g1, fr_49 g1, fr_50 g1, hb, tc_0, tn_0, tc_16, tn_16]
    · rw [if_neg c]
      obtain ⟨h2, q1, q2, q3⟩ := pF42 (k := 2) (v := .int 0) g1 (by decide)
      rcases yr_ge c with c1 | c1
      · rw [if_pos c1, q1]
        exact ⟨h2, rfl, q2⟩
      · rw [if_neg (fun q => absurd (Int32.lt_of_lt_of_le q (by decide : (0 : Int32) ≤ 31)) (Int32.not_lt.mpr c1)), if_pos c1, q1]
        exact ⟨h2, rfl, q2⟩
  obtain ⟨h2, e2, k2⟩ := e2
  refine ⟨h2, ?_, good2 k2 g1⟩
  unfold c_L_7
  simp [sc_1 g, sd_1 g, sc_1 g1, sd_1 g1, ob_0 F, ob_42 g1, zif_t, e1, e2]
end MR
