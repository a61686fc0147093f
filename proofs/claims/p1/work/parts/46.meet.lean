section MS
variable {h : zH} {n b : Nat} {xs : Nat → Int32}
set_option maxHeartbeats 4000000 in
theorem m_2 (F : Fr h n b xs) (hs : h.1.1 = n + 100) : Good (c_L_2 10000 b n (n + 42) 0 h) b := by
  have g := F.2.1
  have hbr := F.2.2.1
  have hcc := F.2.2.2
  have e1 : ∃ h1, f_X11_meeting 10000 n (xs 1) (xs 2) (xs 3) (xs 4) (xs 5) (xs 6) (xs 7) h = some (if (0 ≤ xs 1 ∧ xs 1 ≤ 0) ∧ (-9999 ≤ xs 2 ∧ xs 2 ≤ -1) ∧ (1 ≤ xs 3 ∧ xs 3 ≤ 300) ∧ (0 ≤ xs 4 ∧ xs 4 ≤ 5) ∧ (-999 ≤ xs 5 ∧ xs 5 ≤ -1) ∧ (1 ≤ xs 6 ∧ xs 6 ≤ 60) ∧ 0 ≤ xs 7 ∧ xs 7 ≤ 5 then 0 else -1, h1) ∧ Kp h h1 n := by
    unfold f_X11_meeting
    simp only [w11, rd_0_11 F, rd_0_10 F, Option.bind_some]
    by_cases V : (0 ≤ xs 1 ∧ xs 1 ≤ 0) ∧ (-9999 ≤ xs 2 ∧ xs 2 ≤ -1) ∧ (1 ≤ xs 3 ∧ xs 3 ≤ 300) ∧ (0 ≤ xs 4 ∧ xs 4 ≤ 5) ∧ (-999 ≤ xs 5 ∧ xs 5 ≤ -1) ∧ (1 ≤ xs 6 ∧ xs 6 ≤ 60) ∧ 0 ≤ xs 7 ∧ xs 7 ≤ 5
    · rw [if_pos V]
      obtain ⟨c1, c2, c3, c4, c5, c6, c7⟩ := V
      rw [if_neg (fun q => q c2), if_neg (fun q => q c3), if_neg (fun q => q c4), if_neg (fun q => q c5), if_neg (fun q => q c6), if_neg (fun q => q c7)]
      simp only [Option.bind_some]
      rw [if_neg (fun q => q c1), if_neg (by decide), if_neg (by decide), if_pos (by decide)]
      obtain ⟨lk, hlk, elk⟩ : ∃ y : Int32, (y = 0 ∨ y = 1) ∧ (if xs 7 &&& 1 = 0 then some 0 else some 1 : Option Int32) = some y := by
        by_cases c : xs 7 &&& 1 = 0
        · exact ⟨0, Or.inl rfl, if_pos c⟩
        · exact ⟨1, Or.inr rfl, if_neg c⟩
      have ei : f_X6_init 10000 (n + 100) (xs 2) (xs 3) (xs 4) (xs 5) (xs 6) (xs 7) (znew h (.inr (6, [.int 0, .int 0, .int 0, .int 0, .int 0, .int 0, .int 0, .int 0, .int 0, .int 0, .int 0, .int 0, .int 0, .int 0, .int 0, .int 0]))) = some (zset (znew h (.inr (6, [.int 0, .int 0, .int 0, .int 0, .int 0, .int 0, .int 0, .int 0, .int 0, .int 0, .int 0, .int 0, .int 0, .int 0, .int 0, .int 0]))) (n + 100) (.inr (6, [.int (xs 2), .int (xs 3), .int (xs 4), .int (xs 5), .int (xs 6), .int lk, .int (xs 7 >>> (1 &&& 31)), .int 0, .int 0, .int 0, .int 50, .int 0, .int 0, .int 0, .int 0, .int 0]))) := by
        unfold f_X6_init
        simp [elk, hlk, pF, pZ, zs_get, zn_get, hs, zs_zs]
      simp only [zlet]
      rw [hs, ei]
      simp only [Option.bind_some]
      generalize hk : (xs 7 >>> (1 &&& 31)) = kd
      generalize hz : (zset (znew h (.inr (6, [.int 0, .int 0, .int 0, .int 0, .int 0, .int 0, .int 0, .int 0, .int 0, .int 0, .int 0, .int 0, .int 0, .int 0, .int 0, .int 0]))) (n + 100) (.inr (6, [.int (xs 2), .int (xs 3), .int (xs 4), .int (xs 5), .int (xs 6), .int lk, .int kd, .int 0, .int 0, .int 0, .int 50, .int 0, .int 0, .int 0, .int 0, .int 0]))) = h16
      have z0 : ∀ q, q ≠ n + 100 → h16.2 q = h.2 q := fun q hq => by
        rw [← hz, zs_ne hq, zn_get, hs, if_neg hq]
      have zM : h16.2 (n + 100) = some (.inr (6, [.int (xs 2), .int (xs 3), .int (xs 4), .int (xs 5), .int (xs 6), .int lk, .int kd, .int 0, .int 0, .int 0, .int 50, .int 0, .int 0, .int 0, .int 0, .int 0])) := by rw [← hz, zs_same]
      have zs1 : h16.1 = (n + 101, h.1.2) := by rw [← hz, zs_1]; show (h.1.1 + 1, h.1.2) = _; rw [hs]
      have y0 : h16.2 n = _ := (z0 n (by omega)).trans (fr_0 F)
      have y1 : h16.2 (n + 1) = _ := (z0 (n + 1) (by omega)).trans (fr_1 F)
      have y2 : h16.2 (n + 2) = some (rL 0 0 0 0 0 0 0) := (z0 (n + 2) (by omega)).trans (fr_2 F)
      have hB : brk h16 := ⟨zBrk, by rw [zs1]; exact (z0 _ (by show h.1.2 0 ≠ n + 100; omega)).trans hbr, rfl, rfl, rfl⟩
      have hM : mIs h16 (n + 100) (xs 2) (xs 3) (xs 4) (xs 5) (xs 6) lk 0 0 0 := ⟨gI_of zM rfl, gI_of zM rfl, gI_of zM rfl, gI_of zM rfl, gI_of zM rfl, gI_of zM rfl, gI_of zM rfl, gI_of zM rfl, gI_of zM rfl⟩
      obtain ⟨p0, p1, p2, p3, p4, p5, p6, eg⟩ : ∃ p0 p1 p2 p3 p4 p5 p6, f_X8_go 10000 (n + 2) (n + 100) (xs 3) 60 h16 = some (zset h16 (n + 2) (rL p0 p1 p2 p3 p4 p5 p6)) := by
        have q := go_eq (N := 10000) (R := n + 2) (M := n + 100) (h := h16) (a := 0) (b := 0) (c := 0) (d := 0) (e := 0) (g := 0) (i := 0) (sp := xs 3) (u := 60) (by omega) hM hB (by rw [zs1]; show h.1.2 0 ≠ n + 2; omega) (Or.inl rfl) (by decide) (by decide)
        rw [zs_id y2] at q
        exact ⟨_, _, _, _, _, _, _, q⟩
      unfold f_X8_settle rL at *
      by_cases c6' : p6 = -1
      · simp [gR, gI, gV, vR, vI, pF, sQ, zob, zif, zs_get, y0, y1, y2, zM, eg, c6']
        refine ⟨fun q hq => ?_, ?_⟩
        · simp only [zs_get]
          repeat rw [if_neg (by omega)]
          exact z0 q (by omega)
        · simp only [zs_1, zs1]
          omega
      · simp [gR, gI, gV, vR, vI, pF, sQ, zob, zif, zs_get, y0, y1, y2, zM, eg, c6']
        refine ⟨fun q hq => ?_, ?_⟩
        · simp only [zs_get]
          repeat rw [if_neg (by omega)]
          exact z0 q (by omega)
        · simp only [zs_1, zs1]
          omega
    · rw [if_neg V]
      have kk : Kp h h n := ⟨fun _ _ => rfl, by rw [hs]; exact Nat.le_refl _⟩
      by_cases c1 : 0 ≤ xs 1 ∧ xs 1 ≤ 0 <;> by_cases c2 : -9999 ≤ xs 2 ∧ xs 2 ≤ -1 <;> by_cases c3 : 1 ≤ xs 3 ∧ xs 3 ≤ 300 <;> by_cases c4 : 0 ≤ xs 4 ∧ xs 4 ≤ 5 <;> by_cases c5 : -999 ≤ xs 5 ∧ xs 5 ≤ -1 <;> by_cases c6 : 1 ≤ xs 6 ∧ xs 6 ≤ 60 <;> by_cases c7 : 0 ≤ xs 7 ∧ xs 7 ≤ 5 <;> (try (exfalso; exact V ⟨c1, c2, c3, c4, c5, c6, c7⟩)) <;> simp [c1, c2, c3, c4, c5, c6, c7, kk]
  obtain ⟨h1, e1, k1⟩ := e1
  have g1 := k1.g g
  have hb := b_ne g1
  have e2 : ∃ h2, f_X12_meeting 10000 (n + 42) (xs 1) (xs 2) (xs 3) (xs 4) (xs 5) (xs 6) (xs 7) h1 = some (if (0 ≤ xs 1 ∧ xs 1 ≤ 0) ∧ (-9999 ≤ xs 2 ∧ xs 2 ≤ -1) ∧ (1 ≤ xs 3 ∧ xs 3 ≤ 300) ∧ (0 ≤ xs 4 ∧ xs 4 ≤ 5) ∧ (-999 ≤ xs 5 ∧ xs 5 ≤ -1) ∧ (1 ≤ xs 6 ∧ xs 6 ≤ 60) ∧ 0 ≤ xs 7 ∧ xs 7 ≤ 5 then 0 else -1, h2) ∧ h2.2 b = h1.2 b := by
    unfold f_X12_meeting
    rw [t0 g1]
    simp only [w12, Option.bind_some, rd_42_25 g1, rd_42_27 g1]
    by_cases V : (0 ≤ xs 1 ∧ xs 1 ≤ 0) ∧ (-9999 ≤ xs 2 ∧ xs 2 ≤ -1) ∧ (1 ≤ xs 3 ∧ xs 3 ≤ 300) ∧ (0 ≤ xs 4 ∧ xs 4 ≤ 5) ∧ (-999 ≤ xs 5 ∧ xs 5 ≤ -1) ∧ (1 ≤ xs 6 ∧ xs 6 ≤ 60) ∧ 0 ≤ xs 7 ∧ xs 7 ≤ 5
    · rw [if_pos V]
      obtain ⟨c1, c2, c3, c4, c5, c6, c7⟩ := V
      rw [if_neg (fun q => q c2), if_neg (fun q => q c3), if_neg (fun q => q c4), if_neg (fun q => q c5), if_neg (fun q => q c6), if_neg (fun q => q c7)]
      simp only [Option.bind_some]
      rw [if_neg (fun q => q c1), if_neg (by decide), if_neg (by decide), if_neg (by decide)]
      simp [gR, gI, gV, vR, vI, pF, sI, zs_get, fr_42 g1, fr_60 g1, fr_61 g1, fr_62 g1, fr_63 g1, fr_64 g1, fr_65 g1, fr_66 g1, fr_67 g1, fr_68 g1, fr_69 g1, fr_70 g1, hb, tc_0, tn_0]
    · rw [if_neg V]
      by_cases c1 : 0 ≤ xs 1 ∧ xs 1 ≤ 0 <;> by_cases c2 : -9999 ≤ xs 2 ∧ xs 2 ≤ -1 <;> by_cases c3 : 1 ≤ xs 3 ∧ xs 3 ≤ 300 <;> by_cases c4 : 0 ≤ xs 4 ∧ xs 4 ≤ 5 <;> by_cases c5 : -999 ≤ xs 5 ∧ xs 5 ≤ -1 <;> by_cases c6 : 1 ≤ xs 6 ∧ xs 6 ≤ 60 <;> by_cases c7 : 0 ≤ xs 7 ∧ xs 7 ≤ 5 <;> (try (exfalso; exact V ⟨c1, c2, c3, c4, c5, c6, c7⟩)) <;> simp [c1, c2, c3, c4, c5, c6, c7]
  obtain ⟨h2, e2, k2⟩ := e2
  refine ⟨h2, ?_, good2 k2 g1⟩
  unfold c_L_2
  simp [sc_1 g, sd_1 g, sc_1 g1, sd_1 g1, sc_2 g, sd_2 g, sc_2 g1, sd_2 g1, sc_3 g, sd_3 g, sc_3 g1, sd_3 g1, sc_4 g, sd_4 g, sc_4 g1, sd_4 g1, sc_5 g, sd_5 g, sc_5 g1, sd_5 g1, sc_6 g, sd_6 g, sc_6 g1, sd_6 g1, sc_7 g, sd_7 g, sc_7 g1, sd_7 g1, ob_0 F, ob_42 g1, zif_t, e1, e2]
end MS
