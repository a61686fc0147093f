section MN
variable {h : zH} {n b : Nat} {xs : Nat → Int32}
theorem zs_get (h : zH) (a : Nat) (c : zE) (q : Nat) : (zset h a c).2 q = if q = a then some c else h.2 q := rfl
theorem rng {i M : Int32} {m : Nat} (hM : M.toInt = m) (h0 : 0 ≤ i) (h1 : i ≤ M) : ∃ j : Nat, j ≤ m ∧ i = nI j := nI_of2 hM (Int32.not_lt.mpr h0) h1
theorem b_ne (F : G h n b xs) (k : Nat) : (b = n + k) = False := by
  have := F.2.2.1
  simp; omega
theorem b_ne0 (F : G h n b xs) : (b = n) = False := by
  have := F.2.2.1
  simp; omega
theorem kp {h1 h2 : zH} (F : G h n b xs) (k : ∀ q, (q < n ∨ n + 42 ≤ q) → h1.2 q = h.2 q) (e : h1.1 = h.1) : G h1 n b xs := by
  obtain ⟨g1, g2, g3, g4⟩ := F
  exact ⟨fun j hj => by rw [k _ (by omega)]; exact g1 j hj, by rw [k _ (by omega)]; exact g2, g3, by rw [e]; exact g4⟩
theorem m_17 (F : Fr h n b xs) : Good (c_L_17 10000 b n (n + 42) 0 h) b := by
  have g := F.2.1
  have e1 : ∃ h1, f_X11_voters 10000 n (xs 1) h = some (if 1 ≤ xs 1 ∧ xs 1 ≤ 9999 then 0 else -1, h1) ∧ G h1 n b xs := by
    unfold f_X11_voters
    by_cases c : 1 ≤ xs 1 ∧ xs 1 ≤ 9999
    · rw [if_neg (by rw [w11]; exact fun q => q c), if_pos c, rd_0_7 F]
      simp only [Option.bind_some, ob_25 F, zif_t]
      unfold f_X3_add
      rw [rd_25_6 F, rd_25_0 F]
      simp only [Option.bind_some]
      rw [if_pos (by decide)]
      rw [show sI h (n + 26) 0 (xs 1) = some (zset h (n + 26) (.inl (0, 8, .inl (upd (fun _ => 0) 0 (xs 1))))) from sI_of (j := 0) (fr_26 F) (by decide) (by decide)]
      simp [gI, gV, vI, pF, pZ, zs_get, fr_25 F]
      exact ((((g.zs (k := 26) (by decide)).zs (k := 25) (by decide)).zs (k := 25) (by decide)).zs (k := 25) (by decide))
    · rw [if_pos (by rw [w11]; exact c), if_neg c]
      exact ⟨_, rfl, g⟩
  obtain ⟨h1, e1, g1⟩ := e1
  have hb := b_ne g1
  have L39 : ∀ (m j : Nat) (h2 : zH), 9 - j < m → j ≤ 9 → (∃ f, h2.2 (n + 89) = some (.inl (0, 72, .inl f))) → gR h2 (n + 42) 12 69 = some (n + 89) → gI h2 (n + 42) 12 67 = some 0 → ∃ f, f_X12_voters_L39 10000 (n + 42) m (nI j) h2 = some (zset h2 (n + 89) (.inl (0, 72, .inl f))) := by
    intro m
    induction m with
    | zero => intro j h2 h3; omega
    | succ m ih =>
      intro j h2 h3 h4 h5 h6 h7
      obtain ⟨f, h5⟩ := h5
      unfold f_X12_voters_L39
      by_cases c : j = 9
      · subst c
        rw [if_pos (by decide)]
        exact ⟨f, by rw [zs_id h5]⟩
      · rw [if_neg (show ¬ (9 : Int32) ≤ nI j from nI_ge (b := 9) (by omega) (by decide)), h6, h7]
        show ∃ f_1, ((sI h2 (n + 89) (9 * 0 + nI j) 0).bind fun h11 => f_X12_voters_L39 10000 (n + 42) m (nI j + 1) h11) = _
        rw [show (9 * 0 + nI j : Int32) = nI j by simp, sI_of h5 (by omega) (by decide)]
        show ∃ f_1, f_X12_voters_L39 10000 (n + 42) m (nI j + 1) (zset h2 (n + 89) _) = _
        obtain ⟨f2, q⟩ := ih (j + 1) (zset h2 (n + 89) (.inl (0, 72, .inl (upd f j 0)))) (by omega) (by omega) ⟨_, zs_same _ _ _⟩ (by rw [gR_zn (by omega)]; exact h6) (by rw [gI_zn (by omega)]; exact h7)
        rw [nI_1, q, zs_zs]
        exact ⟨f2, rfl⟩
  have e2 : ∃ h2, f_X12_voters 10000 (n + 42) (xs 1) h1 = some (if 1 ≤ xs 1 ∧ xs 1 ≤ 9999 then 0 else -1, h2) ∧ h2.2 b = h1.2 b := by
    unfold f_X12_voters
    rw [t0 g1]
    simp only [w12, Option.bind_some, rd_42_67 g1, rd_42_68 g1]
    by_cases c : 1 ≤ xs 1 ∧ xs 1 ≤ 9999
    · rw [if_neg (fun q => q c), if_pos c, if_neg (by decide)]
      rw [show sI h1 (n + 88) 0 (xs 1) = some (zset h1 (n + 88) (.inl (0, 8, .inl (upd (fun _ => 0) 0 (xs 1))))) from sI_of (j := 0) (fr_88 g1) (by decide) (by decide)]
      obtain ⟨f, q⟩ := L39 10000 0 (zset h1 (n + 88) (.inl (0, 8, .inl (upd (fun _ => 0) 0 (xs 1))))) (by decide) (by decide) ⟨_, by rw [zs_ne (by omega)]; exact fr_89 g1⟩ (by rw [gR_zn (by omega)]; exact rd_42_69 g1) (by rw [gI_zn (by omega)]; exact rd_42_67 g1)
      show ∃ h2, (f_X12_voters_L39 10000 (n + 42) 10000 (nI 0) _).bind _ = _ ∧ _
      rw [q]
      simp [gI, gV, vI, pF, zs_get, fr_42 g1, hb]
    · rw [if_pos c, if_neg c]
      exact ⟨_, rfl, rfl⟩
  obtain ⟨h2, e2, k2⟩ := e2
  refine ⟨h2, ?_, good2 k2 g1⟩
  unfold c_L_17
  simp [sc_1 g, sd_1 g, sc_1 g1, sd_1 g1, ob_0 F, ob_42 g1, zif_t, e1, e2]
theorem nI_mul (a i : Nat) : nI a * nI i = nI (a * i) := (Int32.ofNat_mul a i).symm
theorem in_rng {j m : Nat} (hj : j < m) (hm : m < 2 ^ 31) : ¬ nI j < 0 ∧ (nI j).toNatClampNeg < m := ⟨nI_pos (by omega), by rw [nI_clamp (by omega)]; exact hj⟩
theorem m_14 (F : Fr h n b xs) : Good (c_L_14 10000 b n (n + 42) 0 h) b := by
  have g := F.2.1
  have e1 : ∃ h1, f_X11_stream 10000 n (xs 1) (xs 2) (xs 3) (xs 4) (xs 5) h = some (if (0 ≤ xs 1 ∧ xs 1 ≤ 3) ∧ (xs 2 = 0 ∨ (1 ≤ xs 2 ∧ xs 2 ≤ 99) ∧ 1 ≤ xs 3 ∧ xs 3 ≤ 60) ∧ (1 ≤ xs 4 ∧ xs 4 ≤ 60) ∧ 0 ≤ xs 5 ∧ xs 5 ≤ 999 then 1 else 0, h1) ∧ G h1 n b xs := by
    unfold f_X11_stream
    simp only [w11]
    by_cases V : (0 ≤ xs 1 ∧ xs 1 ≤ 3) ∧ (xs 2 = 0 ∨ (1 ≤ xs 2 ∧ xs 2 ≤ 99) ∧ 1 ≤ xs 3 ∧ xs 3 ≤ 60) ∧ (1 ≤ xs 4 ∧ xs 4 ≤ 60) ∧ 0 ≤ xs 5 ∧ xs 5 ≤ 999
    · rw [if_pos V]
      obtain ⟨c1, c23, c4, c5⟩ := V
      obtain ⟨j, hj, ej⟩ := rng (m := 3) (by decide) c1.1 c1.2
      have tl : ∀ x y : Int32, ∃ h1, f_X2_tell 10000 (n + 20) (xs 1) x y h = some h1 ∧ G h1 n b xs := by
        intro x y
        have q0 : ¬ p_X2_isStream (xs 1) = 0 := by
          unfold p_X2_isStream
          rw [if_neg (Int32.not_lt.mpr c1.1), if_neg (by rw [ej]; exact nI_ge (b := 4) (by omega) (by decide))]
          decide
        unfold f_X2_tell
        rw [if_neg q0, rd_20_0 F, ej]
        simp only [Option.bind_some]
        rw [sI_of (fr_21 F) (by omega) (by decide)]
        simp only [Option.bind_some]
        rw [gR_zn (by omega), rd_20_1 F]
        simp only [Option.bind_some]
        rw [sI_of (h := zset h (n + 21) _) (by rw [zs_ne (by omega)]; exact fr_22 F) (by omega) (by decide)]
        exact ⟨_, rfl, (g.zs (k := 21) (by decide)).zs (k := 22) (by decide)⟩
      by_cases c2 : xs 2 = 0
      · obtain ⟨h1, t1, t2⟩ := tl (xs 4) (xs 5)
        simp [c1, c2, c4, c5, zsum, rd_0_6 F, ob_20 F, zif_t, t1, t2]
      · have c3 := c23.resolve_left c2
        have u1 : f_X11_up 10000 (xs 2 * 10) (xs 3) h = some ((xs 2 * 10 + xs 3 - 1) / xs 3) := by
          unfold f_X11_up
          have p1 : 0 < xs 3 := Int32.lt_of_lt_of_le (by decide) c3.2.1
          have p2 : ¬ xs 3 = 0 := fun q => by rw [q] at p1; exact absurd p1 (by decide)
          rw [if_pos p1]
          simp [zdiv, p2]
        obtain ⟨h1, t1, t2⟩ := tl (if xs 4 < (xs 2 * 10 + xs 3 - 1) / xs 3 then (xs 2 * 10 + xs 3 - 1) / xs 3 else xs 4) (xs 5)
        simp [c1, c2, c3, c4, c5, zsum, rd_0_6 F, ob_20 F, zif_t, t1, t2, u1]
    · rw [if_neg V]
      by_cases c1 : 0 ≤ xs 1 ∧ xs 1 ≤ 3 <;> by_cases c2 : xs 2 = 0 <;> by_cases c3a : 1 ≤ xs 2 ∧ xs 2 ≤ 99 <;> by_cases c3b : 1 ≤ xs 3 ∧ xs 3 ≤ 60 <;> by_cases c4 : 1 ≤ xs 4 ∧ xs 4 ≤ 60 <;> by_cases c5 : 0 ≤ xs 5 ∧ xs 5 ≤ 999 <;> (try (exfalso; exact V ⟨c1, Or.inl c2, c4, c5⟩)) <;> (try (exfalso; exact V ⟨c1, Or.inr ⟨c3a, c3b⟩, c4, c5⟩)) <;> simp [c1, c2, c3a, c3b, c4, c5, zsum, g]
  obtain ⟨h1, e1, g1⟩ := e1
  have hb := b_ne g1
  have e2 : ∃ h2, f_X12_stream 10000 (n + 42) (xs 1) (xs 2) (xs 3) (xs 4) (xs 5) h1 = some (if (0 ≤ xs 1 ∧ xs 1 ≤ 3) ∧ (xs 2 = 0 ∨ (1 ≤ xs 2 ∧ xs 2 ≤ 99) ∧ 1 ≤ xs 3 ∧ xs 3 ≤ 60) ∧ (1 ≤ xs 4 ∧ xs 4 ≤ 60) ∧ 0 ≤ xs 5 ∧ xs 5 ≤ 999 then 1 else 0, h2) ∧ h2.2 b = h1.2 b := by
    unfold f_X12_stream f_X12_isStreamNumber
    rw [t0 g1]
    simp only [w12, rZ_w, Option.bind_some, ite01]
    by_cases V : (0 ≤ xs 1 ∧ xs 1 ≤ 3) ∧ (xs 2 = 0 ∨ (1 ≤ xs 2 ∧ xs 2 ≤ 99) ∧ 1 ≤ xs 3 ∧ xs 3 ≤ 60) ∧ (1 ≤ xs 4 ∧ xs 4 ≤ 60) ∧ 0 ≤ xs 5 ∧ xs 5 ≤ 999
    · rw [if_pos V]
      obtain ⟨c1, c23, c4, c5⟩ := V
      obtain ⟨j, hj, ej⟩ := rng (m := 3) (by decide) c1.1 c1.2
      have k := in_rng (j := j) (m := 4) (by omega) (by decide)
      have c23' : (if xs 2 = 0 then some 1 else if ¬ (1 ≤ xs 2 ∧ xs 2 ≤ 99) then some 0 else if ¬ (1 ≤ xs 3 ∧ xs 3 ≤ 60) then some 0 else some 1 : Option Int32) = some 1 := by
        by_cases c2 : xs 2 = 0
        · rw [if_pos c2]
        · have c3 := c23.resolve_left c2
          simp [c2, c3]
      rw [c23']
      simp only [Option.bind_some]
      rw [if_neg (fun q => q c1), if_neg (by decide), if_neg (fun q => q c4), if_neg (fun q => q c5), ej]
      simp [gR, gV, vR, sI, sZ, zs_get, fr_42 g1, fr_81 g1, fr_82 g1, fr_83 g1, fr_84 g1, fr_85 g1, k.1, k.2, hb]
    · rw [if_neg V]
      by_cases c1 : 0 ≤ xs 1 ∧ xs 1 ≤ 3 <;> by_cases c2 : xs 2 = 0 <;> by_cases c3a : 1 ≤ xs 2 ∧ xs 2 ≤ 99 <;> by_cases c3b : 1 ≤ xs 3 ∧ xs 3 ≤ 60 <;> by_cases c4 : 1 ≤ xs 4 ∧ xs 4 ≤ 60 <;> by_cases c5 : 0 ≤ xs 5 ∧ xs 5 ≤ 999 <;> (try (exfalso; exact V ⟨c1, Or.inl c2, c4, c5⟩)) <;> (try (exfalso; exact V ⟨c1, Or.inr ⟨c3a, c3b⟩, c4, c5⟩)) <;> simp [c1, c2, c3a, c3b, c4, c5]
  obtain ⟨h2, e2, k2⟩ := e2
  refine ⟨h2, ?_, good2 k2 g1⟩
  unfold c_L_14
  simp [sc_1 g, sd_1 g, sc_1 g1, sd_1 g1, sc_2 g, sd_2 g, sc_2 g1, sd_2 g1, sc_3 g, sd_3 g, sc_3 g1, sd_3 g1, sc_4 g, sd_4 g, sc_4 g1, sd_4 g1, sc_5 g, sd_5 g, sc_5 g1, sd_5 g1, ob_0 F, ob_42 g1, zif_t, e1, e2]
theorem m_24 (F : Fr h n b xs) : Good (c_L_24 10000 b n (n + 42) 0 h) b := by
  have g := F.2.1
  have e1 : ∃ h1, f_X11_trip 10000 n (xs 1) (xs 2) h = some (if (0 ≤ xs 1 ∧ xs 1 ≤ 7) ∧ (0 ≤ xs 2 ∧ xs 2 ≤ 7) ∧ ¬ xs 1 = xs 2 then 0 else -1, h1) ∧ G h1 n b xs := by
    unfold f_X11_trip
    simp only [w11]
    by_cases V : (0 ≤ xs 1 ∧ xs 1 ≤ 7) ∧ (0 ≤ xs 2 ∧ xs 2 ≤ 7) ∧ ¬ xs 1 = xs 2
    · rw [if_pos V]
      obtain ⟨c1, c2, c3⟩ := V
      rw [if_neg (fun q => q c1), if_neg (fun q => q c2), if_neg c3, rd_0_9 F]
      unfold f_X10_addTrip
      simp [ob_33 F, zif_t, rd_33_10 F, gR, gI, gV, vR, vI, pF, pZ, sI, zs_get, fr_33 F, fr_36 F, fr_37 F, tc_0, tn_0]
      exact ((((g.zs (k := 36) (by decide)).zs (k := 37) (by decide)).zs (k := 33) (by decide)).zs (k := 33) (by decide))
    · rw [if_neg V]
      by_cases c1 : 0 ≤ xs 1 ∧ xs 1 ≤ 7 <;> by_cases c2 : 0 ≤ xs 2 ∧ xs 2 ≤ 7 <;> by_cases c3 : xs 1 = xs 2 <;> (try (exfalso; exact V ⟨c1, c2, c3⟩)) <;> simp [c1, c2, c3, g]
  obtain ⟨h1, e1, g1⟩ := e1
  have hb := b_ne g1
  have e2 : ∃ h2, f_X12_trip 10000 (n + 42) (xs 1) (xs 2) h1 = some (if (0 ≤ xs 1 ∧ xs 1 ≤ 7) ∧ (0 ≤ xs 2 ∧ xs 2 ≤ 7) ∧ ¬ xs 1 = xs 2 then 0 else -1, h2) ∧ h2.2 b = h1.2 b := by
    unfold f_X12_trip f_X12_isPlace
    rw [t0 g1]
    simp only [w12, rZ_w, Option.bind_some, ite01]
    by_cases V : (0 ≤ xs 1 ∧ xs 1 ≤ 7) ∧ (0 ≤ xs 2 ∧ xs 2 ≤ 7) ∧ ¬ xs 1 = xs 2
    · rw [if_pos V]
      obtain ⟨c1, c2, c3⟩ := V
      rw [if_neg (fun q => q c1), if_neg (fun q => q c2), if_neg c3]
      simp [gR, gI, gV, vR, vI, pF, sI, zs_get, fr_42 g1, fr_96 g1, fr_97 g1, tc_0, tn_0, hb]
    · rw [if_neg V]
      by_cases c1 : 0 ≤ xs 1 ∧ xs 1 ≤ 7 <;> by_cases c2 : 0 ≤ xs 2 ∧ xs 2 ≤ 7 <;> by_cases c3 : xs 1 = xs 2 <;> (try (exfalso; exact V ⟨c1, c2, c3⟩)) <;> simp [c1, c2, c3]
  obtain ⟨h2, e2, k2⟩ := e2
  refine ⟨h2, ?_, good2 k2 g1⟩
  unfold c_L_24
  simp [sc_1 g, sd_1 g, sc_1 g1, sd_1 g1, sc_2 g, sd_2 g, sc_2 g1, sd_2 g1, ob_0 F, ob_42 g1, zif_t, e1, e2]
theorem pr_15 {i : Nat} {v y : Int32} {f : Nat → Int32} (hi : i ≤ 3) (e1 : gR h (n + 20) 2 2 = some (n + 23)) (e2 : h.2 (n + 23) = some (.inl (0, 4, .inl f))) : ∃ f', f_X2_pair 10000 (n + 20) (nI i) v y h = some (zset h (n + 23) (.inl (0, 4, .inl f'))) := by
  have q0 : ¬ p_X2_isStream (nI i) = 0 := by
    unfold p_X2_isStream
    rw [if_neg (nI_pos (by omega)), if_neg (show ¬ (4 : Int32) ≤ nI i from nI_ge (b := 4) (by omega) (by decide))]
    decide
  have k := in_rng (j := i) (m := 4) (by omega) (by decide)
  unfold f_X2_pair
  rw [if_neg q0, e1]
  simp only [Option.bind_some, aI_of e2 (Or.inl rfl) k.1 k.2, sI_of e2 (show i < 4 by omega) (by decide)]
  split
  · exact ⟨_, rfl⟩
  · exact ⟨_, rfl⟩
theorem m_15 (F : Fr h n b xs) : Good (c_L_15 10000 b n (n + 42) 0 h) b := by
  have g := F.2.1
  obtain ⟨y, hy, ey⟩ : ∃ y : Int32, (y = 0 ∨ y = 1) ∧ (if xs 3 = 0 then some 0 else some 1 : Option Int32) = some y := by
    by_cases c : xs 3 = 0
    · exact ⟨0, Or.inl rfl, if_pos c⟩
    · exact ⟨1, Or.inr rfl, if_neg c⟩
  have e1 : ∃ h1, f_X11_together 10000 n (xs 1) (xs 2) y h = some (if (0 ≤ xs 1 ∧ xs 1 ≤ 3) ∧ (0 ≤ xs 2 ∧ xs 2 ≤ 3) ∧ ¬ xs 1 = xs 2 then 1 else 0, h1) ∧ G h1 n b xs := by
    unfold f_X11_together
    simp only [w11]
    by_cases V : (0 ≤ xs 1 ∧ xs 1 ≤ 3) ∧ (0 ≤ xs 2 ∧ xs 2 ≤ 3) ∧ ¬ xs 1 = xs 2
    · rw [if_pos V]
      obtain ⟨c1, c2, c3⟩ := V
      obtain ⟨i, hi, ei⟩ := rng (m := 3) (by decide) c1.1 c1.2
      obtain ⟨j, hj, ej⟩ := rng (m := 3) (by decide) c2.1 c2.2
      rw [if_neg (fun q => q c1), if_neg (fun q => q c2), if_neg c3, rd_0_6 F]
      obtain ⟨f1, p1⟩ := pr_15 (i := i) (v := xs 2) (y := y) hi (rd_20_2 F) (fr_23 F)
      rw [← ei] at p1
      simp only [Option.bind_some, ob_20 F, zif_t, p1]
      rw [gR_zn (by omega), rd_0_6 F]
      obtain ⟨f2, p2⟩ := pr_15 (h := zset h (n + 23) (.inl (0, 4, .inl f1))) (i := j) (v := xs 1) (y := y) hj (by rw [gR_zn (by omega)]; exact rd_20_2 F) (zs_same _ _ _)
      rw [← ej] at p2
      simp only [Option.bind_some]
      rw [zob_zn (by omega), ob_20 F, zif_t, p2]
      exact ⟨_, rfl, (g.zs (k := 23) (by decide)).zs (k := 23) (by decide)⟩
    · rw [if_neg V]
      by_cases c1 : 0 ≤ xs 1 ∧ xs 1 ≤ 3 <;> by_cases c2 : 0 ≤ xs 2 ∧ xs 2 ≤ 3 <;> by_cases c3 : xs 1 = xs 2 <;> (try (exfalso; exact V ⟨c1, c2, c3⟩)) <;> simp [c1, c2, c3, g]
  obtain ⟨h1, e1, g1⟩ := e1
  have hb := b_ne g1
  have e2 : ∃ h2, f_X12_together 10000 (n + 42) (xs 1) (xs 2) y h1 = some (if (0 ≤ xs 1 ∧ xs 1 ≤ 3) ∧ (0 ≤ xs 2 ∧ xs 2 ≤ 3) ∧ ¬ xs 1 = xs 2 then 1 else 0, h2) ∧ h2.2 b = h1.2 b := by
    unfold f_X12_together f_X12_isStreamNumber
    rw [t0 g1]
    simp only [w12, rZ_w, Option.bind_some, ite01]
    by_cases V : (0 ≤ xs 1 ∧ xs 1 ≤ 3) ∧ (0 ≤ xs 2 ∧ xs 2 ≤ 3) ∧ ¬ xs 1 = xs 2
    · rw [if_pos V]
      obtain ⟨c1, c2, c3⟩ := V
      obtain ⟨i, hi, ei⟩ := rng (m := 3) (by decide) c1.1 c1.2
      obtain ⟨j, hj, ej⟩ := rng (m := 3) (by decide) c2.1 c2.2
      rw [if_neg (fun q => q c1), if_neg (fun q => q c2), if_neg c3, ei, ej]
      have x1 : (4 * nI i + nI j : Int32) = nI (4 * i + j) := by rw [← nI_add, ← nI_mul]; rfl
      have x2 : (4 * nI j + nI i : Int32) = nI (4 * j + i) := by rw [← nI_add, ← nI_mul]; rfl
      rw [x1, x2]
      have k1 := in_rng (j := 4 * i + j) (m := 16) (by omega) (by decide)
      have k2 := in_rng (j := 4 * j + i) (m := 16) (by omega) (by decide)
      simp [gR, gV, vR, sZ, zs_get, fr_42 g1, fr_86 g1, k1.1, k1.2, k2.1, k2.2, hb, hy]
    · rw [if_neg V]
      by_cases c1 : 0 ≤ xs 1 ∧ xs 1 ≤ 3 <;> by_cases c2 : 0 ≤ xs 2 ∧ xs 2 ≤ 3 <;> by_cases c3 : xs 1 = xs 2 <;> (try (exfalso; exact V ⟨c1, c2, c3⟩)) <;> simp [c1, c2, c3]
  obtain ⟨h2, e2, k2⟩ := e2
  refine ⟨h2, ?_, good2 k2 g1⟩
  unfold c_L_15
  simp [sc_1 g, sd_1 g, sc_1 g1, sd_1 g1, sc_2 g, sd_2 g, sc_2 g1, sd_2 g1, sc_3 g, sd_3 g, sc_3 g1, sd_3 g1, ob_0 F, ob_42 g1, zif_t, e1, e2, ey]
theorem m_21 (F : Fr h n b xs) : Good (c_L_21 10000 b n (n + 42) 0 h) b := by
  have g := F.2.1
  have e1 : ∃ h1, f_X11_counted 10000 n (xs 1) (xs 2) (xs 3) (xs 4) h = some (if (0 ≤ xs 1 ∧ xs 1 ≤ 7) ∧ (0 ≤ xs 2 ∧ xs 2 ≤ 30) ∧ (xs 3 = -1 ∨ (0 ≤ xs 3 ∧ xs 3 ≤ 9999) ∧ 0 ≤ xs 4 ∧ xs 4 ≤ 99999) then 1 else 0, h1) ∧ G h1 n b xs := by
    unfold f_X11_counted
    simp only [w11]
    by_cases V : (0 ≤ xs 1 ∧ xs 1 ≤ 7) ∧ (0 ≤ xs 2 ∧ xs 2 ≤ 30) ∧ (xs 3 = -1 ∨ (0 ≤ xs 3 ∧ xs 3 ≤ 9999) ∧ 0 ≤ xs 4 ∧ xs 4 ≤ 99999)
    · rw [if_pos V]
      obtain ⟨c1, c2, c3⟩ := V
      obtain ⟨i, hi, ei⟩ := rng (m := 7) (by decide) c1.1 c1.2
      obtain ⟨j, hj, ej⟩ := rng (m := 30) (by decide) c2.1 c2.2
      have x1 : (xs 1 * 31 + xs 2 : Int32) = nI (i * 31 + j) := by rw [ei, ej, ← nI_add, ← nI_mul]; rfl
      have wr : ∃ h1, f_X5_write 10000 (n + 30) (xs 1) (xs 2) (xs 3) (xs 4) h = some h1 ∧ G h1 n b xs := by
        unfold f_X5_write zlet
        simp only [x1]
        rw [if_neg (nI_pos (by omega)), rd_30_0 F, rd_30_1 F]
        simp only [Option.bind_some]
        rw [aN_of (fr_31 F) (by decide), aN_of (fr_32 F) (by decide)]
        simp only [Option.bind_some]
        rw [if_neg (show ¬ Int32.ofNat 248 ≤ nI (i * 31 + j) from nI_ge (b := 248) (by omega) (by decide)), if_neg (show ¬ Int32.ofNat 248 ≤ nI (i * 31 + j) from nI_ge (b := 248) (by omega) (by decide))]
        rw [sI_of (fr_31 F) (by omega) (by decide)]
        simp only [Option.bind_some]
        rw [gR_zn (by omega), rd_30_1 F]
        simp only [Option.bind_some]
        rw [sI_of (h := zset h (n + 31) _) (by rw [zs_ne (by omega)]; exact fr_32 F) (by omega) (by decide)]
        exact ⟨_, rfl, (g.zs (k := 31) (by decide)).zs (k := 32) (by decide)⟩
      obtain ⟨h1, t1, t2⟩ := wr
      by_cases c3' : xs 3 = -1
      · rw [c3'] at t1
        simp [c1, c2, c3', rd_0_8 F, ob_30 F, zif_t, t1, t2]
      · have c4 := c3.resolve_left c3'
        simp [c1, c2, c3', c4, rd_0_8 F, ob_30 F, zif_t, t1, t2]
    · rw [if_neg V]
      by_cases c1 : 0 ≤ xs 1 ∧ xs 1 ≤ 7 <;> by_cases c2 : 0 ≤ xs 2 ∧ xs 2 ≤ 30 <;> by_cases c3 : xs 3 = -1 <;> by_cases c3a : 0 ≤ xs 3 ∧ xs 3 ≤ 9999 <;> by_cases c3b : 0 ≤ xs 4 ∧ xs 4 ≤ 99999 <;> (try (exfalso; exact V ⟨c1, c2, Or.inl c3⟩)) <;> (try (exfalso; exact V ⟨c1, c2, Or.inr ⟨c3a, c3b⟩⟩)) <;> simp [c1, c2, c3, c3a, c3b, g]
  obtain ⟨h1, e1, g1⟩ := e1
  have hb := b_ne g1
  have e2 : ∃ h2, f_X12_counted 10000 (n + 42) (xs 1) (xs 2) (xs 3) (xs 4) h1 = some (if (0 ≤ xs 1 ∧ xs 1 ≤ 7) ∧ (0 ≤ xs 2 ∧ xs 2 ≤ 30) ∧ (xs 3 = -1 ∨ (0 ≤ xs 3 ∧ xs 3 ≤ 9999) ∧ 0 ≤ xs 4 ∧ xs 4 ≤ 99999) then 1 else 0, h2) ∧ h2.2 b = h1.2 b := by
    unfold f_X12_counted f_X12_isYear
    rw [t0 g1]
    simp only [w12, rZ_w, Option.bind_some, ite01]
    by_cases V : (0 ≤ xs 1 ∧ xs 1 ≤ 7) ∧ (0 ≤ xs 2 ∧ xs 2 ≤ 30) ∧ (xs 3 = -1 ∨ (0 ≤ xs 3 ∧ xs 3 ≤ 9999) ∧ 0 ≤ xs 4 ∧ xs 4 ≤ 99999)
    · rw [if_pos V]
      obtain ⟨c1, c2, c3⟩ := V
      obtain ⟨i, hi, ei⟩ := rng (m := 7) (by decide) c1.1 c1.2
      obtain ⟨j, hj, ej⟩ := rng (m := 30) (by decide) c2.1 c2.2
      have x1 : (31 * xs 1 + xs 2 : Int32) = nI (31 * i + j) := by rw [ei, ej, ← nI_add, ← nI_mul]; rfl
      have k := in_rng (j := 31 * i + j) (m := 248) (by omega) (by decide)
      rw [x1]
      by_cases c3' : xs 3 = -1
      · simp [c1, c2, c3', zsum, gR, gV, vR, sI, zs_get, fr_42 g1, fr_90 g1, fr_91 g1, k.1, k.2, hb]
      · have c4 := c3.resolve_left c3'
        simp [c1, c2, c3', c4, zsum, gR, gV, vR, sI, zs_get, fr_42 g1, fr_90 g1, fr_91 g1, k.1, k.2, hb]
    · rw [if_neg V]
      by_cases c1 : 0 ≤ xs 1 ∧ xs 1 ≤ 7 <;> by_cases c2 : 0 ≤ xs 2 ∧ xs 2 ≤ 30 <;> by_cases c3 : xs 3 = -1 <;> by_cases c3a : 0 ≤ xs 3 ∧ xs 3 ≤ 9999 <;> by_cases c3b : 0 ≤ xs 4 ∧ xs 4 ≤ 99999 <;> (try (exfalso; exact V ⟨c1, c2, Or.inl c3⟩)) <;> (try (exfalso; exact V ⟨c1, c2, Or.inr ⟨c3a, c3b⟩⟩)) <;> simp [c1, c2, c3, c3a, c3b, zsum]
  obtain ⟨h2, e2, k2⟩ := e2
  refine ⟨h2, ?_, good2 k2 g1⟩
  unfold c_L_21
  simp [sc_1 g, sd_1 g, sc_1 g1, sd_1 g1, sc_2 g, sd_2 g, sc_2 g1, sd_2 g1, sc_3 g, sd_3 g, sc_3 g1, sd_3 g1, sc_4 g, sd_4 g, sc_4 g1, sd_4 g1, ob_0 F, ob_42 g1, zif_t, e1, e2]
end MN
