/-! the law's loop -/
theorem and31 (x : Int32) : ∃ k, k < 32 ∧ x &&& 31 = nI k := by
  refine ⟨(x &&& 31).toBitVec.toNat, ?_, ?_⟩
  · show (x.toBitVec &&& 31#32).toNat < 32
    rw [BitVec.toNat_and]
    exact Nat.lt_succ_of_le Nat.and_le_right
  · apply Int32.toBitVec_inj.mp
    show (x &&& 31).toBitVec = BitVec.ofNat 32 (x &&& 31).toBitVec.toNat
    simp
abbrev wL (mc ms pc b n i : Nat) (h hh : zH) : Prop := zW yL_law cL_law 7 (some .boolean) 60 mc ms pc [(0, .ref b), (1, .ref n), (2, .ref (n + 42)), (3, .ref (n + 99)), (4, .int (nI i))] [] h (some (.int 1)) hh
theorem hd_n {n b L : Nat} {xs : Nat → Int32} {h : zH} (I : IV n b L xs h) : aN h b = some (nI L) := by
  obtain ⟨τ, g, w, c⟩ := I
  exact aN_of w.2.2.2.1.1 (by decide)
theorem hd_lt {L i : Nat} (hL : L ≤ 4096) (hi : i ≤ 5000) : (nI L - 8 < nI i) ↔ L < i + 8 := by
  have e1 : (nI L - 8).toInt = (L : Int) - 8 := by
    rw [Int32.toInt_sub]
    show ((Int32.ofNat L).toInt - 8).bmod (2 ^ 32) = _
    rw [Int32.toInt_ofNat_of_lt (by omega)]
    exact Int.bmod_eq_of_le (by omega) (by omega)
  have e2 : (nI i).toInt = (i : Int) := Int32.toInt_ofNat_of_lt (by omega)
  rw [Int32.lt_iff_toInt_lt, e1, e2]
  omega
theorem hd_end {n b L i mc ms : Nat} {xs : Nat → Int32} {h : zH} (I : IV n b L xs h) (hL : L ≤ 4096) (hi : i ≤ 5000) (e : L < i + 8) : wL mc ms 23 b n i h h := by
  refine kc_L_head (r := none) ?_ (fun _ => kc_L_end) (fun o ho => by cases ho)
  unfold c_L_head
  rw [hd_n I]
  show (if nI L - 8 < nI i then some none else _) = some none
  exact if_pos ((hd_lt hL hi).mpr e)
theorem hd_go {n b L i : Nat} {xs : Nat → Int32} {h : zH} (I : IV n b L xs h) (hL : L ≤ 4096) (hi : i ≤ 5000) (e : ¬ L < i + 8) : c_L_head b (nI i) h = some (some (xs i &&& 31)) := by
  unfold c_L_head
  rw [hd_n I]
  show (if nI L - 8 < nI i then some none else (aI h b (nI i)).bind _) = _
  rw [if_neg (fun z => e ((hd_lt hL hi).mp z))]
  obtain ⟨τ, g, w, c⟩ := I
  have s := sc_ (i := i) w 0 (by omega) hL
  have s' : aI h b (nI i) = some (xs i) := by
    have z : nI i + nI 0 = nI i := nI_add i 0
    rw [z] at s
    exact s
  rw [s']
  rfl
set_option maxHeartbeats 4000000 in
theorem lp_case {n b L i M : Nat} {xs : Nat → Int32} {h : zH} (I : IV n b L xs h) (hL : L ≤ 4096) (hi : i + 8 ≤ L) (rest : ∀ h2, IV n b L xs h2 → ∃ hh, wL (2 * M) (1003 * M) 1470 b n i h2 hh) (k : Nat) (hk : k < 27) : ∃ hh, wL (2 * (M + 1)) (1003 * (M + 1)) (zLtab.getD k 0) b n i h hh := by
  match k, hk with
  | 0, _ =>
    obtain ⟨h2, e, I2⟩ := m_0 I hi hL
    obtain ⟨hh, K⟩ := rest h2 I2
    exact ⟨hh, z_mono (Nat.le_refl _) (by omega : 2 * M + 0 ≤ 2 * (M + 1)) (by omega : 1003 * M + 0 ≤ 1003 * (M + 1)) (kc_L_0 (by omega) e K)⟩
  | 1, _ =>
    obtain ⟨h2, e, I2⟩ := m_1 I hi hL
    obtain ⟨hh, K⟩ := rest h2 I2
    exact ⟨hh, z_mono (Nat.le_refl _) (by omega : 2 * M + 0 ≤ 2 * (M + 1)) (by omega : 1003 * M + 0 ≤ 1003 * (M + 1)) (kc_L_1 (by omega) e K)⟩
  | 2, _ =>
    obtain ⟨h2, e, I2⟩ := m_2 I hi hL
    obtain ⟨hh, K⟩ := rest h2 I2
    exact ⟨hh, z_mono (Nat.le_refl _) (by omega : 2 * M + 1 ≤ 2 * (M + 1)) (by omega : 1003 * M + 16 ≤ 1003 * (M + 1)) (kc_L_2 (by omega) e K)⟩
  | 3, _ =>
    obtain ⟨h2, e, I2⟩ := m_3 I hi hL
    obtain ⟨hh, K⟩ := rest h2 I2
    exact ⟨hh, z_mono (Nat.le_refl _) (by omega : 2 * M + 0 ≤ 2 * (M + 1)) (by omega : 1003 * M + 0 ≤ 1003 * (M + 1)) (kc_L_3 (by omega) e K)⟩
  | 4, _ =>
    obtain ⟨h2, e, I2⟩ := m_4 I hi hL
    obtain ⟨hh, K⟩ := rest h2 I2
    exact ⟨hh, z_mono (Nat.le_refl _) (by omega : 2 * M + 0 ≤ 2 * (M + 1)) (by omega : 1003 * M + 0 ≤ 1003 * (M + 1)) (kc_L_4 (by omega) e K)⟩
  | 5, _ =>
    rcases m_5 I hi hL with ⟨h2, e, e2, I2⟩ | ⟨q, h1, h2, e, e1, e2, I2⟩
    · obtain ⟨hh, K⟩ := rest h2 I2
      obtain ⟨τ, g, w, c⟩ := I
      exact ⟨hh, z_mono (Nat.le_refl _) (by omega : 2 * M + 1 ≤ 2 * (M + 1)) (by omega : 1003 * M + 6 ≤ 1003 * (M + 1)) (kc_L_5t (by omega) (sc_1 w hi hL) (sc_2 w hi hL) (sc_3 w hi hL) (ob_0 w) e e2 K)⟩
    · obtain ⟨hh, K⟩ := rest h2 I2
      obtain ⟨τ, g, w, c⟩ := I
      exact ⟨hh, z_mono (Nat.le_refl _) (by omega : 2 * M + 1 ≤ 2 * (M + 1)) (by omega : 1003 * M + 6 ≤ 1003 * (M + 1)) (kc_L_5n (by omega) (sc_1 w hi hL) (sc_2 w hi hL) (sc_3 w hi hL) (ob_0 w) e e1 e2 K)⟩
  | 6, _ =>
    obtain ⟨h2, e, I2⟩ := m_6 I hi hL
    obtain ⟨hh, K⟩ := rest h2 I2
    exact ⟨hh, z_mono (Nat.le_refl _) (by omega : 2 * M + 0 ≤ 2 * (M + 1)) (by omega : 1003 * M + 0 ≤ 1003 * (M + 1)) (kc_L_6 (by omega) e K)⟩
  | 7, _ =>
    obtain ⟨h2, e, I2⟩ := m_7 I hi hL
    obtain ⟨hh, K⟩ := rest h2 I2
    exact ⟨hh, z_mono (Nat.le_refl _) (by omega : 2 * M + 2 ≤ 2 * (M + 1)) (by omega : 1003 * M + 1003 ≤ 1003 * (M + 1)) (kc_L_7 (by omega) e K)⟩
  | 8, _ =>
    obtain ⟨h2, e, I2⟩ := m_8 I hi hL
    obtain ⟨hh, K⟩ := rest h2 I2
    exact ⟨hh, z_mono (Nat.le_refl _) (by omega : 2 * M + 0 ≤ 2 * (M + 1)) (by omega : 1003 * M + 0 ≤ 1003 * (M + 1)) (kc_L_8 (by omega) e K)⟩
  | 9, _ =>
    obtain ⟨h2, e, I2⟩ := m_9 I hi hL
    obtain ⟨hh, K⟩ := rest h2 I2
    exact ⟨hh, z_mono (Nat.le_refl _) (by omega : 2 * M + 0 ≤ 2 * (M + 1)) (by omega : 1003 * M + 0 ≤ 1003 * (M + 1)) (kc_L_9 (by omega) e K)⟩
  | 10, _ =>
    obtain ⟨h2, e, I2⟩ := m_10 I hi hL
    obtain ⟨hh, K⟩ := rest h2 I2
    exact ⟨hh, z_mono (Nat.le_refl _) (by omega : 2 * M + 0 ≤ 2 * (M + 1)) (by omega : 1003 * M + 0 ≤ 1003 * (M + 1)) (kc_L_10 (by omega) e K)⟩
  | 11, _ =>
    obtain ⟨h2, e, I2⟩ := m_11 I hi hL
    obtain ⟨hh, K⟩ := rest h2 I2
    exact ⟨hh, z_mono (Nat.le_refl _) (by omega : 2 * M + 0 ≤ 2 * (M + 1)) (by omega : 1003 * M + 0 ≤ 1003 * (M + 1)) (kc_L_11 (by omega) e K)⟩
  | 12, _ =>
    obtain ⟨h2, e, I2⟩ := m_12 I hi hL
    obtain ⟨hh, K⟩ := rest h2 I2
    exact ⟨hh, z_mono (Nat.le_refl _) (by omega : 2 * M + 0 ≤ 2 * (M + 1)) (by omega : 1003 * M + 0 ≤ 1003 * (M + 1)) (kc_L_12 (by omega) e K)⟩
  | 13, _ =>
    obtain ⟨h2, e, I2⟩ := m_13 I hi hL
    obtain ⟨hh, K⟩ := rest h2 I2
    exact ⟨hh, z_mono (Nat.le_refl _) (by omega : 2 * M + 0 ≤ 2 * (M + 1)) (by omega : 1003 * M + 0 ≤ 1003 * (M + 1)) (kc_L_13 (by omega) e K)⟩
  | 14, _ =>
    obtain ⟨h2, e, I2⟩ := m_14 I hi hL
    obtain ⟨hh, K⟩ := rest h2 I2
    exact ⟨hh, z_mono (Nat.le_refl _) (by omega : 2 * M + 0 ≤ 2 * (M + 1)) (by omega : 1003 * M + 0 ≤ 1003 * (M + 1)) (kc_L_14 (by omega) e K)⟩
  | 15, _ =>
    obtain ⟨h2, e, I2⟩ := m_15 I hi hL
    obtain ⟨hh, K⟩ := rest h2 I2
    exact ⟨hh, z_mono (Nat.le_refl _) (by omega : 2 * M + 0 ≤ 2 * (M + 1)) (by omega : 1003 * M + 0 ≤ 1003 * (M + 1)) (kc_L_15 (by omega) e K)⟩
  | 16, _ =>
    obtain ⟨h2, e, I2⟩ := m_16 I hi hL
    obtain ⟨hh, K⟩ := rest h2 I2
    exact ⟨hh, z_mono (Nat.le_refl _) (by omega : 2 * M + 0 ≤ 2 * (M + 1)) (by omega : 1003 * M + 0 ≤ 1003 * (M + 1)) (kc_L_16 (by omega) e K)⟩
  | 17, _ =>
    obtain ⟨h2, e, I2⟩ := m_17 I hi hL
    obtain ⟨hh, K⟩ := rest h2 I2
    exact ⟨hh, z_mono (Nat.le_refl _) (by omega : 2 * M + 0 ≤ 2 * (M + 1)) (by omega : 1003 * M + 0 ≤ 1003 * (M + 1)) (kc_L_17 (by omega) e K)⟩
  | 18, _ =>
    obtain ⟨h2, e, I2⟩ := m_18 I hi hL
    obtain ⟨hh, K⟩ := rest h2 I2
    exact ⟨hh, z_mono (Nat.le_refl _) (by omega : 2 * M + 0 ≤ 2 * (M + 1)) (by omega : 1003 * M + 0 ≤ 1003 * (M + 1)) (kc_L_18 (by omega) e K)⟩
  | 19, _ =>
    obtain ⟨h2, e, I2⟩ := m_19 I hi hL
    obtain ⟨hh, K⟩ := rest h2 I2
    exact ⟨hh, z_mono (Nat.le_refl _) (by omega : 2 * M + 0 ≤ 2 * (M + 1)) (by omega : 1003 * M + 0 ≤ 1003 * (M + 1)) (kc_L_19 (by omega) e K)⟩
  | 20, _ =>
    obtain ⟨h2, e, I2⟩ := m_20 I hi hL
    obtain ⟨hh, K⟩ := rest h2 I2
    exact ⟨hh, z_mono (Nat.le_refl _) (by omega : 2 * M + 0 ≤ 2 * (M + 1)) (by omega : 1003 * M + 0 ≤ 1003 * (M + 1)) (kc_L_20 (by omega) e K)⟩
  | 21, _ =>
    obtain ⟨h2, e, I2⟩ := m_21 I hi hL
    obtain ⟨hh, K⟩ := rest h2 I2
    exact ⟨hh, z_mono (Nat.le_refl _) (by omega : 2 * M + 0 ≤ 2 * (M + 1)) (by omega : 1003 * M + 0 ≤ 1003 * (M + 1)) (kc_L_21 (by omega) e K)⟩
  | 22, _ =>
    obtain ⟨h2, e, I2⟩ := m_22 I hi hL
    obtain ⟨hh, K⟩ := rest h2 I2
    exact ⟨hh, z_mono (Nat.le_refl _) (by omega : 2 * M + 0 ≤ 2 * (M + 1)) (by omega : 1003 * M + 0 ≤ 1003 * (M + 1)) (kc_L_22 (by omega) e K)⟩
  | 23, _ =>
    obtain ⟨h2, e, I2⟩ := m_23 I hi hL
    obtain ⟨hh, K⟩ := rest h2 I2
    exact ⟨hh, z_mono (Nat.le_refl _) (by omega : 2 * M + 0 ≤ 2 * (M + 1)) (by omega : 1003 * M + 0 ≤ 1003 * (M + 1)) (kc_L_23 (by omega) e K)⟩
  | 24, _ =>
    obtain ⟨h2, e, I2⟩ := m_24 I hi hL
    obtain ⟨hh, K⟩ := rest h2 I2
    exact ⟨hh, z_mono (Nat.le_refl _) (by omega : 2 * M + 0 ≤ 2 * (M + 1)) (by omega : 1003 * M + 0 ≤ 1003 * (M + 1)) (kc_L_24 (by omega) e K)⟩
  | 25, _ =>
    obtain ⟨h2, e, I2⟩ := m_25 I hi hL
    obtain ⟨hh, K⟩ := rest h2 I2
    exact ⟨hh, z_mono (Nat.le_refl _) (by omega : 2 * M + 0 ≤ 2 * (M + 1)) (by omega : 1003 * M + 0 ≤ 1003 * (M + 1)) (kc_L_25 (by omega) e K)⟩
  | 26, _ =>
    obtain ⟨h2, e, I2⟩ := m_26 I hi hL
    obtain ⟨hh, K⟩ := rest h2 I2
    exact ⟨hh, z_mono (Nat.le_refl _) (by omega : 2 * M + 0 ≤ 2 * (M + 1)) (by omega : 1003 * M + 0 ≤ 1003 * (M + 1)) (kc_L_26 (by omega) e K)⟩
  | k + 27, hk => exact absurd hk (by omega)
theorem lp {n b L : Nat} {xs : Nat → Int32} (hL : L ≤ 4096) : ∀ (M i : Nat) {h : zH}, IV n b L xs h → L ≤ i + 8 * M → i ≤ 4104 → ∃ hh, wL (2 * M) (1003 * M) 23 b n i h hh := by
  intro M
  induction M with
  | zero => intro i h I l hi; exact ⟨h, hd_end I hL (by omega) (by omega)⟩
  | succ M ih =>
    intro i h I l hi
    by_cases e : L < i + 8
    · exact ⟨h, hd_end I hL (by omega) e⟩
    · have rest : ∀ h2, IV n b L xs h2 → ∃ hh, wL (2 * M) (1003 * M) 1470 b n i h2 hh := fun h2 I2 => by
        obtain ⟨hh, K⟩ := ih (i + 8) I2 (by omega) (by omega)
        refine ⟨hh, kc_L_step ?_⟩
        have z : nI i + 8 = nI (i + 8) := nI_add i 8
        rw [z]
        exact K
      obtain ⟨k, hk, ek⟩ := and31 (xs i)
      have eh := hd_go I hL (by omega) e
      by_cases c2 : k < 27
      · obtain ⟨hh, w⟩ := lp_case I hL (by omega) rest k c2
        refine ⟨hh, kc_L_head eh (fun q => by cases q) (fun o ho => ?_)⟩
        refine kc_L_sw k c2 ?_ w
        cases ho
        exact ek
      · obtain ⟨hh, w⟩ := rest h I
        refine ⟨hh, kc_L_head eh (fun q => by cases q) (fun o ho => ?_)⟩
        have ho' : o = nI k := by cases ho; exact ek
        refine kc_L_swD ?_ (z_mono (Nat.le_refl _) (by omega) (by omega) w)
        rw [ho']
        match k, hk, c2 with
        | 27, _, _ => decide
        | 28, _, _ => decide
        | 29, _, _ => decide
        | 30, _, _ => decide
        | 31, _, _ => decide
        | k + 32, hk, _ => exact absurd hk (by omega)
theorem p_law {sz : Nat} {cc : Nat → Nat} {b L : Nat} {xs : Nat → Int32} (had : zad sz cc b) (hL : L ≤ 4096) : ∃ hh, zW yL_law cL_law 7 (some .boolean) 60 5000 600000 0 [(0, .ref b)] [] (zh0 sz cc b L xs) (some (.int 1)) hh := by
  obtain ⟨hh, w⟩ := lp hL 513 0 (hF_IV (xs := xs) had) (by omega) (by omega)
  exact ⟨hh, z_mono (Nat.le_refl _) (by omega) (by omega) (kc_L_init (by omega) (init_eq had) w)⟩
