/-! the law's walk: one call on a fresh object, then the end -/
theorem and31 (x : Int32) : ∃ k, k < 32 ∧ x &&& 31 = nI k := by
  refine ⟨(x &&& 31).toBitVec.toNat, ?_, ?_⟩
  · show (x.toBitVec &&& 31#32).toNat < 32
    rw [BitVec.toNat_and]
    exact Nat.lt_succ_of_le Nat.and_le_right
  · apply Int32.toBitVec_inj.mp
    show (x &&& 31).toBitVec = BitVec.ofNat 32 (x &&& 31).toBitVec.toNat
    simp
abbrev wL (d mc ms pc : Nat) (b n : Nat) (st : List Value) (h hh : zH) : Prop := zW yL_law cL_law 7 (some .boolean) d mc ms pc [(0, .ref b), (1, .ref n), (2, .ref (n + 42)), (3, .ref (n + 99)), (4, .int 0)] st h (some (.int 1)) hh
theorem p_rest {d mc ms b n : Nat} {h2 : zH} (e : aN h2 b = some 8) : wL d mc ms 1498 b n [] h2 h2 := by
  refine kc_L_step ?_
  refine kc_L_head (r := none) ?_ (fun _ => kc_L_end) (fun o ho => by cases ho)
  unfold c_L_head
  rw [e]
  rfl
theorem p_case {b n : Nat} {h : zH} {xs : Nat → Int32} (F : Fr h n b xs) (hs : h.1.1 = n + 100) (k : Nat) (hk : k < 27) : ∃ hh, wL 60 4900 6129 (zLtab.getD k 0) b n [] h hh := by
  match k, hk with
  | 0, _ =>
    obtain ⟨h2, e, en⟩ := m_0 F
    exact ⟨h2, z_mono (Nat.le_refl _) (by omega : 4000 + 0 ≤ 4900) (by omega : 4000 + 0 ≤ 6129) (kc_L_0 (by omega) e (p_rest en))⟩
  | 1, _ =>
    obtain ⟨h2, e, en⟩ := m_1 F
    exact ⟨h2, z_mono (Nat.le_refl _) (by omega : 4000 + 0 ≤ 4900) (by omega : 4000 + 0 ≤ 6129) (kc_L_1 (by omega) e (p_rest en))⟩
  | 2, _ =>
    obtain ⟨h2, e, en⟩ := m_2 F hs
    exact ⟨h2, z_mono (Nat.le_refl _) (by omega : 4000 + 1 ≤ 4900) (by omega : 4000 + 16 ≤ 6129) (kc_L_2 (by omega) e (p_rest en))⟩
  | 3, _ =>
    obtain ⟨h2, e, en⟩ := m_3 F
    exact ⟨h2, z_mono (Nat.le_refl _) (by omega : 4000 + 0 ≤ 4900) (by omega : 4000 + 0 ≤ 6129) (kc_L_3 (by omega) e (p_rest en))⟩
  | 4, _ =>
    obtain ⟨h2, e, en⟩ := m_4 F
    exact ⟨h2, z_mono (Nat.le_refl _) (by omega : 4000 + 0 ≤ 4900) (by omega : 4000 + 0 ≤ 6129) (kc_L_4 (by omega) e (p_rest en))⟩
  | 5, _ =>
    obtain ⟨h2, e, en⟩ := m_5 F
    exact ⟨h2, z_mono (Nat.le_refl _) (by omega : 4000 + 1 ≤ 4900) (by omega : 4000 + 6 ≤ 6129) (kc_L_5 (by omega) e (p_rest en))⟩
  | 6, _ =>
    obtain ⟨h2, e, en⟩ := m_6 F hs
    exact ⟨h2, z_mono (Nat.le_refl _) (by omega : 4000 + 0 ≤ 4900) (by omega : 4000 + 0 ≤ 6129) (kc_L_6 (by omega) e (p_rest en))⟩
  | 7, _ =>
    obtain ⟨h2, e, en⟩ := m_7 F hs
    exact ⟨h2, z_mono (Nat.le_refl _) (by omega : 4000 + 2 ≤ 4900) (by omega : 4000 + 1003 ≤ 6129) (kc_L_7 (by omega) e (p_rest en))⟩
  | 8, _ =>
    obtain ⟨h2, e, en⟩ := m_8 F
    exact ⟨h2, z_mono (Nat.le_refl _) (by omega : 4000 + 0 ≤ 4900) (by omega : 4000 + 0 ≤ 6129) (kc_L_8 (by omega) e (p_rest en))⟩
  | 9, _ =>
    obtain ⟨h2, e, en⟩ := m_9 F
    exact ⟨h2, z_mono (Nat.le_refl _) (by omega : 4000 + 0 ≤ 4900) (by omega : 4000 + 0 ≤ 6129) (kc_L_9 (by omega) e (p_rest en))⟩
  | 10, _ =>
    obtain ⟨h2, e, en⟩ := m_10 F
    exact ⟨h2, z_mono (Nat.le_refl _) (by omega : 4000 + 0 ≤ 4900) (by omega : 4000 + 0 ≤ 6129) (kc_L_10 (by omega) e (p_rest en))⟩
  | 11, _ =>
    obtain ⟨h2, e, en⟩ := m_11 F
    exact ⟨h2, z_mono (Nat.le_refl _) (by omega : 4000 + 0 ≤ 4900) (by omega : 4000 + 0 ≤ 6129) (kc_L_11 (by omega) e (p_rest en))⟩
  | 12, _ =>
    obtain ⟨h2, e, en⟩ := m_12 F
    exact ⟨h2, z_mono (Nat.le_refl _) (by omega : 4000 + 0 ≤ 4900) (by omega : 4000 + 0 ≤ 6129) (kc_L_12 (by omega) e (p_rest en))⟩
  | 13, _ =>
    obtain ⟨h2, e, en⟩ := m_13 F
    exact ⟨h2, z_mono (Nat.le_refl _) (by omega : 4000 + 0 ≤ 4900) (by omega : 4000 + 0 ≤ 6129) (kc_L_13 (by omega) e (p_rest en))⟩
  | 14, _ =>
    obtain ⟨h2, e, en⟩ := m_14 F
    exact ⟨h2, z_mono (Nat.le_refl _) (by omega : 4000 + 0 ≤ 4900) (by omega : 4000 + 0 ≤ 6129) (kc_L_14 (by omega) e (p_rest en))⟩
  | 15, _ =>
    obtain ⟨h2, e, en⟩ := m_15 F
    exact ⟨h2, z_mono (Nat.le_refl _) (by omega : 4000 + 0 ≤ 4900) (by omega : 4000 + 0 ≤ 6129) (kc_L_15 (by omega) e (p_rest en))⟩
  | 16, _ =>
    obtain ⟨h2, e, en⟩ := m_16 F
    exact ⟨h2, z_mono (Nat.le_refl _) (by omega : 4000 + 0 ≤ 4900) (by omega : 4000 + 0 ≤ 6129) (kc_L_16 (by omega) e (p_rest en))⟩
  | 17, _ =>
    obtain ⟨h2, e, en⟩ := m_17 F
    exact ⟨h2, z_mono (Nat.le_refl _) (by omega : 4000 + 0 ≤ 4900) (by omega : 4000 + 0 ≤ 6129) (kc_L_17 (by omega) e (p_rest en))⟩
  | 18, _ =>
    obtain ⟨h2, e, en⟩ := m_18 F
    exact ⟨h2, z_mono (Nat.le_refl _) (by omega : 4000 + 0 ≤ 4900) (by omega : 4000 + 0 ≤ 6129) (kc_L_18 (by omega) e (p_rest en))⟩
  | 19, _ =>
    obtain ⟨h2, e, en⟩ := m_19 F
    exact ⟨h2, z_mono (Nat.le_refl _) (by omega : 4000 + 0 ≤ 4900) (by omega : 4000 + 0 ≤ 6129) (kc_L_19 (by omega) e (p_rest en))⟩
  | 20, _ =>
    obtain ⟨h2, e, en⟩ := m_20 F
    exact ⟨h2, z_mono (Nat.le_refl _) (by omega : 4000 + 0 ≤ 4900) (by omega : 4000 + 0 ≤ 6129) (kc_L_20 (by omega) e (p_rest en))⟩
  | 21, _ =>
    obtain ⟨h2, e, en⟩ := m_21 F
    exact ⟨h2, z_mono (Nat.le_refl _) (by omega : 4000 + 0 ≤ 4900) (by omega : 4000 + 0 ≤ 6129) (kc_L_21 (by omega) e (p_rest en))⟩
  | 22, _ =>
    obtain ⟨h2, e, en⟩ := m_22 F
    exact ⟨h2, z_mono (Nat.le_refl _) (by omega : 4000 + 0 ≤ 4900) (by omega : 4000 + 0 ≤ 6129) (kc_L_22 (by omega) e (p_rest en))⟩
  | 23, _ =>
    obtain ⟨h2, e, en⟩ := m_23 F
    exact ⟨h2, z_mono (Nat.le_refl _) (by omega : 4000 + 0 ≤ 4900) (by omega : 4000 + 0 ≤ 6129) (kc_L_23 (by omega) e (p_rest en))⟩
  | 24, _ =>
    obtain ⟨h2, e, en⟩ := m_24 F
    exact ⟨h2, z_mono (Nat.le_refl _) (by omega : 4000 + 0 ≤ 4900) (by omega : 4000 + 0 ≤ 6129) (kc_L_24 (by omega) e (p_rest en))⟩
  | 25, _ =>
    obtain ⟨h2, e, en⟩ := m_25 F hs
    exact ⟨h2, z_mono (Nat.le_refl _) (by omega : 4000 + 0 ≤ 4900) (by omega : 4000 + 0 ≤ 6129) (kc_L_25 (by omega) e (p_rest en))⟩
  | 26, _ =>
    obtain ⟨h2, e, en⟩ := m_26 F
    exact ⟨h2, z_mono (Nat.le_refl _) (by omega : 4000 + 0 ≤ 4900) (by omega : 4000 + 0 ≤ 6129) (kc_L_26 (by omega) e (p_rest en))⟩
  | k + 27, hk => exact absurd hk (by omega)
theorem p_law {sz : Nat} {cc : Nat → Nat} {b L : Nat} {xs : Nat → Int32} (had : zad sz cc b) (hL : L ≤ 8) : ∃ hh, zW yL_law cL_law 7 (some .boolean) 60 5000 60000 0 [(0, .ref b)] [] (zh0 sz cc b L xs) (some (.int 1)) hh := by
  have K : ∃ hh, wL 60 4900 6129 23 b sz [] (hF sz cc b xs L) hh := by
    by_cases c : L < 8
    · refine ⟨hF sz cc b xs L, ?_⟩
      refine kc_L_head (r := none) ?_ (fun _ => kc_L_end) (fun o ho => by cases ho)
      unfold c_L_head
      rw [hF_n had]
      show (if nI L - 8 < 0 then some none else _) = some none
      refine if_pos ?_
      match L, c with
      | 0, _ => decide
      | 1, _ => decide
      | 2, _ => decide
      | 3, _ => decide
      | 4, _ => decide
      | 5, _ => decide
      | 6, _ => decide
      | 7, _ => decide
      | L + 8, c => exact absurd c (by omega)
    · have e8 : L = 8 := by omega
      subst e8
      have F := hF_Fr (xs := xs) had
      have hn := hF_n (xs := xs) (L := 8) had
      have hs : (hF sz cc b xs 8).1.1 = sz + 100 := rfl
      generalize hF sz cc b xs 8 = h at F hn hs
      have eh : c_L_head b 0 h = some (some (xs 0 &&& 31)) := by
        unfold c_L_head
        rw [hn]
        show (if nI 8 - 8 < 0 then some none else (aI h b (nI 0)).bind _) = _
        rw [if_neg (by decide), sc_at F.2.1 (by decide)]
        rfl
      obtain ⟨k, hk, ek⟩ := and31 (xs 0)
      by_cases c2 : k < 27
      · obtain ⟨hh, w⟩ := p_case F hs k c2
        refine ⟨hh, kc_L_head eh (fun q => by cases q) (fun o ho => ?_)⟩
        refine kc_L_sw k c2 ?_ w
        cases ho
        exact ek
      · refine ⟨h, kc_L_head eh (fun q => by cases q) (fun o ho => ?_)⟩
        have ho' : o = nI k := by cases ho; exact ek
        refine kc_L_swD ?_ (p_rest hn)
        rw [ho']
        match k, hk, c2 with
        | 27, _, _ => decide
        | 28, _, _ => decide
        | 29, _, _ => decide
        | 30, _, _ => decide
        | 31, _, _ => decide
        | k + 32, hk, _ => exact absurd hk (by omega)
  obtain ⟨hh, w⟩ := K
  exact ⟨hh, kc_L_init (by omega) (init_eq had) w⟩
