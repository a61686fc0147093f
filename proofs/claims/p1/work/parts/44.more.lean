section MQ
variable {h : zH} {n b : Nat} {xs : Nat → Int32}
theorem m_5 (F : Fr h n b xs) : Good (c_L_5 10000 b n (n + 42) (n + 99) 0 h) b := by
  have g := F.2.1
  have g1 : G (zpush h) n b xs := ⟨g.1, g.2.1, g.2.2.1, by show n + 100 ≤ h.1.1 + 1; have := g.2.2.2; omega⟩
  have et : t_X11_at 10000 n (xs 1) (xs 2) (xs 3) h = some true := by
    unfold t_X11_at
    rw [ob_0 F, zif_t, mOf F]
    rfl
  obtain ⟨h2, p1, p2, p3, p4, p5, p6, -⟩ := pF42x (k := 0) (v := .int 1) g1 (by decide)
  have im : f_X12_isMeeting 10000 (n + 42) (xs 1) h2 = some 0 := by
    unfold f_X12_isMeeting
    by_cases c : xs 1 < 0
    · rw [if_pos c]
    · have e : gI h2 (n + 42) 12 27 = some 0 := by unfold gI; rw [p5 27 (by decide)]; exact rd_42_27 g1
      rw [if_neg c, e]
      show (if (0 : Int32) ≤ xs 1 then some 0 else _) = _
      rw [if_pos (Int32.not_lt.mp c)]
  have ea : f_X12_at 10000 (n + 42) (xs 1) (xs 2) (xs 3) (zpush h) = some (0, h2) := by
    unfold f_X12_at
    rw [p1]
    simp only [Option.bind_some, p4, zif_t, im, reduceIte]
  have eth : f_X12_thrown 10000 (n + 42) h2 = some 1 := by
    unfold f_X12_thrown gI
    rw [p3]
    rfl
  refine ⟨h2, ?_, good2 p2 g1⟩
  unfold c_L_5 c_L_5b
  simp [sc_1 g, sd_1 g, sc_2 g, sd_2 g, sc_3 g, sd_3 g, sc_1 g1, sd_1 g1, sc_2 g1, sd_2 g1, sc_3 g1, sd_3 g1, ob_0 F, ob_42 g1, zif_t, et, ea, p4, eth]
/-! the reference's customs -/
def zS39 (v2 : Int32) : Nat → Int32 → Int32 → (Nat → Int32) → (Nat → Int32) → Option (Int32 × (Nat → Int32) × (Nat → Int32))
  | 0, _, _, _, _ => none
  | n + 1, v1, v3, f, g => if 16 ≤ v3 then some (v1, f, g) else if v2 = v3 then (if ¬ v1 < 0 ∧ v1.toNatClampNeg < 128 then zS39 v2 n (v1 + 1) (v3 + 1) (upd f v1.toNatClampNeg v2) (upd g v1.toNatClampNeg v3) else none) else if (v2 - v2 / 8 * 8) = (v3 - v3 / 8 * 8) then zS39 v2 n v1 (v3 + 1) f g else (if ¬ v1 < 0 ∧ v1.toNatClampNeg < 128 then zS39 v2 n (v1 + 1) (v3 + 1) (upd f v1.toNatClampNeg v2) (upd g v1.toNatClampNeg v3) else none)
def zS31 (N : Nat) : Nat → Int32 → Int32 → (Nat → Int32) → (Nat → Int32) → Option ((Nat → Int32) × (Nat → Int32))
  | 0, _, _, _, _ => none
  | n + 1, v1, v2, f, g => if 16 ≤ v2 then some (f, g) else (zS39 v2 N v1 v2 f g).bind fun r => zS31 N n r.1 (v2 + 1) r.2.1 r.2.2
/-- two arrays of 128 over a heap -/
def H2 (h : zH) (a c : Nat) (f g : Nat → Int32) : zH := zset (zset h a (.inl (0, 128, .inl f))) c (.inl (0, 128, .inl g))
theorem H2_a {a c : Nat} {f g : Nat → Int32} {i x : Int32} (hac : a ≠ c) : sI (H2 h a c f g) a i x = if ¬ i < 0 ∧ i.toNatClampNeg < 128 then some (H2 h a c (upd f i.toNatClampNeg x) g) else none := by
  have e : (H2 h a c f g).2 a = some (.inl (0, 128, .inl f)) := by unfold H2; rw [zs_ne hac, zs_same]
  unfold sI
  rw [e]
  show (if (0 : Nat) = 0 ∧ _ then some (zset (H2 h a c f g) a _) else none) = _
  unfold H2
  rw [zs_comm (Ne.symm hac), zs_zs]
  simp only [true_and]
theorem H2_c {a c : Nat} {f g : Nat → Int32} {i x : Int32} : sI (H2 h a c f g) c i x = if ¬ i < 0 ∧ i.toNatClampNeg < 128 then some (H2 h a c f (upd g i.toNatClampNeg x)) else none := by
  have e : (H2 h a c f g).2 c = some (.inl (0, 128, .inl g)) := by unfold H2; rw [zs_same]
  unfold sI
  rw [e]
  show (if (0 : Nat) = 0 ∧ _ then some (zset (H2 h a c f g) c _) else none) = _
  unfold H2
  rw [zs_zs]
  simp only [true_and]
theorem H2_gR {a c v0 k : Nat} {f g : Nat → Int32} (h1 : v0 ≠ a) (h2 : v0 ≠ c) : gR (H2 h a c f g) v0 12 k = gR h v0 12 k := by
  unfold H2
  rw [gR_zn h2, gR_zn h1]
theorem s39_loop {N v0 a c : Nat} {v2 : Int32} (e1 : gR h v0 12 54 = some a) (e2 : gR h v0 12 55 = some c) (n1 : v0 ≠ a) (n2 : v0 ≠ c) (n3 : a ≠ c) : ∀ (m : Nat) (v1 v3 : Int32) (f g : Nat → Int32), f_X12_findSigns_L39 N v0 v2 m v1 v3 (H2 h a c f g) = (zS39 v2 m v1 v3 f g).map (fun r => (r.1, H2 h a c r.2.1 r.2.2)) := by
  intro m
  induction m with
  | zero => intros; rfl
  | succ m ih =>
    intro v1 v3 f g
    have st : ((gR (H2 h a c f g) v0 12 54).bind fun r15 => (sI (H2 h a c f g) r15 v1 v2).bind fun h16 => (gR h16 v0 12 55).bind fun r17 => (sI h16 r17 v1 v3).bind fun h18 => f_X12_findSigns_L39 N v0 v2 m (v1 + 1) (v3 + 1) h18) = Option.map (fun r => (r.1, H2 h a c r.2.1 r.2.2)) (if ¬ v1 < 0 ∧ v1.toNatClampNeg < 128 then zS39 v2 m (v1 + 1) (v3 + 1) (upd f v1.toNatClampNeg v2) (upd g v1.toNatClampNeg v3) else none) := by
      rw [H2_gR n1 n2, e1]
      simp only [Option.bind_some]
      rw [H2_a n3]
      by_cases c4 : ¬ v1 < 0 ∧ v1.toNatClampNeg < 128
      · rw [if_pos c4, if_pos c4]
        simp only [Option.bind_some]
        rw [H2_gR n1 n2, e2]
        simp only [Option.bind_some]
        rw [H2_c, if_pos c4]
        simp only [Option.bind_some]
        exact ih _ _ _ _
      · rw [if_neg c4, if_neg c4]
        rfl
    unfold f_X12_findSigns_L39 zS39
    by_cases c1 : 16 ≤ v3
    · rw [if_pos c1, if_pos c1]; rfl
    · rw [if_neg c1, if_neg c1]
      by_cases c2 : v2 = v3
      · rw [if_pos c2, if_pos c2]
        exact st
      · rw [if_neg c2, if_neg c2]
        by_cases c3 : (v2 - v2 / 8 * 8) = (v3 - v3 / 8 * 8)
        · rw [if_pos c3, if_pos c3, ih]
          cases zS39 v2 m v1 (v3 + 1) f g with
          | none => rfl
          | some r => rfl
        · rw [if_neg c3, if_neg c3]
          exact st
theorem s31_loop {N v0 a c : Nat} (e1 : gR h v0 12 54 = some a) (e2 : gR h v0 12 55 = some c) (n1 : v0 ≠ a) (n2 : v0 ≠ c) (n3 : a ≠ c) : ∀ (m : Nat) (v1 v2 : Int32) (f g : Nat → Int32), f_X12_findSigns_L31 N v0 m v1 v2 (H2 h a c f g) = (zS31 N m v1 v2 f g).map (fun r => H2 h a c r.1 r.2) := by
  intro m
  induction m with
  | zero => intros; rfl
  | succ m ih =>
    intro v1 v2 f g
    unfold f_X12_findSigns_L31 zS31
    by_cases c1 : 16 ≤ v2
    · rw [if_pos c1, if_pos c1]; rfl
    · rw [if_neg c1, if_neg c1, s39_loop e1 e2 n1 n2 n3]
      cases zS39 v2 N v1 v2 f g with
      | none => rfl
      | some r => exact ih _ _ _ _
set_option maxRecDepth 100000 in
theorem sgn_is : (zS31 10000 10000 0 0 (fun _ => 0) (fun _ => 0)).isSome = true := by decide +kernel
/-- the reference's cells of its customs may be other ones -/
theorem fsig (g : G h n b xs) : ∃ fa fb, f_X12_findSigns 10000 (n + 42) h = some (H2 h (n + 78) (n + 79) fa fb) := by
  obtain ⟨r, hr⟩ := Option.isSome_iff_exists.mp sgn_is
  have e0 : H2 h (n + 78) (n + 79) (fun _ => 0) (fun _ => 0) = h := by
    unfold H2
    rw [zs_id (fr_78 g), zs_id (fr_79 g)]
  have l2 : f_X12_findSigns_L2 10000 (n + 42) 10000 0 h = some h := by
    unfold f_X12_findSigns_L2
    rw [rd_42_27 g]
    rfl
  have l3 := s31_loop (N := 10000) (rd_42_54 g) (rd_42_55 g) (by omega) (by omega) (by omega) 10000 0 0 (fun _ => 0) (fun _ => 0)
  rw [e0, hr] at l3
  refine ⟨r.1, r.2, ?_⟩
  unfold f_X12_findSigns
  rw [l2, Option.bind_some, l3]
  rfl
theorem m_11 (F : Fr h n b xs) : Good (c_L_11 10000 b n (n + 42) 0 h) b := by
  have g := F.2.1
  have e1 : ∃ h1, f_X11_customs 10000 n (xs 1) h = some (if 0 ≤ xs 1 ∧ xs 1 ≤ 30 then 128 else -1, h1) ∧ G h1 n b xs := by
    unfold f_X11_customs
    simp only [w11]
    by_cases c : 0 ≤ xs 1 ∧ xs 1 ≤ 30
    · rw [if_neg (fun q => q c), if_pos c, rd_0_5 F]
      simp only [Option.bind_some, ob_0 F, zif_t, vNow F, ob_14 F]
      unfold f_X0_keepFrom f_X0_keepAll f_X0_ruleOut f_X0_ruleOut_L2
      simp [ob_14 F, zif_t, cpI, gR, gI, gV, vR, vI, pF, zob, zs_get, fr_0 F, fr_14 F, fr_18 F, fr_19 F]
      exact (g.zs (k := 19) (by decide)).zs (k := 14) (by decide)
    · rw [if_pos c, if_neg c]
      exact ⟨_, rfl, g⟩
  obtain ⟨h1, e1, g1⟩ := e1
  have e2 : ∃ h2, f_X12_customs 10000 (n + 42) (xs 1) h1 = some (if 0 ≤ xs 1 ∧ xs 1 ≤ 30 then 128 else -1, h2) ∧ h2.2 b = h1.2 b := by
    unfold f_X12_customs f_X12_isYear
    rw [t0 g1]
    simp only [rZ_w, Option.bind_some, ite01]
    by_cases c : 0 ≤ xs 1 ∧ xs 1 ≤ 30
    · rw [if_neg (fun q => q c), if_pos c]
      obtain ⟨fa, fb, q1⟩ := fsig g1
      have lp : ∀ (m j : Nat) (h3 : zH) (f : Nat → Int32), j ≤ 128 → 128 - j < m → gI h3 (n + 42) 12 49 = some 0 → gR h3 (n + 42) 12 56 = some (n + 80) → h3.2 (n + 80) = some (.inl (3, 128, .inl f)) → ∃ f', f_X12_findCustoms_L4 10000 (n + 42) (xs 1) m (nI j) (nI j) h3 = some (128, zset h3 (n + 80) (.inl (3, 128, .inl f'))) := by
        intro m
        induction m with
        | zero => intro j h3 f _ h2; omega
        | succ m ih =>
          intro j h3 f p1 p2 q1 q2 q3
          unfold f_X12_findCustoms_L4
          by_cases c : j = 128
          · subst c
            rw [if_pos (by decide)]
            exact ⟨f, by rw [zs_id q3]; rfl⟩
          · have k := in_rng (j := j) (m := 128) (by omega) (by decide)
            rw [if_neg (show ¬ (128 : Int32) ≤ nI j from nI_ge (b := 128) (by omega) (by decide)), q2]
            have z1 : sZ h3 (n + 80) (nI j) 1 = some (zset h3 (n + 80) (.inl (3, 128, .inl (upd f (nI j).toNatClampNeg 1)))) := by simp [sZ, q3, k.1, k.2]
            have z2 : f_X12_findCustoms_L21 10000 (n + 42) (xs 1) (nI j) 10000 0 (zset h3 (n + 80) (.inl (3, 128, .inl (upd f (nI j).toNatClampNeg 1)))) = some (zset h3 (n + 80) (.inl (3, 128, .inl (upd f (nI j).toNatClampNeg 1)))) := by
              unfold f_X12_findCustoms_L21
              rw [gI_zn (by omega), q1]
              rfl
            have z3 : aZ (zset h3 (n + 80) (.inl (3, 128, .inl (upd f (nI j).toNatClampNeg 1)))) (n + 80) (nI j) = some 1 := by simp [aZ, zs_same, k.1, k.2, upd]
            simp only [Option.bind_some, z1, z2]
            rw [gR_zn (by omega), q2]
            simp only [Option.bind_some, z3]
            rw [if_neg (by decide)]
            simp only [zlet, nI_1]
            obtain ⟨f', r⟩ := ih (j + 1) (zset h3 (n + 80) (.inl (3, 128, .inl (upd f (nI j).toNatClampNeg 1)))) (upd f (nI j).toNatClampNeg 1) (by omega) (by omega) (by rw [gI_zn (by omega)]; exact q1) (by rw [gR_zn (by omega)]; exact q2) (zs_same _ _ _)
            rw [r, zs_zs]
            exact ⟨f', rfl⟩
      obtain ⟨f', r⟩ := lp 10000 0 (H2 h1 (n + 78) (n + 79) fa fb) (fun _ => 0) (by decide) (by decide) (by unfold H2; rw [gI_zn (by omega), gI_zn (by omega)]; exact rd_42_49 g1) (by rw [H2_gR (by omega) (by omega)]; exact rd_42_56 g1) (by unfold H2; rw [zs_ne (by omega), zs_ne (by omega)]; exact fr_80 g1)
      rw [nI_0] at r
      have o1 : zob (H2 h1 (n + 78) (n + 79) fa fb) (n + 42) 12 = true := by unfold H2; rw [zob_zn (by omega), zob_zn (by omega)]; exact ob_42 g1
      have hlt := g1.2.2.1
      unfold f_X12_findCustoms
      simp only [ob_42 g1, zif_t, q1, Option.bind_some, o1, r]
      refine ⟨_, rfl, ?_⟩
      rw [zs_ne (by omega)]
      unfold H2
      rw [zs_ne (by omega), zs_ne (by omega)]
    · rw [if_pos c, if_neg c]
      exact ⟨_, rfl, rfl⟩
  obtain ⟨h2, e2, k2⟩ := e2
  refine ⟨h2, ?_, good2 k2 g1⟩
  unfold c_L_11
  simp [sc_1 g, sd_1 g, sc_1 g1, sd_1 g1, ob_0 F, ob_42 g1, zif_t, e1, e2]
/-- which custom first has not the word -/
def zAH (v1 : Int32) (g : Nat → Int32) : Nat → Int32 → Option (Unit ⊕ Int32)
  | 0, _ => none
  | n + 1, v2 => if 128 ≤ v2 then some (.inl ()) else if ¬ v2 < 0 ∧ v2.toNatClampNeg < 128 then (if (g v2.toNatClampNeg >>> (v1 &&& 31)) &&& 1 = 0 then some (.inr 0) else zAH v1 g n (v2 + 1)) else none
theorem ah_loop {N v0 r : Nat} {v1 : Int32} {g : Nat → Int32} (e1 : gI h v0 0 6 = some 128) (e2 : gR h v0 0 4 = some r) (e3 : h.2 r = some (.inl (0, 128, .inl g))) : ∀ (m : Nat) (v2 : Int32), f_X0_allHave_L2 N v0 v1 h m v2 = zAH v1 g m v2 := by
  intro m
  induction m with
  | zero => intros; rfl
  | succ m ih =>
    intro v2
    unfold f_X0_allHave_L2 zAH
    rw [e1]
    simp only [Option.bind_some]
    by_cases c : 128 ≤ v2
    · rw [if_pos c, if_pos c]
    · rw [if_neg c, if_neg c, if_neg c, e2]
      simp only [Option.bind_some]
      by_cases c2 : ¬ v2 < 0 ∧ v2.toNatClampNeg < 128
      · rw [aI_of e3 (Or.inl rfl) c2.1 c2.2, if_pos c2]
        simp only [Option.bind_some, ih]
      · rw [if_neg c2]
        unfold aI
        rw [e3]
        show (if ((0 : Nat) = 0 ∨ (0 : Nat) = 6 ∨ (0 : Nat) = 8) ∧ ¬ v2 < 0 ∧ v2.toNatClampNeg < 128 then _ else _ : Option Int32).bind _ = _
        rw [if_neg (fun q => c2 q.2)]
        rfl
set_option maxRecDepth 100000 in
theorem ah_is : ∀ w : Nat, w < 16 → zAH (nI w) (va_cpy zCf (fun _ => 0) 0 0 128) 10000 0 = some (.inr 0) := by decide +kernel
theorem m_13 (F : Fr h n b xs) : Good (c_L_13 10000 b n (n + 42) 0 h) b := by
  have g := F.2.1
  have e1 : ∃ h1, f_X11_since 10000 n (xs 1) h = some (-1, h1) ∧ G h1 n b xs := by
    unfold f_X11_since
    simp only [w11]
    by_cases c : 0 ≤ xs 1 ∧ xs 1 ≤ 15
    · obtain ⟨w, hw, ew⟩ := rng (m := 15) (by decide) c.1 c.2
      rw [if_neg (fun q => q c), rd_0_5 F]
      simp only [Option.bind_some, ob_0 F, zif_t, vNow F, ob_14 F]
      have ka : ∃ h1, f_X0_keepAll 10000 (n + 14) h = some h1 ∧ G h1 n b xs ∧ zob h1 (n + 14) 0 = true ∧ gI h1 (n + 14) 0 5 = some 0 ∧ gI h1 (n + 14) 0 6 = some 128 ∧ gR h1 (n + 14) 0 4 = some (n + 19) ∧ h1.2 (n + 19) = some (.inl (0, 128, .inl (va_cpy zCf (fun _ => 0) 0 0 128))) := by
        have g2 := (g.zs (k := 19) (c := .inl (0, 128, .inl (va_cpy zCf (fun _ => 0) 0 0 128))) (by decide)).zs (k := 14) (c := .inr (0, [.ref (n + 15), .ref (n + 16), .ref (n + 17), .ref (n + 18), .ref (n + 19), .int 0, .int 128])) (by decide)
        unfold f_X0_keepAll
        simp [cpI, gR, gI, gV, vR, vI, pF, zob, zs_get, fr_14 F, fr_18 F, fr_19 F]
        exact g2
      obtain ⟨h1, k1, k2, k3, k4, k5, k6, k7⟩ := ka
      have ro : f_X0_ruleOut 10000 (n + 14) 0 0 h1 = some h1 := by
        unfold f_X0_ruleOut f_X0_ruleOut_L2
        rw [k4]
        rfl
      have ah : f_X0_allHave 10000 (n + 14) (xs 1) h1 = some 0 := by
        unfold f_X0_allHave
        rw [ah_loop k5 k6 k7, ew, ah_is w (by omega)]
        rfl
      have l9 : f_X0_firstYearOf_L9 10000 (n + 14) (xs 1) 10000 (-1) 0 h1 = some (-1, h1) := by
        unfold f_X0_firstYearOf_L9
        rw [if_neg (by decide), k3, zif_t, ro]
        simp only [Option.bind_some, k5]
        rw [if_neg (by decide), k3, zif_t, ah]
        simp only [Option.bind_some, reduceIte]
        rfl
      unfold f_X0_firstYearOf
      simp only [ob_14 F, zif_t, k1, Option.bind_some, l9]
      exact ⟨_, rfl, k2⟩
    · rw [if_pos c]
      exact ⟨_, rfl, g⟩
  obtain ⟨h1, e1, g1⟩ := e1
  have e2 : ∃ h2, f_X12_since 10000 (n + 42) (xs 1) h1 = some (-1, h2) ∧ h2.2 b = h1.2 b := by
    unfold f_X12_since
    rw [t0 g1]
    simp only [w12, Option.bind_some]
    by_cases c : 0 ≤ xs 1 ∧ xs 1 ≤ 15
    · rw [if_neg (fun q => q c)]
      obtain ⟨fa, fb, q1⟩ := fsig g1
      have hlt := g1.2.2.1
      generalize hh : H2 h1 (n + 78) (n + 79) fa fb = h3 at q1
      have o1 : zob h3 (n + 42) 12 = true := by rw [← hh]; unfold H2; rw [zob_zn (by omega), zob_zn (by omega)]; exact ob_42 g1
      have v1 : f_X12_viewYear 10000 (n + 42) h3 = some 0 := by
        have a1 : gI h3 (n + 42) 12 26 = some (-1) := by rw [← hh]; unfold H2; rw [gI_zn (by omega), gI_zn (by omega)]; exact rd_42_26 g1
        have a2 : gI h3 (n + 42) 12 25 = some 0 := by rw [← hh]; unfold H2; rw [gI_zn (by omega), gI_zn (by omega)]; exact rd_42_25 g1
        unfold f_X12_viewYear
        rw [a1, a2]
        rfl
      have a3 : gI h3 (n + 42) 12 49 = some 0 := by rw [← hh]; unfold H2; rw [gI_zn (by omega), gI_zn (by omega)]; exact rd_42_49 g1
      have l36 : f_X12_since_L36 10000 (n + 42) 0 h3 10000 0 0 = some 0 := by
        unfold f_X12_since_L36
        rw [a3]
        rfl
      have l101 : f_X12_since_L101 10000 (n + 42) (xs 1) h3 10000 0 0 = some 0 := rfl
      have l23b : ∀ m, f_X12_since_L23 10000 (n + 42) (xs 1) (m + 1) 1 h3 = some (.inl h3) := by
        intro m
        unfold f_X12_since_L23
        rw [o1, zif_t, v1]
        rfl
      have l23 : f_X12_since_L23 10000 (n + 42) (xs 1) 10000 0 h3 = some (.inl h3) := by
        unfold f_X12_since_L23
        rw [o1, zif_t, v1]
        simp only [Option.bind_some]
        rw [if_neg (by decide), l36]
        simp only [Option.bind_some, reduceIte, l101]
        exact l23b 9998
      simp only [ob_42 g1, zif_t, q1, Option.bind_some, l23, zsum]
      refine ⟨_, rfl, ?_⟩
      rw [← hh]
      unfold H2
      rw [zs_ne (by omega), zs_ne (by omega)]
    · rw [if_pos c]
      exact ⟨_, rfl, rfl⟩
  obtain ⟨h2, e2, k2⟩ := e2
  refine ⟨h2, ?_, good2 k2 g1⟩
  unfold c_L_13
  simp [sc_1 g, sd_1 g, sc_1 g1, sd_1 g1, ob_0 F, ob_42 g1, zif_t, e1, e2]
end MQ
