section MU
variable {h : zH} {n b : Nat} {xs : Nat → Int32}
/-- a byte of a long: as the class takes it -/
def byc (v : Int64) (v3 : Int32) : Int32 := (((v.toUInt64 >>> (v3.toInt64.toUInt64 &&& Int64.toUInt64 63)).toInt64).toInt32) &&& 255
/-- as the reference takes it -/
def byr (v : Int64) (v3 : Int32) : Int32 := ((v >>> (v3.toInt64 &&& 63)).toInt32) &&& 255
theorem bit255 : ∀ i : Nat, i < 32 → 8 ≤ i → (255 : Int32).toBitVec.getLsbD i = false := by decide
theorem by_aux (x y : Int32) (h : ∀ i, i < 8 → x.toBitVec.getLsbD i = y.toBitVec.getLsbD i) : x &&& 255 = y &&& 255 := by
  apply Int32.toBitVec_inj.mp
  rw [Int32.toBitVec_and, Int32.toBitVec_and]
  apply BitVec.eq_of_getLsbD_eq
  intro i hi
  rw [BitVec.getLsbD_and, BitVec.getLsbD_and]
  by_cases h8 : i < 8
  · rw [h i h8]
  · rw [bit255 i hi (by omega), Bool.and_false, Bool.and_false]
theorem by_sh (v : Int64) (k : Nat) (hk : k + 8 ≤ 64) (a : UInt64) (c : Int64) (ha : (a.toBitVec % 64).toNat = k) (hc : (c.toBitVec.smod 64).toNat = k) : ((v.toUInt64 >>> a).toInt64).toInt32 &&& 255 = (v >>> c).toInt32 &&& 255 := by
  apply by_aux
  intro i hi
  rw [Int64.toBitVec_toInt32, Int64.toBitVec_toInt32, UInt64.toBitVec_toInt64, UInt64.toBitVec_shiftRight, Int64.toBitVec_toUInt64, Int64.toBitVec_shiftRight, BitVec.getLsbD_signExtend, BitVec.getLsbD_signExtend, BitVec.sshiftRight_eq']
  have e1 : v.toBitVec >>> (a.toBitVec % 64) = v.toBitVec >>> k := by
    show v.toBitVec >>> (a.toBitVec % 64).toNat = _
    rw [ha]
  have e2 : decide (i < 64) = true := by simp; omega
  rw [if_pos (by omega), if_pos (by omega)]
  congr 1
  rw [e1, hc, BitVec.getLsbD_ushiftRight, BitVec.getLsbD_sshiftRight]
  have q1 : ¬ 64 ≤ i := by omega
  have q2 : k + i < 64 := by omega
  simp [q1, q2]
theorem by_eq (v : Int64) (j : Nat) (hj : j < 8) : byc v (nI (8 * j)) = byr v (nI (8 * j)) := by
  unfold byc byr
  match j, hj with
  | 0, _ => exact by_sh v 0 (by decide) _ _ (by decide) (by decide)
  | 1, _ => exact by_sh v 8 (by decide) _ _ (by decide) (by decide)
  | 2, _ => exact by_sh v 16 (by decide) _ _ (by decide) (by decide)
  | 3, _ => exact by_sh v 24 (by decide) _ _ (by decide) (by decide)
  | 4, _ => exact by_sh v 32 (by decide) _ _ (by decide) (by decide)
  | 5, _ => exact by_sh v 40 (by decide) _ _ (by decide) (by decide)
  | 6, _ => exact by_sh v 48 (by decide) _ _ (by decide) (by decide)
  | 7, _ => exact by_sh v 56 (by decide) _ _ (by decide) (by decide)
  | j + 8, hj => omega

def cnt (v : Int64) : Nat → Nat
  | 0 => 0
  | j + 1 => (if byc v (nI (8 * j)) = 10 ∨ 32 ≤ byc v (nI (8 * j)) ∧ byc v (nI (8 * j)) ≤ 126 then 1 else 0) + cnt v j
theorem cnt_le (v : Int64) : ∀ j, cnt v j ≤ j := by
  intro j
  induction j with
  | zero => exact Nat.le_refl _
  | succ j ih =>
    unfold cnt
    split <;> omega
def Tp (h h3 : zH) (n s : Nat) : Prop := h3.2 (n + 3) = some (.inr (9, [.ref (n + 4), .ref (n + 5), .int (nI s), .int 0, .int 0, .int 0, .int 0, .long 0])) ∧ (∃ f, h3.2 (n + 4) = some (.inl (2, 1000, .inl f))) ∧ h3.2 n = h.2 n ∧ Kp h h3 n
theorem sh8 (j : Nat) : nI (8 * (j + 1)) - 8 = nI (8 * j) := by
  rw [show 8 * (j + 1) = 8 * j + 8 by omega, ← nI_add]
  exact Int32.add_sub_cancel _ _
theorem sh8' (x : Int32) : x + (-8) = x - 8 := by rw [Int32.sub_eq_add_neg]
theorem put_loop (v : Int64) : ∀ (m j s : Nat) (h3 : zH), j ≤ 8 → j < m → s + j ≤ 1000 → Tp h h3 n s → ∃ h4, f_X9_put_L3 10000 (n + 3) v m (nI (8 * j) - 8) h3 = some h4 ∧ Tp h h4 n (s + cnt v j) := by
  intro m
  induction m with
  | zero => intro j s h3 _ h2; omega
  | succ m ih =>
    intro j s h3 p1 p2 p3 t
    unfold f_X9_put_L3
    cases j with
    | zero =>
      rw [if_pos (by decide)]
      exact ⟨h3, rfl, t⟩
    | succ j =>
      rw [sh8, if_neg (nI_pos (by omega))]
      simp only [zlet]
      have eb : (((v.toUInt64 >>> ((nI (8 * j)).toInt64.toUInt64 &&& Int64.toUInt64 63)).toInt64).toInt32) &&& 255 = byc v (nI (8 * j)) := rfl
      rw [eb]
      generalize hx : byc v (nI (8 * j)) = x
      simp only [w11]
      have ec : cnt v (j + 1) = (if x = 10 ∨ 32 ≤ x ∧ x ≤ 126 then 1 else 0) + cnt v j := by
        rw [← hx]; rfl
      have wr : ∃ h4, ((gI h3 (n + 3) 9 2).bind fun x8 => if 1000 ≤ x8 then (f_X9_put_L3 10000 (n + 3) v m (nI (8 * j) + (-8)) h3) else ((gR h3 (n + 3) 9 0).bind fun r10 => (gI h3 (n + 3) 9 2).bind fun x11 => (sB h3 r10 x11 (x.toInt8.toInt32)).bind fun h12 => (gI h12 (n + 3) 9 2).bind fun x13 => (pF h12 (n + 3) 9 2 (.int (x13 + 1))).bind fun h14 => f_X9_put_L3 10000 (n + 3) v m (nI (8 * j) + (-8)) h14)) = some h4 ∧ Tp h h4 n (s + 1 + cnt v j) := by
        obtain ⟨t1, ⟨f, t2⟩, t3, t4⟩ := t
        have k := in_rng (j := s) (m := 1000) (by omega) (by decide)
        rw [show gI h3 (n + 3) 9 2 = some (nI s) from gI_of t1 rfl]
        simp only [Option.bind_some]
        rw [if_neg (show ¬ (1000 : Int32) ≤ nI s from nI_ge (b := 1000) (by omega) (by decide)), show gR h3 (n + 3) 9 0 = some (n + 4) from gR_of t1 rfl]
        simp only [Option.bind_some]
        obtain ⟨f2, e2⟩ : ∃ f2, sB h3 (n + 4) (nI s) x.toInt8.toInt32 = some (zset h3 (n + 4) (.inl (2, 1000, .inl f2))) := by
          unfold sB
          rw [t2]
          show ∃ f2, (if (2 : Nat) = 2 ∧ ¬ nI s < 0 ∧ (nI s).toNatClampNeg < 1000 then _ else none) = _
          rw [if_pos ⟨rfl, k⟩]
          exact ⟨_, rfl⟩
        rw [e2]
        simp only [Option.bind_some]
        rw [gI_zn (by omega), show gI h3 (n + 3) 9 2 = some (nI s) from gI_of t1 rfl]
        simp only [Option.bind_some]
        rw [pF_of (h := zset h3 (n + 4) (.inl (2, 1000, .inl f2))) (by rw [zs_ne (by omega)]; exact t1) (by exact Nat.le_of_ble_eq_true rfl)]
        simp only [Option.bind_some, sh8', nI_1]
        refine ih j (s + 1) _ (by omega) (by omega) (by omega) ⟨by rw [zs_same]; rfl, ⟨f2, by rw [zs_ne (by omega), zs_same]⟩, by rw [zs_ne (by omega), zs_ne (by omega)]; exact t3, (t4.zs (by decide)).zs (by decide)⟩
      by_cases c1 : x = 10
      · rw [if_pos c1]
        simp only [Option.bind_some, zsum]
        rw [ec, if_pos (Or.inl c1), ← Nat.add_assoc]
        exact wr
      · rw [if_neg c1]
        by_cases c2 : 32 ≤ x ∧ x ≤ 126
        · rw [if_neg (fun q => q c2)]
          simp only [Option.bind_some, zsum]
          rw [ec, if_pos (Or.inr c2), ← Nat.add_assoc]
          exact wr
        · rw [if_pos c2, ec, if_neg (fun q => q.elim c1 c2), Nat.zero_add]
          obtain ⟨h4, q1, q2⟩ := ih j s h3 (by omega) (by omega) (by omega) t
          refine ⟨h4, ?_, q2⟩
          rw [sh8', q1]
          rfl
theorem put_eq {h3 : zH} {s : Nat} (v : Int64) (hs : s + 8 ≤ 1000) (t : Tp h h3 n s) : ∃ h4, f_X9_put 10000 (n + 3) v h3 = some h4 ∧ Tp h h4 n (s + cnt v 8) := by
  obtain ⟨h4, q1, q2⟩ := put_loop v 10000 8 s h3 (by decide) (by decide) hs t
  rw [show (nI (8 * 8) - 8 : Int32) = 56 by decide] at q1
  refine ⟨h4, ?_, q2⟩
  unfold f_X9_put
  rw [q1]
  rfl
def Tl (h1 h3 : zH) (n b s : Nat) : Prop := (∃ fs, h3.2 (n + 42) = some (.inr (12, fs)) ∧ fs.length = 80 ∧ fs[1]? = some (.ref (n + 43)) ∧ fs[2]? = some (.int (nI s))) ∧ (∃ f, h3.2 (n + 43) = some (.inl (0, 1000, .inl f))) ∧ h3.2 b = h1.2 b
theorem lay_loop {h1 : zH} (hb : ∀ k, (b = n + k) = False) (v : Int64) : ∀ (m j s : Nat) (h3 : zH), j ≤ 8 → j < m → s + j ≤ 1000 → Tl h1 h3 n b s → ∃ h4, f_X12_lay_L3 10000 (n + 42) v m (nI (8 * j) - 8) h3 = some h4 ∧ Tl h1 h4 n b (s + cnt v j) := by
  intro m
  induction m with
  | zero => intro j s h3 _ h2; omega
  | succ m ih =>
    intro j s h3 p1 p2 p3 t
    unfold f_X12_lay_L3
    cases j with
    | zero =>
      rw [if_pos (by decide)]
      exact ⟨h3, rfl, t⟩
    | succ j =>
      rw [sh8, if_neg (nI_pos (by omega))]
      simp only [zlet]
      have eb : ((v >>> ((nI (8 * j)).toInt64 &&& 63)).toInt32) &&& 255 = byc v (nI (8 * j)) := (by_eq v j (by omega)).symm
      rw [eb]
      generalize hx : byc v (nI (8 * j)) = x
      have ec : cnt v (j + 1) = (if x = 10 ∨ 32 ≤ x ∧ x ≤ 126 then 1 else 0) + cnt v j := by
        rw [← hx]; rfl
      have wr : ∃ h4, ((gI h3 (n + 42) 12 2).bind fun x10 => if 1000 ≤ x10 then (f_X12_lay_L3 10000 (n + 42) v m (nI (8 * j) + (-8)) h3) else ((gR h3 (n + 42) 12 1).bind fun r12 => (gI h3 (n + 42) 12 2).bind fun x13 => (sI h3 r12 x13 x).bind fun h14 => (gI h14 (n + 42) 12 2).bind fun x15 => (pF h14 (n + 42) 12 2 (.int (x15 + 1))).bind fun h16 => f_X12_lay_L3 10000 (n + 42) v m (nI (8 * j) + (-8)) h16)) = some h4 ∧ Tl h1 h4 n b (s + 1 + cnt v j) := by
        obtain ⟨⟨fs, t1, l1, l2, l3⟩, ⟨f, t2⟩, t3⟩ := t
        rw [show gI h3 (n + 42) 12 2 = some (nI s) from gI_of t1 l3]
        simp only [Option.bind_some]
        rw [if_neg (show ¬ (1000 : Int32) ≤ nI s from nI_ge (b := 1000) (by omega) (by decide)), show gR h3 (n + 42) 12 1 = some (n + 43) from gR_of t1 l2]
        simp only [Option.bind_some]
        rw [sI_of t2 (by omega) (by decide)]
        simp only [Option.bind_some]
        rw [gI_zn (by omega), show gI h3 (n + 42) 12 2 = some (nI s) from gI_of t1 l3]
        simp only [Option.bind_some]
        rw [pF_of (h := zset h3 (n + 43) (.inl (0, 1000, .inl (upd f s x)))) (fs := fs) (by rw [zs_ne (by omega)]; exact t1) (by rw [l1]; decide)]
        simp only [Option.bind_some, sh8', nI_1]
        refine ih j (s + 1) _ (by omega) (by omega) (by omega) ⟨⟨_, zs_same _ _ _, by rw [List.length_set, l1], by rw [List.getElem?_set_ne (by decide)]; exact l2, by rw [List.getElem?_set_self (by rw [l1]; decide)]⟩, ⟨_, by rw [zs_ne (by omega), zs_same]⟩, by rw [zs_ne (by rw [ne_eq, hb]; exact not_false), zs_ne (by rw [ne_eq, hb]; exact not_false)]; exact t3⟩
      by_cases c1 : x = 10
      · rw [if_pos c1]
        simp only [Option.bind_some, zsum]
        rw [ec, if_pos (Or.inl c1), ← Nat.add_assoc]
        exact wr
      · rw [if_neg c1]
        by_cases c2 : 32 ≤ x ∧ x ≤ 126
        · rw [if_neg (Int32.not_lt.mpr c2.1), if_neg (Int32.not_lt.mpr c2.2)]
          simp only [Option.bind_some, zsum]
          rw [ec, if_pos (Or.inr c2), ← Nat.add_assoc]
          exact wr
        · have ec' : cnt v (j + 1) = cnt v j := by
            rw [ec, if_neg (fun q : x = 10 ∨ 32 ≤ x ∧ x ≤ 126 => q.elim c1 c2), Nat.zero_add]
          rw [ec']
          obtain ⟨h4, q1, q2⟩ := ih j s h3 (by omega) (by omega) (by omega) t
          refine ⟨h4, ?_, q2⟩
          rw [sh8', q1]
          by_cases c3 : x < 32
          · rw [if_pos c3]; rfl
          · have c4 : 126 < x := by
              apply Int32.not_le.mp
              intro q
              exact c2 ⟨Int32.not_lt.mp c3, q⟩
            rw [if_neg c3, if_pos c4]
            rfl
theorem lay_eq {h1 h3 : zH} {s : Nat} (hb : ∀ k, (b = n + k) = False) (v : Int64) (hs : s + 8 ≤ 1000) (t : Tl h1 h3 n b s) : ∃ h4, f_X12_lay 10000 (n + 42) v h3 = some h4 ∧ Tl h1 h4 n b (s + cnt v 8) := by
  obtain ⟨h4, q1, q2⟩ := lay_loop hb v 10000 8 s h3 (by decide) (by decide) hs t
  rw [show (nI (8 * 8) - 8 : Int32) = 56 by decide] at q1
  refine ⟨h4, ?_, q2⟩
  unfold f_X12_lay
  rw [q1]
  rfl
theorem feedC (F : Fr h n b xs) (hs : h.1.1 = n + 100) (u v w : Int64) : ∃ h1, f_X11_feed 10000 n u v w h = some (nI (0 + cnt u 8 + cnt v 8 + cnt w 8), h1) ∧ Kp h h1 n := by
  have l1 := cnt_le u 8
  have l2 := cnt_le v 8
  have l3 := cnt_le w 8
  have T0 : Tp h h n 0 := ⟨fr_3 F, ⟨_, fr_4 F⟩, rfl, fun _ _ => rfl, by rw [hs]; exact Nat.le_refl _⟩
  obtain ⟨h1, a1, T1⟩ := put_eq u (by omega) T0
  obtain ⟨h2, a2, T2⟩ := put_eq v (by omega) T1
  obtain ⟨h3, a3, T3⟩ := put_eq w (by omega) T2
  have r : ∀ (q : zH) (s : Nat), Tp h q n s → gR q n 11 2 = some (n + 3) ∧ zob q (n + 3) 9 = true := fun q s t => ⟨by unfold gR gV; rw [t.2.2.1]; exact rd_0_2 F, zob_of t.1⟩
  refine ⟨h3, ?_, T3.2.2.2⟩
  unfold f_X11_feed
  simp only [(r _ _ T0).1, (r _ _ T0).2, (r _ _ T1).1, (r _ _ T1).2, (r _ _ T2).1, (r _ _ T2).2, (r _ _ T3).1, zif_t, Option.bind_some, a1, a2, a3, show gI h3 (n + 3) 9 2 = some (nI (0 + cnt u 8 + cnt v 8 + cnt w 8)) from gI_of T3.1 rfl]
theorem feedR (g : G h n b xs) (u v w : Int64) : ∃ h2, f_X12_feed 10000 (n + 42) u v w h = some (nI (0 + cnt u 8 + cnt v 8 + cnt w 8), h2) ∧ h2.2 b = h.2 b := by
  have l1 := cnt_le u 8
  have l2 := cnt_le v 8
  have l3 := cnt_le w 8
  have hb := b_ne g
  have T0 : Tl h h n b 0 := ⟨⟨_, fr_42 g, rfl, rfl, rfl⟩, ⟨_, fr_43 g⟩, rfl⟩
  obtain ⟨h1, a1, T1⟩ := lay_eq hb u (by omega) T0
  obtain ⟨h2, a2, T2⟩ := lay_eq hb v (by omega) T1
  obtain ⟨h3, a3, T3⟩ := lay_eq hb w (by omega) T2
  have r : ∀ (q : zH) (s : Nat), Tl h q n b s → zob q (n + 42) 12 = true := fun q s t => by
    obtain ⟨⟨fs, t1, -⟩, -⟩ := t
    exact zob_of t1
  have e3 : gI h3 (n + 42) 12 2 = some (nI (0 + cnt u 8 + cnt v 8 + cnt w 8)) := by
    obtain ⟨⟨fs, t1, t2, t3, t4⟩, -⟩ := T3
    exact gI_of t1 t4
  refine ⟨h3, ?_, T3.2.2⟩
  unfold f_X12_feed
  rw [t0 g]
  simp only [r _ _ T0, r _ _ T1, r _ _ T2, zif_t, Option.bind_some, a1, a2, a3, e3]
theorem m_6 (F : Fr h n b xs) (hs : h.1.1 = n + 100) : Good (c_L_6 10000 b n (n + 42) 0 h) b := by
  have g := F.2.1
  obtain ⟨h1, e1, k1⟩ := feedC F hs (((xs 1).toInt64 <<< ((32 : Int32).toInt64 &&& 63)) ||| ((xs 2).toInt64 &&& 4294967295)) (((xs 3).toInt64 <<< ((32 : Int32).toInt64 &&& 63)) ||| ((xs 4).toInt64 &&& 4294967295)) (((xs 5).toInt64 <<< ((32 : Int32).toInt64 &&& 63)) ||| ((xs 6).toInt64 &&& 4294967295))
  have g1 := k1.g g
  obtain ⟨h2, e2, k2⟩ := feedR g1 (((xs 1).toInt64 <<< ((32 : Int32).toInt64 &&& 63)) ||| ((xs 2).toInt64 &&& 4294967295)) (((xs 3).toInt64 <<< ((32 : Int32).toInt64 &&& 63)) ||| ((xs 4).toInt64 &&& 4294967295)) (((xs 5).toInt64 <<< ((32 : Int32).toInt64 &&& 63)) ||| ((xs 6).toInt64 &&& 4294967295))
  refine ⟨h2, ?_, good2 k2 g1⟩
  unfold c_L_6
  simp only [sc_1 g, sc_2 g, sc_3 g, sc_4 g, sc_5 g, sc_6 g, sc_1 g1, sc_2 g1, sc_3 g1, sc_4 g1, sc_5 g1, sc_6 g1, ob_0 F, ob_42 g1, zif_t, Option.bind_some, e1, e2, reduceIte]
end MU
