/-! small laws for the reference's methods -/
theorem w12_01 (v lo hi : Int32) : p_X12_within v lo hi = 0 ∨ p_X12_within v lo hi = 1 := by
  rw [within12]
  split
  · exact Or.inr rfl
  · exact Or.inl rfl
theorem wp_rZ0w {v lo hi : Int32} {Q : Int32 → Prop} (k0 : ¬ (lo ≤ v ∧ v ≤ hi) → Q 0) (k1 : lo ≤ v ∧ v ≤ hi → Q 1) : wp (rZ0 (p_X12_within v lo hi)) Q := by
  rw [within12]
  by_cases c : lo ≤ v ∧ v ≤ hi
  · rw [if_pos c]; exact ⟨1, rfl, k1 c⟩
  · rw [if_neg c]; exact ⟨0, rfl, k0 c⟩
theorem i32_0 {a : Int32} (h : 0 ≤ a) : (0 : Int) ≤ a.toInt := by simpa using Int32.le_iff_toInt_le.mp h
theorem div_0 {a c : Int32} (h0 : 0 ≤ a) (h1 : 1 ≤ c) : 0 ≤ a / c := by
  have x := i32_0 h0
  have y : (1 : Int) ≤ c.toInt := by simpa using Int32.le_iff_toInt_le.mp h1
  refine Int32.le_iff_toInt_le.mpr ?_
  show (0 : Int) ≤ _
  have e : (a / c).toInt = a.toInt.tdiv c.toInt := by
    rw [Int32.toInt_div]
    refine Int.bmod_eq_of_le ?_ ?_
    · have := Int.tdiv_nonneg x (by omega : (0 : Int) ≤ c.toInt)
      omega
    · have q : a.toInt.tdiv c.toInt ≤ a.toInt := Int.tdiv_le_self _ x
      have : a.toInt < 2 ^ 31 := Int32.toInt_lt a
      omega
  rw [e]
  exact Int.tdiv_nonneg x (by omega)
theorem rem3 {y : Int32} (h : 0 ≤ y) : 0 ≤ y - y / 3 * 3 ∧ y - y / 3 * 3 ≤ 2 := by
  have x := i32_0 h
  have lt : y.toInt < 2 ^ 31 := Int32.toInt_lt y
  have e : (y / 3).toInt = y.toInt / 3 := by
    rw [Int32.toInt_div]
    show (y.toInt.tdiv 3).bmod (2 ^ 32) = _
    rw [Int.tdiv_eq_ediv_of_nonneg x]
    exact Int.bmod_eq_of_le (by omega) (by omega)
  have e2 : (y / 3 * 3).toInt = y.toInt / 3 * 3 := by
    rw [Int32.toInt_mul, e]
    show (y.toInt / 3 * 3).bmod (2 ^ 32) = _
    exact Int.bmod_eq_of_le (by omega) (by omega)
  have e3 : (y - y / 3 * 3).toInt = y.toInt - y.toInt / 3 * 3 := by
    rw [Int32.toInt_sub, e2]
    exact Int.bmod_eq_of_le (by omega) (by omega)
  refine ⟨Int32.le_iff_toInt_le.mpr ?_, Int32.le_iff_toInt_le.mpr ?_⟩
  · show (0 : Int) ≤ _
    omega
  · show _ ≤ (2 : Int)
    omega
theorem i32_nat {a : Int32} (h0 : 0 ≤ a) : (a.toBitVec.toNat : Int) = a.toInt := by
  have x := i32_0 h0
  show _ = a.toBitVec.toInt
  have x' : (0 : Int) ≤ a.toBitVec.toInt := x
  rw [BitVec.toInt_eq_toNat_cond] at x' ⊢
  have := a.toBitVec.isLt
  split at x'
  · rw [if_pos (by assumption)]
  · omega
theorem or_r {a c : Int32} (a0 : 0 ≤ a) (a1 : a ≤ 255) (c0 : 0 ≤ c) (c1 : c ≤ 255) : a ≤ a ||| c ∧ a ||| c ≤ 255 := by
  have ea := i32_nat a0
  have ec := i32_nat c0
  have a2 : a.toInt ≤ 255 := by simpa using Int32.le_iff_toInt_le.mp a1
  have c2 : c.toInt ≤ 255 := by simpa using Int32.le_iff_toInt_le.mp c1
  have eo : (a ||| c).toBitVec.toNat = a.toBitVec.toNat ||| c.toBitVec.toNat := by
    show (a.toBitVec ||| c.toBitVec).toNat = _
    exact BitVec.toNat_or _ _
  have l1 : a.toBitVec.toNat ≤ (a ||| c).toBitVec.toNat := by rw [eo]; exact Nat.left_le_or
  have l2 : (a ||| c).toBitVec.toNat < 256 := by
    rw [eo]
    exact Nat.or_lt_two_pow (n := 8) (by omega) (by omega)
  have et : (a ||| c).toInt = ((a ||| c).toBitVec.toNat : Int) := by
    show (a ||| c).toBitVec.toInt = _
    rw [BitVec.toInt_eq_toNat_of_lt (by omega)]
  refine ⟨Int32.le_iff_toInt_le.mpr (by omega), Int32.le_iff_toInt_le.mpr ?_⟩
  show _ ≤ (255 : Int)
  omega
theorem shl_7 {c : Int32} (h0 : 0 ≤ c) (h1 : c ≤ 7) : 0 ≤ (1 : Int32) <<< (c &&& 31) ∧ (1 : Int32) <<< (c &&& 31) ≤ 128 := by
  have a := i32_0 h0
  have d : c.toInt ≤ (7 : Int) := by simpa using Int32.le_iff_toInt_le.mp h1
  have e : c = Int32.ofInt c.toInt := by simp
  have k : ∃ m : Nat, m < 8 ∧ c.toInt = m := ⟨c.toInt.toNat, by omega, by omega⟩
  obtain ⟨m, hm, e2⟩ := k
  rw [e, e2]
  match m, hm with
  | 0, _ => decide
  | 1, _ => decide
  | 2, _ => decide
  | 3, _ => decide
  | 4, _ => decide
  | 5, _ => decide
  | 6, _ => decide
  | 7, _ => decide
  | m + 8, hm => exact absurd hm (by omega)
/-! the customs' table: only how far it goes -/
def zN39 (v2 : Int32) : Nat → Int32 → Int32 → Option Int32
  | 0, _, _ => none
  | n + 1, v1, v3 => if 16 ≤ v3 then some v1 else if v2 = v3 then (if 0 ≤ v1 ∧ v1 < 128 then zN39 v2 n (v1 + 1) (v3 + 1) else none) else if (v2 - v2 / 8 * 8) = (v3 - v3 / 8 * 8) then zN39 v2 n v1 (v3 + 1) else (if 0 ≤ v1 ∧ v1 < 128 then zN39 v2 n (v1 + 1) (v3 + 1) else none)
def zN31 (N : Nat) : Nat → Int32 → Int32 → Option Unit
  | 0, _, _ => none
  | n + 1, v1, v2 => if 16 ≤ v2 then some () else (zN39 v2 N v1 v2).bind fun k => zN31 N n k (v2 + 1)
section HAND
variable {n b L : Nat} {xs : Nat → Int32} {τ : Nat → Nat} {g : zGh} {h : zH}
theorem t_X12_findSigns_L39 {v2 : Int32} : ∀ (m : Nat) {v1 v3 k : Int32} {h : zH}, WT n b L xs τ g h → zN39 v2 m v1 v3 = some k → wp (f_X12_findSigns_L39 10000 (n + 42) v2 m v1 v3 h) (fun r => r.1 = k ∧ WT n b L xs τ g r.2) := by
  intro m
  induction m with
  | zero => intro v1 v3 k h w e; cases e
  | succ m ih =>
    intro v1 v3 k h w e
    have st : ∀ (hb : 0 ≤ v1 ∧ v1 < 128), zN39 v2 m (v1 + 1) (v3 + 1) = some k → wp ((gR h (n + 42) 12 54).bind fun r15 => (sI h r15 v1 v2).bind fun h16 => (gR h16 (n + 42) 12 55).bind fun r17 => (sI h16 r17 v1 v3).bind fun h18 => f_X12_findSigns_L39 10000 (n + 42) v2 m (v1 + 1) (v3 + 1) h18) (fun r => r.1 = k ∧ WT n b L xs τ g r.2) := by
      intro hb e
      refine wp_eq (gR_42_54 w) ?_
      refine wp_bind (sI_78 w hb.1 hb.2) fun h16 w16 => ?_
      refine wp_eq (gR_42_55 w16) ?_
      refine wp_bind (sI_79 w16 hb.1 hb.2) fun h18 w18 => ?_
      exact ih w18 e
    rw [f_X12_findSigns_L39.eq_2]
    unfold zN39 at e
    by_cases c1 : 16 ≤ v3
    · rw [if_pos c1] at e ⊢
      cases e
      exact ⟨_, rfl, rfl, w⟩
    · rw [if_neg c1] at e ⊢
      by_cases c2 : v2 = v3
      · rw [if_pos c2] at e ⊢
        split at e
        · rename_i hb
          exact st hb e
        · cases e
      · rw [if_neg c2] at e ⊢
        by_cases c3 : (v2 - v2 / 8 * 8) = (v3 - v3 / 8 * 8)
        · rw [if_pos c3] at e ⊢
          refine wp_bmap ?_
          refine wp_bind (ih w e) fun z pz => ?_
          exact wp_zsR pz
        · rw [if_neg c3] at e ⊢
          split at e
          · rename_i hb
            exact st hb e
          · cases e
theorem t_X12_findSigns_L31 : ∀ (m : Nat) {v1 v2 : Int32} {h : zH}, WT n b L xs τ g h → zN31 10000 m v1 v2 = some () → wp (f_X12_findSigns_L31 10000 (n + 42) m v1 v2 h) (fun r => WT n b L xs τ g r) := by
  intro m
  induction m with
  | zero => intro v1 v2 h w e; cases e
  | succ m ih =>
    intro v1 v2 h w e
    rw [f_X12_findSigns_L31.eq_2]
    unfold zN31 at e
    by_cases c1 : 16 ≤ v2
    · rw [if_pos c1]
      exact wp_some w
    · rw [if_neg c1] at e ⊢
      obtain ⟨k, e1, e2⟩ := zbind e
      refine wp_bind (t_X12_findSigns_L39 _ w e1) fun r p => ?_
      rw [p.1]
      exact ih p.2 e2
set_option maxRecDepth 100000 in
theorem zN31_is : zN31 10000 10000 0 0 = some () := by decide +kernel
theorem t_many_81 : ∀ (m : Nat) {v1 v2 : Int32}, WT n b L xs τ g h → 0 ≤ v2 → (9000 - v2.toInt).toNat < m → wp (f_X12_manyOf_L4 10000 (n + 81) h m v1 v2) (fun _ => True) := by
  intro m
  induction m with
  | zero => intro v1 v2 w i0 hm; exact absurd hm (Nat.not_lt_zero _)
  | succ m ih =>
    intro v1 v2 w i0 hm
    rw [f_X12_manyOf_L4.eq_2]
    refine wp_eq (aN_81 w) ?_
    refine wp_ite (fun c1 => wp_some trivial) (fun c1 => ?_)
    refine wp_bind (aZ_81 w (by lia) (by lia)) fun x3 _ => ?_
    refine wp_ite (fun c2 => ?_) (fun c2 => ?_)
    · exact wp_zlet (ih w (by lia) (mu_up (by lia) (by lia) hm))
    · exact wp_zlet (ih w (by lia) (mu_up (by lia) (by lia) hm))
theorem many_81 (w : WT n b L xs τ g h) : wp (f_X12_manyOf 10000 (n + 81) h) (fun _ => True) := by
  unfold f_X12_manyOf
  exact wp_bind (t_many_81 _ w (by decide) (mu_0 (by decide))) fun _ _ => wp_some trivial
theorem t_many_92 : ∀ (m : Nat) {v1 v2 : Int32}, WT n b L xs τ g h → 0 ≤ v2 → (9000 - v2.toInt).toNat < m → wp (f_X12_manyOf_L4 10000 (n + 92) h m v1 v2) (fun _ => True) := by
  intro m
  induction m with
  | zero => intro v1 v2 w i0 hm; exact absurd hm (Nat.not_lt_zero _)
  | succ m ih =>
    intro v1 v2 w i0 hm
    rw [f_X12_manyOf_L4.eq_2]
    refine wp_eq (aN_92 w) ?_
    refine wp_ite (fun c1 => wp_some trivial) (fun c1 => ?_)
    refine wp_bind (aZ_92 w (by lia) (by lia)) fun x3 _ => ?_
    refine wp_ite (fun c2 => ?_) (fun c2 => ?_)
    · exact wp_zlet (ih w (by lia) (mu_up (by lia) (by lia) hm))
    · exact wp_zlet (ih w (by lia) (mu_up (by lia) (by lia) hm))
theorem many_92 (w : WT n b L xs τ g h) : wp (f_X12_manyOf 10000 (n + 92) h) (fun _ => True) := by
  unfold f_X12_manyOf
  exact wp_bind (t_many_92 _ w (by decide) (mu_0 (by decide))) fun _ _ => wp_some trivial
end HAND
