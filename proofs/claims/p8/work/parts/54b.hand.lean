section HAND2
variable {n b L : Nat} {xs : Nat → Int32} {τ : Nat → Nat} {g : zGh} {h : zH}
theorem t_X12_comesTo_L8 {v1 v3 : Int32} (w : WT n b L xs τ g h) (p0 : 0 ≤ v1) : ∀ (m : Nat) {v4 v5 : Int32}, 0 ≤ v4 → v4 ≤ 255 → (v5 = 0 ∨ v5 = 1) → (256 - v4.toInt).toNat + v5.toInt.toNat < m → wp (f_X12_comesTo_L8 10000 (n + 42) v1 v3 h m v4 v5) (fun _ => True) := by
  intro m
  induction m with
  | zero => intro v4 v5 i0 i1 i2 hm; exact absurd hm (Nat.not_lt_zero _)
  | succ m ih =>
    intro v4 v5 i0 i1 i2 hm
    rw [f_X12_comesTo_L8.eq_2]
    refine wp_ite (fun c1 => wp_some trivial) (fun c1 => ?_)
    have e5 : v5 = 1 := by lia
    subst e5
    refine wp_bind (t_X12_comesTo_L20 w p0 _ (by decide) i0 i1 (mu_0 (by decide))) fun m24 p => ?_
    obtain ⟨q1, q2⟩ := p
    have l1 := Int32.le_iff_toInt_le.mp q1
    have l2 : m24.toInt ≤ 255 := by simpa using Int32.le_iff_toInt_le.mp q2
    have l3 : (1 : Int32).toInt.toNat = 1 := by decide
    have l4 : (0 : Int32).toInt.toNat = 0 := by decide
    rw [l3] at hm
    refine wp_ite (fun c2 => ?_) (fun c2 => ?_)
    · refine ih (by lia) q2 (Or.inl rfl) ?_
      rw [c2, l4]
      omega
    · have l5 : v4.toInt < m24.toInt := by
        have : v4.toInt ≠ m24.toInt := fun q => c2 (Int32.toInt_inj.mp q.symm)
        omega
      refine ih (by lia) q2 (Or.inr rfl) ?_
      rw [l3]
      omega
theorem t_X12_comesTo {v1 v2 v3 : Int32} (w : WT n b L xs τ g h) (p0 : 0 ≤ v1) (p1 : 0 ≤ v2) (p2 : v2 ≤ 7) : wp (f_X12_comesTo 10000 (n + 42) v1 v2 v3 h) (fun _ => True) := by
  unfold f_X12_comesTo
  refine wp_zletE fun x1 e1 => ?_
  have s1 := shl_7 p1 p2
  rw [← e1] at s1
  have l1 := i32_0 s1.1
  refine wp_bind (t_X12_comesTo_L8 w p0 _ s1.1 (by lia) (Or.inr rfl) ?_) fun _ _ => wp_some trivial
  have l3 : (1 : Int32).toInt.toNat = 1 := by decide
  rw [l3]
  omega
end HAND2
