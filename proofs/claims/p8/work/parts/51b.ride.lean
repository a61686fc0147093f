/-! the ride over a typed heap -/
section RIDE
variable {n b L : Nat} {xs : Nat → Int32} {τ : Nat → Nat} {g : zGh} {h : zH} {M : Nat}
theorem rEnd_le (q : Nat → Int32 × Int32 × Int32 × Int32 × Int32) : ∀ (k i : Nat), rEnd q k i ≤ k + i := by
  intro k
  induction k with
  | zero => intro i; exact Nat.le_of_eq (Nat.zero_add i).symm
  | succ k ih =>
    intro i
    unfold rEnd
    split
    · omega
    · have := ih (i + 1)
      omega
theorem i32_nI {v : Int32} (h0 : 0 ≤ v) : nI v.toNatClampNeg = v := by
  have a : (0 : Int) ≤ v.toInt := by simpa using Int32.le_iff_toInt_le.mp h0
  apply Int32.toInt_inj.mp
  show (Int32.ofNat v.toInt.toNat).toInt = _
  have : v.toInt < 2 ^ 31 := Int32.toInt_lt v
  rw [Int32.toInt_ofNat_of_lt (by omega)]
  omega
theorem nI_r {j m : Nat} (hj : j ≤ m) (hm : m < 2 ^ 31) : 0 ≤ nI j ∧ nI j ≤ nI m := by
  refine ⟨Int32.le_iff_toInt_le.mpr ?_, Int32.le_iff_toInt_le.mpr ?_⟩
  · show (0 : Int) ≤ (Int32.ofNat j).toInt
    rw [Int32.toInt_ofNat_of_lt (by omega)]
    omega
  · show (Int32.ofNat j).toInt ≤ (Int32.ofNat m).toInt
    rw [Int32.toInt_ofNat_of_lt (by omega), Int32.toInt_ofNat_of_lt (by omega)]
    omega
theorem rM_r (q : Nat → Int32 × Int32 × Int32 × Int32 × Int32) {j : Nat} (hj : j ≤ 60) : -1 ≤ rM q j ∧ rM q j ≤ 60 := by
  unfold rM
  have := nI_r hj (by decide : 60 < 2 ^ 31)
  have e : nI 60 = 60 := rfl
  rw [e] at this
  split
  · lia
  · lia
theorem t_X8_go {v2 v3 : Int32} (w : WT n b L xs τ g h) (t : τ M = 1) (p0 : 0 ≤ v3) (p1 : v3 ≤ 60) : wp (f_X8_go 10000 (n + 2) M v2 v3 h) (fun r => WT n b L xs τ g r) := by
  obtain ⟨c, e0, i, rfl, r0⟩ := w.1 2 (by decide)
  obtain ⟨cM, eM, k, rfl, r1, r2, r3, r4, r5, r6⟩ := mt_of w t
  obtain ⟨hM1, hM2, -⟩ := w.2.1 M (by rw [t]; decide)
  have hu : v3.toNatClampNeg ≤ 60 := by
    have := (i32_clamp (i := v3) p0 (N := 61) (by decide) (by show v3 < 61; lia)).2
    omega
  have q := go_eq (N := 10000) (R := n + 2) (M := M) (h := h) (a := i 0) (b := i 1) (c := i 2) (d := i 3) (e := i 4) (g := i 5) (i := i 6) (sp := v2) (m0 := k 0) (m1 := k 1) (reacts := k 2) (m3 := k 3) (pace := k 4) (looks := k 5) (sx := k 7) (sy := k 8) (fl := k 9) (u := v3.toNatClampNeg) (by omega) ⟨gI_of eM rfl, gI_of eM rfl, gI_of eM rfl, gI_of eM rfl, gI_of eM rfl, gI_of eM rfl, gI_of eM rfl, gI_of eM rfl, gI_of eM rfl⟩ ⟨zBrk, w.2.2.2.2.1.1, rfl, rfl, rfl⟩ (by have := w.2.2.2.2.1.2; omega) (by lia) hu (by decide)
  have e0' : zset h (n + 2) (rL (i 0) (i 1) (i 2) (i 3) (i 4) (i 5) (i 6)) = h := zs_id e0
  rw [i32_nI p0, e0'] at q
  refine ⟨_, q, w.set (j := 2) (by decide) ?_⟩
  generalize (rSeq (k 0) (k 3) v2 (k 2) (k 4) (k 5) (k 7) (k 8) (k 9)) = sq
  have hj : rEnd sq v3.toNatClampNeg 0 ≤ 60 := by have := rEnd_le sq v3.toNatClampNeg 0; omega
  generalize rEnd sq v3.toNatClampNeg 0 = j at hj
  exact ⟨fun z => ([(sq j).1, (sq j).2.1, (sq j).2.2.1, nI j, sF (k 7) (k 8) (sq j).1 (sq j).2.1 (nI j) (sq j).2.2.2.1, (sq j).2.2.2.2, rM sq j] : List Int32).getD z 0, rfl, rM_r sq hj⟩
end RIDE
