/-! plan of the class -/
def plA (td : Nat) (A B H F G : Nat → Nat) (tr : Nat) (bo : Option Nat) (what : Int32) : Int32 := match bo with
  | none => -1
  | some x => if what = 8 then nI (hmS td H x 8) else if what = 9 then nI ((laS td A B F G tr x).getD 0) else if td.testBit what.toNatClampNeg = true then nI (dg x what.toNatClampNeg) else -1
section XPLAN
variable {n b L : Nat} {xs : Nat → Int32} {τ : Nat → Nat} {g : zGh} {h : zH} {td tr : Nat} {A B H F G : Nat → Nat}
theorem c_doneWith_L33 {s x : Nat} (hx : x < 6561) (hs : s < 8) : ∀ (m i : Nat) {y : Int32}, i ≤ s → s - i < m → y = nI (x / 3 ^ i) → f_X10_doneWith_L33 10000 (nI s) h m y (nI i) = some (nI (x / 3 ^ s)) := by
  intro m
  induction m with
  | zero => intro i y hi hm e; exact absurd hm (Nat.not_lt_zero _)
  | succ m ih =>
    intro i y hi hm e
    apply wp_is
    rw [f_X10_doneWith_L33.eq_2]
    by_cases ei : i = s
    · rw [ei] at e ⊢
      rw [if_pos (Int32.le_refl _)]
      exact wp_some e
    · rw [if_neg (Int32.not_le.mpr (hI_lt (by omega) (by omega))), nI_1]
      refine wp_zlet ?_
      have le : x / 3 ^ i ≤ x := Nat.div_le_self _ _
      have e3 : (3 : Int32) = nI 3 := rfl
      exact ⟨_, ih (i + 1) (by omega) (by omega) (by rw [e, e3, nI_div (by omega) (by omega), Nat.div_div_eq_div_mul, Nat.pow_succ]), rfl⟩
theorem c_doneWith {s l x : Nat} (hs : s < 8) (hl : l < 9) (hx : x < 6561) (ts : TS td tr A B H F G g) (e : g.2.1 41 l = nI x) (w : WT n b L xs τ g h) : f_X10_doneWith 10000 (n + 33) (nI s) (nI l) h = some (if td.testBit s = true then nI (dg x s) else -1) := by
  have q := h_ix (m := 9) (j := l) hl (by omega)
  have e9 : nI 9 = 9 := rfl
  rw [e9] at q
  apply wp_is
  unfold f_X10_doneWith
  refine wp_zif (ob_33 w) ?_
  refine wp_eq (c_isT hs ts w) ?_
  by_cases t : td.testBit s = true
  · rw [if_pos t, if_pos t, if_neg ne10, if_neg (Int32.not_lt.mpr q.1)]
    refine wp_eq (gR_33_7 w) ?_
    refine wp_eq (aN_41 w) ?_
    rw [if_pos q.2.1]
    refine wp_eq (gR_33_7 w) ?_
    refine wp_eq (A_41 w q.1 q.2.1) ?_
    rw [q.2.2, e]
    have k : f_X10_doneWith_L33 10000 (nI s) h 10000 (nI x) 0 = some (nI (x / 3 ^ s)) := c_doneWith_L33 hx hs 10000 0 (by omega) (by omega) (by rw [Nat.pow_zero, Nat.div_one])
    refine wp_eq k ?_
    have le : x / 3 ^ s ≤ x := Nat.div_le_self _ _
    rw [nI_mod3 (by omega)]
    exact wp_some rfl
  · rw [if_neg t, if_neg t, if_pos eq00]
    exact wp_some rfl
theorem v_X11_plan {v1 v2 : Int32} (ts : TS td tr A B H F G g) (tc : TC td tr A B H F G g) (w : WT n b L xs τ g h) : wp (f_X11_plan 10000 n v1 v2 h) (fun r => ∃ g', WT n b L xs τ g' r.2 ∧ TG g g' ∧ TC td tr A B H F G g' ∧ (¬ ((0 ≤ v1 ∧ v1 ≤ 8) ∧ (0 ≤ v2 ∧ v2 ≤ 9)) → r.1 = -1) ∧ ((0 ≤ v1 ∧ v1 ≤ 8) ∧ (0 ≤ v2 ∧ v2 ≤ 9) → ∃ bo, Mn (PlL td A B F G tr (v1.toNatClampNeg + 1)) (fun c => hmS td H c 8) 6561 bo ∧ r.1 = plA td A B H F G tr bo v2)) := by
  unfold f_X11_plan
  refine in11 (fun c => wp_some ⟨g, w, TG_id g, tc, fun _ => rfl, fun z => absurd z.1 c⟩) (fun c1 => ?_)
  refine in11 (fun c => wp_some ⟨g, w, TG_id g, tc, fun _ => rfl, fun z => absurd z.2 c⟩) (fun c2 => ?_)
  refine wp_mono (R := fun r => ∃ g', WT n b L xs τ g' r.2 ∧ TG g g' ∧ TC td tr A B H F G g' ∧ ∃ bo, Mn (PlL td A B F G tr (v1.toNatClampNeg + 1)) (fun c => hmS td H c 8) 6561 bo ∧ r.1 = plA td A B H F G tr bo v2) ?_ (fun r p => ?_)
  · have e1 : nI v1.toNatClampNeg = v1 := i32_nI c1.1
    have l1 : v1.toNatClampNeg < 9 := (i32_clamp c1.1 (N := 9) (by decide) (by show v1 < 9; lia)).2
    have k := c_bestLate (most := v1.toNatClampNeg) (by omega) ts tc w
    rw [e1] at k
    refine wp_eq (gR_0_9 w) ?_
    refine wp_zif (ob_33 w) ?_
    refine wp_bind k fun q5 p5 => ?_
    obtain ⟨g1, w1, tg, tc1, bo, mn, fb⟩ := p5
    cases bo with
    | none =>
      have z : q5.1 = -1 := fb
      rw [if_pos z]
      exact wp_some ⟨g1, w1, tg, tc1, none, mn, rfl⟩
    | some x =>
      obtain ⟨l, l9, vl, lx, s1, n1⟩ := fb
      have x6 := mn.1
      have nz : ¬ q5.1 = -1 := fun z => by
        have u := (nI_r (Nat.zero_le l) (by omega)).2
        rw [← vl, z] at u
        exact absurd u (by decide)
      rw [if_neg nz, vl]
      by_cases e8 : v2 = 8
      · rw [if_pos e8]
        refine wp_eq (gR_0_9 w1) ?_
        refine wp_zif (ob_33 w1) ?_
        refine wp_eq (c_sumWith l9 w1) ?_
        refine wp_some ⟨g1, w1, tg, tc1, some x, mn, ?_⟩
        show g1.2.1 40 l = (if v2 = 8 then _ else _)
        rw [if_pos e8]
        exact s1
      · rw [if_neg e8]
        by_cases e9 : v2 = 9
        · rw [if_pos e9]
          refine wp_some ⟨g1, w1, tg, tc1, some x, mn, ?_⟩
          show nI l = (if v2 = 8 then _ else if v2 = 9 then nI ((laS td A B F G tr x).getD 0) else _)
          rw [if_neg e8, if_pos e9, lx]
          rfl
        · rw [if_neg e9]
          have s8 : v2.toNatClampNeg < 8 := (i32_clamp c2.1 (N := 8) (by decide) (by show v2 < 8; lia)).2
          have es : nI v2.toNatClampNeg = v2 := i32_nI c2.1
          have dw := c_doneWith s8 l9 x6 (TS_TG ts tg) n1 w1
          rw [es] at dw
          refine wp_eq (gR_0_9 w1) ?_
          refine wp_zif (ob_33 w1) ?_
          refine wp_eq dw ?_
          refine wp_some ⟨g1, w1, tg, tc1, some x, mn, ?_⟩
          show _ = (if v2 = 8 then _ else if v2 = 9 then _ else if td.testBit v2.toNatClampNeg = true then nI (dg x v2.toNatClampNeg) else -1)
          rw [if_neg e8, if_neg e9]
  · obtain ⟨g', p1, p2, p3, p4⟩ := p
    exact ⟨g', p1, p2, p3, fun z => absurd ⟨c1, c2⟩ z, fun _ => p4⟩
end XPLAN
/-! a street told -/
theorem told_or {x v : Int32} (h0 : 0 ≤ x) (h1 : x ≤ 255) (v0 : 0 ≤ v) (v1 : v ≤ 7) : 0 ≤ x ||| ((1 : Int32) <<< (v &&& 31)) ∧ x ||| ((1 : Int32) <<< (v &&& 31)) ≤ 255 ∧ ∀ s, ((x ||| ((1 : Int32) <<< (v &&& 31))).toNatClampNeg).testBit s = (x.toNatClampNeg.testBit s || decide (v.toNatClampNeg = s)) := by
  have ex : nI x.toNatClampNeg = x := i32_nI h0
  have ev : nI v.toNatClampNeg = v := i32_nI v0
  have lx : x.toNatClampNeg < 256 := (i32_clamp h0 (N := 256) (by decide) (by show x < 256; lia)).2
  have lv : v.toNatClampNeg < 8 := (i32_clamp v0 (N := 8) (by decide) (by show v < 8; lia)).2
  have e : x ||| ((1 : Int32) <<< (v &&& 31)) = nI (x.toNatClampNeg ||| 2 ^ v.toNatClampNeg) := by
    rw [← or_nI, ex, ← shl8 _ lv, ev]
  have lt : x.toNatClampNeg ||| 2 ^ v.toNatClampNeg < 256 := Nat.or_lt_two_pow (n := 8) lx (two_lt lv)
  have r := nI_r (show x.toNatClampNeg ||| 2 ^ v.toNatClampNeg ≤ 255 by omega) (by omega)
  rw [e, nI_clamp (by omega)]
  refine ⟨r.1, r.2, fun s => ?_⟩
  rw [Nat.testBit_or, Nat.testBit_two_pow]
theorem mul_ix {v : Int32} {k d : Nat} (h : v.toNatClampNeg < 8) (hk : k < 4 ∧ d < 4 := by decide) (e : nI v.toNatClampNeg = v) : (v * nI k + nI d).toNatClampNeg = k * v.toNatClampNeg + d ∧ True := by
  refine ⟨?_, trivial⟩
  have e1 : v * nI k + nI d = nI (v.toNatClampNeg * k + d) := by
    rw [← nI_add, ← hI_mul, e]
  have kv : k * v.toNatClampNeg ≤ 3 * 7 := Nat.mul_le_mul (by omega) (by omega)
  rw [e1, nI_clamp (by rw [Nat.mul_comm]; omega), Nat.mul_comm]
