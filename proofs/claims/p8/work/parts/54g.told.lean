/-! what is told of the corner -/
theorem mt_f {ms : Nat → Int32} {i q : Nat} : mtS ms i q = false ↔ (ms i >>> (nI q &&& 31)) &&& 1 = 0 := by
  unfold mtS
  rw [decide_eq_false_iff_not, Decidable.not_not]
theorem z_bit : ∀ q, q < 4 → ((0 : Int32) >>> (nI q &&& 31)) &&& 1 = 0 := by decide
theorem mt_0 (q : Nat) (hq : q < 4) {i : Nat} : mtS (fun _ => 0) i q = false := mt_f.mpr (z_bit q hq)
def needC (w s gr : Int32) : Int32 := if w = 0 then gr else (if gr < ((w * 10 + s) - 1) / s then ((w * 10 + s) - 1) / s else gr)
theorem need_eq {w s gr : Int32} (hg : 1 ≤ gr) : needS w s gr = needC w s gr := by
  unfold needS needC
  rw [Int32.mul_comm w 10]
  by_cases z : w = 0
  · rw [if_pos z, if_pos z, if_pos (by lia)]
  · rw [if_neg z, if_neg z]
    by_cases c : ((10 * w + s) - 1) / s ≤ gr
    · rw [if_pos c, if_neg (Int32.not_lt.mpr c)]
    · rw [if_neg c, if_pos (Int32.not_le.mp c)]
theorem need_pos {w s gr : Int32} (hg : 1 ≤ gr) : 0 < needC w s gr := by
  unfold needC
  by_cases z : w = 0
  · rw [if_pos z]; lia
  · rw [if_neg z]
    by_cases c : gr < ((w * 10 + s) - 1) / s
    · rw [if_pos c]; lia
    · rw [if_neg c]; lia
def prS (v x y : Int32) : Int32 := if v = 0 then x &&& ((1 <<< (y &&& 31)) ^^^ (-1)) else x ||| (1 <<< (y &&& 31))
theorem pr_t1 : ∀ k, k < 16 → ∀ q, q < 4 → (0 ≤ nI k &&& (((1 : Int32) <<< (nI q &&& 31)) ^^^ (-1)) ∧ nI k &&& (((1 : Int32) <<< (nI q &&& 31)) ^^^ (-1)) ≤ 15) ∧ (0 ≤ nI k ||| ((1 : Int32) <<< (nI q &&& 31)) ∧ nI k ||| ((1 : Int32) <<< (nI q &&& 31)) ≤ 15) := by decide +kernel
theorem pr_t2 : ∀ k, k < 16 → ∀ q, q < 4 → ∀ p, p < 4 → (((nI k &&& (((1 : Int32) <<< (nI q &&& 31)) ^^^ (-1))) >>> (nI p &&& 31)) &&& 1 = 0 ↔ (p = q ∨ (nI k >>> (nI p &&& 31)) &&& 1 = 0)) := by decide +kernel
theorem pr_t3 : ∀ k, k < 16 → ∀ q, q < 4 → ∀ p, p < 4 → (((nI k ||| ((1 : Int32) <<< (nI q &&& 31))) >>> (nI p &&& 31)) &&& 1 = 0 ↔ (p ≠ q ∧ (nI k >>> (nI p &&& 31)) &&& 1 = 0)) := by decide +kernel
theorem x15 {x : Int32} (h0 : 0 ≤ x) (h1 : x ≤ 15) : ∃ k, k < 16 ∧ x = nI k := ⟨x.toNatClampNeg, (i32_clamp h0 (N := 16) (by decide) (by show x < 16; lia)).2, (i32_nI h0).symm⟩
theorem pr_r {v x : Int32} {q : Nat} (hq : q < 4) (h0 : 0 ≤ x) (h1 : x ≤ 15) : 0 ≤ prS v x (nI q) ∧ prS v x (nI q) ≤ 15 := by
  obtain ⟨k, hk, e⟩ := x15 h0 h1
  have t := pr_t1 k hk q hq
  unfold prS
  rw [e]
  by_cases z : v = 0
  · rw [if_pos z]; exact t.1
  · rw [if_neg z]; exact t.2
theorem pr_b {v x : Int32} {q p : Nat} (hq : q < 4) (hp : p < 4) (h0 : 0 ≤ x) (h1 : x ≤ 15) : ((prS v x (nI q) >>> (nI p &&& 31)) &&& 1 = 0) ↔ (if p = q then v = 0 else (x >>> (nI p &&& 31)) &&& 1 = 0) := by
  obtain ⟨k, hk, e⟩ := x15 h0 h1
  unfold prS
  rw [e]
  by_cases z : v = 0
  · rw [if_pos z, pr_t2 k hk q hq p hp]
    by_cases y : p = q
    · rw [if_pos y]
      exact ⟨fun _ => z, fun _ => Or.inl y⟩
    · rw [if_neg y]
      exact ⟨fun u => u.resolve_left y, Or.inr⟩
  · rw [if_neg z, pr_t3 k hk q hq p hp]
    by_cases y : p = q
    · rw [if_pos y]
      exact ⟨fun u => absurd y u.1, fun u => absurd u z⟩
    · rw [if_neg y]
      exact ⟨fun u => u.2, fun u => ⟨y, u⟩⟩
section TOLD
variable {n b L : Nat} {xs : Nat → Int32} {τ : Nat → Nat} {g : zGh} {h : zH}
theorem c_tell {v1 v2 v3 : Int32} (w : WT n b L xs τ g h) (c : 0 ≤ v1 ∧ v1 ≤ 3) : wp (f_X2_tell 10000 (n + 20) v1 v2 v3 h) (fun r => WT n b L xs τ (gsA (gsA g 21 (upd (g.2.1 21) v1.toNatClampNeg v2)) 22 (upd (g.2.1 22) v1.toNatClampNeg v3)) r) := by
  have k : v1 < 4 := by lia
  unfold f_X2_tell
  refine inS (fun z => absurd ⟨c.1, k⟩ z) (fun _ => ?_)
  refine wp_eq (gR_20_0 w) ?_
  refine wp_bind (sI_21 w c.1 k) fun h3 w3 => ?_
  refine wp_eq (gR_20_1 w3) ?_
  exact wp_bind (sI_22 w3 c.1 k) fun h5 w5 => wp_some w5
theorem c_pair {A B : Nat} {v3 : Int32} (w : WT n b L xs τ g h) (hA : A < 4) (hB : B < 4) : wp (f_X2_pair 10000 (n + 20) (nI A) (nI B) v3 h) (fun r => WT n b L xs τ (gsA g 23 (upd (g.2.1 23) A (prS v3 (g.2.1 23 A) (nI B)))) r) := by
  have qA := q4 hA
  unfold f_X2_pair
  refine inS (fun z => absurd ⟨qA.1, qA.2.1⟩ z) (fun _ => ?_)
  have rg : 0 ≤ g.2.1 23 A ∧ g.2.1 23 A ≤ 15 := by
    obtain ⟨x, e, q1, q2, q3⟩ := aI_23 w qA.1 qA.2.1
    rw [qA.2.2] at q1
    rw [← q1]
    exact ⟨q2, q3⟩
  have pr := pr_r (v := v3) hB rg.1 rg.2
  have es : upd (g.2.1 23) (nI A).toNatClampNeg (prS v3 (g.2.1 23 A) (nI B)) = upd (g.2.1 23) A (prS v3 (g.2.1 23 A) (nI B)) := by rw [qA.2.2]
  refine wp_eq (gR_20_2 w) ?_
  by_cases z : v3 = 0
  · have ep : prS v3 (g.2.1 23 A) (nI B) = g.2.1 23 A &&& ((1 <<< (nI B &&& 31)) ^^^ (-1)) := if_pos z
    rw [if_pos z]
    refine wp_eq (gR_20_2 w) ?_
    refine wp_eq (A_23 w qA.1 qA.2.1) ?_
    rw [qA.2.2, ← ep]
    refine wp_bind (sI_23 w qA.1 qA.2.1 pr.1 pr.2) fun h6 w6 => ?_
    rw [es] at w6
    exact wp_some w6
  · have ep : prS v3 (g.2.1 23 A) (nI B) = g.2.1 23 A ||| (1 <<< (nI B &&& 31)) := if_neg z
    rw [if_neg z]
    refine wp_eq (gR_20_2 w) ?_
    refine wp_eq (A_23 w qA.1 qA.2.1) ?_
    rw [qA.2.2, ← ep]
    refine wp_bind (sI_23 w qA.1 qA.2.1 pr.1 pr.2) fun h9 w9 => ?_
    rw [es] at w9
    exact wp_some w9
theorem rg_23 (w : WT n b L xs τ g h) {A : Nat} (hA : A < 4) : 0 ≤ g.2.1 23 A ∧ g.2.1 23 A ≤ 15 := by
  have qA := q4 hA
  obtain ⟨x, e, q1, q2, q3⟩ := aI_23 w qA.1 qA.2.1
  rw [qA.2.2] at q1
  rw [← q1]
  exact ⟨q2, q3⟩
end TOLD
/-- mates and pairs, when two are told -/
theorem mates_both {M Y : Nat → Int32} {v : Int32} {A B : Nat} (hA : A < 4) (hB : B < 4) (ne : A ≠ B) (rg : ∀ s, s < 4 → 0 ≤ M s ∧ M s ≤ 15) (k : ∀ s q, s < 4 → q < 4 → s ≠ q → (Y (4 * s + q) = 0 ↔ mtS M s q = false)) : ∀ s q, s < 4 → q < 4 → s ≠ q → (upd (upd Y (4 * A + B) v) (4 * B + A) v (4 * s + q) = 0 ↔ mtS (upd (upd M A (prS v (M A) (nI B))) B (prS v (M B) (nI A))) s q = false) := by
  intro s q hs hq sq
  rw [mt_f]
  have old := k s q hs hq sq
  rw [mt_f] at old
  by_cases e1 : s = B
  · have m : upd (upd M A (prS v (M A) (nI B))) B (prS v (M B) (nI A)) s = prS v (M B) (nI A) := by rw [e1, hu_at]
    rw [m, pr_b hA hq (rg B hB).1 (rg B hB).2]
    by_cases e2 : q = A
    · rw [if_pos e2, e1, e2, hu_at]
    · rw [if_neg e2, hu_ne (by omega), hu_ne (by omega), old, e1]
  · by_cases e3 : s = A
    · have m : upd (upd M A (prS v (M A) (nI B))) B (prS v (M B) (nI A)) s = prS v (M A) (nI B) := by rw [hu_ne e1, e3, hu_at]
      rw [m, pr_b hB hq (rg A hA).1 (rg A hA).2]
      by_cases e2 : q = B
      · rw [if_pos e2, e3, e2, hu_ne (by omega), hu_at]
      · rw [if_neg e2, hu_ne (by omega), hu_ne (by omega), old, e3]
    · rw [hu_ne e1, hu_ne e3, hu_ne (by omega), hu_ne (by omega), old]
