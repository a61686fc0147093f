/-! places and streets: what leads where -/
/-- a leads to b by steps of E -/
def Cn (E : Nat → Nat → Prop) (a b : Nat) : Prop := ∀ P : Nat → Prop, P a → (∀ x y, P x → E x y → P y) → P b
theorem Cn_refl {E : Nat → Nat → Prop} (a : Nat) : Cn E a a := fun _ h _ => h
theorem Cn_step {E : Nat → Nat → Prop} {a b c : Nat} (p : Cn E a b) (e : E b c) : Cn E a c := fun P h st => st _ _ (p P h st) e
theorem Cn_trans {E : Nat → Nat → Prop} {a b c : Nat} (p : Cn E a b) (q : Cn E b c) : Cn E a c := fun P h st => q P (p P h st) st
theorem Cn_symm {E : Nat → Nat → Prop} (sy : ∀ x y, E x y → E y x) {a b : Nat} (p : Cn E a b) : Cn E b a := p (fun x => Cn E x a) (Cn_refl a) (fun x y hx e => Cn_trans (Cn_step (Cn_refl y) (sy _ _ e)) hx)
theorem Cn_mono {E E' : Nat → Nat → Prop} (m : ∀ x y, E x y → E' x y) {a b : Nat} (p : Cn E a b) : Cn E' a b := fun P h st => p P h (fun x y hx e => st x y hx (m x y e))
/-- the streets of S below k, in both ways -/
def Ed (S : Nat → Bool) (A B : Nat → Nat) (k x y : Nat) : Prop := ∃ s, s < k ∧ S s = true ∧ ((A s = x ∧ B s = y) ∨ (A s = y ∧ B s = x))
section GRAPH
variable {S : Nat → Bool} {A B : Nat → Nat} {k : Nat}
theorem Ed_symm (x y : Nat) (e : Ed S A B k x y) : Ed S A B k y x := by
  obtain ⟨s, h1, h2, h3⟩ := e
  exact ⟨s, h1, h2, h3.symm⟩
theorem Ed_up (x y : Nat) (e : Ed S A B k x y) : Ed S A B (k + 1) x y := by
  obtain ⟨s, h1, h2, h3⟩ := e
  exact ⟨s, by omega, h2, h3⟩
theorem Ed_lt (hA : ∀ s, s < 8 → A s < 8) (hB : ∀ s, s < 8 → B s < 8) (hk : k ≤ 8) {x y : Nat} (e : Ed S A B k x y) : y < 8 := by
  obtain ⟨s, h1, h2, h3⟩ := e
  rcases h3 with ⟨_, h⟩ | ⟨h, _⟩
  · rw [← h]; exact hB s (by omega)
  · rw [← h]; exact hA s (by omega)
theorem Ed_not (h : S k = false) (x y : Nat) : Ed S A B (k + 1) x y ↔ Ed S A B k x y := by
  constructor
  · intro e
    obtain ⟨s, h1, h2, h3⟩ := e
    by_cases es : s = k
    · rw [es, h] at h2
      exact absurd h2 (by decide)
    · exact ⟨s, by omega, h2, h3⟩
  · exact Ed_up x y
/-- g has for each place those to which it leads, as bits -/
def GI (S : Nat → Bool) (A B : Nat → Nat) (k : Nat) (g : Nat → Nat) : Prop := ∀ p, p < 8 → g p < 256 ∧ ∀ q, q < 8 → ((g p).testBit q = true ↔ Cn (Ed S A B k) p q)
theorem GI_0 {g : Nat → Nat} (h : ∀ p, p < 8 → g p = 2 ^ p) : GI S A B 0 g := by
  intro p hp
  rw [h p hp]
  have lt : 2 ^ p < 256 := by
    have : 2 ^ p ≤ 2 ^ 7 := Nat.pow_le_pow_right (by omega) (by omega)
    omega
  refine ⟨lt, fun q _ => ?_⟩
  rw [Nat.testBit_two_pow, decide_eq_true_eq]
  constructor
  · intro e
    rw [e]
    exact Cn_refl q
  · intro c
    exact c (fun x => p = x) rfl (fun x y _ e => by
      obtain ⟨s, h1, _⟩ := e
      exact absurd h1 (Nat.not_lt_zero _))
theorem GI_skip {g : Nat → Nat} (i : GI S A B k g) (h : S k = false) : GI S A B (k + 1) g := by
  intro p hp
  refine ⟨(i p hp).1, fun q hq => ?_⟩
  rw [(i p hp).2 q hq]
  exact ⟨Cn_mono (fun x y e => (Ed_not h x y).mpr e), Cn_mono (fun x y e => (Ed_not h x y).mp e)⟩
theorem GI_join {g g' : Nat → Nat} (hA : ∀ s, s < 8 → A s < 8) (hB : ∀ s, s < 8 → B s < 8) (hk : k < 8) (i : GI S A B k g) (h : S k = true) (hg : ∀ p, p < 8 → g' p = if (g (A k) ||| g (B k)).testBit p = true then g (A k) ||| g (B k) else g p) : GI S A B (k + 1) g' := by
  have a8 := hA k hk
  have b8 := hB k hk
  obtain ⟨ia, ja⟩ := i (A k) a8
  obtain ⟨ib, jb⟩ := i (B k) b8
  have both : ∀ q, q < 8 → ((g (A k) ||| g (B k)).testBit q = true ↔ (Cn (Ed S A B k) (A k) q ∨ Cn (Ed S A B k) (B k) q)) := fun q hq => by
    rw [Nat.testBit_or, Bool.or_eq_true, ja q hq, jb q hq]
  have lt : g (A k) ||| g (B k) < 256 := Nat.or_lt_two_pow (n := 8) ia ib
  have up : ∀ {x y : Nat}, Cn (Ed S A B k) x y → Cn (Ed S A B (k + 1)) x y := fun c => Cn_mono Ed_up c
  have sy : ∀ {x y : Nat}, Cn (Ed S A B (k + 1)) x y → Cn (Ed S A B (k + 1)) y x := fun c => Cn_symm Ed_symm c
  have ab : Cn (Ed S A B (k + 1)) (A k) (B k) := Cn_step (Cn_refl _) ⟨k, by omega, h, Or.inl ⟨rfl, rfl⟩⟩
  have fromA : ∀ {q : Nat}, (Cn (Ed S A B k) (A k) q ∨ Cn (Ed S A B k) (B k) q) → Cn (Ed S A B (k + 1)) (A k) q := fun c => c.elim (fun z => up z) (fun z => Cn_trans ab (up z))
  have split : ∀ {x y : Nat}, Ed S A B (k + 1) x y → Ed S A B k x y ∨ ((A k = x ∧ B k = y) ∨ (A k = y ∧ B k = x)) := fun e => by
    obtain ⟨s, h1, h2, h3⟩ := e
    by_cases es : s = k
    · rw [es] at h3
      exact Or.inr h3
    · exact Or.inl ⟨s, by omega, h2, h3⟩
  intro p hp
  rw [hg p hp]
  by_cases c : (g (A k) ||| g (B k)).testBit p = true
  · rw [if_pos c]
    have cp := (both p hp).mp c
    refine ⟨lt, fun q hq => ?_⟩
    rw [both q hq]
    constructor
    · intro cq
      exact Cn_trans (sy (fromA cp)) (fromA cq)
    · intro cq
      refine (cq (fun x => x < 8 ∧ (Cn (Ed S A B k) (A k) x ∨ Cn (Ed S A B k) (B k) x)) ⟨hp, cp⟩ (fun x y hx e => ⟨Ed_lt hA hB (by omega) e, ?_⟩)).2
      rcases split e with e | e | e
      · exact hx.2.elim (fun z => Or.inl (Cn_step z e)) (fun z => Or.inr (Cn_step z e))
      · rw [← e.2]; exact Or.inr (Cn_refl _)
      · rw [← e.1]; exact Or.inl (Cn_refl _)
  · rw [if_neg c]
    refine ⟨(i p hp).1, fun q hq => ?_⟩
    rw [(i p hp).2 q hq]
    constructor
    · exact up
    · intro cq
      refine cq (fun x => Cn (Ed S A B k) p x) (Cn_refl p) (fun x y hx e => ?_)
      rcases split e with e | e | e
      · exact Cn_step hx e
      · rw [← e.1] at hx
        exact absurd ((both p hp).mpr (Or.inl (Cn_symm Ed_symm hx))) c
      · rw [← e.2] at hx
        exact absurd ((both p hp).mpr (Or.inr (Cn_symm Ed_symm hx))) c
/-- what the reference's closure comes to -/
theorem close_iff {a r : Nat} (ha : a < 8) (hA : ∀ s, s < 8 → A s < 8) (hB : ∀ s, s < 8 → B s < 8) (h0 : r.testBit a = true) (h1 : ∀ q, q < 8 → r.testBit q = true → Cn (Ed S A B 8) a q) (h2 : ∀ s, s < 8 → S s = true → (r.testBit (A s) = true ↔ r.testBit (B s) = true)) : ∀ q, q < 8 → (r.testBit q = true ↔ Cn (Ed S A B 8) a q) := by
  intro q hq
  refine ⟨h1 q hq, fun c => ?_⟩
  refine c (fun x => r.testBit x = true) h0 (fun x y hx e => ?_)
  obtain ⟨s, s1, s2, s3⟩ := e
  have k := h2 s s1 s2
  rcases s3 with ⟨e1, e2⟩ | ⟨e1, e2⟩
  · rw [← e2]
    rw [← e1] at hx
    exact k.mp hx
  · rw [← e1]
    rw [← e2] at hx
    exact k.mpr hx
end GRAPH
/-! bits -/
theorem or_nI (a b : Nat) : nI a ||| nI b = nI (a ||| b) := by
  have e : BitVec.ofNat 32 a ||| BitVec.ofNat 32 b = BitVec.ofNat 32 (a ||| b) := by
    apply BitVec.eq_of_toNat_eq
    rw [BitVec.toNat_or, BitVec.toNat_ofNat, BitVec.toNat_ofNat, BitVec.toNat_ofNat, Nat.or_mod_two_pow]
  exact congrArg (fun x => (⟨⟨x⟩⟩ : Int32)) e
set_option maxRecDepth 100000 in
theorem bit8 : ∀ x, x < 256 → ∀ q, q < 8 → ((nI x >>> (nI q &&& 31)) &&& 1 = 0 ↔ x.testBit q = false) := by decide +kernel
set_option maxRecDepth 100000 in
theorem bit8' : ∀ x, x < 256 → ∀ q, q < 8 → ((nI x >>> (nI q &&& 31)) &&& 1 = 1 ↔ x.testBit q = true) := by decide +kernel
theorem shl8 : ∀ q, q < 8 → (1 : Int32) <<< (nI q &&& 31) = nI (2 ^ q) := by decide
