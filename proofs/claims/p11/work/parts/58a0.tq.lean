/-! the town: class and reference have the same -/
def tdG (g : zGh) : Nat := (g.1 33 9).toNatClampNeg
def trG (g : zGh) : Nat := (g.1 33 10).toNatClampNeg
def tA (g : zGh) (s : Nat) : Nat := (g.2.1 34 (2 * s)).toNatClampNeg
def tB (g : zGh) (s : Nat) : Nat := (g.2.1 34 (2 * s + 1)).toNatClampNeg
def tH (g : zGh) (k : Nat) : Nat := (g.2.1 35 k).toNatClampNeg
def tF (g : zGh) (i : Nat) : Nat := (g.2.1 36 i).toNatClampNeg
def tE (g : zGh) (i : Nat) : Nat := (g.2.1 37 i).toNatClampNeg
def TQ (g : zGh) : Prop := (∀ s, s < 8 → g.2.1 92 s = if (tdG g).testBit s = true then 1 else 0) ∧ (∀ s, s < 8 → g.2.1 93 s = g.2.1 34 (2 * s) ∧ g.2.1 94 s = g.2.1 34 (2 * s + 1)) ∧ (∀ k, k < 24 → g.2.1 95 k = g.2.1 35 k) ∧ (∀ i, i < 8 → g.2.1 96 i = g.2.1 36 i ∧ g.2.1 97 i = g.2.1 37 i) ∧ (∀ s, s < 8 → g.2.1 98 s = nI (3 ^ s)) ∧ TC (tdG g) (trG g) (tA g) (tB g) (tH g) (tF g) (tE g) g
theorem TQ_eq {g g' : zGh} (t : TQ g) (h1 : g'.1 33 = g.1 33) (h2 : ∀ j, 34 ≤ j → (j ≤ 37 ∨ j = 40 ∨ j = 41 ∨ 92 ≤ j) → g'.2.1 j = g.2.1 j) : TQ g' := by
  unfold TQ TC tdG trG tA tB tH tF tE
  rw [h1, h2 34 (by omega) (by omega), h2 35 (by omega) (by omega), h2 36 (by omega) (by omega), h2 37 (by omega) (by omega), h2 40 (by omega) (by omega), h2 41 (by omega) (by omega), h2 92 (by omega) (by omega), h2 93 (by omega) (by omega), h2 94 (by omega) (by omega), h2 95 (by omega) (by omega), h2 96 (by omega) (by omega), h2 97 (by omega) (by omega), h2 98 (by omega) (by omega)]
  exact t
section TSO
variable {n b L : Nat} {xs : Nat → Int32} {τ : Nat → Nat} {g : zGh} {h : zH}
theorem rg7 {x : Int32} (h0 : 0 ≤ x) (h1 : x ≤ 7) : x = nI x.toNatClampNeg ∧ x.toNatClampNeg < 8 := ⟨(i32_nI h0).symm, (i32_clamp h0 (N := 8) (by decide) (by show x < 8; lia)).2⟩
theorem TS_of (w : WT n b L xs τ g h) : TS (tdG g) (trG g) (tA g) (tB g) (tH g) (tF g) (tE g) g := by
  have r9 := gr_33_9 w
  have r10 := gr_33_10 w
  have e16 : nI 16 = 16 := rfl
  have e24 : nI 24 = 24 := rfl
  have a34 : ∀ j, j < 16 → 0 ≤ g.2.1 34 j ∧ g.2.1 34 j ≤ 7 := fun j hj => by
    have q := h_ix (m := 16) (j := j) hj (by omega)
    rw [e16] at q
    obtain ⟨x, e, q1, q2, q3⟩ := aI_34 w q.1 q.2.1
    rw [q.2.2] at q1
    rw [← q1]
    exact ⟨q2, q3⟩
  have a35 : ∀ j, j < 24 → 0 ≤ g.2.1 35 j ∧ g.2.1 35 j ≤ 999 := fun j hj => by
    have q := h_ix (m := 24) (j := j) hj (by omega)
    rw [e24] at q
    obtain ⟨x, e, q1, q2, q3⟩ := aI_35 w q.1 q.2.1
    rw [q.2.2] at q1
    rw [← q1]
    exact ⟨q2, q3⟩
  have a36 : ∀ j, j < 8 → 0 ≤ g.2.1 36 j ∧ g.2.1 36 j ≤ 7 := fun j hj => by
    obtain ⟨x, e, q1, q2, q3⟩ := aI_36 w (q8 hj).1 (q8 hj).2.1
    rw [(q8 hj).2.2] at q1
    rw [← q1]
    exact ⟨q2, q3⟩
  have a37 : ∀ j, j < 8 → 0 ≤ g.2.1 37 j ∧ g.2.1 37 j ≤ 7 := fun j hj => by
    obtain ⟨x, e, q1, q2, q3⟩ := aI_37 w (q8 hj).1 (q8 hj).2.1
    rw [(q8 hj).2.2] at q1
    rw [← q1]
    exact ⟨q2, q3⟩
  refine ⟨⟨(i32_nI r9.1).symm, (i32_clamp r9.1 (N := 256) (by decide) (by show g.1 33 9 < 256; lia)).2⟩, ⟨(i32_nI r10.1).symm, Nat.le_of_lt_succ (i32_clamp r10.1 (N := 9) (by decide) (by show g.1 33 10 < 9; lia)).2⟩, fun s hs => ⟨rg7 (a34 _ (by omega)).1 (a34 _ (by omega)).2, rg7 (a34 _ (by omega)).1 (a34 _ (by omega)).2⟩, fun k hk => ⟨(i32_nI (a35 k hk).1).symm, Nat.le_of_lt_succ (i32_clamp (a35 k hk).1 (N := 1000) (by decide) (by show g.2.1 35 k < 1000; have := (a35 k hk).2; lia)).2⟩, fun i hi => ⟨rg7 (a36 i hi).1 (a36 i hi).2, rg7 (a37 i hi).1 (a37 i hi).2⟩⟩
theorem TR_of (w : WT n b L xs τ g h) (t : TQ g) (c6 : g.1 42 76 = g.1 33 10) : TR (tdG g) (trG g) (tA g) (tB g) (tH g) (tF g) (tE g) g := by
  obtain ⟨s1, s2, s3, s4, s5⟩ := TS_of w
  obtain ⟨t1, t2, t3, t4, t5, _⟩ := t
  refine ⟨t1, fun s hs => ⟨(t2 s hs).1.trans (s3 s hs).1.1, (t2 s hs).2.trans (s3 s hs).2.1, (s3 s hs).1.2, (s3 s hs).2.2⟩, fun k hk => ⟨(t3 k hk).trans (s4 k hk).1, (s4 k hk).2⟩, ⟨c6.trans s2.1, s2.2⟩, fun i hi => ⟨(t4 i hi).1.trans (s5 i hi).1.1, (t4 i hi).2.trans (s5 i hi).2.1, (s5 i hi).1.2, (s5 i hi).2.2⟩, t5⟩
theorem TQ_TG {g' : zGh} (t : TQ g) (p : TG g g') (tc : TC (tdG g) (trG g) (tA g) (tB g) (tH g) (tF g) (tE g) g') : TQ g' := by
  have e9 := p.1 33 9 (by decide)
  have e10 := p.1 33 10 (by decide)
  have ar (j : Nat) (a : j ≠ 38 := by decide) (b : j ≠ 39 := by decide) (c : j ≠ 40 := by decide) (d : j ≠ 41 := by decide) : g'.2.1 j = g.2.1 j := p.2.1 j a b c d
  unfold TQ
  have x1 : tdG g' = tdG g := by unfold tdG; rw [e9]
  have x2 : trG g' = trG g := by unfold trG; rw [e10]
  have x3 : tA g' = tA g := by unfold tA; rw [ar 34]
  have x4 : tB g' = tB g := by unfold tB; rw [ar 34]
  have x5 : tH g' = tH g := by unfold tH; rw [ar 35]
  have x6 : tF g' = tF g := by unfold tF; rw [ar 36]
  have x7 : tE g' = tE g := by unfold tE; rw [ar 37]
  rw [x1, x2, x3, x4, x5, x6, x7, ar 34, ar 35, ar 36, ar 37, ar 92, ar 93, ar 94, ar 95, ar 96, ar 97, ar 98]
  obtain ⟨t1, t2, t3, t4, t5, _⟩ := t
  exact ⟨t1, t2, t3, t4, t5, tc⟩
end TSO
