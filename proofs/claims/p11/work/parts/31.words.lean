/-! the words, in the class's order, and the tokens as the reference keeps them -/
def wLs : List (List Nat) := [[110, 111, 110, 101], [100, 114, 105, 118, 101, 114], [119, 97, 108, 107, 101, 114], [98, 111, 116, 104], [108, 101, 116], [102, 97, 117, 108, 116], [119, 104, 101, 110], [97, 110, 100], [111, 114], [110, 111, 116], [115, 112, 101, 101, 100], [112, 97, 99, 101], [115, 101, 101, 110], [109, 101, 116], [108, 111, 111, 107, 115], [107, 105, 110, 100], [102, 108, 111, 111, 114], [119, 105, 100, 116, 104], [104, 105, 100, 100, 101, 110], [121, 101, 97, 114], [108, 105, 109, 105, 116]]
def wS (j k : Nat) : Nat := (wLs.getD j []).getD k 0
def wN (j : Nat) : Nat := (wLs.getD j []).length
def wk0 (j : Nat) : Nat := enc 32 96 (wS j) 0 (wN j)
def w37 (j : Nat) : Nat := enc 37 96 (wS j) 0 (wN j)
/-- the words as the reference numbers them, in the class's numbers -/
def pm (j : Nat) : Nat := if j = 0 then 4 else if j = 1 then 5 else if j = 2 then 6 else if j = 3 then 1 else if j = 4 then 2 else if j = 5 then 3 else if j = 6 then 0 else if j = 19 then 20 else if j = 20 then 19 else j
theorem pm_le : ∀ j, j < 21 → pm j ≤ 20 := by decide
theorem pm_sur : ∀ t, t < 21 → ∃ j, j < 21 ∧ pm j = t := by decide
set_option maxRecDepth 100000 in
theorem wS_l : ∀ j, j < 21 → ∀ k, k < wN j → 97 ≤ wS j (0 + k) ∧ wS j (0 + k) ≤ 122 := by decide +kernel
set_option maxRecDepth 100000 in
theorem wk0_inj : ∀ a, a < 21 → ∀ b, b < 21 → wk0 a = wk0 b → a = b := by decide +kernel
set_option maxRecDepth 100000 in
theorem w37_lt : ∀ a, a < 21 → w37 a < 2 ^ 50 := by decide +kernel
theorem wOf_spec {wk : Nat → Nat} {key : Nat} : ∀ n, n ≤ 200 → (wOf wk key n < 200 ∧ wOf wk key n < n ∧ wk (wOf wk key n) = key) ∨ (wOf wk key n = 200 ∧ ∀ k, k < n → ¬ wk k = key) := by
  intro n
  induction n with
  | zero => intro _; exact Or.inr ⟨rfl, fun k hk => absurd hk (Nat.not_lt_zero _)⟩
  | succ n ih =>
    intro hn
    have e : wOf wk key (n + 1) = if wOf wk key n < 200 then wOf wk key n else if wk n = key then n else 200 := rfl
    rcases ih (by omega) with ⟨h1, h2, h3⟩ | ⟨h1, h2⟩
    · rw [if_pos h1] at e
      rw [e]
      exact Or.inl ⟨h1, by omega, h3⟩
    · rw [if_neg (by omega)] at e
      by_cases z : wk n = key
      · rw [if_pos z] at e
        rw [e]
        exact Or.inl ⟨by omega, by omega, z⟩
      · rw [if_neg z] at e
        rw [e]
        refine Or.inr ⟨rfl, fun k hk => ?_⟩
        by_cases ek : k = n
        · rw [ek]; exact z
        · exact h2 k (by omega)
theorem lxL_l {s : Nat → Nat} {S q : Nat} (hq : q ≤ S) : q ≤ lxL s S q ∧ lxL s S q ≤ S ∧ ∀ k, k < lxL s S q - q → 97 ≤ s (q + k) ∧ s (q + k) ≤ 122 := by
  have e := endQ_spec (q := fun j => isL (s j)) (S + 1) q hq (by omega)
  refine ⟨e.1, e.2.1, fun k hk => ?_⟩
  have hk' : k < endQ (fun j => isL (s j)) S (S + 1) q - q := hk
  exact of_decide_eq_true (e.2.2.1 (q + k) (by omega) (by omega))
theorem lxD_d {s : Nat → Nat} {S q : Nat} (hq : q ≤ S) : q ≤ lxD s S q ∧ lxD s S q ≤ S ∧ ∀ k, k < lxD s S q - q → 48 ≤ s (q + k) ∧ s (q + k) ≤ 57 := by
  have e := endQ_spec (q := fun j => isD (s j)) (S + 1) q hq (by omega)
  refine ⟨e.1, e.2.1, fun k hk => ?_⟩
  have hk' : k < endQ (fun j => isD (s j)) S (S + 1) q - q := hk
  exact of_decide_eq_true (e.2.2.1 (q + k) (by omega) (by omega))
/-- a word is one of the 21 by either number -/
theorem lx_word {s : Nat → Nat} {q len : Nat} (hl : ∀ k, k < len → 97 ≤ s (q + k) ∧ s (q + k) ≤ 122) {j : Nat} (hj : j < 21) : wOf wk0 (enc 32 96 s q len) 21 = j ↔ enc 37 96 s q len = w37 j := by
  have bo : ∀ a, a < 21 → (enc 32 96 s q len = wk0 a ↔ enc 37 96 s q len = w37 a) := fun a ha => enc_both hl (wS_l a ha)
  rcases wOf_spec (wk := wk0) (key := enc 32 96 s q len) 21 (by decide) with ⟨h1, h2, h3⟩ | ⟨h1, h2⟩
  · constructor
    · intro e
      rw [e] at h3
      exact (bo j hj).mp h3.symm
    · intro e
      have e2 := (bo j hj).mpr e
      exact wk0_inj _ h2 _ hj (h3.trans e2)
  · constructor
    · intro e
      omega
    · intro e
      exact absurd ((bo j hj).mpr e).symm (h2 j hj)
def soK (s : Nat → Nat) (S q : Nat) : Nat := if isL (s q) = true then (if lxL s S q - q ≤ 8 then 1 else 4) else if isD (s q) = true then (if lxD s S q - q ≤ 4 then 2 else 4) else if isG (s q) = true then 3 else 4
def vaK (s : Nat → Nat) (S q : Nat) : Int64 := if isL (s q) = true then Int64.ofNat (enc 37 96 s q (lxL s S q - q)) else if isD (s q) = true then Int64.ofNat (enc 10 48 s q (lxD s S q - q)) else (nI (s q)).toInt64
theorem ofN64_inj {a b : Nat} (ha : a < 2 ^ 50) (hb : b < 2 ^ 50) (e : Int64.ofNat a = Int64.ofNat b) : a = b := by
  have e2 := congrArg Int64.toInt e
  rw [Int64.toInt_ofNat_of_lt (by omega), Int64.toInt_ofNat_of_lt (by omega)] at e2
  omega
theorem toI64_inj : ∀ a, a < 128 → ∀ b, b < 128 → (nI a).toInt64 = (nI b).toInt64 → a = b := by decide +kernel
theorem e37_lt {s : Nat → Nat} {q len : Nat} (hl : ∀ k, k < len → 97 ≤ s (q + k) ∧ s (q + k) ≤ 122) (h8 : len ≤ 8) : enc 37 96 s q len < 2 ^ 50 := by
  have a := enc_lt (B := 37) (o := 96) (s := s) (q := q) len (fun j hj => by have := hl j hj; omega)
  have b : 37 ^ len ≤ 37 ^ 8 := Nat.pow_le_pow_right (by decide) h8
  have c : (37 : Nat) ^ 8 < 2 ^ 50 := by decide
  omega
theorem e10_lt {s : Nat → Nat} {q len : Nat} (hl : ∀ k, k < len → 48 ≤ s (q + k) ∧ s (q + k) ≤ 57) (h8 : len ≤ 4) : enc 10 48 s q len < 10000 := by
  have a := enc_lt (B := 10) (o := 48) (s := s) (q := q) len (fun j hj => by have := hl j hj; omega)
  have b : 10 ^ len ≤ 10 ^ 4 := Nat.pow_le_pow_right (by decide) h8
  have c : (10 : Nat) ^ 4 = 10000 := by decide
  omega
