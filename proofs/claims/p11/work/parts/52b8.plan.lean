/-! plans: what is to be found -/
def grS (S : Nat → Bool) (A B : Nat → Nat) : Nat → Nat → Nat
  | 0, p => 2 ^ p
  | k + 1, p => if S k = true then (if (grS S A B k (A k) ||| grS S A B k (B k)).testBit p = true then grS S A B k (A k) ||| grS S A B k (B k) else grS S A B k p) else grS S A B k p
theorem gr_GI {S : Nat → Bool} {A B : Nat → Nat} (hA : ∀ s, s < 8 → A s < 8) (hB : ∀ s, s < 8 → B s < 8) : ∀ k, k ≤ 8 → GI S A B k (grS S A B k) := by
  intro k
  induction k with
  | zero => intro _; exact GI_0 (fun p _ => rfl)
  | succ k ih =>
    intro hk
    cases h : S k with
    | false =>
      have e : grS S A B (k + 1) = grS S A B k := funext fun p => by
        show (if S k = true then _ else _) = _
        rw [if_neg (by rw [h]; decide)]
      rw [e]
      exact GI_skip (ih (by omega)) h
    | true =>
      refine GI_join hA hB (by omega) (ih (by omega)) h (fun p _ => ?_)
      show (if S k = true then _ else _) = _
      rw [if_pos h]
theorem gr_congr {S S' : Nat → Bool} {A B : Nat → Nat} : ∀ k, (∀ s, s < k → S s = S' s) → grS S A B k = grS S' A B k := by
  intro k
  induction k with
  | zero => intro _; rfl
  | succ k ih =>
    intro h
    funext p
    have e := ih (fun s hs => h s (by omega))
    show (if S k = true then (if (grS S A B k (A k) ||| grS S A B k (B k)).testBit p = true then grS S A B k (A k) ||| grS S A B k (B k) else grS S A B k p) else grS S A B k p) = (if S' k = true then (if (grS S' A B k (A k) ||| grS S' A B k (B k)).testBit p = true then grS S' A B k (A k) ||| grS S' A B k (B k) else grS S' A B k p) else grS S' A B k p)
    rw [e, h k (by omega)]
/-- whether trip i is led by the streets of S -/
def ldB (S : Nat → Bool) (A B F G : Nat → Nat) (i : Nat) : Bool := (grS S A B 8 (F i)).testBit (G i)
/-- how many of the first trips are -/
def ldN (S : Nat → Bool) (A B F G : Nat → Nat) : Nat → Nat
  | 0 => 0
  | i + 1 => ldN S A B F G i + (if ldB S A B F G i = true then 1 else 0)
theorem ld_le {S : Nat → Bool} {A B F G : Nat → Nat} : ∀ k, ldN S A B F G k ≤ k := by
  intro k
  induction k with
  | zero => exact Nat.le_refl _
  | succ k ih =>
    show ldN S A B F G k + (if ldB S A B F G k = true then 1 else 0) ≤ k + 1
    split <;> omega
theorem ld_all {S : Nat → Bool} {A B F G : Nat → Nat} : ∀ k, ldN S A B F G k = k ↔ ∀ i, i < k → ldB S A B F G i = true := by
  intro k
  induction k with
  | zero => exact ⟨fun _ i hi => absurd hi (Nat.not_lt_zero _), fun _ => rfl⟩
  | succ k ih =>
    have le := ld_le (S := S) (A := A) (B := B) (F := F) (G := G) k
    have e : ldN S A B F G (k + 1) = ldN S A B F G k + (if ldB S A B F G k = true then 1 else 0) := rfl
    constructor
    · intro z i hi
      by_cases c : ldB S A B F G k = true
      · rw [e, if_pos c] at z
        by_cases ek : i = k
        · rw [ek]; exact c
        · exact ih.mp (by omega) i (by omega)
      · rw [e, if_neg c] at z
        omega
    · intro z
      rw [e, if_pos (z k (Nat.lt_succ_self k)), ih.mpr (fun i hi => z i (by omega))]
theorem ld_congr {S S' : Nat → Bool} {A B F G : Nat → Nat} (h : ∀ s, s < 8 → S s = S' s) (k : Nat) : ldN S A B F G k = ldN S' A B F G k := by
  have e : ∀ i, ldB S A B F G i = ldB S' A B F G i := fun i => by
    unfold ldB
    rw [gr_congr 8 h]
  induction k with
  | zero => rfl
  | succ k ih =>
    show ldN S A B F G k + _ = ldN S' A B F G k + _
    rw [ih, e k]
/-- what is done with street s -/
def dg (c s : Nat) : Nat := c / 3 ^ s % 3
theorem dg_lt (c s : Nat) : dg c s < 3 := Nat.mod_lt _ (by decide)
def okC (td c : Nat) : Prop := ∀ s, s < 8 → td.testBit s = false → dg c s = 0
def inM (td c most : Nat) (s : Nat) : Bool := td.testBit s && decide (dg c s ≤ most)
/-- how many are late: none where a trip is cut -/
def laS (td : Nat) (A B F G : Nat → Nat) (tr c : Nat) : Option Nat := if ldN (inM td c 1) A B F G tr = tr then some (tr - ldN (inM td c 0) A B F G tr) else none
def hmS (td : Nat) (H : Nat → Nat) (c : Nat) : Nat → Nat
  | 0 => 0
  | s + 1 => hmS td H c s + (if td.testBit s = true then H (3 * s + dg c s) else 0)
/-- a plan that serves -/
def Pl (td : Nat) (A B F G : Nat → Nat) (tr most c : Nat) : Prop := c < 6561 ∧ okC td c ∧ ∃ l, laS td A B F G tr c = some l ∧ l ≤ most
/-- the best of those plans that are below k -/
def Mn (P : Nat → Prop) (w : Nat → Nat) (k : Nat) (b : Option Nat) : Prop := match b with
  | none => ∀ c, c < k → ¬ P c
  | some m => m < k ∧ P m ∧ ∀ c, c < k → P c → w m < w c ∨ (w m = w c ∧ m ≤ c)
theorem Mn_uniq {P : Nat → Prop} {w : Nat → Nat} {k : Nat} {b b' : Option Nat} (p : Mn P w k b) (q : Mn P w k b') : b = b' := by
  cases b with
  | none =>
    cases b' with
    | none => rfl
    | some m => exact absurd q.2.1 (p m q.1)
  | some m =>
    cases b' with
    | none => exact absurd p.2.1 (q m p.1)
    | some m' =>
      have x := p.2.2 m' q.1 q.2.1
      have y := q.2.2 m p.1 p.2.1
      have e : m = m' := by omega
      rw [e]
theorem Mn_0 {P : Nat → Prop} {w : Nat → Nat} : Mn P w 0 none := fun c hc => absurd hc (Nat.not_lt_zero _)
theorem Mn_skip {P : Nat → Prop} {w : Nat → Nat} {k : Nat} {b : Option Nat} (p : Mn P w k b) (h : P k → ∃ m, b = some m ∧ w m ≤ w k) : Mn P w (k + 1) b := by
  cases b with
  | none =>
    intro c hc
    by_cases e : c = k
    · rw [e]
      intro z
      obtain ⟨m, e1, _⟩ := h z
      cases e1
    · exact p c (by omega)
  | some m =>
    refine ⟨by have := p.1; omega, p.2.1, fun c hc z => ?_⟩
    by_cases e : c = k
    · rw [e] at z ⊢
      obtain ⟨m', e1, e2⟩ := h z
      cases e1
      have := p.1
      omega
    · exact p.2.2 c (by omega) z
theorem Mn_take {P : Nat → Prop} {w : Nat → Nat} {k : Nat} {b : Option Nat} (p : Mn P w k b) (hk : P k) (h : ∀ m, b = some m → w k < w m) : Mn P w (k + 1) (some k) := by
  refine ⟨Nat.lt_succ_self k, hk, fun c hc z => ?_⟩
  by_cases e : c = k
  · rw [e]
    exact Or.inr ⟨rfl, Nat.le_refl _⟩
  · cases b with
    | none => exact absurd z (p c (by omega))
    | some m =>
      have x := h m rfl
      have y := p.2.2 c (by omega) z
      omega
/-- the best of all those with l late, l at most m, out of the best for each l -/
theorem Mn_join {Q : Nat → Nat → Prop} {w : Nat → Nat} {k m : Nat} {b1 b2 : Option Nat} (p : Mn (fun c => ∃ l, l < m ∧ Q l c) w k b1) (q : Mn (Q m) w k b2) : Mn (fun c => ∃ l, l < m + 1 ∧ Q l c) w k (match b2 with | none => b1 | some x => match b1 with | none => some x | some y => if w x < w y ∨ (w x = w y ∧ x < y) then some x else some y) := by
  have lt : ∀ {l : Nat}, l < m + 1 → l < m ∨ l = m := fun h => by omega
  cases b2 with
  | none =>
    show Mn _ w k b1
    cases b1 with
    | none =>
      intro c hc z
      obtain ⟨l, h1, h2⟩ := z
      rcases lt h1 with h | h
      · exact p c hc ⟨l, h, h2⟩
      · rw [h] at h2
        exact q c hc h2
    | some y =>
      obtain ⟨p1, ⟨l, p2, p3⟩, p4⟩ := p
      refine ⟨p1, ⟨l, by omega, p3⟩, fun c hc z => ?_⟩
      obtain ⟨l', h1, h2⟩ := z
      rcases lt h1 with h | h
      · exact p4 c hc ⟨l', h, h2⟩
      · rw [h] at h2
        exact absurd h2 (q c hc)
  | some x =>
    obtain ⟨q1, q2, q3⟩ := q
    cases b1 with
    | none =>
      show Mn _ w k (some x)
      refine ⟨q1, ⟨m, by omega, q2⟩, fun c hc z => ?_⟩
      obtain ⟨l', h1, h2⟩ := z
      rcases lt h1 with h | h
      · exact absurd ⟨l', h, h2⟩ (p c hc)
      · rw [h] at h2
        exact q3 c hc h2
    | some y =>
      obtain ⟨p1, ⟨l, p2, p3⟩, p4⟩ := p
      show Mn _ w k (if w x < w y ∨ (w x = w y ∧ x < y) then some x else some y)
      by_cases c0 : w x < w y ∨ (w x = w y ∧ x < y)
      · rw [if_pos c0]
        refine ⟨q1, ⟨m, by omega, q2⟩, fun c hc z => ?_⟩
        obtain ⟨l', h1, h2⟩ := z
        rcases lt h1 with h | h
        · have := p4 c hc ⟨l', h, h2⟩
          omega
        · rw [h] at h2
          exact q3 c hc h2
      · rw [if_neg c0]
        refine ⟨p1, ⟨l, by omega, p3⟩, fun c hc z => ?_⟩
        obtain ⟨l', h1, h2⟩ := z
        rcases lt h1 with h | h
        · exact p4 c hc ⟨l', h, h2⟩
        · rw [h] at h2
          have := q3 c hc h2
          omega
