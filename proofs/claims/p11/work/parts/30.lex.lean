/-! the tokens of a tape: s its signs, S how many -/
def isL (x : Nat) : Bool := decide (97 ≤ x ∧ x ≤ 122)
def isD (x : Nat) : Bool := decide (48 ≤ x ∧ x ≤ 57)
def isB (x : Nat) : Bool := decide (x = 10 ∨ x = 32)
def isG (x : Nat) : Bool := decide (x = 40 ∨ x = 41 ∨ x = 60 ∨ x = 61 ∨ x = 43 ∨ x = 45 ∨ x = 42 ∨ x = 59)
/-- the first place from p on, at the latest S, at which q isn't so -/
def endQ (q : Nat → Bool) (S : Nat) : Nat → Nat → Nat
  | 0, p => p
  | n + 1, p => if p < S ∧ q p = true then endQ q S n (p + 1) else p
theorem endQ_spec {q : Nat → Bool} {S : Nat} : ∀ (n p : Nat), p ≤ S → S - p < n → p ≤ endQ q S n p ∧ endQ q S n p ≤ S ∧ (∀ j, p ≤ j → j < endQ q S n p → q j = true) ∧ (endQ q S n p < S → q (endQ q S n p) = false) := by
  intro n
  induction n with
  | zero => intro p h1 h2; exact absurd h2 (by omega)
  | succ n ih =>
    intro p h1 h2
    by_cases z : p < S ∧ q p = true
    · have e : endQ q S (n + 1) p = endQ q S n (p + 1) := by
        show (if p < S ∧ q p = true then endQ q S n (p + 1) else p) = _
        rw [if_pos z]
      rw [e]
      obtain ⟨a1, a2, a3, a4⟩ := ih (p + 1) (by omega) (by omega)
      refine ⟨by omega, a2, fun j h3 h4 => ?_, a4⟩
      by_cases ej : j = p
      · rw [ej]; exact z.2
      · exact a3 j (by omega) h4
    · have e : endQ q S (n + 1) p = p := by
        show (if p < S ∧ q p = true then endQ q S n (p + 1) else p) = _
        rw [if_neg z]
      rw [e]
      refine ⟨Nat.le_refl _, h1, fun j h3 h4 => absurd h4 (by omega), fun h3 => ?_⟩
      cases hq : q p
      · rfl
      · exact absurd ⟨h3, hq⟩ z
theorem endQ_fuel {q : Nat → Bool} {S : Nat} : ∀ (n m p : Nat), p ≤ S → S - p < n → S - p < m → endQ q S n p = endQ q S m p := by
  intro n
  induction n with
  | zero => intro m p h1 h2; exact absurd h2 (by omega)
  | succ n ih =>
    intro m p h1 h2 h3
    obtain ⟨m, rfl⟩ : ∃ m', m = m' + 1 := ⟨m - 1, by omega⟩
    show (if p < S ∧ q p = true then endQ q S n (p + 1) else p) = (if p < S ∧ q p = true then endQ q S m (p + 1) else p)
    by_cases z : p < S ∧ q p = true
    · rw [if_pos z, if_pos z]
      exact ih m (p + 1) (by omega) (by omega) (by omega)
    · rw [if_neg z, if_neg z]
/-- letters from q on as a number to the base B -/
def enc (B o : Nat) (s : Nat → Nat) (q : Nat) : Nat → Nat
  | 0 => 0
  | k + 1 => enc B o s q k * B + (s (q + k) - o)
theorem enc_lt {B o : Nat} {s : Nat → Nat} {q : Nat} : ∀ k, (∀ j, j < k → s (q + j) - o < B) → enc B o s q k < B ^ k := by
  intro k
  induction k with
  | zero => intro _; exact Nat.one_pos
  | succ k ih =>
    intro h
    have a := ih (fun j hj => h j (by omega))
    have b := h k (by omega)
    show enc B o s q k * B + (s (q + k) - o) < B ^ (k + 1)
    rw [Nat.pow_succ]
    have c : enc B o s q k + 1 ≤ B ^ k := a
    have d := Nat.mul_le_mul_right B c
    rw [Nat.add_mul, Nat.one_mul] at d
    omega
theorem enc_inj {B o : Nat} {s s' : Nat → Nat} {q q' : Nat} : ∀ k k', (∀ j, j < k → 1 ≤ s (q + j) - o ∧ s (q + j) - o < B) → (∀ j, j < k' → 1 ≤ s' (q' + j) - o ∧ s' (q' + j) - o < B) → enc B o s q k = enc B o s' q' k' → k = k' ∧ ∀ j, j < k → s (q + j) - o = s' (q' + j) - o := by
  intro k
  induction k with
  | zero =>
    intro k' _ h2 e
    cases k' with
    | zero => exact ⟨rfl, fun j hj => absurd hj (by omega)⟩
    | succ k' =>
      have := h2 k' (by omega)
      have e' : 0 = enc B o s' q' k' * B + (s' (q' + k') - o) := e
      omega
  | succ k ih =>
    intro k' h1 h2 e
    cases k' with
    | zero =>
      have := h1 k (by omega)
      have e' : enc B o s q k * B + (s (q + k) - o) = 0 := e
      omega
    | succ k' =>
      have e' : enc B o s q k * B + (s (q + k) - o) = enc B o s' q' k' * B + (s' (q' + k') - o) := e
      have a1 := h1 k (by omega)
      have a2 := h2 k' (by omega)
      have m : (enc B o s q k * B + (s (q + k) - o)) % B = (enc B o s' q' k' * B + (s' (q' + k') - o)) % B := by rw [e']
      rw [Nat.mul_add_mod_of_lt a1.2 , Nat.mul_add_mod_of_lt a2.2] at m
      have dv : enc B o s q k * B = enc B o s' q' k' * B := by omega
      have d2 := Nat.eq_of_mul_eq_mul_right (show 0 < B by omega) dv
      obtain ⟨r1, r2⟩ := ih k' (fun j hj => h1 j (by omega)) (fun j hj => h2 j (by omega)) d2
      refine ⟨by omega, fun j hj => ?_⟩
      by_cases ej : j = k
      · rw [ej, m, r1]
      · exact r2 j (by omega)
theorem enc_congr {B o : Nat} {s s' : Nat → Nat} {q q' : Nat} : ∀ k, (∀ j, j < k → s (q + j) - o = s' (q' + j) - o) → enc B o s q k = enc B o s' q' k := by
  intro k
  induction k with
  | zero => intro _; rfl
  | succ k ih =>
    intro h
    show enc B o s q k * B + (s (q + k) - o) = enc B o s' q' k * B + (s' (q' + k) - o)
    rw [ih (fun j hj => h j (by omega)), h k (by omega)]
/-- two words are the same by either number -/
theorem enc_both {s s' : Nat → Nat} {q q' k k' : Nat} (h1 : ∀ j, j < k → 97 ≤ s (q + j) ∧ s (q + j) ≤ 122) (h2 : ∀ j, j < k' → 97 ≤ s' (q' + j) ∧ s' (q' + j) ≤ 122) : enc 32 96 s q k = enc 32 96 s' q' k' ↔ enc 37 96 s q k = enc 37 96 s' q' k' := by
  constructor
  · intro e
    obtain ⟨r1, r2⟩ := enc_inj k k' (fun j hj => by have := h1 j hj; omega) (fun j hj => by have := h2 j hj; omega) e
    subst r1
    exact enc_congr k r2
  · intro e
    obtain ⟨r1, r2⟩ := enc_inj k k' (fun j hj => by have := h1 j hj; omega) (fun j hj => by have := h2 j hj; omega) e
    subst r1
    exact enc_congr k r2
/-! token by token -/
def lxQ (s : Nat → Nat) (S p : Nat) : Nat := endQ (fun j => isB (s j)) S (S + 1) p
def lxL (s : Nat → Nat) (S q : Nat) : Nat := endQ (fun j => isL (s j)) S (S + 1) q
def lxD (s : Nat → Nat) (S q : Nat) : Nat := endQ (fun j => isD (s j)) S (S + 1) q
/-- where the token at q ends -/
def lxE (s : Nat → Nat) (S q : Nat) : Nat := if S ≤ q then q else if isL (s q) = true then lxL s S q else if isD (s q) = true then lxD s S q else q + 1
/-- the place in the words' table of a key, or 200 -/
def wOf (wk : Nat → Nat) (key : Nat) : Nat → Nat
  | 0 => 200
  | k + 1 => if wOf wk key k < 200 then wOf wk key k else if wk k = key then k else 200
/-- the token at q, as the class numbers it -/
def lxC (wk s : Nat → Nat) (S q : Nat) : Nat := if S ≤ q then 202 else if isL (s q) = true then (if lxL s S q - q ≤ 8 then wOf wk (enc 32 96 s q (lxL s S q - q)) 21 else 203) else if isD (s q) = true then (if lxD s S q - q ≤ 4 then 201 else 203) else if isG (s q) = true then s q else 203
def pos (s : Nat → Nat) (S : Nat) : Nat → Nat
  | 0 => 0
  | i + 1 => lxE s S (lxQ s S (pos s S i))
def plc (s : Nat → Nat) (S i : Nat) : Nat := lxQ s S (pos s S i)
def tkn (wk s : Nat → Nat) (S i : Nat) : Nat := lxC wk s S (plc s S i)
theorem lxE_le {s : Nat → Nat} {S q : Nat} (h : q ≤ S) : q ≤ lxE s S q ∧ lxE s S q ≤ S ∧ (q < S → q < lxE s S q) := by
  unfold lxE
  by_cases z : S ≤ q
  · rw [if_pos z]
    exact ⟨Nat.le_refl _, h, fun z9 => absurd z9 (by omega)⟩
  · rw [if_neg z]
    have st : ∀ t : Nat → Bool, t q = true → q < endQ t S (S + 1) q := fun t ht => by
      show q < (if q < S ∧ t q = true then endQ t S S (q + 1) else q)
      rw [if_pos ⟨by omega, ht⟩]
      have := (endQ_spec (q := t) (S := S) S (q + 1) (by omega) (by omega)).1
      omega
    by_cases z2 : isL (s q) = true
    · rw [if_pos z2]
      have e := endQ_spec (q := fun j => isL (s j)) (S + 1) q h (by omega)
      exact ⟨e.1, e.2.1, fun _ => st _ z2⟩
    · rw [if_neg z2]
      by_cases z3 : isD (s q) = true
      · rw [if_pos z3]
        have e := endQ_spec (q := fun j => isD (s j)) (S + 1) q h (by omega)
        exact ⟨e.1, e.2.1, fun _ => st _ z3⟩
      · rw [if_neg z3]
        exact ⟨by omega, by omega, fun _ => by omega⟩
theorem pos_le (s : Nat → Nat) (S : Nat) : ∀ i, pos s S i ≤ S ∧ pos s S i ≤ plc s S i ∧ plc s S i ≤ S := by
  have lq : ∀ p, p ≤ S → p ≤ lxQ s S p ∧ lxQ s S p ≤ S := fun p hp => by
    have e := endQ_spec (q := fun j => isB (s j)) (S + 1) p hp (by omega)
    exact ⟨e.1, e.2.1⟩
  intro i
  induction i with
  | zero => exact ⟨Nat.zero_le _, lq 0 (Nat.zero_le _)⟩
  | succ i ih =>
    have e := lxE_le (s := s) ih.2.2
    have p1 : pos s S (i + 1) ≤ S := e.2.1
    exact ⟨p1, lq _ p1⟩
theorem pos_up (s : Nat → Nat) (S i : Nat) (h : plc s S i < S) : plc s S i < pos s S (i + 1) := (lxE_le (s := s) (pos_le s S i).2.2).2.2 h
theorem tkn_end {wk s : Nat → Nat} {S i : Nat} (h : S ≤ plc s S i) : tkn wk s S i = 202 := by
  unfold tkn lxC
  rw [if_pos h]
/-- behind S tokens there is none -/
theorem pos_i (s : Nat → Nat) (S : Nat) : ∀ i, i ≤ plc s S i ∨ plc s S i = S := by
  intro i
  induction i with
  | zero => exact Or.inl (Nat.zero_le _)
  | succ i ih =>
    have a := pos_le s S i
    have b := pos_le s S (i + 1)
    by_cases z : plc s S i < S
    · have c := pos_up s S i z
      rcases ih with h | h
      · exact Or.inl (by omega)
      · omega
    · have e : plc s S i = S := by omega
      refine Or.inr ?_
      have e2 : pos s S (i + 1) = plc s S i := by
        show lxE s S (plc s S i) = _
        unfold lxE
        rw [if_pos (by omega)]
      omega
theorem tkn_S (wk s : Nat → Nat) (S : Nat) : tkn wk s S S = 202 := by
  refine tkn_end ?_
  have := pos_le s S S
  rcases pos_i s S S with h | h <;> omega
def num (s : Nat → Nat) (S i : Nat) : Nat := enc 10 48 s (plc s S i) (lxD s S (plc s S i) - plc s S i)
def kyO (s : Nat → Nat) (S i : Nat) : Nat := enc 32 96 s (plc s S i) (lxL s S (plc s S i) - plc s S i)
