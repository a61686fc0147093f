/-! the corner: which PHASES a number tells, and what they come to -/
theorem wp_is {α : Type} {o : Option α} {x : α} (e : wp o (fun r => r = x)) : o = some x := by
  obtain ⟨a, e1, e2⟩ := e
  rw [e1, e2]
def ph (c i : Nat) : Nat := c / 4 ^ i % 4
theorem ph_lt (c i : Nat) : ph c i < 4 := Nat.mod_lt _ (by decide)
set_option maxRecDepth 100000 in
theorem ph_2 : ∀ c, c < 256 → ∀ i, i < 4 → p_X2_phaseOf (nI c) (nI i) = nI (ph c i) := by decide +kernel
theorem ph_12 {c i : Nat} (hc : c < 256) (hi : i < 4) : p_X12_phaseOf (nI c) (nI i) = nI (ph c i) := ph_2 c hc i hi
theorem nI_inj {a b : Nat} (ha : a < 2 ^ 31) (hb : b < 2 ^ 31) (e : nI a = nI b) : a = b := by
  have y : (nI a).toNatClampNeg = (nI b).toNatClampNeg := by rw [e]
  rwa [nI_clamp ha, nI_clamp hb] at y
theorem ne10 : ¬ (1 : Int32) = 0 := by decide
theorem eq00 : (0 : Int32) = 0 := rfl
/-- a stream may go with those before it -/
def jnS (nd : Nat → Int32) (mt : Nat → Nat → Bool) (c i : Nat) : Nat → Bool
  | 0 => true
  | q + 1 => jnS nd mt c i q && (if 0 < nd q ∧ ph c q = ph c i then mt i q else true)
/-- how many PHASES there are and their lengths, when the streams before i are in -/
def arS (nd : Nat → Int32) (mt : Nat → Nat → Bool) (c : Nat) : Nat → Option (Nat × (Nat → Int32))
  | 0 => some (0, fun _ => 0)
  | i + 1 => (arS nd mt c i).bind fun a => if 0 < nd i then (if ph c i ≤ a.1 ∧ jnS nd mt c i i = true then some (if a.1 < ph c i + 1 then ph c i + 1 else a.1, upd a.2 (ph c i) (if a.2 (ph c i) < nd i then nd i else a.2 (ph c i))) else none) else (if ph c i = 0 then some a else none)
def lnS (nd : Nat → Int32) (c p : Nat) : Nat → Int32
  | 0 => 0
  | s + 1 => if (if 0 < nd s ∧ ph c s = p then nd s else 0) ≤ lnS nd c p s then lnS nd c p s else (if 0 < nd s ∧ ph c s = p then nd s else 0)
def sumL (x : Int32) (l : Nat → Int32) : Nat → Int32
  | 0 => x
  | k + 1 => sumL x l k + l k
def rdS (lost : Int32) (a : Nat × (Nat → Int32)) : Int32 := sumL (lost * nI a.1) a.2 4
def tmS (lost x : Int32) : Int32 := if x = 0 then 0 else x + lost
def wtS (nd cm : Nat → Int32) (c : Nat) (rd : Int32) (l : Nat → Int32) (i : Nat) : Int32 := if 0 < nd i then cm i * (rd - l (ph c i)) else 0
def wgS (nd cm : Nat → Int32) (c : Nat) (rd : Int32) (l : Nat → Int32) : Nat → Int32
  | 0 => 0
  | i + 1 => wgS nd cm c rd l i + wtS nd cm c rd l i
def nxS (o : Option (Nat × Int32 × Int32)) (c : Nat) (rd w : Int32) : Option (Nat × Int32 × Int32) := if rd ≤ 120 then (match o with | none => some (c, rd, w) | some b => if w < b.2.2 ∨ (w = b.2.2 ∧ rd < b.2.1) then some (c, rd, w) else some b) else o
def bsS (nd cm : Nat → Int32) (mt : Nat → Nat → Bool) (lost : Int32) : Nat → Option (Nat × Int32 × Int32)
  | 0 => none
  | c + 1 => match arS nd mt c 4 with
    | none => bsS nd cm mt lost c
    | some a => nxS (bsS nd cm mt lost c) c (rdS lost a) (wgS nd cm c (rdS lost a) a.2 4)
def stS (nd : Nat → Int32) : Nat → Int32
  | 0 => 0
  | i + 1 => if 0 < nd i then stS nd i + 1 else stS nd i
def beS (nd cm : Nat → Int32) (mt : Nat → Nat → Bool) (lost : Int32) : Option (Nat × Int32 × Int32) := if stS nd 4 = 0 then none else bsS nd cm mt lost 256
def lgS (nd cm : Nat → Int32) (mt : Nat → Nat → Bool) (lost what : Int32) : Int32 := match beS nd cm mt lost with
  | none => -1
  | some x => if what = 4 then x.2.1 else if what = 5 then x.2.2 else if 0 < nd (if 4 ≤ what then what - 6 else what).toNatClampNeg then (if 4 ≤ what then (match arS nd mt x.1 4 with | none => -1 | some a => wtS nd cm x.1 (rdS lost a) a.2 (if 4 ≤ what then what - 6 else what).toNatClampNeg) else nI (ph x.1 (if 4 ≤ what then what - 6 else what).toNatClampNeg)) else -1
section SPEC
variable {nd cm : Nat → Int32} {mt : Nat → Nat → Bool} {c i : Nat} {lost : Int32}
theorem jn_no {q : Nat} (e : jnS nd mt c i q = false) : ∀ k, jnS nd mt c i (q + k) = false := by
  intro k
  induction k with
  | zero => exact e
  | succ k ih =>
    show (jnS nd mt c i (q + k) && _) = false
    rw [ih]
    rfl
theorem jn_end {q : Nat} (e : jnS nd mt c i q = false) (hq : q ≤ i) : ¬ jnS nd mt c i i = true := by
  have z := jn_no e (i - q)
  rw [show q + (i - q) = i by omega] at z
  rw [z]
  decide
theorem ar_no (e : arS nd mt c i = none) : ∀ k, arS nd mt c (i + k) = none := by
  intro k
  induction k with
  | zero => exact e
  | succ k ih =>
    show (arS nd mt c (i + k)).bind _ = none
    rw [ih]
    rfl
theorem ar_end (e : arS nd mt c i = none) (hi : i ≤ 4) : arS nd mt c 4 = none := by
  have z := ar_no e (4 - i)
  rwa [show i + (4 - i) = 4 by omega] at z
theorem ar_told {a : Nat × (Nat → Int32)} (e : arS nd mt c i = some a) (t : 0 < nd i) (j : ph c i ≤ a.1 ∧ jnS nd mt c i i = true) : arS nd mt c (i + 1) = some (if a.1 < ph c i + 1 then ph c i + 1 else a.1, upd a.2 (ph c i) (if a.2 (ph c i) < nd i then nd i else a.2 (ph c i))) := by
  show (arS nd mt c i).bind _ = _
  rw [e]
  show (if 0 < nd i then _ else _) = _
  rw [if_pos t, if_pos j]
theorem ar_f1 {a : Nat × (Nat → Int32)} (e : arS nd mt c i = some a) (t : 0 < nd i) (j : ¬ (ph c i ≤ a.1 ∧ jnS nd mt c i i = true)) : arS nd mt c (i + 1) = none := by
  show (arS nd mt c i).bind _ = _
  rw [e]
  show (if 0 < nd i then _ else _) = _
  rw [if_pos t, if_neg j]
theorem ar_not {a : Nat × (Nat → Int32)} (e : arS nd mt c i = some a) (t : ¬ 0 < nd i) (j : ph c i = 0) : arS nd mt c (i + 1) = some a := by
  show (arS nd mt c i).bind _ = _
  rw [e]
  show (if 0 < nd i then _ else _) = _
  rw [if_neg t, if_pos j]
theorem ar_f2 {a : Nat × (Nat → Int32)} (e : arS nd mt c i = some a) (t : ¬ 0 < nd i) (j : ¬ ph c i = 0) : arS nd mt c (i + 1) = none := by
  show (arS nd mt c i).bind _ = _
  rw [e]
  show (if 0 < nd i then _ else _) = _
  rw [if_neg t, if_neg j]
theorem ar_inv {a : Nat × (Nat → Int32)} (e : arS nd mt c (i + 1) = some a) : ∃ b, arS nd mt c i = some b ∧ ((0 < nd i ∧ ph c i ≤ b.1 ∧ a = (if b.1 < ph c i + 1 then ph c i + 1 else b.1, upd b.2 (ph c i) (if b.2 (ph c i) < nd i then nd i else b.2 (ph c i)))) ∨ (¬ 0 < nd i ∧ a = b)) := by
  rcases ha : arS nd mt c i with _ | b
  · have z := ar_no ha 1
    rw [z] at e
    cases e
  · refine ⟨b, rfl, ?_⟩
    by_cases t : 0 < nd i
    · by_cases j : ph c i ≤ b.1 ∧ jnS nd mt c i i = true
      · rw [ar_told ha t j] at e
        cases e
        exact Or.inl ⟨t, j.1, rfl⟩
      · rw [ar_f1 ha t j] at e
        cases e
    · by_cases j : ph c i = 0
      · rw [ar_not ha t j] at e
        cases e
        exact Or.inr ⟨t, rfl⟩
      · rw [ar_f2 ha t j] at e
        cases e
theorem ar_le : ∀ (i : Nat) {a : Nat × (Nat → Int32)}, arS nd mt c i = some a → a.1 ≤ i := by
  intro i
  induction i with
  | zero => intro a e; cases e; exact Nat.le_refl _
  | succ i ih =>
    intro a e
    obtain ⟨b, eb, q⟩ := ar_inv e
    have l := ih eb
    rcases q with ⟨_, q1, q2⟩ | ⟨_, q2⟩
    · rw [q2]
      show (if b.1 < ph c i + 1 then ph c i + 1 else b.1) ≤ i + 1
      split <;> omega
    · rw [q2]
      omega
theorem ar_0 : ∀ (i : Nat) {a : Nat × (Nat → Int32)}, arS nd mt c i = some a → (a.1 = 0 ↔ ∀ s, s < i → ¬ 0 < nd s) := by
  intro i
  induction i with
  | zero => intro a e; cases e; exact ⟨fun _ s hs => absurd hs (Nat.not_lt_zero _), fun _ => rfl⟩
  | succ i ih =>
    intro a e
    obtain ⟨b, eb, q⟩ := ar_inv e
    have l := ih eb
    rcases q with ⟨t, q1, q2⟩ | ⟨t, q2⟩
    · constructor
      · intro z
        rw [q2] at z
        have z' : (if b.1 < ph c i + 1 then ph c i + 1 else b.1) = 0 := z
        split at z' <;> omega
      · intro z
        exact absurd t (z i (Nat.lt_succ_self i))
    · rw [q2]
      constructor
      · intro z s hs
        by_cases es : s = i
        · rw [es]; exact t
        · exact l.mp z s (by omega)
      · intro z
        exact l.mpr (fun s hs => z s (by omega))
theorem ar_len : ∀ (i : Nat) {a : Nat × (Nat → Int32)}, arS nd mt c i = some a → ∀ p, a.2 p = lnS nd c p i ∧ ((a.2 p = 0 ∧ a.1 ≤ p) ∨ (0 < a.2 p ∧ p < a.1)) := by
  intro i
  induction i with
  | zero => intro a e p; cases e; exact ⟨rfl, Or.inl ⟨rfl, Nat.zero_le _⟩⟩
  | succ i ih =>
    intro a e p
    obtain ⟨b, eb, q⟩ := ar_inv e
    obtain ⟨l1, l2⟩ := ih eb p
    have p0 : 0 ≤ b.2 p := by
      rcases l2 with l | l
      · rw [l.1]; decide
      · exact Int32.le_of_lt l.1
    have el : lnS nd c p (i + 1) = if (if 0 < nd i ∧ ph c i = p then nd i else 0) ≤ lnS nd c p i then lnS nd c p i else (if 0 < nd i ∧ ph c i = p then nd i else 0) := rfl
    rcases q with ⟨t, q1, q2⟩ | ⟨t, q2⟩
    · have a1 : a.1 = if b.1 < ph c i + 1 then ph c i + 1 else b.1 := by rw [q2]
      have a2 : a.2 = upd b.2 (ph c i) (if b.2 (ph c i) < nd i then nd i else b.2 (ph c i)) := by rw [q2]
      by_cases ep : ph c i = p
      · have ap : a.2 p = if b.2 p < nd i then nd i else b.2 p := by rw [a2, ep, hu_at]
        have lt : p < a.1 := by
          rw [a1, ep]
          split <;> omega
        rw [el, if_pos (And.intro t ep), ← l1, ap]
        by_cases cc : b.2 p < nd i
        · rw [if_pos cc, if_neg (Int32.not_le.mpr cc)]
          exact ⟨rfl, Or.inr ⟨t, lt⟩⟩
        · rw [if_neg cc, if_pos (Int32.not_lt.mp cc)]
          exact ⟨rfl, Or.inr ⟨by lia, lt⟩⟩
      · have ap : a.2 p = b.2 p := by rw [a2, hu_ne (fun z => ep z.symm)]
        rw [el, if_neg (show ¬ (0 < nd i ∧ ph c i = p) from fun z => ep z.2), ← l1, if_pos p0, ap]
        refine ⟨rfl, ?_⟩
        rw [a1]
        rcases l2 with l | l
        · refine Or.inl ⟨l.1, ?_⟩
          have := l.2
          split <;> omega
        · refine Or.inr ⟨l.1, ?_⟩
          have := l.2
          split <;> omega
    · rw [el, if_neg (show ¬ (0 < nd i ∧ ph c i = p) from fun z => t z.1), ← l1, if_pos p0, q2]
      exact ⟨rfl, l2⟩
/-- the round of the reference -/
def rrS (nd : Nat → Int32) (c : Nat) (lost : Int32) : Nat → Int32
  | 0 => 0
  | p + 1 => rrS nd c lost p + tmS lost (lnS nd c p 4)
theorem rd_eq {a : Nat × (Nat → Int32)} (e : arS nd mt c 4 = some a) : rdS lost a = rrS nd c lost 4 := by
  have le := ar_le 4 e
  have t : ∀ p, tmS lost (lnS nd c p 4) = (if p < a.1 then a.2 p + lost else 0) ∧ (a.1 ≤ p → a.2 p = 0) := fun p => by
    obtain ⟨l1, l2⟩ := ar_len 4 e p
    unfold tmS
    rw [← l1]
    rcases l2 with l | l
    · have n1 : ¬ p < a.1 := by omega
      rw [if_pos l.1, if_neg n1]
      exact ⟨rfl, fun _ => l.1⟩
    · have n0 : ¬ a.2 p = 0 := fun z => by
        have y := l.1
        rw [z] at y
        exact absurd y (by decide)
      rw [if_neg n0, if_pos l.2]
      exact ⟨rfl, fun z => absurd l.2 (by omega)⟩
  show lost * nI a.1 + a.2 0 + a.2 1 + a.2 2 + a.2 3 = 0 + tmS lost (lnS nd c 0 4) + tmS lost (lnS nd c 1 4) + tmS lost (lnS nd c 2 4) + tmS lost (lnS nd c 3 4)
  rw [(t 0).1, (t 1).1, (t 2).1, (t 3).1]
  have z0 := (t 0).2
  have z1 := (t 1).2
  have z2 := (t 2).2
  have z3 := (t 3).2
  generalize a.2 0 = x0 at *
  generalize a.2 1 = x1 at *
  generalize a.2 2 = x2 at *
  generalize a.2 3 = x3 at *
  have k : a.1 = 0 ∨ a.1 = 1 ∨ a.1 = 2 ∨ a.1 = 3 ∨ a.1 = 4 := by omega
  rcases k with k | k | k | k | k
  · rw [k] at z0 z1 z2 z3 ⊢
    rw [z0 (by omega), z1 (by omega), z2 (by omega), z3 (by omega)]
    show lost * 0 + 0 + 0 + 0 + 0 = 0 + 0 + 0 + 0 + 0
    grind
  · rw [k] at z1 z2 z3 ⊢
    rw [z1 (by omega), z2 (by omega), z3 (by omega)]
    show lost * 1 + x0 + 0 + 0 + 0 = 0 + (x0 + lost) + 0 + 0 + 0
    grind
  · rw [k] at z2 z3 ⊢
    rw [z2 (by omega), z3 (by omega)]
    show lost * 2 + x0 + x1 + 0 + 0 = 0 + (x0 + lost) + (x1 + lost) + 0 + 0
    grind
  · rw [k] at z3 ⊢
    rw [z3 (by omega)]
    show lost * 3 + x0 + x1 + x2 + 0 = 0 + (x0 + lost) + (x1 + lost) + (x2 + lost) + 0
    grind
  · rw [k]
    show lost * 4 + x0 + x1 + x2 + x3 = 0 + (x0 + lost) + (x1 + lost) + (x2 + lost) + (x3 + lost)
    grind
theorem ws_congr {rd : Int32} {l l' : Nat → Int32} (hl : ∀ k, k < 4 → l k = l' k) : ∀ k, wgS nd cm c rd l k = wgS nd cm c rd l' k := by
  intro k
  induction k with
  | zero => rfl
  | succ k ih =>
    show wgS nd cm c rd l k + wtS nd cm c rd l k = wgS nd cm c rd l' k + wtS nd cm c rd l' k
    unfold wtS
    rw [ih, hl _ (ph_lt c k)]
theorem st_0 : stS nd 4 = 0 ↔ ∀ s, s < 4 → ¬ 0 < nd s := by
  have e : stS nd 4 = (if 0 < nd 3 then (if 0 < nd 2 then (if 0 < nd 1 then (if 0 < nd 0 then (0 : Int32) + 1 else 0) + 1 else (if 0 < nd 0 then 0 + 1 else 0)) + 1 else (if 0 < nd 1 then (if 0 < nd 0 then 0 + 1 else 0) + 1 else (if 0 < nd 0 then 0 + 1 else 0))) + 1 else (if 0 < nd 2 then (if 0 < nd 1 then (if 0 < nd 0 then (0 : Int32) + 1 else 0) + 1 else (if 0 < nd 0 then 0 + 1 else 0)) + 1 else (if 0 < nd 1 then (if 0 < nd 0 then 0 + 1 else 0) + 1 else (if 0 < nd 0 then 0 + 1 else 0)))) := rfl
  have al : (∀ s, s < 4 → ¬ 0 < nd s) ↔ (¬ 0 < nd 0 ∧ ¬ 0 < nd 1 ∧ ¬ 0 < nd 2 ∧ ¬ 0 < nd 3) := by
    constructor
    · intro z
      exact ⟨z 0 (by decide), z 1 (by decide), z 2 (by decide), z 3 (by decide)⟩
    · intro z s hs
      have k : s = 0 ∨ s = 1 ∨ s = 2 ∨ s = 3 := by omega
      rcases k with k | k | k | k
      · rw [k]; exact z.1
      · rw [k]; exact z.2.1
      · rw [k]; exact z.2.2.1
      · rw [k]; exact z.2.2.2
  rw [al, e]
  by_cases a0 : 0 < nd 0 <;> by_cases a1 : 0 < nd 1 <;> by_cases a2 : 0 < nd 2 <;> by_cases a3 : 0 < nd 3 <;> simp [a0, a1, a2, a3] <;> decide
theorem nx_ar {o : Option (Nat × Int32 × Int32)} {rd w : Int32} {x : Nat × Int32 × Int32} (e : nxS o c rd w = some x) : x.1 = c ∨ o = some x := by
  unfold nxS at e
  by_cases r : rd ≤ 120
  · rw [if_pos r] at e
    cases o with
    | none => cases e; exact Or.inl rfl
    | some b =>
      have e' : (if w < b.2.2 ∨ (w = b.2.2 ∧ rd < b.2.1) then some (c, rd, w) else some b) = some x := e
      by_cases q : w < b.2.2 ∨ (w = b.2.2 ∧ rd < b.2.1)
      · rw [if_pos q] at e'
        cases e'
        exact Or.inl rfl
      · rw [if_neg q] at e'
        cases e'
        exact Or.inr rfl
  · rw [if_neg r] at e
    exact Or.inr e
theorem bs_ar : ∀ (k : Nat) {x : Nat × Int32 × Int32}, bsS nd cm mt lost k = some x → x.1 < k ∧ ∃ a, arS nd mt x.1 4 = some a := by
  intro k
  induction k with
  | zero => intro x e; cases e
  | succ k ih =>
    intro x e
    rcases ha : arS nd mt k 4 with _ | a
    · have e' : (match arS nd mt k 4 with | none => bsS nd cm mt lost k | some a => nxS (bsS nd cm mt lost k) k (rdS lost a) (wgS nd cm k (rdS lost a) a.2 4)) = some x := e
      rw [ha] at e'
      obtain ⟨q1, q2⟩ := ih e'
      exact ⟨by omega, q2⟩
    · have e' : (match arS nd mt k 4 with | none => bsS nd cm mt lost k | some a => nxS (bsS nd cm mt lost k) k (rdS lost a) (wgS nd cm k (rdS lost a) a.2 4)) = some x := e
      rw [ha] at e'
      rcases nx_ar e' with q | q
      · rw [q]
        exact ⟨by omega, a, ha⟩
      · obtain ⟨q1, q2⟩ := ih q
        exact ⟨by omega, q2⟩
theorem bs_no {k : Nat} (ha : arS nd mt k 4 = none) : bsS nd cm mt lost (k + 1) = bsS nd cm mt lost k := by
  show (match arS nd mt k 4 with | none => bsS nd cm mt lost k | some a => nxS (bsS nd cm mt lost k) k (rdS lost a) (wgS nd cm k (rdS lost a) a.2 4)) = _
  rw [ha]
theorem bs_so {k : Nat} {a : Nat × (Nat → Int32)} (ha : arS nd mt k 4 = some a) : bsS nd cm mt lost (k + 1) = nxS (bsS nd cm mt lost k) k (rdS lost a) (wgS nd cm k (rdS lost a) a.2 4) := by
  show (match arS nd mt k 4 with | none => bsS nd cm mt lost k | some a => nxS (bsS nd cm mt lost k) k (rdS lost a) (wgS nd cm k (rdS lost a) a.2 4)) = _
  rw [ha]
/-- the best, as it is kept -/
def BQ (o : Option (Nat × Int32 × Int32)) (b br bw : Int32) : Prop := match o with
  | none => b = -1
  | some x => b = nI x.1 ∧ x.1 < 256 ∧ br = x.2.1 ∧ bw = x.2.2
end SPEC
