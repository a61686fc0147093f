/-! a by-law read, as both sides read it: what is due, an expression, what stands for a line, a line, lines -/
def fIx (nk : Nat → Nat) (key : Nat) : Nat → Nat → Option Nat
  | 0, _ => none
  | d + 1, j => if nk j = key then some j else fIx nk key d (j + 1)
def knB (nk : Nat → Nat) (M key : Nat) : Bool := (fIx nk key M 0).isSome
/-- the token u is expected -/
def exQ (c : Nat → Nat) (u : Nat) (r : RfS) : RfS := if ¬ r.2 = 0 then r else if c r.1 = u then (r.1 + 1, 0) else (r.1, 1)
/-- an expression -/
def eQ (c : Nat → Nat) (kn : Nat → Bool) (r : RfS) : RfS := if ¬ r.2 = 0 then r else if ¬ (qAll c (qPart c kn 10000 6 0) 10000 (r.1, 0)).2 = 0 then qAll c (qPart c kn 10000 6 0) 10000 (r.1, 0) else if rk (c (qAll c (qPart c kn 10000 6 0) 10000 (r.1, 0)).1) = 0 then qAll c (qPart c kn 10000 6 0) 10000 (r.1, 0) else ((qAll c (qPart c kn 10000 6 0) 10000 (r.1, 0)).1, 1)
/-- what a line is for: a new name, a number, one at fault -/
def wfQ (c nu : Nat → Nat) (kn : Nat → Bool) (M w i : Nat) : RfS := if w = 4 then (if ¬ c i = 200 then (i, 1) else if kn i = true then (i, 3) else if 8 ≤ M then (i, 5) else (i + 1, 0)) else if w = 20 then (if ¬ c i = 201 then (i, 1) else if ¬ (1 ≤ nu i ∧ nu i ≤ 999) then (i, 4) else (i + 1, 0)) else (if ¬ c i ≤ 3 then (i, 1) else (i + 1, 0))
def lnQ (c nu : Nat → Nat) (kn : Nat → Bool) (M line i : Nat) : RfS := if ¬ (c i = 4 ∨ c i = 20 ∨ c i = 5) then (i, 1) else if 20 ≤ line then (i, 5) else exQ c 59 (eQ c kn (exQ c (if c i = 4 then 61 else 6) (wfQ c nu kn M (c i) (i + 1))))
def lnM (c : Nat → Nat) (M i : Nat) : Nat := if c i = 4 then M + 1 else M
def lnK (c ky : Nat → Nat) (M i : Nat) (nk : Nat → Nat) : Nat → Nat := if c i = 4 then (fun j => if j = M then ky (i + 1) else nk j) else nk
/-- lines, at most d -/
def lwQ (c nu ky : Nat → Nat) : Nat → Nat → Nat → Nat → (Nat → Nat) → RfS
  | 0, _, i, _, _ => (i, 0)
  | d + 1, line, i, M, nk => if c i = 202 then (i, 0) else if ¬ (lnQ c nu (fun j => knB nk M (ky j)) M line i).2 = 0 then lnQ c nu (fun j => knB nk M (ky j)) M line i else lwQ c nu ky d (line + 1) (lnQ c nu (fun j => knB nk M (ky j)) M line i).1 (lnM c M i) (lnK c ky M i nk)
theorem exQ_0 {c : Nat → Nat} {u : Nat} {r : RfS} (h : (exQ c u r).2 = 0) : r.2 = 0 := by
  unfold exQ at h
  by_cases z : ¬ r.2 = 0
  · rw [if_pos z] at h
    exact absurd h z
  · exact Decidable.not_not.mp z
theorem eQ_0 {c : Nat → Nat} {kn : Nat → Bool} {r : RfS} (h : (eQ c kn r).2 = 0) : r.2 = 0 := by
  unfold eQ at h
  by_cases z : ¬ r.2 = 0
  · rw [if_pos z] at h
    exact absurd h z
  · exact Decidable.not_not.mp z
theorem fIx_some {nk : Nat → Nat} {key : Nat} : ∀ d j k, fIx nk key d j = some k → j ≤ k ∧ k < j + d ∧ nk k = key := by
  intro d
  induction d with
  | zero => intro j k e; cases e
  | succ d ih =>
    intro j k e
    have e' : (if nk j = key then some j else fIx nk key d (j + 1)) = some k := e
    by_cases z : nk j = key
    · rw [if_pos z] at e'
      cases e'
      exact ⟨Nat.le_refl _, by omega, z⟩
    · rw [if_neg z] at e'
      obtain ⟨a, b, c⟩ := ih (j + 1) k e'
      exact ⟨by omega, by omega, c⟩
theorem fIx_none {nk : Nat → Nat} {key : Nat} : ∀ d j, fIx nk key d j = none → ∀ k, j ≤ k → k < j + d → ¬ nk k = key := by
  intro d
  induction d with
  | zero => intro j _ k h1 h2; exact absurd h2 (by omega)
  | succ d ih =>
    intro j e k h1 h2
    have e' : (if nk j = key then some j else fIx nk key d (j + 1)) = none := e
    by_cases z : nk j = key
    · rw [if_pos z] at e'
      cases e'
    · rw [if_neg z] at e'
      by_cases ek : k = j
      · rw [ek]; exact z
      · exact ih (j + 1) e' k (by omega) (by omega)
