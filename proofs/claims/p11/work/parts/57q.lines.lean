/-! the lines of a kept by-law can be worked -/
def LNo : List LnT → Nat → Prop
  | [], _ => True
  | x :: ls, M => ((x.1 = 4 ∧ x.2.1 = M ∧ M < 8) ∨ (x.1 = 20 ∧ 1 ≤ x.2.1 ∧ x.2.1 ≤ 999) ∨ (x.1 = 5 ∧ x.2.1 ≤ 3)) ∧ (pd x.2.2 0 ∧ fd x.2.2 0 = 1 ∧ ∀ y, y ∈ x.2.2 → VC M y) ∧ LNo ls (if x.1 = 4 then M + 1 else M)
section LNS
variable {tk nu ky : Nat → Nat} {kn : Nat → Bool} {M K i line : Nat}
theorem eQ_ok {r : RfS} (h : (eQ tk kn r).2 = 0) : r.2 = 0 ∧ (qAll tk (qPart tk kn 10000 6 0) 10000 (r.1, 0)).2 = 0 ∧ rk (tk (qAll tk (qPart tk kn 10000 6 0) 10000 (r.1, 0)).1) = 0 ∧ eQ tk kn r = qAll tk (qPart tk kn 10000 6 0) 10000 (r.1, 0) := by
  have h0 := eQ_0 h
  unfold eQ at h ⊢
  rw [if_neg (fun z => z h0)] at h ⊢
  by_cases z : (qAll tk (qPart tk kn 10000 6 0) 10000 (r.1, 0)).2 = 0
  · rw [if_neg (fun y => y z)] at h ⊢
    by_cases y : rk (tk (qAll tk (qPart tk kn 10000 6 0) 10000 (r.1, 0)).1) = 0
    · rw [if_pos y]
      exact ⟨h0, z, y, rfl⟩
    · rw [if_neg y] at h
      exact absurd h (by simp)
  · rw [if_pos z] at h
    exact absurd h z
theorem exQ_t {v : Nat} {r : RfS} (h : (exQ tk v r).2 = 0) : r.2 = 0 ∧ tk r.1 = v ∧ exQ tk v r = (r.1 + 1, 0) := by
  have h0 := exQ_0 h
  unfold exQ at h ⊢
  rw [if_neg (fun z => z h0)] at h ⊢
  by_cases z : tk r.1 = v
  · rw [if_pos z]
    exact ⟨h0, z, rfl⟩
  · rw [if_neg z] at h
    exact absurd h (by simp)
theorem wfQ_ok (h : (wfQ tk nu kn M (tk i) (i + 1)).2 = 0) (ht : tk i = 4 ∨ tk i = 20 ∨ tk i = 5) : wfQ tk nu kn M (tk i) (i + 1) = (i + 2, 0) ∧ ((tk i = 4 ∧ tk (i + 1) = 200 ∧ M < 8) ∨ (tk i = 20 ∧ tk (i + 1) = 201 ∧ 1 ≤ nu (i + 1) ∧ nu (i + 1) ≤ 999) ∨ (tk i = 5 ∧ tk (i + 1) ≤ 3)) := by
  revert h
  unfold wfQ
  by_cases a1 : tk i = 4
  · rw [if_pos a1]
    by_cases a2 : ¬ tk (i + 1) = 200
    · rw [if_pos a2]; intro h; exact absurd h (by simp)
    · rw [if_neg a2]
      by_cases a3 : kn (i + 1) = true
      · rw [if_pos a3]; intro h; exact absurd h (by simp)
      · rw [if_neg a3]
        by_cases a4 : 8 ≤ M
        · rw [if_pos a4]; intro h; exact absurd h (by simp)
        · rw [if_neg a4]; intro _; exact ⟨rfl, Or.inl ⟨a1, Decidable.not_not.mp a2, by omega⟩⟩
  · rw [if_neg a1]
    by_cases a2 : tk i = 20
    · rw [if_pos a2]
      by_cases a3 : ¬ tk (i + 1) = 201
      · rw [if_pos a3]; intro h; exact absurd h (by simp)
      · rw [if_neg a3]
        by_cases a4 : ¬ (1 ≤ nu (i + 1) ∧ nu (i + 1) ≤ 999)
        · rw [if_pos a4]; intro h; exact absurd h (by simp)
        · rw [if_neg a4]; intro _; exact ⟨rfl, Or.inr (Or.inl ⟨a2, Decidable.not_not.mp a3, Decidable.not_not.mp a4⟩)⟩
    · rw [if_neg a2]
      by_cases a3 : ¬ tk (i + 1) ≤ 3
      · rw [if_pos a3]; intro h; exact absurd h (by simp)
      · rw [if_neg a3]; intro _; exact ⟨rfl, Or.inr (Or.inr ⟨by omega, Decidable.not_not.mp a3⟩)⟩
theorem lnQ_ok (hE : tk K = 202) (hK : K < 10000) (hi : i ≤ K) (h : (lnQ tk nu kn M line i).2 = 0) : ((tk i = 4 ∧ tk (i + 1) = 200 ∧ M < 8) ∨ (tk i = 20 ∧ tk (i + 1) = 201 ∧ 1 ≤ nu (i + 1) ∧ nu (i + 1) ≤ 999) ∨ (tk i = 5 ∧ tk (i + 1) ≤ 3)) ∧ line < 20 ∧ i + 3 ≤ K ∧ (qAll tk (qPart tk kn 10000 6 0) 10000 (i + 3, 0)).2 = 0 ∧ rk (tk (qAll tk (qPart tk kn 10000 6 0) 10000 (i + 3, 0)).1) = 0 ∧ (lnQ tk nu kn M line i).1 ≤ K := by
  unfold lnQ at h ⊢
  by_cases a1 : ¬ (tk i = 4 ∨ tk i = 20 ∨ tk i = 5)
  · rw [if_pos a1] at h
    exact absurd h (by simp)
  · rw [if_neg a1] at h ⊢
    have a1 := Decidable.not_not.mp a1
    by_cases a2 : 20 ≤ line
    · rw [if_pos a2] at h
      exact absurd h (by simp)
    · rw [if_neg a2] at h ⊢
      obtain ⟨b1, b2, b3⟩ := exQ_t h
      obtain ⟨c1, c2, c3, c4⟩ := eQ_ok b1
      obtain ⟨d1, d2, d3⟩ := exQ_t c1
      obtain ⟨e1, e2⟩ := wfQ_ok d1 a1
      rw [e1] at d2 d3 c2 c3 c4
      rw [d3] at c2 c3 c4
      have l0 : i < K := lt_K hE hi (by omega)
      have l1 : i + 1 < K := lt_K hE (by omega) (by
        rcases e2 with y | y | y <;> omega)
      have l2 : i + 2 < K := lt_K hE (by omega) (by
        have d2' : tk (i + 2) = if tk i = 4 then 61 else 6 := d2
        rw [d2']
        by_cases y : tk i = 4
        · rw [if_pos y]; decide
        · rw [if_neg y]; decide)
      have c2' : (qAll tk (qPart tk kn 10000 6 0) 10000 (i + 3, 0)).2 = 0 := c2
      have c3' : rk (tk (qAll tk (qPart tk kn 10000 6 0) 10000 (i + 3, 0)).1) = 0 := c3
      have c4' : eQ tk kn (exQ tk (if tk i = 4 then 61 else 6) (wfQ tk nu kn M (tk i) (i + 1))) = qAll tk (qPart tk kn 10000 6 0) 10000 (i + 3, 0) := by
        rw [e1, d3]
        exact c4
      have lK := ((rdl_expr (kn := kn) hE hK (i := i + 3) (by omega)).1 c2').2.1
      refine ⟨e2, by omega, by omega, c2', c3', ?_⟩
      rw [b3, c4']
      rw [c4'] at b2
      have := lt_K hE lK (by rw [b2]; decide)
      show (qAll tk (qPart tk kn 10000 6 0) 10000 (i + 3, 0)).1 + 1 ≤ K
      omega
theorem lf_ok {nk : Nat → Nat} (hnu : ∀ j, tk j = 201 → nu j < 10000) : ∀ j, isE (tk j) = true → (tk j = 200 → knB nk M (ky j) = true) → lfN tk nu (fun j => ixN nk M (ky j)) j < 30000 ∧ VC M (lfN tk nu (fun j => ixN nk M (ky j)) j) ∨ ¬ M ≤ 8 := by
  intro j h1 h2
  by_cases m8 : M ≤ 8
  · refine Or.inl ?_
    unfold lfN
    rcases of_decide_eq_true h1 with h | h | h
    · rw [if_neg (by omega), if_neg (by omega)]
      exact ⟨by omega, Or.inr (Or.inl ⟨by omega, by omega⟩)⟩
    · rw [if_neg (by omega), if_pos h]
      have kn := h2 h
      unfold knB at kn
      obtain ⟨k, ek⟩ := Option.isSome_iff_exists.mp kn
      have lt := (fIx_some M 0 k ek).2.1
      have e : ixN nk M (ky j) = k := by
        unfold ixN
        rw [ek]
        rfl
      show 20000 + ixN nk M (ky j) < 30000 ∧ VC M (20000 + ixN nk M (ky j))
      rw [e]
      exact ⟨by omega, Or.inr (Or.inr (Or.inl ⟨by omega, by omega⟩))⟩
    · rw [if_pos h]
      have := hnu j h
      exact ⟨by omega, Or.inl this⟩
  · exact Or.inr m8
theorem LNo_lwL (hE : tk K = 202) (hK : K < 10000) (hnu : ∀ j, tk j = 201 → nu j < 10000) : ∀ (d line i M : Nat) (nk : Nat → Nat), i ≤ K → M ≤ 8 → (lwQ tk nu ky d line i M nk).2 = 0 → LNo (lwL tk nu ky d line i M nk) M ∧ (lwL tk nu ky d line i M nk).length + line ≤ max line 20 := by
  intro d
  induction d with
  | zero => intro line i M nk _ _ _; exact ⟨trivial, by show 0 + line ≤ _; omega⟩
  | succ d ih =>
    intro line i M nk hi hM h
    have e1 : lwQ tk nu ky (d + 1) line i M nk = if tk i = 202 then (i, 0) else if ¬ (lnQ tk nu (fun j => knB nk M (ky j)) M line i).2 = 0 then lnQ tk nu (fun j => knB nk M (ky j)) M line i else lwQ tk nu ky d (line + 1) (lnQ tk nu (fun j => knB nk M (ky j)) M line i).1 (lnM tk M i) (lnK tk ky M i nk) := rfl
    have e2 : lwL tk nu ky (d + 1) line i M nk = if tk i = 202 then [] else lnD tk nu (fun j => knB nk M (ky j)) (fun j => ixN nk M (ky j)) M i :: lwL tk nu ky d (line + 1) (lnQ tk nu (fun j => knB nk M (ky j)) M line i).1 (lnM tk M i) (lnK tk ky M i nk) := rfl
    rw [e1] at h
    rw [e2]
    by_cases z : tk i = 202
    · rw [if_pos z]
      exact ⟨trivial, by show 0 + line ≤ _; omega⟩
    · rw [if_neg z] at h ⊢
      by_cases y : (lnQ tk nu (fun j => knB nk M (ky j)) M line i).2 = 0
      · rw [if_neg (fun q => q y)] at h
        obtain ⟨a1, a2, a3, a4, a5, a6⟩ := lnQ_ok hE hK hi y
        have m8 : lnM tk M i ≤ 8 := by
          unfold lnM
          by_cases t : tk i = 4
          · rw [if_pos t]
            rcases a1 with a1 | a1 | a1 <;> omega
          · rw [if_neg t]; exact hM
        obtain ⟨i1, i2⟩ := ih (line + 1) _ (lnM tk M i) (lnK tk ky M i nk) a6 m8 h
        refine ⟨⟨?_, exp_ok (fun j j1 j2 => (lf_ok (ky := ky) (nk := nk) hnu j j1 j2).resolve_right (fun q => q hM)) hE hK a3 a4 a5, ?_⟩, ?_⟩
        · show (tk i = 4 ∧ (if tk i = 4 then M else if tk i = 20 then nu (i + 1) else tk (i + 1)) = M ∧ M < 8) ∨ (tk i = 20 ∧ 1 ≤ (if tk i = 4 then M else if tk i = 20 then nu (i + 1) else tk (i + 1)) ∧ (if tk i = 4 then M else if tk i = 20 then nu (i + 1) else tk (i + 1)) ≤ 999) ∨ (tk i = 5 ∧ (if tk i = 4 then M else if tk i = 20 then nu (i + 1) else tk (i + 1)) ≤ 3)
          rcases a1 with ⟨t, -, b⟩ | ⟨t, -, b⟩ | ⟨t, b⟩
          · rw [if_pos t]; exact Or.inl ⟨t, rfl, b⟩
          · rw [if_neg (by omega), if_pos t]; exact Or.inr (Or.inl ⟨t, b⟩)
          · rw [if_neg (by omega), if_neg (by omega)]; exact Or.inr (Or.inr ⟨t, b⟩)
        · exact i1
        · show (lwL tk nu ky d (line + 1) (lnQ tk nu (fun j => knB nk M (ky j)) M line i).1 (lnM tk M i) (lnK tk ky M i nk)).length + 1 + line ≤ _
          omega
      · rw [if_pos y] at h
        exact absurd h y
end LNS
