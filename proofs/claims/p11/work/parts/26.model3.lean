theorem brV {a : Nat} (ha : a ≤ 300) {fl : Int32} (hf : fl = 0 ∨ fl = 1 ∨ fl = 2) : (if nI a ≤ pBr fl then 0 else nI a - pBr fl) = (if 0 < nI a - pBr fl then nI a - pBr fl else 0) ∧ ∃ a' : Nat, a' ≤ 300 ∧ (if 0 < nI a - pBr fl then nI a - pBr fl else 0) = nI a' := by
  obtain ⟨b, hb, hb2⟩ : ∃ b : Nat, b ≤ 60 ∧ pBr fl = nI b := by
    rcases hf with rfl | rfl | rfl
    · exact ⟨60, by decide, by decide⟩
    · exact ⟨35, by decide, by decide⟩
    · exact ⟨10, by decide, by decide⟩
  rw [hb2]
  have e1 : (nI a ≤ nI b) = (a ≤ b) := by rw [nI_leI (by omega) (by omega)]
  by_cases c : a ≤ b
  · have c2 : ¬ 0 < nI a - nI b := by
      rcases Nat.lt_or_ge a b with h9 | h9
      · have h8 := pk_sneg (a := a) (b := b) (by omega) h9
        intro h7
        exact absurd (Int32.lt_trans h7 h8) (by decide)
      · have : a = b := by omega
        subst this
        rw [Int32.sub_self]
        decide
    rw [if_neg c2]
    refine ⟨by rw [if_pos (by rw [e1]; exact c)], 0, by omega, nI_0.symm⟩
  · have c2 : 0 < nI a - nI b := by
      rw [pk_sub (by omega), ← nI_0]
      exact nI_lt (by omega) (by omega)
    rw [if_pos c2]
    refine ⟨by rw [if_neg (by rw [e1]; exact c)], a - b, by omega, pk_sub (by omega)⟩
/-- what holds along the way: the speed is 0 to 300, first and stopped are -1 or not below 0 -/
theorem qInv {x0 y0 reacts pace looks sx sy fl : Int32} {sp : Nat} (hsp : sp ≤ 300) (hf : fl = 0 ∨ fl = 1 ∨ fl = 2) : ∀ k : Nat, k ≤ 60 → (∃ a : Nat, a ≤ 300 ∧ (rSeq x0 y0 (nI sp) reacts pace looks sx sy fl k).2.2.1 = nI a) ∧ (((rSeq x0 y0 (nI sp) reacts pace looks sx sy fl k).2.2.2.1 < 0) = ((rSeq x0 y0 (nI sp) reacts pace looks sx sy fl k).2.2.2.1 = -1)) ∧ (((rSeq x0 y0 (nI sp) reacts pace looks sx sy fl k).2.2.2.2 < 0) = ((rSeq x0 y0 (nI sp) reacts pace looks sx sy fl k).2.2.2.2 = -1)) := by
  intro k
  induction k with
  | zero =>
    intro _
    refine ⟨⟨sp, hsp, rfl⟩, ?_, ?_⟩
    · show ((-1 : Int32) < 0) = ((-1 : Int32) = -1)
      simp
    · show ((-1 : Int32) < 0) = ((-1 : Int32) = -1)
      simp
  | succ k ih =>
    intro hk
    obtain ⟨⟨a, ha, hv⟩, h44, h45⟩ := ih (by omega)
    have hn0 : ¬ nI k < 0 := nI_pos (by omega)
    have hn1 : ¬ nI k = -1 := fun e => hn0 (by rw [e]; decide)
    show (∃ a : Nat, a ≤ 300 ∧ (rNx reacts pace looks sx sy fl (nI k) (rSeq x0 y0 (nI sp) reacts pace looks sx sy fl k)).2.2.1 = nI a) ∧ (((rNx reacts pace looks sx sy fl (nI k) (rSeq x0 y0 (nI sp) reacts pace looks sx sy fl k)).2.2.2.1 < 0) = ((rNx reacts pace looks sx sy fl (nI k) (rSeq x0 y0 (nI sp) reacts pace looks sx sy fl k)).2.2.2.1 = -1)) ∧ (((rNx reacts pace looks sx sy fl (nI k) (rSeq x0 y0 (nI sp) reacts pace looks sx sy fl k)).2.2.2.2 < 0) = ((rNx reacts pace looks sx sy fl (nI k) (rSeq x0 y0 (nI sp) reacts pace looks sx sy fl k)).2.2.2.2 = -1))
    generalize rSeq x0 y0 (nI sp) reacts pace looks sx sy fl k = s at hv h44 h45 ⊢
    obtain ⟨x, y, v, f, st⟩ := s
    simp only at hv h44 h45
    unfold rNx
    simp only
    refine ⟨?_, ?_, ?_⟩
    · unfold sV
      split
      · rw [hv]; exact (brV ha hf).2
      · exact ⟨a, ha, hv⟩
    · unfold sF
      split
      · simp [hn0, hn1]
      · exact h44
    · unfold sSt
      split
      · simp [hn0, hn1]
      · exact h45
