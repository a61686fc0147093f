/-! the facts of a meeting, by the class's words -/
def fmF (F : Nat → Int32) (t : Nat) : Int32 := if t = 10 then F 1 else if t = 11 then F 4 else if t = 12 then seF F else if t = 13 then (if mtF F = -1 then 0 else 1) else if t = 14 then (if F 5 = 0 then 0 else 1) else if t = 15 then F 6 else if t = 16 then F 9 else if t = 17 then F 10 else (if F 7 = 0 then 0 else 1)
/-- with the year and the limit -/
def fyl (fm : Nat → Int32) (yr l : Int32) (t : Nat) : Int32 := if t = 19 then yr else if t = 20 then l else fm t
theorem nle13 (x : Nat) (h1 : 10 ≤ x) (h2 : x ≤ 18) : x = 10 ∨ x = 11 ∨ x = 12 ∨ x = 13 ∨ x = 14 ∨ x = 15 ∨ x = 16 ∨ x = 17 ∨ x = 18 := by omega
theorem l1_01 (l : Int32) : l &&& 1 = 0 ∨ l &&& 1 = 1 := by
  have h : ∀ v : BitVec 32, v &&& 1#32 = 0#32 ∨ v &&& 1#32 = 1#32 := by
    intro v
    by_cases c : v.getLsbD 0 = true
    · right
      apply BitVec.eq_of_getLsbD_eq
      intro i hi
      rw [BitVec.getLsbD_and]
      by_cases e : i = 0
      · subst e; rw [c]; rfl
      · rw [BitVec.getLsbD_one]
        simp [e]
    · left
      apply BitVec.eq_of_getLsbD_eq
      intro i hi
      rw [BitVec.getLsbD_and]
      by_cases e : i = 0
      · subst e; rw [Bool.eq_false_iff.mpr c]; rfl
      · rw [BitVec.getLsbD_one]
        simp [e]
  rcases h l.toBitVec with h | h
  · left; exact Int32.toBitVec_inj.mp h
  · right; exact Int32.toBitVec_inj.mp h
section FAC
variable {n b L : Nat} {xs : Nat → Int32} {τ : Nat → Nat} {g : zGh} {h : zH} {a : Nat} {F : Nat → Int32}
theorem v_X6_fact (w : WT n b L xs τ g h) (t : τ a = 1) (hF : ∀ z, z < 13 → g.1 100 (16 * (g.2.1 1 a).toNatClampNeg + z) = F z) (m11 : F 11 = mtF F) (m12 : F 12 = fiF F) : ∀ x, 10 ≤ x → x ≤ 18 → f_X6_fact 10000 a (nI x) h = some (fmF F x) := by
  intro x h1 h2
  have f1 : gI h a 6 1 = some (F 1) := (G_m_1 w t).trans (congrArg some (hF 1 (by decide)))
  have f4 : gI h a 6 4 = some (F 4) := (G_m_4 w t).trans (congrArg some (hF 4 (by decide)))
  have f5 : gI h a 6 5 = some (F 5) := (G_m_5 w t).trans (congrArg some (hF 5 (by decide)))
  have f6 : gI h a 6 6 = some (F 6) := (G_m_6 w t).trans (congrArg some (hF 6 (by decide)))
  have f7 : gI h a 6 7 = some (F 7) := (G_m_7 w t).trans (congrArg some (hF 7 (by decide)))
  have f9 : gI h a 6 9 = some (F 9) := (G_m_9 w t).trans (congrArg some (hF 9 (by decide)))
  have f10 : gI h a 6 10 = some (F 10) := (G_m_10 w t).trans (congrArg some (hF 10 (by decide)))
  have f11 : gI h a 6 11 = some (mtF F) := (G_m_11 w t).trans (congrArg some ((hF 11 (by decide)).trans m11))
  have se := v_X6_seen w t hF m11 m12
  have ob := ob_m w t
  unfold f_X6_fact
  rcases nle13 x h1 h2 with e | e | e | e | e | e | e | e | e <;> subst e
  · rw [if_pos (by decide), f1]; rfl
  · rw [if_neg (by decide), if_pos (by decide), f4]; rfl
  · rw [if_neg (by decide), if_neg (by decide), if_pos (by decide), ob, zif_t, se]; rfl
  · rw [if_neg (by decide), if_neg (by decide), if_neg (by decide), if_pos (by decide), f11, Option.bind_some]
    show _ = some (if mtF F = -1 then 0 else 1)
    by_cases c : mtF F = -1
    · rw [if_pos c, if_pos c]
    · rw [if_neg c, if_neg c]
  · rw [if_neg (by decide), if_neg (by decide), if_neg (by decide), if_neg (by decide), if_pos (by decide), f5, Option.bind_some]
    show _ = some (if F 5 = 0 then 0 else 1)
    by_cases c : F 5 = 0
    · rw [if_pos c, if_pos c]
    · rw [if_neg c, if_neg c]
  · rw [if_neg (by decide), if_neg (by decide), if_neg (by decide), if_neg (by decide), if_neg (by decide), if_pos (by decide), f6]; rfl
  · rw [if_neg (by decide), if_neg (by decide), if_neg (by decide), if_neg (by decide), if_neg (by decide), if_neg (by decide), if_pos (by decide), f9]; rfl
  · rw [if_neg (by decide), if_neg (by decide), if_neg (by decide), if_neg (by decide), if_neg (by decide), if_neg (by decide), if_neg (by decide), if_pos (by decide), f10]; rfl
  · rw [if_neg (by decide), if_neg (by decide), if_neg (by decide), if_neg (by decide), if_neg (by decide), if_neg (by decide), if_neg (by decide), if_neg (by decide), if_pos (by decide), f7, Option.bind_some]
    show _ = some (if F 7 = 0 then 0 else 1)
    by_cases c : F 7 = 0
    · rw [if_pos c, if_pos c]
    · rw [if_neg c, if_neg c]
/-! the reference's law of a year -/
theorem v_lawIn {N : Nat} {yr : Int32} (w : WT n b L xs τ g h) (hN : N ≤ 16) (e10 : g.1 42 10 = nI N) : f_X12_lawIn 10000 (n + 42) yr h = some (loI (lo1 (g.2.1 49) (g.2.1 48) yr (if 0 ≤ g.1 42 26 then g.1 42 26 else g.1 42 25) N)) := by
  have vy := v_vy w
  generalize (if 0 ≤ g.1 42 26 then g.1 42 26 else g.1 42 25) = vw at vy
  have a48 : ∀ k, k < 16 → aI h (n + 48) (nI k) = some (g.2.1 48 k) := fun k hk => by
    obtain ⟨i0, i1, i2⟩ := h_ix (m := 17) (j := k) (by omega) (by omega)
    rw [A_48 w i0 i1, i2]
  have a49 : ∀ k, k < 16 → aI h (n + 49) (nI k) = some (g.2.1 49 k) := fun k hk => by
    obtain ⟨i0, i1, i2⟩ := h_ix (m := 17) (j := k) (by omega) (by omega)
    rw [A_49 w i0 i1, i2]
  generalize hX : g.2.1 49 = X at a49
  generalize hY : g.2.1 48 = Y at a48
  have key : ∀ (m i : Nat), i ≤ N → N - i < m → f_X12_lawIn_L4 10000 (n + 42) yr h m (loI (lo1 X Y yr vw i)) (nI i) = some (loI (lo1 X Y yr vw N)) := by
    intro m
    induction m with
    | zero => intro i _ h; exact absurd h (by omega)
    | succ m ih =>
      intro i hi hm
      rw [f_X12_lawIn_L4.eq_2, E_42_10 w, Option.bind_some, e10]
      by_cases e : i = N
      · rw [e, if_pos (nle (Nat.le_refl N) (by omega))]
      · have hi' : i < N := by omega
        have go := ih (i + 1) (by omega) (by omega)
        have e9 : lo1 X Y yr vw (i + 1) = if vw < X i ∨ yr < Y i then lo1 X Y yr vw i else (match lo1 X Y yr vw i with | none => some i | some b => if Y i < Y b then some b else some i) := rfl
        rw [if_neg (nnle hi' (by omega)), gR_42_12 w, Option.bind_some, a49 i (by omega), Option.bind_some, ob_42 w, zif_t, vy, Option.bind_some, nI_1]
        by_cases c1 : vw < X i
        · rw [e9, if_pos (Or.inl c1)] at go
          rw [if_pos c1, Option.bind_some, if_pos rfl]
          exact go
        · rw [if_neg c1, gR_42_11 w, Option.bind_some, a48 i (by omega), Option.bind_some]
          by_cases c2 : yr < Y i
          · rw [e9, if_pos (Or.inr c2)] at go
            rw [if_pos c2, Option.bind_some, if_pos rfl]
            exact go
          · rw [e9, if_neg (fun z => z.elim c1 c2)] at go
            rw [if_neg c2, Option.bind_some, if_neg (by decide)]
            cases h' : lo1 X Y yr vw i with
            | none =>
              rw [h'] at go
              show (if (-1 : Int32) < 0 then _ else _) = _
              rw [if_pos (by decide)]
              exact go
            | some b =>
              rw [h'] at go
              have hb := lo1_lt i b h'
              show (if nI b < 0 then _ else _) = _
              rw [if_neg (nI_pos (by omega))]
              show ((aI h (n + 48) (nI i)).bind _) = _
              rw [a48 i (by omega), Option.bind_some]
              show ((aI h (n + 48) (nI b)).bind _) = _
              rw [a48 b (by omega), Option.bind_some]
              have go' : f_X12_lawIn_L4 10000 (n + 42) yr h m (loI (if Y i < Y b then some b else some i)) (nI (i + 1)) = some (loI (lo1 X Y yr vw N)) := go
              by_cases d : Y i < Y b
              · rw [if_pos d] at go' ⊢
                exact go'
              · rw [if_neg d] at go' ⊢
                exact go'
  unfold f_X12_lawIn
  have k := key 10000 0 (Nat.zero_le _) (by omega)
  have k' : f_X12_lawIn_L4 10000 (n + 42) yr h 10000 (-1) 0 = _ := k
  rw [k']
  rfl
end FAC
