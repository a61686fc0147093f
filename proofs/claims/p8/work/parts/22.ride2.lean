/-! the whole way: after k SECONDS x, y, v, first, stopped -/
def rNx (reacts pace looks sx sy fl t : Int32) (s : Int32 × Int32 × Int32 × Int32 × Int32) : Int32 × Int32 × Int32 × Int32 × Int32 :=
  (s.1 + sV reacts fl t (sF sx sy s.1 s.2.1 t s.2.2.2.1) s.2.2.1, (if sStay looks pace sx sy s.1 s.2.1 s.2.2.1 = true then s.2.1 else s.2.1 + pace), sV reacts fl t (sF sx sy s.1 s.2.1 t s.2.2.2.1) s.2.2.1, sF sx sy s.1 s.2.1 t s.2.2.2.1, sSt (sV reacts fl t (sF sx sy s.1 s.2.1 t s.2.2.2.1) s.2.2.1) s.2.2.2.2 t)
def rSeq (x0 y0 sp reacts pace looks sx sy fl : Int32) : Nat → Int32 × Int32 × Int32 × Int32 × Int32
  | 0 => (x0, y0, sp, -1, -1)
  | k + 1 => rNx reacts pace looks sx sy fl (nI k) (rSeq x0 y0 sp reacts pace looks sx sy fl k)
/-- they MEET there -/
def rMt (s : Int32 × Int32 × Int32 × Int32 × Int32) : Bool := decide (0 < s.2.2.1 ∧ (0 ≤ s.1 ∧ s.1 ≤ 40) ∧ (-8 ≤ s.2.1 ∧ s.2.1 ≤ 8))
/-- where it ends, at the latest d SECONDS behind j -/
def rEnd (q : Nat → Int32 × Int32 × Int32 × Int32 × Int32) : Nat → Nat → Nat
  | 0, j => j
  | d + 1, j => if 0 < j ∧ rMt (q j) = true then j else rEnd q d (j + 1)
def rM (q : Nat → Int32 × Int32 × Int32 × Int32 × Int32) (j : Nat) : Int32 := if 0 < j ∧ rMt (q j) = true then nI j else -1
def rAt (q : Nat → Int32 × Int32 × Int32 × Int32 × Int32) (j : Nat) : zE := rL (q j).1 (q j).2.1 (q j).2.2.1 (nI j) (q j).2.2.2.1 (q j).2.2.2.2 (rM q j)
theorem goL_eq {N R M : Nat} {h : zH} {x0 y0 sp m0 m1 reacts m3 pace looks sx sy fl : Int32} (hne : M ≠ R) (hM : mIs h M m0 m1 reacts m3 pace looks sx sy fl) (hB : brk h) (hnb : h.1.2 0 ≠ R) (hf : fl = 0 ∨ fl = 1 ∨ fl = 2) :
    ∀ (d n j u : Nat), d < n → u = j + d → u ≤ 60 → f_X8_go_L44 N R M (nI u) n (nI j) (zset h R (rAt (rSeq x0 y0 sp reacts pace looks sx sy fl) j)) = some (zset h R (rAt (rSeq x0 y0 sp reacts pace looks sx sy fl) (rEnd (rSeq x0 y0 sp reacts pace looks sx sy fl) d j))) := by
  intro d
  generalize hq : rSeq x0 y0 sp reacts pace looks sx sy fl = q
  have hstep : ∀ k, q (k + 1) = rNx reacts pace looks sx sy fl (nI k) (q k) := fun k => by rw [← hq]; rfl
  induction d with
  | zero =>
    intro n j u hn hu h60
    obtain ⟨n, rfl⟩ : ∃ n', n = n' + 1 := ⟨n - 1, by omega⟩
    have : u = j := by omega
    subst this
    unfold f_X8_go_L44
    simp [rEnd]
  | succ d ih =>
    intro n j u hn hu h60
    obtain ⟨n, rfl⟩ : ∃ n', n = n' + 1 := ⟨n - 1, by omega⟩
    unfold f_X8_go_L44
    have c1 : ¬ nI u ≤ nI j := by rw [nI_leI (by omega) (by omega)]; omega
    rw [if_neg c1]
    have g6 : gI (zset h R (rAt q j)) R 8 6 = some (rM q j) := by unfold rAt rL; rw [gI_zs]; rfl
    have gz : zob (zset h R (rAt q j)) R 8 = true := zob_zs _ _ _ _
    rw [g6, Option.bind_some]
    by_cases c2 : 0 < j ∧ rMt (q j) = true
    · have e1 : rM q j = nI j := by unfold rM; rw [if_pos c2]
      have e2 : ¬ nI j = -1 := by
        intro e
        have h9 := nI_pos' (n := j) (by omega)
        rw [e] at h9
        exact absurd h9 (by decide)
      rw [e1, if_neg e2]
      simp [rEnd, c2]
    · have e1 : rM q j = -1 := by unfold rM; rw [if_neg c2]
      rw [if_pos e1, gz, zif_t]
      have hg : f_X8_goOn N R M (zset h R (rAt q j)) = some (zset h R (rAt q (j + 1))) := by
        unfold rAt
        rw [e1, goOn_eq hne hM hB hnb hf, hstep j]
        unfold rNx sMt rM
        rw [hstep j]
        unfold rNx rMt
        simp only [nI_1, Nat.zero_lt_succ, true_and, decide_eq_true_eq]
      rw [hg, Option.bind_some, nI_1, ih n (j + 1) u (by omega) (by omega) h60]
      simp [rEnd, c2]
