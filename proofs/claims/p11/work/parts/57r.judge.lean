/-! a by-law worked: names, limit, fault -/
def vl (F V : Nat → Int32) (c : List Nat) : Int32 := ((ev F V c []).getD []).headD 0
theorem vl_ok {F V : Nat → Int32} {c : List Nat} (h1 : pd c 0) (h2 : fd c 0 = 1) : ev F V c [] = some [vl F V c] := by
  obtain ⟨s, e1, e2⟩ := ev_pd F V c [] h1
  have e2' : s.length = 1 := e2.trans h2
  unfold vl
  rw [e1]
  match s, e2' with
  | [v], _ => rfl
def nl1 (F : Nat → Int32) : List LnT → (Nat → Int32) → Int32 → (Nat → Int32) × Int32
  | [], V, l => (V, l)
  | x :: ls, V, l => if x.1 = 4 then nl1 F ls (upd V x.2.1 (vl F V x.2.2)) l else if x.1 = 20 ∧ l = 0 ∧ ¬ vl F V x.2.2 = 0 then nl1 F ls V (nI x.2.1) else nl1 F ls V l
def ff1 (F V : Nat → Int32) : List LnT → Nat → Option (Nat × Nat)
  | [], _ => none
  | x :: ls, line => if x.1 = 5 ∧ ¬ vl F V x.2.2 = 0 then some (x.2.1, line) else ff1 F V ls (line + 1)
theorem ccL_at (x : LnT) (ls : List LnT) : (ccL (x :: ls)).getD 0 0 = x.1 ∧ (ccL (x :: ls)).getD 1 0 = x.2.1 ∧ (ccL (x :: ls)).getD 2 0 = x.2.2.length ∧ (ccL (x :: ls)).length = 3 + x.2.2.length + (ccL ls).length ∧ (∀ j, j < x.2.2.length → (ccL (x :: ls)).getD (3 + j) 0 = x.2.2.getD j 0) ∧ ∀ j, (ccL (x :: ls)).getD (3 + x.2.2.length + j) 0 = (ccL ls).getD j 0 := by
  have e : ccL (x :: ls) = x.1 :: x.2.1 :: x.2.2.length :: (x.2.2 ++ ccL ls) := rfl
  rw [e]
  refine ⟨rfl, rfl, rfl, by simp; omega, fun j hj => ?_, fun j => ?_⟩
  · rw [Nat.add_comm 3 j]
    show (x.2.2 ++ ccL ls).getD j 0 = _
    rw [List.getD_eq_getElem?_getD, List.getD_eq_getElem?_getD, List.getElem?_append_left hj]
  · rw [show 3 + x.2.2.length + j = (x.2.2.length + j) + 3 by omega]
    show (x.2.2 ++ ccL ls).getD (x.2.2.length + j) 0 = _
    rw [List.getD_eq_getElem?_getD, List.getD_eq_getElem?_getD, List.getElem?_append_right (by omega), show x.2.2.length + j - x.2.2.length = j by omega]
section JDG
variable {h0 : zH} {n : Nat} {A Mt len : Nat} {fm : Nat → Int32}
set_option maxHeartbeats 1000000 in
theorem b_names (hA : n + 14 ≤ A) (hM : n + 14 ≤ Mt) (eN : aN h0 A = some (nI len)) (hlen : len ≤ 1000) (oM : zob h0 Mt 6 = true) (eF : ∀ x, 10 ≤ x → x ≤ 18 → f_X6_fact 10000 Mt (nI x) h0 = some (fm x)) : ∀ (ls : List LnT) (p line M m : Nat) (q nm st : Nat → Int32), LNo ls M → M ≤ 8 → line + ls.length ≤ 20 → (∀ j, j < (ccL ls).length → aI h0 A (nI (p + j)) = some (nI ((ccL ls).getD j 0))) → p + (ccL ls).length = len → ls.length < m → ∃ q' st', f_X1_workNamesAndLimit_L5 10000 (n + 10) A Mt m (nI p) (nI line) (BH h0 n q nm st) = some (BH h0 n q' (nl1 (FC q fm) ls nm (q 6)).1 st') ∧ q' 6 = (nl1 (FC q fm) ls nm (q 6)).2 ∧ ∀ k, k ≠ 8 → k ≠ 6 → q' k = q k := by
  intro ls
  induction ls with
  | nil =>
    intro p line M m q nm st _ _ _ _ hp hm
    obtain ⟨m, rfl⟩ : ∃ m', m = m' + 1 := ⟨m - 1, by omega⟩
    have hp' : p = len := hp
    refine ⟨q, st, ?_, rfl, fun _ _ _ => rfl⟩
    rw [f_X1_workNamesAndLimit_L5.eq_2]
    by_cases c : (20 : Int32) ≤ nI line
    · rw [if_pos c]
      rfl
    · rw [if_neg c, B_aN hA, eN, Option.bind_some, show nI p + 3 = nI (p + 3) from nI_add p 3, if_pos (nlt (by omega) (by omega))]
      rfl
  | cons x ls ih =>
    intro p line M m q nm st ok hM8 hl hc hp hm
    obtain ⟨k1, ⟨v1, v2, v3⟩, ok2⟩ := ok
    obtain ⟨c0, c1, c2, c3, c4, c5⟩ := ccL_at x ls
    have hl' : line + (ls.length + 1) ≤ 20 := hl
    have hm' : ls.length + 1 < m := hm
    obtain ⟨m, rfl⟩ : ∃ m', m = m' + 1 := ⟨m - 1, by omega⟩
    rw [c3] at hp hc
    have x99 : x.2.1 ≤ 999 := by rcases k1 with y | y | y <;> omega
    have a0 := hc 0 (by omega)
    have a1 := hc 1 (by omega)
    have a2 := hc 2 (by omega)
    rw [c0, Nat.add_zero] at a0
    rw [c1] at a1
    rw [c2] at a2
    have e1 : nI p + 1 = nI (p + 1) := nI_1 p
    have e2 : nI p + 2 = nI (p + 2) := nI_add p 2
    have e3 : nI p + 3 = nI (p + 3) := nI_add p 3
    have e6 : nI (p + 3) + nI x.2.2.length = nI (p + 3 + x.2.2.length) := nI_add _ _
    have el : nI line + 1 = nI (line + 1) := nI_1 line
    have M' : (if x.1 = 4 then M + 1 else M) ≤ 8 := by
      by_cases y : x.1 = 4
      · rw [if_pos y]; rcases k1 with y2 | y2 | y2 <;> omega
      · rw [if_neg y]; exact hM8
    have wk : ∀ (q1 nm1 st1 : Nat → Int32), ∃ q2 st2, f_X1_work 10000 (n + 10) A (nI (p + 3)) (nI (p + 3 + x.2.2.length)) Mt (BH h0 n q1 nm1 st1) = some (vl (FC q1 fm) nm1 x.2.2, BH h0 n q2 nm1 st2) ∧ ∀ k, k ≠ 8 → q2 k = q1 k := fun q1 nm1 st1 => b_work (q := q1) (nm := nm1) (st := st1) (p := p + 3) hM8 hA hM eN hlen oM eF (fun j hj => by
      have := hc (3 + j) (by omega)
      rw [c4 j hj] at this
      rw [show p + 3 + j = p + (3 + j) by omega]
      exact this) (by omega) v3 v1 (vl_ok v1 v2)
    have nx : ∀ (q1 nm1 st1 : Nat → Int32), FC q1 fm = FC q fm → ∃ q' st', f_X1_workNamesAndLimit_L5 10000 (n + 10) A Mt m (nI (p + 3 + x.2.2.length)) (nI (line + 1)) (BH h0 n q1 nm1 st1) = some (BH h0 n q' (nl1 (FC q fm) ls nm1 (q1 6)).1 st') ∧ q' 6 = (nl1 (FC q fm) ls nm1 (q1 6)).2 ∧ ∀ k, k ≠ 8 → k ≠ 6 → q' k = q1 k := fun q1 nm1 st1 ef => by
      have := ih (p + 3 + x.2.2.length) (line + 1) _ m q1 nm1 st1 ok2 M' (by omega) (fun j hj => by
        have h9 := hc (3 + x.2.2.length + j) (by omega)
        rw [c5 j] at h9
        rw [show p + 3 + x.2.2.length + j = p + (3 + x.2.2.length + j) by omega]
        exact h9) (by omega) (by omega)
      rw [ef] at this
      exact this
    have isk : ∀ u : Nat, u < 100 → (nI x.1 = nI u ↔ x.1 = u) := fun u hu => nI_is (by rcases k1 with y | y | y <;> omega) (by omega)
    rw [f_X1_workNamesAndLimit_L5.eq_2, if_neg (show ¬ (20 : Int32) ≤ nI line from nnle (a := 20) (by omega) (by decide)), B_aN hA, eN, Option.bind_some, e3, if_neg (show ¬ nI len < nI (p + 3) from nnlt (by omega) (by omega)), e1, B_aI hA, a1, Option.bind_some, e2, B_aI hA, a2, Option.bind_some]
    unfold zlet
    show ∃ q' st', ((aI (BH h0 n q nm st) A (nI p)).bind _) = _ ∧ _
    rw [B_aI hA, a0, Option.bind_some]
    simp only [e6, el]
    have en : nl1 (FC q fm) (x :: ls) nm (q 6) = if x.1 = 4 then nl1 (FC q fm) ls (upd nm x.2.1 (vl (FC q fm) nm x.2.2)) (q 6) else if x.1 = 20 ∧ q 6 = 0 ∧ ¬ vl (FC q fm) nm x.2.2 = 0 then nl1 (FC q fm) ls nm (nI x.2.1) else nl1 (FC q fm) ls nm (q 6) := rfl
    rw [en]
    by_cases t4 : x.1 = 4
    · have w8 : x.2.1 < 8 := by rcases k1 with y | y | y <;> omega
      rw [if_pos t4, if_pos (show nI x.1 = 4 by rw [t4]; rfl), if_neg (nI_pos (by omega))]
      simp only [B_s1, B_nn, Option.bind_some]
      rw [if_neg (show ¬ (8 : Int32) ≤ nI x.2.1 from nnle (a := 8) w8 (by decide))]
      obtain ⟨q2, st2, f1, f2⟩ := wk q nm st
      simp only [B_z, zif_t, f1, Option.bind_some, B_NM w8]
      obtain ⟨q3, st3, g1, g2, g3⟩ := nx q2 (upd nm x.2.1 (vl (FC q fm) nm x.2.2)) st2 (FC_q f2)
      have q26 : q2 6 = q 6 := f2 6 (by decide)
      rw [q26] at g1 g2
      rw [g1]
      exact ⟨q3, st3, rfl, g2, fun k a b => (g3 k a b).trans (f2 k a)⟩
    · rw [if_neg t4, if_neg (show ¬ nI x.1 = 4 from fun z => t4 ((isk 4 (by decide)).mp z))]
      simp only [Option.bind_some, zsum, B_aI hA, a0, B_q6, B_z, zif_t, e3, el]
      by_cases t20 : x.1 = 20
      · rw [if_pos (show nI x.1 = 20 by rw [t20]; rfl)]
        by_cases l0 : q 6 = 0
        · rw [if_pos l0]
          obtain ⟨q2, st2, f1, f2⟩ := wk q nm st
          rw [f1, Option.bind_some]
          have q26 : q2 6 = q 6 := f2 6 (by decide)
          by_cases z : vl (FC q fm) nm x.2.2 = 0
          · rw [if_pos z, if_neg (fun y => y.2.2 z)]
            obtain ⟨q3, st3, g1, g2, g3⟩ := nx q2 nm st2 (FC_q f2)
            rw [q26] at g1 g2
            exact ⟨q3, st3, g1, g2, fun k a b => (g3 k a b).trans (f2 k a)⟩
          · rw [if_neg z, if_pos ⟨t20, l0, z⟩]
            simp only [B_Q6, Option.bind_some]
            obtain ⟨q3, st3, g1, g2, g3⟩ := nx (upd q2 6 (nI x.2.1)) nm st2 (by
              rw [← FC_q f2]
              funext t
              rfl)
            have u6 : upd q2 6 (nI x.2.1) 6 = nI x.2.1 := rfl
            rw [u6] at g1 g2
            exact ⟨q3, st3, g1, g2, fun k a b => (g3 k a b).trans ((if_neg b).trans (f2 k a))⟩
        · rw [if_neg l0, if_neg (fun y => l0 y.2.1)]
          exact nx q nm st rfl
      · rw [if_neg (show ¬ nI x.1 = 20 from fun z => t20 ((isk 20 (by decide)).mp z)), if_neg (fun y => t20 y.1)]
        exact nx q nm st rfl
set_option maxHeartbeats 1000000 in
theorem b_fault {nm : Nat → Int32} (hA : n + 14 ≤ A) (hM : n + 14 ≤ Mt) (eN : aN h0 A = some (nI len)) (hlen : len ≤ 1000) (oM : zob h0 Mt 6 = true) (eF : ∀ x, 10 ≤ x → x ≤ 18 → f_X6_fact 10000 Mt (nI x) h0 = some (fm x)) : ∀ (ls : List LnT) (p line M m : Nat) (q st : Nat → Int32), LNo ls M → M ≤ 8 → line + ls.length ≤ 20 → (∀ j, j < (ccL ls).length → aI h0 A (nI (p + j)) = some (nI ((ccL ls).getD j 0))) → p + (ccL ls).length = len → ls.length < m → ∃ q' st', ((ff1 (FC q fm) nm ls line = none → f_X1_findFault_L5 10000 (n + 10) A Mt m (nI p) (nI line) (BH h0 n q nm st) = some (.inl (BH h0 n q' nm st')) ∧ q' 4 = q 4 ∧ q' 5 = q 5) ∧ (∀ w k, ff1 (FC q fm) nm ls line = some (w, k) → f_X1_findFault_L5 10000 (n + 10) A Mt m (nI p) (nI line) (BH h0 n q nm st) = some (.inr (BH h0 n q' nm st')) ∧ q' 4 = nI w ∧ q' 5 = nI k)) ∧ ∀ k, k ≠ 8 → k ≠ 4 → k ≠ 5 → q' k = q k := by
  intro ls
  induction ls with
  | nil =>
    intro p line M m q st _ _ _ _ hp hm
    obtain ⟨m, rfl⟩ : ∃ m', m = m' + 1 := ⟨m - 1, by omega⟩
    have hp' : p = len := hp
    refine ⟨q, st, ⟨fun _ => ⟨?_, rfl, rfl⟩, fun w k e => nomatch e⟩, fun _ _ _ _ => rfl⟩
    rw [f_X1_findFault_L5.eq_2]
    by_cases c : (20 : Int32) ≤ nI line
    · rw [if_pos c]
    · rw [if_neg c, B_aN hA, eN, Option.bind_some, show nI p + 3 = nI (p + 3) from nI_add p 3, if_pos (nlt (by omega) (by omega))]
  | cons x ls ih =>
    intro p line M m q st ok hM8 hl hc hp hm
    obtain ⟨k1, ⟨v1, v2, v3⟩, ok2⟩ := ok
    obtain ⟨c0, c1, c2, c3, c4, c5⟩ := ccL_at x ls
    have hl' : line + (ls.length + 1) ≤ 20 := hl
    have hm' : ls.length + 1 < m := hm
    obtain ⟨m, rfl⟩ : ∃ m', m = m' + 1 := ⟨m - 1, by omega⟩
    rw [c3] at hp hc
    have a0 := hc 0 (by omega)
    have a1 := hc 1 (by omega)
    have a2 := hc 2 (by omega)
    rw [c0, Nat.add_zero] at a0
    rw [c1] at a1
    rw [c2] at a2
    have e1 : nI p + 1 = nI (p + 1) := nI_1 p
    have e2 : nI p + 2 = nI (p + 2) := nI_add p 2
    have e3 : nI p + 3 = nI (p + 3) := nI_add p 3
    have e6 : nI (p + 3) + nI x.2.2.length = nI (p + 3 + x.2.2.length) := nI_add _ _
    have el : nI line + 1 = nI (line + 1) := nI_1 line
    have M' : (if x.1 = 4 then M + 1 else M) ≤ 8 := by
      by_cases y : x.1 = 4
      · rw [if_pos y]; rcases k1 with y2 | y2 | y2 <;> omega
      · rw [if_neg y]; exact hM8
    have wk : ∃ q2 st2, f_X1_work 10000 (n + 10) A (nI (p + 3)) (nI (p + 3 + x.2.2.length)) Mt (BH h0 n q nm st) = some (vl (FC q fm) nm x.2.2, BH h0 n q2 nm st2) ∧ ∀ k, k ≠ 8 → q2 k = q k := b_work (q := q) (nm := nm) (st := st) (p := p + 3) hM8 hA hM eN hlen oM eF (fun j hj => by
      have := hc (3 + j) (by omega)
      rw [c4 j hj] at this
      rw [show p + 3 + j = p + (3 + j) by omega]
      exact this) (by omega) v3 v1 (vl_ok v1 v2)
    have isk : nI x.1 = 5 ↔ x.1 = 5 := nI_is (m := 5) (by rcases k1 with y | y | y <;> omega) (by decide)
    have ef1 : ff1 (FC q fm) nm (x :: ls) line = if x.1 = 5 ∧ ¬ vl (FC q fm) nm x.2.2 = 0 then some (x.2.1, line) else ff1 (FC q fm) nm ls (line + 1) := rfl
    rw [ef1, f_X1_findFault_L5.eq_2, if_neg (show ¬ (20 : Int32) ≤ nI line from nnle (a := 20) (by omega) (by decide)), B_aN hA, eN, Option.bind_some, e3, if_neg (show ¬ nI len < nI (p + 3) from nnlt (by omega) (by omega)), e2, B_aI hA, a2, Option.bind_some]
    unfold zlet
    simp only [e6, el, B_aI hA, a0, Option.bind_some]
    have nx : ∀ (q1 st1 : Nat → Int32), (∀ k, k ≠ 8 → q1 k = q k) → ∃ q' st', ((ff1 (FC q fm) nm ls (line + 1) = none → f_X1_findFault_L5 10000 (n + 10) A Mt m (nI (p + 3 + x.2.2.length)) (nI (line + 1)) (BH h0 n q1 nm st1) = some (.inl (BH h0 n q' nm st')) ∧ q' 4 = q 4 ∧ q' 5 = q 5) ∧ (∀ w k, ff1 (FC q fm) nm ls (line + 1) = some (w, k) → f_X1_findFault_L5 10000 (n + 10) A Mt m (nI (p + 3 + x.2.2.length)) (nI (line + 1)) (BH h0 n q1 nm st1) = some (.inr (BH h0 n q' nm st')) ∧ q' 4 = nI w ∧ q' 5 = nI k)) ∧ ∀ k, k ≠ 8 → k ≠ 4 → k ≠ 5 → q' k = q k := fun q1 st1 hk => by
      have := ih (p + 3 + x.2.2.length) (line + 1) _ m q1 st1 ok2 M' (by omega) (fun j hj => by
        have h9 := hc (3 + x.2.2.length + j) (by omega)
        rw [c5 j] at h9
        rw [show p + 3 + x.2.2.length + j = p + (3 + x.2.2.length + j) by omega]
        exact h9) (by omega) (by omega)
      rw [FC_q hk, hk 4 (by decide), hk 5 (by decide)] at this
      obtain ⟨q', st', h1, h2⟩ := this
      exact ⟨q', st', h1, fun k a b c => (h2 k a b c).trans (hk k a)⟩
    by_cases t5 : x.1 = 5
    · rw [if_pos (isk.mpr t5), B_z, zif_t]
      obtain ⟨q2, st2, f1, f2⟩ := wk
      rw [f1, Option.bind_some]
      by_cases z : vl (FC q fm) nm x.2.2 = 0
      · rw [if_pos z, if_neg (fun y => y.2 z)]
        exact nx q2 st2 f2
      · rw [if_neg z, if_pos ⟨t5, z⟩]
        simp only [e1, B_aI hA, a1, Option.bind_some, B_Q4, B_Q5]
        refine ⟨upd (upd q2 4 (nI x.2.1)) 5 (nI line), st2, ⟨fun e => (nomatch e), fun w k e => ?_⟩, ?_⟩
        · have e9 := Option.some.inj e
          have ea : x.2.1 = w := congrArg Prod.fst e9
          have eb : line = k := congrArg Prod.snd e9
          rw [← ea, ← eb]
          exact ⟨rfl, rfl, rfl⟩
        · exact fun k a b c => (if_neg c).trans ((if_neg b).trans (f2 k a))
    · rw [if_neg (fun y => t5 (isk.mp y)), if_neg (fun y => t5 y.1)]
      exact nx q st (fun _ _ => rfl)
end JDG
