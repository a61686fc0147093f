/-! the class's book: which law, and what it says -/
def lo1 (X Y : Nat → Int32) (yr vw : Int32) : Nat → Option Nat
  | 0 => none
  | k + 1 => if vw < X k ∨ yr < Y k then lo1 X Y yr vw k else (match lo1 X Y yr vw k with | none => some k | some b => if Y k < Y b then some b else some k)
def loI : Option Nat → Int32
  | none => -1
  | some k => nI k
theorem lo1_lt {X Y : Nat → Int32} {yr vw : Int32} : ∀ (N k : Nat), lo1 X Y yr vw N = some k → k < N := by
  intro N
  induction N with
  | zero => intro k e; cases e
  | succ N ih =>
    intro k e
    have e' : (if vw < X N ∨ yr < Y N then lo1 X Y yr vw N else (match lo1 X Y yr vw N with | none => some N | some b => if Y N < Y b then some b else some N)) = some k := e
    by_cases c : vw < X N ∨ yr < Y N
    · rw [if_pos c] at e'
      have := ih k e'
      omega
    · rw [if_neg c] at e'
      cases h : lo1 X Y yr vw N with
      | none =>
        rw [h] at e'
        have : N = k := Option.some.inj e'
        omega
      | some b =>
        rw [h] at e'
        have e9 : (if Y N < Y b then some b else some N) = some k := e'
        by_cases d : Y N < Y b
        · rw [if_pos d] at e9
          have : b = k := Option.some.inj e9
          have := ih b h
          omega
        · rw [if_neg d] at e9
          have : N = k := Option.some.inj e9
          omega
/-- the laws as they lie in the heap -/
def BK (h0 : zH) (n N : Nat) (X Y : Nat → Int32) (LS : Nat → List LnT) : Prop := N ≤ 16 ∧ (∀ i, i < N → ∃ a, n + 14 ≤ a ∧ aQ h0 (n + 11) (nI i) = some (some a) ∧ gI h0 a 4 0 = some (X i) ∧ gI h0 a 4 1 = some (Y i) ∧ gR h0 a 4 2 = some (a + 1) ∧ aN h0 (a + 1) = some (nI (ccL (LS i)).length) ∧ (ccL (LS i)).length ≤ 1000 ∧ (∀ j, j < (ccL (LS i)).length → aI h0 (a + 1) (nI j) = some (nI ((ccL (LS i)).getD j 0))) ∧ LNo (LS i) 0 ∧ (LS i).length ≤ 20) ∧ ∀ i, i < N → 0 ≤ Y i
section BOOK
variable {h0 : zH} {n N : Nat} {X Y : Nat → Int32} {LS : Nat → List LnT} {q nm st : Nat → Int32} {yr vw : Int32}
theorem c_lawOf (bk : BK h0 n N X Y LS) (q3 : q 3 = nI N) : f_X1_lawOf 10000 (n + 10) yr vw (BH h0 n q nm st) = some (loI (lo1 X Y yr vw N)) := by
  obtain ⟨hN, bk, by'⟩ := bk
  have key : ∀ (m i : Nat), i ≤ N → N - i < m → f_X1_lawOf_L8 10000 (n + 10) yr vw (BH h0 n q nm st) m (loI (lo1 X Y yr vw i)) (match lo1 X Y yr vw i with | none => -1 | some b => Y b) (nI i) = some (loI (lo1 X Y yr vw N)) := by
    intro m
    induction m with
    | zero => intro i _ h; exact absurd h (by omega)
    | succ m ih =>
      intro i hi hm
      rw [f_X1_lawOf_L8.eq_2, B_q3, Option.bind_some, q3]
      by_cases e : i = N
      · rw [e, if_pos (nle (Nat.le_refl N) (by omega))]
      · have hi' : i < N := by omega
        obtain ⟨a, ha, a1, a2, a3, -⟩ := bk i hi'
        have y0 := by' i hi'
        have go := ih (i + 1) (by omega) (by omega)
        have e9 : lo1 X Y yr vw (i + 1) = if vw < X i ∨ yr < Y i then lo1 X Y yr vw i else (match lo1 X Y yr vw i with | none => some i | some b => if Y i < Y b then some b else some i) := rfl
        rw [if_neg (nnle hi' (by omega)), if_neg (show ¬ (16 : Int32) ≤ nI i from nnle (a := 16) (by omega) (by decide)), B_s0, Option.bind_some, B_aQ, a1, Option.bind_some]
        show ((gI (BH h0 n q nm st) a 4 0).bind _) = _
        rw [B_gI ha, a2, Option.bind_some, nI_1]
        by_cases c1 : vw < X i
        · rw [e9, if_pos (Or.inl c1)] at go
          rw [if_pos c1]
          exact go
        · rw [if_neg c1, B_gI ha, a3, Option.bind_some]
          by_cases c2 : yr < Y i
          · rw [e9, if_pos (Or.inr c2)] at go
            rw [if_pos c2]
            exact go
          · rw [e9, if_neg (fun z => z.elim c1 c2)] at go
            rw [if_neg c2, Option.bind_some]
            cases h : lo1 X Y yr vw i with
            | none =>
              rw [h] at go
              show (if Y i < -1 then _ else _) = _
              rw [if_neg (by lia), Option.bind_some]
              exact go
            | some b =>
              rw [h] at go
              show (if Y i < Y b then _ else _) = _
              have go' : f_X1_lawOf_L8 10000 (n + 10) yr vw (BH h0 n q nm st) m (loI (if Y i < Y b then some b else some i)) (match (if Y i < Y b then some b else some i : Option Nat) with | none => -1 | some b => Y b) (nI (i + 1)) = some (loI (lo1 X Y yr vw N)) := go
              by_cases d : Y i < Y b
              · rw [if_pos d] at go' ⊢
                exact go'
              · rw [if_neg d] at go' ⊢
                rw [Option.bind_some]
                exact go'
  unfold f_X1_lawOf
  have k := key 10000 0 (Nat.zero_le _) (by omega)
  have k' : f_X1_lawOf_L8 10000 (n + 10) yr vw (BH h0 n q nm st) 10000 (-1) (-1) 0 = _ := k
  rw [k']
  rfl
/-- what a law of this year says of a meeting: who, which line, the limit -/
def sy1 (fm : Nat → Int32) (yr : Int32) (V : Nat → Int32) (ls : List LnT) : Int32 × Int32 × Int32 := match ff1 (fun t => if t = 19 then yr else if t = 20 then (nl1 (fun t => if t = 19 then yr else if t = 20 then 0 else fm t) ls V 0).2 else fm t) (nl1 (fun t => if t = 19 then yr else if t = 20 then 0 else fm t) ls V 0).1 ls 0 with | none => (0, -1, (nl1 (fun t => if t = 19 then yr else if t = 20 then 0 else fm t) ls V 0).2) | some (w, k) => (nI w, nI k, (nl1 (fun t => if t = 19 then yr else if t = 20 then 0 else fm t) ls V 0).2)
theorem b_judge {Mt : Nat} {fm : Nat → Int32} (bk : BK h0 n N X Y LS) (q3 : q 3 = nI N) (hM : n + 14 ≤ Mt) (oM : zob h0 Mt 6 = true) (eF : ∀ x, 10 ≤ x → x ≤ 18 → f_X6_fact 10000 Mt (nI x) h0 = some (fm x)) : ∃ q' nm' st', f_X1_judge 10000 (n + 10) Mt yr vw (BH h0 n q nm st) = some (BH h0 n q' nm' st') ∧ q' 7 = loI (lo1 X Y yr vw N) ∧ (lo1 X Y yr vw N = none → q' 4 = 0 ∧ q' 5 = -1 ∧ q' 6 = 0) ∧ ∀ k, lo1 X Y yr vw N = some k → (q' 4, q' 5, q' 6) = sy1 fm yr nm (LS k) := by
  have lw := c_lawOf (q := upd (upd (upd q 4 0) 5 (-1)) 6 0) (nm := nm) (st := st) (yr := yr) (vw := vw) bk q3
  obtain ⟨hN, bk, by'⟩ := bk
  unfold f_X1_judge
  simp only [B_Q4, B_Q5, B_Q6, Option.bind_some, B_z, zif_t, lw, B_Q7, B_q7]
  cases h : lo1 X Y yr vw N with
  | none =>
    rw [if_pos (show upd (upd (upd (upd q 4 0) 5 (-1)) 6 0) 7 (loI none) 7 < 0 from (by decide : (-1 : Int32) < 0))]
    exact ⟨_, _, _, rfl, rfl, fun _ => ⟨rfl, rfl, rfl⟩, (fun k e => nomatch e)⟩
  | some k =>
    have hk := lo1_lt N k h
    obtain ⟨a, ha, a1, a2, a3, a4, a5, a6, a7, a8, a9⟩ := bk k hk
    have u7 : upd (upd (upd (upd q 4 0) 5 (-1)) 6 0) 7 (loI (some k)) 7 = nI k := rfl
    rw [u7, if_neg (nI_pos (by omega)), if_neg (show ¬ (16 : Int32) ≤ nI k from nnle (a := 16) (by omega) (by decide))]
    simp only [B_s0, Option.bind_some, B_aQ, a1, zopt]
    simp only [B_gR ha, a4, Option.bind_some, B_Q9, B_Q10, B_z, zif_t]
    generalize hq : upd (upd (upd (upd (upd (upd q 4 0) 5 (-1)) 6 0) 7 (loI (some k))) 9 yr) 10 0 = q0
    have z4 : q0 4 = 0 := by rw [← hq]; rfl
    have z5 : q0 5 = -1 := by rw [← hq]; rfl
    have z6 : q0 6 = 0 := by rw [← hq]; rfl
    have z7 : q0 7 = nI k := by rw [← hq]; rfl
    have z9 : q0 9 = yr := by rw [← hq]; rfl
    have zA : q0 10 = 0 := by rw [← hq]; rfl
    have f0 : FC q0 fm = fun t => if t = 19 then yr else if t = 20 then 0 else fm t := by
      funext t
      unfold FC
      rw [z9, zA]
    obtain ⟨q1, st1, e1, e2, e3⟩ := b_names (A := a + 1) (n := n) (h0 := h0) (by omega) hM a5 a6 oM eF (LS k) 0 0 0 10000 q0 nm st a8 (by omega) (by omega) (fun j hj => by rw [Nat.zero_add]; exact a7 j hj) (by omega) (by omega)
    rw [f0, z6] at e1 e2
    have e1' : f_X1_workNamesAndLimit_L5 10000 (n + 10) (a + 1) Mt 10000 0 0 (BH h0 n q0 nm st) = _ := e1
    unfold f_X1_workNamesAndLimit
    rw [e1', Option.bind_some]
    generalize hn : nl1 (fun t => if t = 19 then yr else if t = 20 then 0 else fm t) (LS k) nm 0 = VL at e2
    simp only [Option.bind_some, B_q6, e2, B_Q10, B_z, zif_t]
    have f1 : FC (upd q1 10 VL.2) fm = fun t => if t = 19 then yr else if t = 20 then VL.2 else fm t := by
      funext t
      unfold FC
      show (if t = 19 then q1 9 else if t = 20 then VL.2 else fm t) = _
      rw [e3 9 (by decide) (by decide), z9]
    obtain ⟨q2, st2, ⟨g1, g2⟩, g3⟩ := b_fault (A := a + 1) (n := n) (h0 := h0) (nm := VL.1) (by omega) hM a5 a6 oM eF (LS k) 0 0 0 10000 (upd q1 10 VL.2) st1 a8 (by omega) (by omega) (fun j hj => by rw [Nat.zero_add]; exact a7 j hj) (by omega) (by omega)
    rw [f1] at g1 g2
    have w4 : upd q1 10 VL.2 4 = 0 := (e3 4 (by decide) (by decide)).trans z4
    have w5 : upd q1 10 VL.2 5 = -1 := (e3 5 (by decide) (by decide)).trans z5
    have w6 : q2 6 = VL.2 := (g3 6 (by decide) (by decide) (by decide)).trans e2
    have w7 : q2 7 = nI k := (g3 7 (by decide) (by decide) (by decide)).trans ((e3 7 (by decide) (by decide)).trans z7)
    unfold f_X1_findFault
    have sy : ∀ k9, some k = some k9 → sy1 fm yr nm (LS k9) = (match ff1 (fun t => if t = 19 then yr else if t = 20 then VL.2 else fm t) VL.1 (LS k) 0 with | none => (0, -1, VL.2) | some (w, k) => (nI w, nI k, VL.2)) := fun k9 e9 => by
      have : k = k9 := Option.some.inj e9
      subst this
      unfold sy1
      rw [hn]
    cases hf : ff1 (fun t => if t = 19 then yr else if t = 20 then VL.2 else fm t) VL.1 (LS k) 0 with
    | none =>
      obtain ⟨x1, x2, x3⟩ := g1 hf
      have x1' : f_X1_findFault_L5 10000 (n + 10) (a + 1) Mt 10000 0 0 (BH h0 n (upd q1 10 VL.2) VL.1 st1) = _ := x1
      rw [x1']
      refine ⟨q2, VL.1, st2, rfl, w7, (fun e => nomatch e), fun k9 e9 => ?_⟩
      rw [sy k9 e9, hf, x2, x3, w4, w5, w6]
    | some wk =>
      obtain ⟨w, kk⟩ := wk
      obtain ⟨x1, x2, x3⟩ := g2 w kk hf
      have x1' : f_X1_findFault_L5 10000 (n + 10) (a + 1) Mt 10000 0 0 (BH h0 n (upd q1 10 VL.2) VL.1 st1) = _ := x1
      rw [x1']
      refine ⟨q2, VL.1, st2, rfl, w7, (fun e => nomatch e), fun k9 e9 => ?_⟩
      rw [sy k9 e9, hf, x2, x3, w6]
end BOOK
