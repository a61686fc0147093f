/-! what a code comes to -/
def isB2 (x : Nat) : Bool := decide (x = 30007 ∨ x = 30008 ∨ x = 30042 ∨ x = 30043 ∨ x = 30045 ∨ x = 30060 ∨ x = 30061)
/-- codes that can stand -/
def VC (M x : Nat) : Prop := x < 10000 ∨ (10010 ≤ x ∧ x ≤ 10020) ∨ (20000 ≤ x ∧ x < 20000 + M) ∨ x = 30009 ∨ isB2 x = true
def bin2 (x : Nat) (a b : Int32) : Int32 := if x = 30043 then a + b else if x = 30045 then a - b else if x = 30042 then a * b else if x = 30060 then (if b ≤ a then 0 else 1) else if x = 30061 then (if a = b then 1 else 0) else if x = 30007 then (if a = 0 then 0 else if b = 0 then 0 else 1) else (if a = 0 then (if b = 0 then 0 else 1) else 1)
def evS (F V : Nat → Int32) (x : Nat) (st : List Int32) : Option (List Int32) :=
  if x < 10000 then some (nI x :: st) else if x < 20000 then some (F (x - 10000) :: st) else if x < 30000 then some (V (x - 20000) :: st)
  else if x = 30009 then (match st with | [] => none | b :: st => some ((if b = 0 then 1 else 0) :: st))
  else (match st with | b :: a :: st => some (bin2 x a b :: st) | _ => none)
def ev (F V : Nat → Int32) : List Nat → List Int32 → Option (List Int32)
  | [], st => some st
  | x :: o, st => (evS F V x st).bind (ev F V o)
/-- how deep it is behind a code; no deeper than 32 anywhere -/
def dp (x t : Nat) : Nat := if x < 30000 then t + 1 else if x = 30009 then t else t - 1
def rq (x : Nat) : Nat := if x < 30000 then 0 else if x = 30009 then 1 else 2
def fd : List Nat → Nat → Nat
  | [], t => t
  | x :: o, t => fd o (dp x t)
def pd : List Nat → Nat → Prop
  | [], _ => True
  | x :: o, t => (rq x ≤ t ∧ dp x t ≤ 32) ∧ pd o (dp x t)
theorem fd_app : ∀ (o p : List Nat) (t : Nat), fd (o ++ p) t = fd p (fd o t) := by
  intro o
  induction o with
  | nil => intro p t; rfl
  | cons x o ih => intro p t; exact ih p (dp x t)
theorem pd_app : ∀ (o p : List Nat) (t : Nat), pd o t → pd p (fd o t) → pd (o ++ p) t := by
  intro o
  induction o with
  | nil => intro p t _ h; exact h
  | cons x o ih => intro p t h1 h2; exact ⟨h1.1, ih p (dp x t) h1.2 h2⟩
theorem ev_pd (F V : Nat → Int32) : ∀ (o : List Nat) (st : List Int32), pd o st.length → ∃ st', ev F V o st = some st' ∧ st'.length = fd o st.length := by
  intro o
  induction o with
  | nil => intro st _; exact ⟨st, rfl, rfl⟩
  | cons x o ih =>
    intro st h
    have key : ∃ s1, evS F V x st = some s1 ∧ s1.length = dp x st.length := by
      unfold evS dp
      by_cases h1 : x < 10000
      · rw [if_pos h1, if_pos (show x < 30000 by omega)]
        exact ⟨_, rfl, rfl⟩
      · rw [if_neg h1]
        by_cases h2 : x < 20000
        · rw [if_pos h2, if_pos (show x < 30000 by omega)]
          exact ⟨_, rfl, rfl⟩
        · rw [if_neg h2]
          by_cases h3 : x < 30000
          · rw [if_pos h3, if_pos h3]
            exact ⟨_, rfl, rfl⟩
          · rw [if_neg h3, if_neg h3]
            have q := h.1.1
            unfold rq at q
            rw [if_neg h3] at q
            by_cases h4 : x = 30009
            · rw [if_pos h4, if_pos h4]
              rw [if_pos h4] at q
              match st, q with
              | b :: st, _ => exact ⟨_, rfl, rfl⟩
            · rw [if_neg h4, if_neg h4]
              rw [if_neg h4] at q
              match st, q with
              | b :: a :: st, _ => exact ⟨_, rfl, rfl⟩
    obtain ⟨s1, e1, e2⟩ := key
    have h2 := h.2
    rw [← e2] at h2
    obtain ⟨s2, e3, e4⟩ := ih s1 h2
    refine ⟨s2, ?_, ?_⟩
    · show (evS F V x st).bind (ev F V o) = _
      rw [e1]
      exact e3
    · rw [e4, e2]
      rfl
/-! an expression's code -/
def bn : List Nat → Nat
  | [] => 0
  | t :: W => (if 0 < rk t then 1 else 0) + bn W
theorem bn_le : ∀ W : List Nat, bn W ≤ W.length := by
  intro W
  induction W with
  | nil => exact Nat.le_refl _
  | cons t W ih =>
    show (if 0 < rk t then 1 else 0) + bn W ≤ W.length + 1
    by_cases h : 0 < rk t
    · rw [if_pos h]; omega
    · rw [if_neg h]; omega
theorem op_ok {t : Nat} (h : 0 < rk t) : isB2 (30000 + t) = true := by
  refine decide_eq_true ?_
  rcases rk_what t with e | e | e | e
  · omega
  · rcases e with e | e <;> subst e <;> decide
  · rcases e with e | e <;> subst e <;> decide
  · rcases e with e | e | e <;> subst e <;> decide
theorem rqb {t : Nat} (h : 0 < rk t) : rq (30000 + t) = 2 ∧ ∀ d, dp (30000 + t) d = d - 1 := by
  have n9 : ¬ 30000 + t = 30009 := fun e => by
    have : t = 9 := by omega
    rw [this] at h
    exact absurd h (by decide)
  unfold rq dp
  rw [if_neg (by omega), if_neg n9]
  exact ⟨rfl, fun d => by rw [if_neg (by omega), if_neg n9]⟩
theorem oR_pd {M r : Nat} (h1 : 1 ≤ r) : ∀ W : List Nat, bn W + 1 ≤ 32 → pd (oR r W) (bn W + 1) ∧ fd (oR r W) (bn W + 1) = bn (popR r W) + 1 ∧ ∀ x, x ∈ oR r W → VC M x := by
  intro W
  induction W with
  | nil => intro _; exact ⟨trivial, rfl, fun x hx => nomatch hx⟩
  | cons t W ih =>
    intro hl
    show pd (if r ≤ rk t then (30000 + t) :: oR r W else []) _ ∧ fd (if r ≤ rk t then (30000 + t) :: oR r W else []) _ = bn (if r ≤ rk t then popR r W else t :: W) + 1 ∧ ∀ x, x ∈ (if r ≤ rk t then (30000 + t) :: oR r W else []) → VC M x
    by_cases h : r ≤ rk t
    · rw [if_pos h, if_pos h]
      have p : 0 < rk t := by omega
      have e : bn (t :: W) = 1 + bn W := by
        show (if 0 < rk t then 1 else 0) + bn W = _
        rw [if_pos p]
      rw [e] at hl ⊢
      obtain ⟨r1, r2⟩ := rqb p
      obtain ⟨i1, i2, i3⟩ := ih (by omega)
      have ed : dp (30000 + t) (1 + bn W + 1) = bn W + 1 := by rw [r2]; omega
      refine ⟨⟨⟨by rw [r1]; omega, by rw [ed]; omega⟩, by rw [ed]; exact i1⟩, ?_, fun x hx => ?_⟩
      · show fd (oR r W) (dp (30000 + t) (1 + bn W + 1)) = _
        rw [ed]
        exact i2
      · rcases List.mem_cons.mp hx with e | e
        · rw [e]
          exact Or.inr (Or.inr (Or.inr (Or.inr (op_ok p))))
        · exact i3 x e
    · rw [if_neg h, if_neg h]
      exact ⟨trivial, rfl, fun x hx => nomatch hx⟩
theorem oN_pd {M : Nat} : ∀ (W : List Nat) (t : Nat), 1 ≤ t → t ≤ 32 → pd (oN W) t ∧ fd (oN W) t = t ∧ (∀ x, x ∈ oN W → VC M x) ∧ bn (popN W) = bn W := by
  intro W
  induction W with
  | nil => intro t _ _; exact ⟨trivial, rfl, fun x hx => (nomatch hx), rfl⟩
  | cons u W ih =>
    intro t h1 h2
    show pd (if u = 9 then 30009 :: oN W else []) t ∧ fd (if u = 9 then 30009 :: oN W else []) t = t ∧ (∀ x, x ∈ (if u = 9 then 30009 :: oN W else []) → VC M x) ∧ bn (if u = 9 then popN W else u :: W) = bn (u :: W)
    by_cases h : u = 9
    · rw [if_pos h, if_pos h]
      obtain ⟨i1, i2, i3, i4⟩ := ih t h1 h2
      refine ⟨⟨⟨h1, h2⟩, i1⟩, i2, fun x hx => ?_, ?_⟩
      · rcases List.mem_cons.mp hx with e | e
        · rw [e]
          exact Or.inr (Or.inr (Or.inr (Or.inl rfl)))
        · exact i3 x e
      · rw [i4]
        subst h
        show bn W = (if 0 < rk 9 then 1 else 0) + bn W
        rw [if_neg (by decide), Nat.zero_add]
    · rw [if_neg h, if_neg h]
      exact ⟨trivial, rfl, fun x hx => (nomatch hx), rfl⟩
theorem bn_clB : ∀ W : List Nat, bn (clB W) = bn W := by
  intro W
  cases W with
  | nil => rfl
  | cons u W =>
    show bn (if u = 40 then W else u :: W) = _
    by_cases h : u = 40
    · rw [if_pos h]
      subst h
      show bn W = (if 0 < rk 40 then 1 else 0) + bn W
      rw [if_neg (by decide), Nat.zero_add]
    · rw [if_neg h]
/-- what is written so far can be worked -/
def PDI (M : Nat) (s : RdS) (o : List Nat) : Prop := pd o 0 ∧ fd o 0 = bn s.2.1 + (if s.2.2.1 = true then 0 else 1) ∧ ∀ x, x ∈ o → VC M x
theorem len24 {W : List Nat} (ok : okW W) (ho : opens W ≤ 4) : W.length ≤ 24 := by
  have a := okW_len W ok
  have b : rkT W ≤ 4 := by
    cases W with
    | nil => exact Nat.zero_le _
    | cons u W => exact rk_4 u
  omega
theorem PDI_step {M : Nat} {c : Nat → Nat} {kn : Nat → Bool} {lf : Nat → Nat} (hl : ∀ i, isE (c i) = true → (c i = 200 → kn i = true) → lf i < 30000 ∧ VC M (lf i)) {s s' : RdS} {o : List Nat} (e : rdSt c kn s = some s') (z : s'.2.2.2 = 0) (ok : okW s.2.1) (ho : opens s.2.1 ≤ 4) (p : PDI M s o) : PDI M s' (o ++ wSt c lf s) := by
  obtain ⟨i, W, due, f⟩ := s
  have l24 := len24 ok ho
  have bl := bn_le W
  have l24 : W.length ≤ 24 := l24
  obtain ⟨p1, p2, p3⟩ := p
  have p2 : fd o 0 = bn W + (if due = true then 0 else 1) := p2
  unfold rdSt at e
  by_cases f0 : ¬ f = 0
  · rw [if_pos f0] at e
    cases e
  · rw [if_neg f0] at e
    have e : (if due = true then some (if isO (c i) = false ∧ isE (c i) = false then (i, W, true, 1) else if c i = 200 ∧ kn i = false then (i, W, true, 2) else if 4 ≤ opens W then (i, W, true, 5) else if isO (c i) = true then (i + 1, c i :: W, true, 0) else (i + 1, popN W, false, 0)) else if c i = 41 ∧ 0 < opens W then some (i + 1, popN (clB (popR 1 W)), false, 0) else if 0 < rk (c i) then some (if rk (c i) = 2 ∧ rkT (popR 3 W) = 2 then (i, popR 3 W, false, 1) else (i + 1, c i :: popR (rk (c i)) W, true, 0)) else none) = some s' := e
    have ew : wSt c lf (i, W, due, f) = if due = true then (if isO (c i) = true then [] else lf i :: oN W) else if c i = 41 ∧ 0 < opens W then oR 1 W ++ oN (clB (popR 1 W)) else oR (rk (c i)) W := rfl
    rw [ew]
    by_cases d : due = true
    · rw [if_pos d] at e p2 ⊢
      by_cases a1 : isO (c i) = false ∧ isE (c i) = false
      · rw [if_pos a1] at e
        cases e
        exact absurd z (by simp)
      · rw [if_neg a1] at e
        by_cases a2 : c i = 200 ∧ kn i = false
        · rw [if_pos a2] at e
          cases e
          exact absurd z (by simp)
        · rw [if_neg a2] at e
          by_cases a3 : 4 ≤ opens W
          · rw [if_pos a3] at e
            cases e
            exact absurd z (by simp)
          · rw [if_neg a3] at e
            by_cases a4 : isO (c i) = true
            · rw [if_pos a4] at e ⊢
              cases e
              rw [List.append_nil]
              refine ⟨p1, ?_, p3⟩
              show fd o 0 = (if 0 < rk (c i) then 1 else 0) + bn W + 0
              have r0 : ¬ 0 < rk (c i) := by
                rcases of_decide_eq_true a4 with h | h <;> rw [h] <;> decide
              rw [if_neg r0, p2]
              omega
            · rw [if_neg a4] at e ⊢
              cases e
              have iE : isE (c i) = true := by
                cases h9 : isE (c i)
                · exact absurd ⟨by cases h8 : isO (c i); rfl; exact absurd h8 a4, h9⟩ a1
                · rfl
              obtain ⟨v1, v2⟩ := hl i iE (fun h => by
                cases h9 : kn i
                · exact absurd ⟨h, h9⟩ a2
                · rfl)
              have dl : dp (lf i) (bn W) = bn W + 1 := if_pos v1
              obtain ⟨n1, n2, n3, n4⟩ := oN_pd (M := M) W (bn W + 1) (by omega) (by omega)
              refine ⟨pd_app _ _ _ p1 ?_, ?_, fun x hx => ?_⟩
              · rw [p2, Nat.add_zero]
                refine ⟨⟨?_, by rw [dl]; omega⟩, by rw [dl]; exact n1⟩
                unfold rq
                rw [if_pos v1]
                exact Nat.zero_le _
              · rw [fd_app, p2, Nat.add_zero]
                show fd (oN W) (dp (lf i) (bn W)) = bn (popN W) + 1
                rw [dl, n2, n4]
              · rcases List.mem_append.mp hx with h | h
                · exact p3 x h
                · rcases List.mem_cons.mp h with h | h
                  · rw [h]; exact v2
                  · exact n3 x h
    · rw [if_neg d] at e p2 ⊢
      by_cases a1 : c i = 41 ∧ 0 < opens W
      · rw [if_pos a1] at e ⊢
        cases e
        obtain ⟨r1, r2, r3⟩ := oR_pd (M := M) (r := 1) (by decide) W (by omega)
        have b1 : bn (popR 1 W) ≤ 24 := by
          have o1 := okW_popR (r := 1) W ok
          have o2 := len24 o1.1 (by rw [opens_popR (by decide)]; exact ho)
          have := bn_le (popR 1 W)
          omega
        obtain ⟨n1, n2, n3, n4⟩ := oN_pd (M := M) (clB (popR 1 W)) (bn (popR 1 W) + 1) (by omega) (by omega)
        refine ⟨pd_app _ _ _ p1 ?_, ?_, fun x hx => ?_⟩
        · rw [p2]
          refine pd_app _ _ _ r1 ?_
          rw [r2]
          exact n1
        · rw [fd_app, p2, fd_app, r2, n2]
          show _ = bn (popN (clB (popR 1 W))) + 1
          rw [n4, bn_clB]
        · rcases List.mem_append.mp hx with h | h
          · exact p3 x h
          · rcases List.mem_append.mp h with h | h
            · exact r3 x h
            · exact n3 x h
      · rw [if_neg a1] at e ⊢
        by_cases a2 : 0 < rk (c i)
        · rw [if_pos a2] at e
          by_cases a3 : rk (c i) = 2 ∧ rkT (popR 3 W) = 2
          · rw [if_pos a3] at e
            cases e
            exact absurd z (by simp)
          · rw [if_neg a3] at e
            cases e
            obtain ⟨r1, r2, r3⟩ := oR_pd (M := M) (r := rk (c i)) (by omega) W (by omega)
            refine ⟨pd_app _ _ _ p1 (by rw [p2]; exact r1), ?_, fun x hx => ?_⟩
            · rw [fd_app, p2, r2]
              show _ = (if 0 < rk (c i) then 1 else 0) + bn (popR (rk (c i)) W) + 0
              rw [if_pos a2]
              omega
            · rcases List.mem_append.mp hx with h | h
              · exact p3 x h
              · exact r3 x h
        · rw [if_neg a2] at e
          cases e
theorem PDI_run {M : Nat} {c : Nat → Nat} {kn : Nat → Bool} {lf : Nat → Nat} (hl : ∀ i, isE (c i) = true → (c i = 200 → kn i = true) → lf i < 30000 ∧ VC M (lf i)) : ∀ (m : Nat) (s : RdS) (o : List Nat), okW s.2.1 → opens s.2.1 ≤ 4 → PDI M s o → (rn c kn m s).2.2.2 = 0 → PDI M (rn c kn m s) (o ++ wR c kn lf m s) ∧ okW (rn c kn m s).2.1 ∧ opens (rn c kn m s).2.1 ≤ 4 := by
  intro m
  induction m with
  | zero => intro s o ok ho p _; exact ⟨by show PDI M s (o ++ []); rw [List.append_nil]; exact p, ok, ho⟩
  | succ m ih =>
    intro s o ok ho p z
    cases e : rdSt c kn s with
    | none =>
      rw [rn_none e, wR_none e, List.append_nil]
      exact ⟨p, ok, ho⟩
    | some s' =>
      rw [rn_some e] at z ⊢
      rw [wR_some e, ← List.append_assoc]
      have o2 := okW_step e ok ho
      have z' : s'.2.2.2 = 0 := by
        by_cases h : s'.2.2.2 = 0
        · exact h
        · have st : rdSt c kn s' = none := by
            unfold rdSt
            rw [if_pos h]
          rw [rn_none st] at z
          exact absurd z h
      exact ih s' _ o2.1 o2.2 (PDI_step hl e z' ok ho p) z
/-- an expression's code comes to one number -/
theorem exp_ok {M : Nat} {c : Nat → Nat} {kn : Nat → Bool} {lf : Nat → Nat} {K F i : Nat} (hl : ∀ i, isE (c i) = true → (c i = 200 → kn i = true) → lf i < 30000 ∧ VC M (lf i)) (hE : c K = 202) (hF : K < F) (hi : i ≤ K) (e0 : (qAll c (qPart c kn F 6 0) F (i, 0)).2 = 0) (r0 : rk (c (qAll c (qPart c kn F 6 0) F (i, 0)).1) = 0) : pd (qAllO c (qPart c kn F 6 0) (qPartO c kn lf F 6 0) F i) 0 ∧ fd (qAllO c (qPart c kn F 6 0) (qPartO c kn lf F 6 0) F i) 0 = 1 ∧ ∀ x, x ∈ qAllO c (qPart c kn F 6 0) (qPartO c kn lf F 6 0) F i → VC M x := by
  obtain ⟨k, X, o, b1, b2, b3⟩ := rdo_expr (lf := lf) hE hF hi e0 r0
  have b4 := b2 0
  obtain ⟨p, ok, ho⟩ := PDI_run (M := M) (lf := lf) hl (0 + k) (i, [], true, 0) [] trivial (Nat.zero_le _) ⟨trivial, rfl, fun x hx => nomatch hx⟩ (by rw [b4.1])
  rw [b4.1, b4.2] at p
  rw [b4.1] at ok ho
  have p : PDI M ((qAll c (qPart c kn F 6 0) F (i, 0)).1, X, false, 0) o := p
  have ok : okW X := ok
  have ho : opens X ≤ 4 := ho
  obtain ⟨p1, p2, p3⟩ := p
  have p2 : fd o 0 = bn X + 1 := p2
  have l24 := len24 ok ho
  have bl := bn_le X
  obtain ⟨r1, r2, r3⟩ := oR_pd (M := M) (r := 1) (by decide) X (by omega)
  have oX : opens X = 0 := by
    obtain ⟨-, -, k', X', -, h1, h2⟩ := (rdl_expr (kn := kn) hE hF hi).1 e0
    rcases h2 with ⟨-, h2⟩ | ⟨h2, -⟩
    · have a := h2 k
      have b := (b2 k').1
      rw [Nat.add_comm k k'] at a
      have c9 := a.symm.trans b
      have : X' = X := congrArg (fun s : RdS => s.2.1) c9
      rw [← this]
      exact h1
    · exact absurd r0 h2
  have e1 : bn (popR 1 X) = 0 := by
    have : ∀ W : List Nat, opens W = 0 → okW W → bn (popR 1 W) = 0 := by
      intro W
      induction W with
      | nil => intro _ _; rfl
      | cons u W ih =>
        intro h1 h2
        show bn (if 1 ≤ rk u then popR 1 W else u :: W) = 0
        by_cases h : 1 ≤ rk u
        · rw [if_pos h]
          rw [opens_op h] at h1
          exact ih h1 h2.1
        · exfalso
          have h3 : (u = 9 ∨ u = 40) ∨ rkT W < rk u := h2.2
          have o : opens (u :: W) = (if u = 9 ∨ u = 40 then 1 else 0) + opens W := rfl
          rcases h3 with h3 | h3
          · rw [if_pos h3] at o
            omega
          · omega
    exact this X oX ok
  rw [b3]
  refine ⟨pd_app _ _ _ p1 (by rw [p2]; exact r1), ?_, fun x hx => ?_⟩
  · rw [fd_app, p2, r2, e1]
  · rcases List.mem_append.mp hx with h | h
    · exact p3 x h
    · exact r3 x h
