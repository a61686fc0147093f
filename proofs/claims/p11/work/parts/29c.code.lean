/-! what is written of an expression: class and reference write the same -/
def opV (V : List Nat) : List Nat := V.map (fun t => 30000 + t)
def oR (r : Nat) : List Nat → List Nat
  | [] => []
  | t :: W => if r ≤ rk t then (30000 + t) :: oR r W else []
def oN : List Nat → List Nat
  | [] => []
  | t :: W => if t = 9 then 30009 :: oN W else []
/-- what a step writes -/
def wSt (c : Nat → Nat) (lf : Nat → Nat) (s : RdS) : List Nat :=
  if s.2.2.1 = true then (if isO (c s.1) = true then [] else lf s.1 :: oN s.2.1)
  else if c s.1 = 41 ∧ 0 < opens s.2.1 then oR 1 s.2.1 ++ oN (clB (popR 1 s.2.1))
  else oR (rk (c s.1)) s.2.1
def wR (c : Nat → Nat) (kn : Nat → Bool) (lf : Nat → Nat) : Nat → RdS → List Nat
  | 0, _ => []
  | n + 1, s => match rdSt c kn s with
    | none => []
    | some s' => wSt c lf s ++ wR c kn lf n s'
theorem wR_some {c : Nat → Nat} {kn : Nat → Bool} {lf : Nat → Nat} {s s' : RdS} (e : rdSt c kn s = some s') (m : Nat) : wR c kn lf (m + 1) s = wSt c lf s ++ wR c kn lf m s' := by
  show (match rdSt c kn s with | none => [] | some s' => wSt c lf s ++ wR c kn lf m s') = _
  rw [e]
theorem wR_none {c : Nat → Nat} {kn : Nat → Bool} {lf : Nat → Nat} {s : RdS} (e : rdSt c kn s = none) : ∀ m, wR c kn lf m s = [] := by
  intro m
  cases m with
  | zero => rfl
  | succ m =>
    show (match rdSt c kn s with | none => [] | some s' => wSt c lf s ++ wR c kn lf m s') = _
    rw [e]
/-- it comes to s', a token a step, and writes o -/
def RcO (c : Nat → Nat) (kn : Nat → Bool) (lf : Nat → Nat) (s s' : RdS) (o : List Nat) : Prop := ∃ k, s.1 + k = s'.1 ∧ ∀ m, rn c kn (m + k) s = rn c kn m s' ∧ wR c kn lf (m + k) s = o ++ wR c kn lf m s'
theorem RcO_trans {c : Nat → Nat} {kn : Nat → Bool} {lf : Nat → Nat} {s t u : RdS} {o p : List Nat} (a : RcO c kn lf s t o) (b : RcO c kn lf t u p) : RcO c kn lf s u (o ++ p) := by
  obtain ⟨k, e1, e2⟩ := a
  obtain ⟨l, f1, f2⟩ := b
  refine ⟨l + k, by omega, fun m => ⟨?_, ?_⟩⟩
  · rw [← Nat.add_assoc, (e2 _).1, (f2 m).1]
  · rw [← Nat.add_assoc, (e2 _).2, (f2 m).2, List.append_assoc]
theorem RcO_1 {c : Nat → Nat} {kn : Nat → Bool} {lf : Nat → Nat} {s s' : RdS} (e : rdSt c kn s = some s') (h : s'.1 = s.1 + 1) : RcO c kn lf s s' (wSt c lf s) := ⟨1, h.symm, fun m => ⟨rn_some e m, wR_some e m⟩⟩
theorem oR_app {r : Nat} {V W : List Nat} (g : GV r V) (h : rkT W < r) : oR r (V ++ W) = opV V := by
  induction V with
  | nil =>
    cases W with
    | nil => rfl
    | cons t W =>
      show (if r ≤ rk t then _ else []) = _
      have h' : rk t < r := h
      rw [if_neg (by omega)]
      rfl
  | cons t V ih =>
    show (if r ≤ rk t then (30000 + t) :: oR r (V ++ W) else []) = _
    rw [if_pos (g t List.mem_cons_self), ih (fun u hu => g u (List.mem_cons_of_mem _ hu))]
    rfl
theorem st_opO {c : Nat → Nat} {kn : Nat → Bool} {lf : Nat → Nat} {i r : Nat} {V W : List Nat} (h1 : 1 ≤ r) (ht : rk (c i) = r) (g : GV r V) (hw : rkT W < r) (no : r = 2 → ¬ rkT (popR 3 (V ++ W)) = 2) : RcO c kn lf (i, V ++ W, false, 0) (i + 1, c i :: W, true, 0) (opV V) := by
  have p := rk_pos (show 1 ≤ rk (c i) by omega)
  have e : rdSt c kn (i, V ++ W, false, 0) = some (i + 1, c i :: W, true, 0) := by
    unfold rdSt
    rw [if_neg (by simp), if_neg (by simp), if_neg (fun z => p.2.2 z.1), if_pos (show 0 < rk (c i) by omega), if_neg (fun z => no (by rw [← ht]; exact z.1) z.2)]
    show some (i + 1, c i :: popR (rk (c i)) (V ++ W), true, 0) = _
    rw [ht, popR_app g, popR_stop hw]
  have w : wSt c lf (i, V ++ W, false, 0) = opV V := by
    unfold wSt
    rw [if_neg (by simp), if_neg (fun z => p.2.2 z.1)]
    show oR (rk (c i)) (V ++ W) = _
    rw [ht]
    exact oR_app g hw
  rw [← w]
  exact RcO_1 e rfl
/-! what the reference writes -/
def qStarO (c : Nat → Nat) (tp : RfS → RfS) (to : Nat → List Nat) : Nat → RfS → List Nat
  | 0, _ => []
  | n + 1, s => if s.2 = 0 ∧ c s.1 = 42 then to (s.1 + 1) ++ [30042] ++ qStarO c tp to n (tp (s.1 + 1, 0)) else []
def qProdO (c : Nat → Nat) (tp : RfS → RfS) (to : Nat → List Nat) (F i : Nat) : List Nat := to i ++ qStarO c tp to F (tp (i, 0))
def qPlusO (c : Nat → Nat) (tp : RfS → RfS) (to : Nat → List Nat) (F : Nat) : Nat → RfS → List Nat
  | 0, _ => []
  | n + 1, s => if s.2 = 0 ∧ (c s.1 = 43 ∨ c s.1 = 45) then qProdO c tp to F (s.1 + 1) ++ [30000 + c s.1] ++ qPlusO c tp to F n (qProd c tp F (s.1 + 1, 0)) else []
def qSumO (c : Nat → Nat) (tp : RfS → RfS) (to : Nat → List Nat) (F i : Nat) : List Nat := qProdO c tp to F i ++ qPlusO c tp to F F (qProd c tp F (i, 0))
def qTestO (c : Nat → Nat) (tp : RfS → RfS) (to : Nat → List Nat) (F i : Nat) : List Nat := if (qSum c tp F (i, 0)).2 = 0 ∧ (c (qSum c tp F (i, 0)).1 = 60 ∨ c (qSum c tp F (i, 0)).1 = 61) then qSumO c tp to F i ++ qSumO c tp to F ((qSum c tp F (i, 0)).1 + 1) ++ [30000 + c (qSum c tp F (i, 0)).1] else qSumO c tp to F i
def qAndO (c : Nat → Nat) (tp : RfS → RfS) (to : Nat → List Nat) (F : Nat) : Nat → RfS → List Nat
  | 0, _ => []
  | n + 1, s => if s.2 = 0 ∧ (c s.1 = 7 ∨ c s.1 = 8) then qTestO c tp to F (s.1 + 1) ++ [30000 + c s.1] ++ qAndO c tp to F n (qTest c tp F (s.1 + 1, 0)) else []
def qAllO (c : Nat → Nat) (tp : RfS → RfS) (to : Nat → List Nat) (F i : Nat) : List Nat := qTestO c tp to F i ++ qAndO c tp to F F (qTest c tp F (i, 0))
def qPartO (c : Nat → Nat) (kn : Nat → Bool) (lf : Nat → Nat) (F : Nat) : Nat → Nat → Nat → List Nat
  | 0, _, _ => []
  | n + 1, d, i => if c i = 9 then qPartO c kn lf F n (d + 1) (i + 1) ++ [30009] else if c i = 40 then qAllO c (qPart c kn F n (d + 1)) (qPartO c kn lf F n (d + 1)) F (i + 1) else [lf i]
theorem qStar_f {c : Nat → Nat} {tp : RfS → RfS} {p : RfS} (h : ¬ p.2 = 0) : ∀ n, qStar c tp n p = p := by
  intro n
  cases n with
  | zero => rfl
  | succ n => exact if_neg (fun z => h z.1)
theorem qPlus_f {c : Nat → Nat} {tp : RfS → RfS} {F : Nat} {p : RfS} (h : ¬ p.2 = 0) : ∀ n, qPlus c tp F n p = p := by
  intro n
  cases n with
  | zero => rfl
  | succ n => exact if_neg (fun z => h z.1)
theorem qAnd_f {c : Nat → Nat} {tp : RfS → RfS} {F : Nat} {p : RfS} (h : ¬ p.2 = 0) : ∀ n, qAnd c tp F n p = p := by
  intro n
  cases n with
  | zero => rfl
  | succ n => exact if_neg (fun z => h z.1)
section SIMO
variable {c : Nat → Nat} {kn : Nat → Bool} {lf : Nat → Nat} {K d F : Nat} {tp : RfS → RfS} {to : Nat → List Nat}
def TPO (c : Nat → Nat) (kn : Nat → Bool) (lf : Nat → Nat) (K d : Nat) (tp : RfS → RfS) (to : Nat → List Nat) : Prop := ∀ (i : Nat) (W : List Nat), i ≤ K → opens W = d → (tp (i, 0)).2 = 0 → i < (tp (i, 0)).1 ∧ (tp (i, 0)).1 ≤ K ∧ RcO c kn lf (i, W, true, 0) ((tp (i, 0)).1, popN W, false, 0) (to i ++ oN W)
def LVO (c : Nat → Nat) (kn : Nat → Bool) (lf : Nat → Nat) (K r : Nat) (E : Nat → List Nat → Prop) (i : Nat) (W : List Nat) (q : RfS) (P : List Nat) : Prop := q.2 = 0 → i < q.1 ∧ q.1 ≤ K ∧ ∃ V o, GV r V ∧ RcO c kn lf (i, W, true, 0) (q.1, V ++ W, false, 0) o ∧ P = o ++ opV V ∧ E (c q.1) (V ++ W)
theorem rdo_star (hE : c K = 202) (H : TPO c kn lf K d tp to) {W : List Nat} (oW : opens W = d) (hw : rkT W < 4) {i0 : Nat} : ∀ (n : Nat) (q : RfS) (P : List Nat), K - q.1 < n → LVO c kn lf K 4 (fun _ _ => True) i0 W q P → LVO c kn lf K 4 (fun t _ => ¬ t = 42) i0 W (qStar c tp n q) (P ++ qStarO c tp to n q) := by
  intro n
  induction n with
  | zero => intro q P h; exact absurd h (by omega)
  | succ n ih =>
    intro q P hn h0
    show LVO c kn lf K 4 (fun t _ => ¬ t = 42) i0 W (if q.2 = 0 ∧ c q.1 = 42 then qStar c tp n (tp (q.1 + 1, 0)) else q) (P ++ (if q.2 = 0 ∧ c q.1 = 42 then to (q.1 + 1) ++ [30042] ++ qStarO c tp to n (tp (q.1 + 1, 0)) else []))
    by_cases z : q.2 = 0 ∧ c q.1 = 42
    · rw [if_pos z, if_pos z]
      obtain ⟨a1, a2, V, o, a3, a4, a5, -⟩ := h0 z.1
      have lt : q.1 < K := lt_K hE a2 (by rw [z.2]; decide)
      have r42 : rk (c q.1) = 4 := by rw [z.2]; rfl
      have s := RcO_trans a4 (st_opO (kn := kn) (lf := lf) (r := 4) (by decide) r42 a3 hw (fun z9 => absurd z9 (by decide)))
      rw [z.2] at s
      by_cases e0 : (tp (q.1 + 1, 0)).2 = 0
      · obtain ⟨b1, b2, b3⟩ := H (q.1 + 1) (42 :: W) (by omega) ((opens_op (by decide)).trans oW) e0
        have b3' : RcO c kn lf (q.1 + 1, 42 :: W, true, 0) ((tp (q.1 + 1, 0)).1, [42] ++ W, false, 0) (to (q.1 + 1) ++ []) := b3
        rw [List.append_nil] at b3'
        have go := ih (tp (q.1 + 1, 0)) (P ++ (to (q.1 + 1) ++ [30042])) (by omega) (fun _ => ⟨by omega, b2, [42], _, fun u hu => by
          rw [List.mem_singleton.mp hu]
          exact Nat.le_refl 4, RcO_trans s b3', by
            rw [a5]
            simp [opV], trivial⟩)
        rw [List.append_assoc] at go
        exact go
      · rw [qStar_f e0]
        exact fun e => absurd e e0
    · rw [if_neg z, if_neg z, List.append_nil]
      intro e0
      obtain ⟨a1, a2, V, o, a3, a4, a5, -⟩ := h0 e0
      exact ⟨a1, a2, V, o, a3, a4, a5, fun z9 => z ⟨e0, z9⟩⟩
theorem rdo_prod (hE : c K = 202) (hF : K < F) (H : TPO c kn lf K d tp to) {W : List Nat} (oW : opens W = d) (hw : rkT W < 4) (h9W : h9 W) {i : Nat} (hi : i ≤ K) : LVO c kn lf K 4 (fun t _ => ¬ t = 42) i W (qProd c tp F (i, 0)) (qProdO c tp to F i) := by
  refine rdo_star hE H oW hw F (tp (i, 0)) (to i) (by omega) (fun e0 => ?_)
  obtain ⟨b1, b2, b3⟩ := H i W hi oW e0
  have n9 : oN W = [] := by
    cases W with
    | nil => rfl
    | cons t W => exact if_neg h9W
  rw [popN_h9 h9W, n9, List.append_nil] at b3
  exact ⟨b1, b2, [], to i, GV_nil 4, b3, (List.append_nil _).symm, trivial⟩
theorem rdo_plus (hE : c K = 202) (hF : K < F) (H : TPO c kn lf K d tp to) {W : List Nat} (oW : opens W = d) (hw : rkT W < 3) {i0 : Nat} : ∀ (n : Nat) (q : RfS) (P : List Nat), K - q.1 < n → LVO c kn lf K 3 (fun t _ => ¬ t = 42) i0 W q P → LVO c kn lf K 3 (fun t _ => ¬ (t = 42 ∨ t = 43 ∨ t = 45)) i0 W (qPlus c tp F n q) (P ++ qPlusO c tp to F n q) := by
  intro n
  induction n with
  | zero => intro q P h; exact absurd h (by omega)
  | succ n ih =>
    intro q P hn h0
    show LVO c kn lf K 3 (fun t _ => ¬ (t = 42 ∨ t = 43 ∨ t = 45)) i0 W (if q.2 = 0 ∧ (c q.1 = 43 ∨ c q.1 = 45) then qPlus c tp F n (qProd c tp F (q.1 + 1, 0)) else q) (P ++ (if q.2 = 0 ∧ (c q.1 = 43 ∨ c q.1 = 45) then qProdO c tp to F (q.1 + 1) ++ [30000 + c q.1] ++ qPlusO c tp to F n (qProd c tp F (q.1 + 1, 0)) else []))
    by_cases z : q.2 = 0 ∧ (c q.1 = 43 ∨ c q.1 = 45)
    · rw [if_pos z, if_pos z]
      obtain ⟨a1, a2, V, o, a3, a4, a5, a6⟩ := h0 z.1
      have lt : q.1 < K := lt_K hE a2 (by rcases z.2 with e | e <;> rw [e] <;> decide)
      have r3 := rk_pm z.2
      have s := RcO_trans a4 (st_opO (kn := kn) (lf := lf) (r := 3) (by decide) r3 a3 hw (fun z9 => absurd z9 (by decide)))
      have t := rdo_prod (W := c q.1 :: W) hE hF H ((opens_op (by omega)).trans oW) (by show rk (c q.1) < 4; omega) (rk_pos (by omega)).1 (i := q.1 + 1) (by omega)
      generalize qProd c tp F (q.1 + 1, 0) = p at t ⊢
      by_cases e0 : p.2 = 0
      · obtain ⟨b1, b2, V', o', b3, b4, b5, b6⟩ := t e0
        have ap : V' ++ [c q.1] ++ W = V' ++ (c q.1 :: W) := by rw [List.append_assoc]; rfl
        have go := ih p (P ++ (qProdO c tp to F (q.1 + 1) ++ [30000 + c q.1])) (by omega) (fun _ => ⟨by omega, b2, V' ++ [c q.1], _, GV_app (GV_mono (by decide) b3) (by omega), by rw [ap]; exact RcO_trans s b4, by
          rw [a5, b5]
          simp [opV], b6⟩)
        rw [List.append_assoc] at go
        exact go
      · rw [qPlus_f e0]
        exact fun e => absurd e e0
    · rw [if_neg z, if_neg z, List.append_nil]
      intro e0
      obtain ⟨a1, a2, V, o, a3, a4, a5, a6⟩ := h0 e0
      refine ⟨a1, a2, V, o, a3, a4, a5, fun z9 => ?_⟩
      rcases z9 with z9 | z9
      · exact a6 z9
      · exact z ⟨e0, z9⟩
theorem rdo_sum (hE : c K = 202) (hF : K < F) (H : TPO c kn lf K d tp to) {W : List Nat} (oW : opens W = d) (hw : rkT W < 3) (h9W : h9 W) {i : Nat} (hi : i ≤ K) : LVO c kn lf K 3 (fun t _ => ¬ (t = 42 ∨ t = 43 ∨ t = 45)) i W (qSum c tp F (i, 0)) (qSumO c tp to F i) := by
  have t := rdo_prod hE hF H oW (by omega) h9W hi
  refine rdo_plus hE hF H oW hw F _ _ (by omega) (fun e0 => ?_)
  obtain ⟨b1, b2, V, o, b3, b4, b5, b6⟩ := t e0
  exact ⟨b1, b2, V, o, GV_mono (by decide) b3, b4, b5, b6⟩
theorem rdo_test (hE : c K = 202) (hF : K < F) (H : TPO c kn lf K d tp to) {W : List Nat} (oW : opens W = d) (hw : rkT W < 2) (h9W : h9 W) {i : Nat} (hi : i ≤ K) : LVO c kn lf K 2 cmE i W (qTest c tp F (i, 0)) (qTestO c tp to F i) := by
  have t := rdo_sum hE hF H oW (by omega) h9W hi
  unfold qTest qTestO
  generalize qSum c tp F (i, 0) = q at t ⊢
  by_cases z : q.2 = 0 ∧ (c q.1 = 60 ∨ c q.1 = 61)
  · rw [if_pos z, if_pos z]
    obtain ⟨a1, a2, V, o, a3, a4, a5, a6⟩ := t z.1
    have lt : q.1 < K := lt_K hE a2 (by rcases z.2 with e | e <;> rw [e] <;> decide)
    have r2 := rk_cm z.2
    have s := RcO_trans a4 (st_opO (kn := kn) (lf := lf) (r := 2) (by decide) r2 (GV_mono (by decide) a3) hw (fun _ => by rw [popR_app a3, popR_stop (by omega)]; omega))
    have u := rdo_sum (W := c q.1 :: W) hE hF H ((opens_op (by omega)).trans oW) (by show rk (c q.1) < 3; omega) (rk_pos (by omega)).1 (i := q.1 + 1) (by omega)
    generalize qSum c tp F (q.1 + 1, 0) = p at u ⊢
    intro e0
    obtain ⟨b1, b2, V', o', b3, b4, b5, b6⟩ := u e0
    have ap : V' ++ [c q.1] ++ W = V' ++ (c q.1 :: W) := by rw [List.append_assoc]; rfl
    refine ⟨by omega, b2, V' ++ [c q.1], (o ++ opV V) ++ o', GV_app (GV_mono (by decide) b3) (by omega), ?_, ?_, b6, fun _ => ?_⟩
    · rw [ap]
      exact RcO_trans s b4
    · rw [a5, b5]
      simp [opV]
    · rw [ap, popR_app b3, popR_stop (by show rk (c q.1) < 3; omega)]
      exact r2
  · rw [if_neg z, if_neg z]
    intro e0
    obtain ⟨b1, b2, V, o, b3, b4, b5, b6⟩ := t e0
    exact ⟨b1, b2, V, o, GV_mono (by decide) b3, b4, b5, b6, fun z9 => absurd ⟨e0, z9⟩ z⟩
theorem rdo_and (hE : c K = 202) (hF : K < F) (H : TPO c kn lf K d tp to) {W : List Nat} (oW : opens W = d) (hw : rkT W < 1) {i0 : Nat} : ∀ (n : Nat) (q : RfS) (P : List Nat), K - q.1 < n → LVO c kn lf K 1 cmE i0 W q P → LVO c kn lf K 1 (fun t X => ¬ (t = 7 ∨ t = 8) ∧ cmE t X) i0 W (qAnd c tp F n q) (P ++ qAndO c tp to F n q) := by
  intro n
  induction n with
  | zero => intro q P h; exact absurd h (by omega)
  | succ n ih =>
    intro q P hn h0
    show LVO c kn lf K 1 (fun t X => ¬ (t = 7 ∨ t = 8) ∧ cmE t X) i0 W (if q.2 = 0 ∧ (c q.1 = 7 ∨ c q.1 = 8) then qAnd c tp F n (qTest c tp F (q.1 + 1, 0)) else q) (P ++ (if q.2 = 0 ∧ (c q.1 = 7 ∨ c q.1 = 8) then qTestO c tp to F (q.1 + 1) ++ [30000 + c q.1] ++ qAndO c tp to F n (qTest c tp F (q.1 + 1, 0)) else []))
    by_cases z : q.2 = 0 ∧ (c q.1 = 7 ∨ c q.1 = 8)
    · rw [if_pos z, if_pos z]
      obtain ⟨a1, a2, V, o, a3, a4, a5, a6⟩ := h0 z.1
      have lt : q.1 < K := lt_K hE a2 (by rcases z.2 with e | e <;> rw [e] <;> decide)
      have r1 := rk_ao z.2
      have s := RcO_trans a4 (st_opO (kn := kn) (lf := lf) (r := 1) (by decide) r1 a3 hw (fun z9 => absurd z9 (by decide)))
      have t := rdo_test (W := c q.1 :: W) hE hF H ((opens_op (by omega)).trans oW) (by show rk (c q.1) < 2; omega) (rk_pos (by omega)).1 (i := q.1 + 1) (by omega)
      generalize qTest c tp F (q.1 + 1, 0) = p at t ⊢
      by_cases e0 : p.2 = 0
      · obtain ⟨b1, b2, V', o', b3, b4, b5, b6⟩ := t e0
        have ap : V' ++ [c q.1] ++ W = V' ++ (c q.1 :: W) := by rw [List.append_assoc]; rfl
        have go := ih p (P ++ (qTestO c tp to F (q.1 + 1) ++ [30000 + c q.1])) (by omega) (fun _ => ⟨by omega, b2, V' ++ [c q.1], _, GV_app (GV_mono (by decide) b3) (by omega), by rw [ap]; exact RcO_trans s b4, by
          rw [a5, b5]
          simp [opV], by rw [ap]; exact b6⟩)
        rw [List.append_assoc] at go
        exact go
      · rw [qAnd_f e0]
        exact fun e => absurd e e0
    · rw [if_neg z, if_neg z, List.append_nil]
      intro e0
      obtain ⟨a1, a2, V, o, a3, a4, a5, a6⟩ := h0 e0
      exact ⟨a1, a2, V, o, a3, a4, a5, fun z9 => z ⟨e0, z9⟩, a6⟩
theorem rdo_all (hE : c K = 202) (hF : K < F) (H : TPO c kn lf K d tp to) {W : List Nat} (oW : opens W = d) (hw : rkT W < 1) (h9W : h9 W) {i : Nat} (hi : i ≤ K) : LVO c kn lf K 1 (fun t X => ¬ (t = 7 ∨ t = 8) ∧ cmE t X) i W (qAll c tp F (i, 0)) (qAllO c tp to F i) := by
  have t := rdo_test hE hF H oW (by omega) h9W hi
  refine rdo_and hE hF H oW hw F _ _ (by omega) (fun e0 => ?_)
  obtain ⟨b1, b2, V, o, b3, b4, b5, b6⟩ := t e0
  exact ⟨b1, b2, V, o, GV_mono (by decide) b3, b4, b5, b6⟩
theorem rdo_part (hE : c K = 202) (hF : K < F) : ∀ (n d : Nat), d ≤ 4 → 4 < d + n → TPO c kn lf K d (qPart c kn F n d) (qPartO c kn lf F n d) := by
  intro n
  induction n with
  | zero => intro d h1 h2; exact absurd h2 (by omega)
  | succ n ih =>
    intro d hd hn i W hi oW
    have ei : qPart c kn F (n + 1) d (i, 0) = if isO (c i) = false ∧ isE (c i) = false then (i, 1) else if c i = 200 ∧ kn i = false then (i, 2) else if d = 4 then (i, 5) else if c i = 9 then qPart c kn F n (d + 1) (i + 1, 0) else if c i = 40 then (if ¬ (qAll c (qPart c kn F n (d + 1)) F (i + 1, 0)).2 = 0 then qAll c (qPart c kn F n (d + 1)) F (i + 1, 0) else if c (qAll c (qPart c kn F n (d + 1)) F (i + 1, 0)).1 = 41 then ((qAll c (qPart c kn F n (d + 1)) F (i + 1, 0)).1 + 1, 0) else ((qAll c (qPart c kn F n (d + 1)) F (i + 1, 0)).1, 1)) else (i + 1, 0) := by
      show (if ¬ (0 : Nat) = 0 then _ else _) = _
      rw [if_neg (by simp)]
    have eo : qPartO c kn lf F (n + 1) d i = if c i = 9 then qPartO c kn lf F n (d + 1) (i + 1) ++ [30009] else if c i = 40 then qAllO c (qPart c kn F n (d + 1)) (qPartO c kn lf F n (d + 1)) F (i + 1) else [lf i] := rfl
    have es : rdSt c kn (i, W, true, 0) = some (if isO (c i) = false ∧ isE (c i) = false then (i, W, true, 1) else if c i = 200 ∧ kn i = false then (i, W, true, 2) else if 4 ≤ opens W then (i, W, true, 5) else if isO (c i) = true then (i + 1, c i :: W, true, 0) else (i + 1, popN W, false, 0)) := by
      unfold rdSt
      rw [if_neg (by simp), if_pos rfl]
    have ew : wSt c lf (i, W, true, 0) = if isO (c i) = true then [] else lf i :: oN W := by
      unfold wSt
      rw [if_pos rfl]
    rw [ei, eo]
    by_cases z1 : isO (c i) = false ∧ isE (c i) = false
    · rw [if_pos z1]
      exact fun e => absurd e (by simp)
    · rw [if_neg z1] at es ⊢
      have ne : ¬ c i = 202 := fun z => z1 (by rw [z]; decide)
      have lt := lt_K hE hi ne
      by_cases z2 : c i = 200 ∧ kn i = false
      · rw [if_pos z2]
        exact fun e => absurd e (by simp)
      · rw [if_neg z2] at es ⊢
        by_cases z3 : d = 4
        · rw [if_pos z3]
          exact fun e => absurd e (by simp)
        · rw [if_neg (by omega)] at es
          rw [if_neg z3]
          by_cases z4 : c i = 9
          · rw [if_pos z4, if_pos z4]
            rw [if_pos (by rw [z4]; decide), z4] at es
            rw [if_pos (by rw [z4]; decide)] at ew
            have s := RcO_1 (lf := lf) es rfl
            rw [ew] at s
            have t := ih (d + 1) (by omega) (by omega) (i + 1) (9 :: W) (by omega) (by show 1 + opens W = d + 1; omega)
            generalize qPart c kn F n (d + 1) (i + 1, 0) = q at t ⊢
            intro e0
            obtain ⟨b1, b2, b3⟩ := t e0
            have b3' : RcO c kn lf (i + 1, 9 :: W, true, 0) (q.1, popN W, false, 0) (qPartO c kn lf F n (d + 1) (i + 1) ++ (30009 :: oN W)) := b3
            have u := RcO_trans s b3'
            refine ⟨by omega, b2, ?_⟩
            rw [show (qPartO c kn lf F n (d + 1) (i + 1) ++ [30009]) ++ oN W = [] ++ (qPartO c kn lf F n (d + 1) (i + 1) ++ (30009 :: oN W)) by simp]
            exact u
          · rw [if_neg z4, if_neg z4]
            by_cases z5 : c i = 40
            · rw [if_pos z5, if_pos z5]
              rw [if_pos (by rw [z5]; decide), z5] at es
              rw [if_pos (by rw [z5]; decide)] at ew
              have s := RcO_1 (lf := lf) es rfl
              rw [ew] at s
              have oo : opens (40 :: W) = d + 1 := by show 1 + opens W = d + 1; omega
              have t := rdo_all (W := 40 :: W) hE hF (ih (d + 1) (by omega) (by omega)) oo (by show rk 40 < 1; decide) (by show ¬ (40 : Nat) = 9; decide) (i := i + 1) (by omega)
              generalize qAll c (qPart c kn F n (d + 1)) F (i + 1, 0) = q at t ⊢
              by_cases e0 : q.2 = 0
              · obtain ⟨b1, b2, V, o, b3, b4, b5, b6⟩ := t e0
                have ov : opens (V ++ 40 :: W) = d + 1 := (opens_app b3).trans oo
                rw [if_neg (by simp [e0])]
                by_cases z6 : c q.1 = 41
                · rw [if_pos z6]
                  have lt2 := lt_K hE b2 (by rw [z6]; decide)
                  have hc : c q.1 = 41 ∧ 0 < opens (V ++ 40 :: W) := ⟨z6, by omega⟩
                  have pp : popN (clB (popR 1 (V ++ 40 :: W))) = popN W ∧ oN (clB (popR 1 (V ++ 40 :: W))) = oN W := by
                    rw [popR_app b3, popR_stop (show rk 40 < 1 by decide)]
                    exact ⟨rfl, rfl⟩
                  have cl : rdSt c kn (q.1, V ++ 40 :: W, false, 0) = some (q.1 + 1, popN W, false, 0) := by
                    unfold rdSt
                    rw [if_neg (by simp), if_neg (by simp), if_pos hc]
                    show some (q.1 + 1, popN (clB (popR 1 (V ++ 40 :: W))), false, 0) = _
                    rw [pp.1]
                  have cw : wSt c lf (q.1, V ++ 40 :: W, false, 0) = opV V ++ oN W := by
                    unfold wSt
                    rw [if_neg (by simp), if_pos hc]
                    show oR 1 (V ++ 40 :: W) ++ oN (clB (popR 1 (V ++ 40 :: W))) = _
                    rw [pp.2, oR_app (W := 40 :: W) b3 (by show rk 40 < 1; decide)]
                  have u := RcO_trans (RcO_trans s b4) (RcO_1 (lf := lf) cl rfl)
                  rw [cw] at u
                  refine fun _ => ⟨by show i < q.1 + 1; omega, by show q.1 + 1 ≤ K; omega, ?_⟩
                  rw [b5, show (o ++ opV V) ++ oN W = ([] ++ o) ++ (opV V ++ oN W) by simp]
                  exact u
                · rw [if_neg z6]
                  exact fun e => absurd e (by simp)
              · rw [if_pos e0]
                exact fun e => absurd e e0
            · rw [if_neg z5, if_neg z5]
              have nO : ¬ isO (c i) = true := by
                intro z
                rcases of_decide_eq_true z with z9 | z9
                · exact z4 z9
                · exact z5 z9
              rw [if_neg nO] at es ew
              have s := RcO_1 (lf := lf) es rfl
              rw [ew] at s
              exact fun _ => ⟨by show i < i + 1; omega, by show i + 1 ≤ K; omega, s⟩
/-- a whole expression's code -/
theorem rdo_expr (hE : c K = 202) (hF : K < F) {i : Nat} (hi : i ≤ K) (e0 : (qAll c (qPart c kn F 6 0) F (i, 0)).2 = 0) (r0 : rk (c (qAll c (qPart c kn F 6 0) F (i, 0)).1) = 0) : ∃ k X o, k ≤ (qAll c (qPart c kn F 6 0) F (i, 0)).1 - i + 1 ∧ (∀ m, rn c kn (m + k) (i, [], true, 0) = ((qAll c (qPart c kn F 6 0) F (i, 0)).1, X, false, 0) ∧ wR c kn lf (m + k) (i, [], true, 0) = o) ∧ qAllO c (qPart c kn F 6 0) (qPartO c kn lf F 6 0) F i = o ++ oR 1 X := by
  have t := rdo_all (W := []) hE hF (rdo_part (kn := kn) (lf := lf) hE hF 6 0 (by decide) (by decide)) rfl (by decide) trivial hi
  generalize qAll c (qPart c kn F 6 0) F (i, 0) = q at t e0 r0 ⊢
  obtain ⟨b1, b2, V, o, b3, b4, b5, b6⟩ := t e0
  obtain ⟨k, k1, k2⟩ := b4
  have oX : opens (V ++ []) = 0 := opens_app b3
  have en := (st_end (kn := kn) b6 (fun z => by have := z.2; omega)).1 r0
  have k1' : i + k = q.1 := k1
  refine ⟨k, V ++ [], o, by omega, fun m => ⟨(k2 m).1.trans (rn_none en m), ?_⟩, ?_⟩
  · rw [(k2 m).2, wR_none en, List.append_nil]
  · rw [b5, oR_app b3 (by decide)]
end SIMO
