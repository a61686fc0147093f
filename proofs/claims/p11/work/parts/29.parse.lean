/-! the expressions of a by-law: read by precedence (class) and by descent (reference); tokens as the class numbers them -/
def rk (t : Nat) : Nat := if t = 7 ∨ t = 8 then 1 else if t = 60 ∨ t = 61 then 2 else if t = 43 ∨ t = 45 then 3 else if t = 42 then 4 else 0
def rkT : List Nat → Nat
  | [] => 0
  | t :: _ => rk t
def popR (r : Nat) : List Nat → List Nat
  | [] => []
  | t :: W => if r ≤ rk t then popR r W else t :: W
def popN : List Nat → List Nat
  | [] => []
  | t :: W => if t = 9 then popN W else t :: W
def opens : List Nat → Nat
  | [] => 0
  | t :: W => (if t = 9 ∨ t = 40 then 1 else 0) + opens W
def clB : List Nat → List Nat
  | [] => []
  | t :: W => if t = 40 then W else t :: W
def isO (t : Nat) : Bool := decide (t = 9 ∨ t = 40)
def isE (t : Nat) : Bool := decide ((10 ≤ t ∧ t ≤ 20) ∨ t = 200 ∨ t = 201)
/-- at a token, what waits, whether a part is due, the fault -/
abbrev RdS : Type := Nat × List Nat × Bool × Nat
def rdSt (c : Nat → Nat) (kn : Nat → Bool) (s : RdS) : Option RdS :=
  if ¬ s.2.2.2 = 0 then none
  else if s.2.2.1 = true then some (if isO (c s.1) = false ∧ isE (c s.1) = false then (s.1, s.2.1, true, 1) else if c s.1 = 200 ∧ kn s.1 = false then (s.1, s.2.1, true, 2) else if 4 ≤ opens s.2.1 then (s.1, s.2.1, true, 5) else if isO (c s.1) = true then (s.1 + 1, c s.1 :: s.2.1, true, 0) else (s.1 + 1, popN s.2.1, false, 0))
  else if c s.1 = 41 ∧ 0 < opens s.2.1 then some (s.1 + 1, popN (clB (popR 1 s.2.1)), false, 0)
  else if 0 < rk (c s.1) then some (if rk (c s.1) = 2 ∧ rkT (popR 3 s.2.1) = 2 then (s.1, popR 3 s.2.1, false, 1) else (s.1 + 1, c s.1 :: popR (rk (c s.1)) s.2.1, true, 0))
  else none
def rn (c : Nat → Nat) (kn : Nat → Bool) : Nat → RdS → RdS
  | 0, s => s
  | n + 1, s => match rdSt c kn s with
    | none => s
    | some s' => rn c kn n s'
theorem rn_some {c : Nat → Nat} {kn : Nat → Bool} {s s' : RdS} (e : rdSt c kn s = some s') (m : Nat) : rn c kn (m + 1) s = rn c kn m s' := by
  show (match rdSt c kn s with | none => s | some s' => rn c kn m s') = _
  rw [e]
theorem rn_none {c : Nat → Nat} {kn : Nat → Bool} {s : RdS} (e : rdSt c kn s = none) : ∀ m, rn c kn m s = s := by
  intro m
  cases m with
  | zero => rfl
  | succ m =>
    show (match rdSt c kn s with | none => s | some s' => rn c kn m s') = _
    rw [e]
/-- it comes to s', a token a step -/
def Rc (c : Nat → Nat) (kn : Nat → Bool) (s s' : RdS) : Prop := ∃ k, s.1 + k = s'.1 ∧ ∀ m, rn c kn (m + k) s = rn c kn m s'
theorem Rc_trans {c : Nat → Nat} {kn : Nat → Bool} {s t u : RdS} (a : Rc c kn s t) (b : Rc c kn t u) : Rc c kn s u := by
  obtain ⟨k, e1, e2⟩ := a
  obtain ⟨l, f1, f2⟩ := b
  refine ⟨l + k, by omega, fun m => ?_⟩
  rw [← Nat.add_assoc, e2, f2]
theorem Rc_1 {c : Nat → Nat} {kn : Nat → Bool} {s s' : RdS} (e : rdSt c kn s = some s') (h : s'.1 = s.1 + 1) : Rc c kn s s' := ⟨1, h.symm, fun m => rn_some e m⟩
/-- it ends with the fault r.2 at r.1 (a bracket that wants its end counts as fault 1 where it stops) -/
def Ft (c : Nat → Nat) (kn : Nat → Bool) (s : RdS) (r : Nat × Nat) : Prop := s.1 ≤ r.1 ∧ ∃ k s', k ≤ r.1 - s.1 + 1 ∧ (∀ m, rn c kn (m + k) s = s') ∧ s'.1 = r.1 ∧ (s'.2.2.2 = r.2 ∨ (s'.2.2.2 = 0 ∧ 0 < opens s'.2.1 ∧ r.2 = 1))
theorem Ft_after {c : Nat → Nat} {kn : Nat → Bool} {s t : RdS} {r : Nat × Nat} (a : Rc c kn s t) (b : Ft c kn t r) : Ft c kn s r := by
  obtain ⟨k, e1, e2⟩ := a
  obtain ⟨le, l, u, f1, f2, f3, f4⟩ := b
  refine ⟨by omega, l + k, u, by omega, fun m => ?_, f3, f4⟩
  rw [← Nat.add_assoc, e2, f2]
theorem Ft_1 {c : Nat → Nat} {kn : Nat → Bool} {s s' : RdS} {r : Nat × Nat} (e : rdSt c kn s = some s') (h1 : s.1 = r.1) (h2 : s'.1 = r.1) (h3 : s'.2.2.2 = r.2) (h4 : ¬ r.2 = 0) : Ft c kn s r := by
  have st : rdSt c kn s' = none := by
    unfold rdSt
    rw [if_pos (by rw [h3]; exact h4)]
  exact ⟨by omega, 1, s', by omega, fun m => by rw [rn_some e, rn_none st], h2, Or.inl h3⟩
/-! the waiting ones -/
def GV (r : Nat) (V : List Nat) : Prop := ∀ t, t ∈ V → r ≤ rk t
def h9 : List Nat → Prop
  | [] => True
  | t :: _ => ¬ t = 9
theorem GV_nil (r : Nat) : GV r [] := fun t h => nomatch h
theorem GV_mono {r q : Nat} {V : List Nat} (h : q ≤ r) (g : GV r V) : GV q V := fun t ht => Nat.le_trans h (g t ht)
theorem GV_app {r : Nat} {V : List Nat} {t : Nat} (g : GV r V) (h : r ≤ rk t) : GV r (V ++ [t]) := by
  intro u hu
  rcases List.mem_append.mp hu with h1 | h1
  · exact g u h1
  · rw [List.mem_singleton.mp h1]
    exact h
theorem rk_9 : rk 9 = 0 := rfl
theorem rk_40 : rk 40 = 0 := rfl
theorem rk_41 : rk 41 = 0 := rfl
theorem rk_pos {t : Nat} (h : 1 ≤ rk t) : ¬ t = 9 ∧ ¬ t = 40 ∧ ¬ t = 41 := by
  refine ⟨fun e => ?_, fun e => ?_, fun e => ?_⟩
  · rw [e, rk_9] at h; omega
  · rw [e, rk_40] at h; omega
  · rw [e, rk_41] at h; omega
theorem popR_app {r : Nat} {V W : List Nat} (g : GV r V) : popR r (V ++ W) = popR r W := by
  induction V with
  | nil => rfl
  | cons t V ih =>
    show (if r ≤ rk t then popR r (V ++ W) else t :: (V ++ W)) = _
    rw [if_pos (g t List.mem_cons_self)]
    exact ih (fun u hu => g u (List.mem_cons_of_mem _ hu))
theorem popR_stop {r : Nat} {W : List Nat} (h : rkT W < r) : popR r W = W := by
  cases W with
  | nil => rfl
  | cons t W =>
    show (if r ≤ rk t then popR r W else t :: W) = _
    have h' : rk t < r := h
    rw [if_neg (by omega)]
theorem opens_app {V W : List Nat} (g : GV 1 V) : opens (V ++ W) = opens W := by
  induction V with
  | nil => rfl
  | cons t V ih =>
    show (if t = 9 ∨ t = 40 then 1 else 0) + opens (V ++ W) = _
    have p := rk_pos (g t List.mem_cons_self)
    rw [if_neg (fun z => z.elim p.1 p.2.1), ih (fun u hu => g u (List.mem_cons_of_mem _ hu))]
    omega
theorem popN_h9 {W : List Nat} (h : h9 W) : popN W = W := by
  cases W with
  | nil => rfl
  | cons t W =>
    show (if t = 9 then popN W else t :: W) = _
    rw [if_neg h]
theorem opens_op {t : Nat} {W : List Nat} (h : 1 ≤ rk t) : opens (t :: W) = opens W := opens_app (V := [t]) (fun u hu => by rw [List.mem_singleton.mp hu]; exact h)
/-- an operator of rank r goes over what binds closer -/
theorem st_op {c : Nat → Nat} {kn : Nat → Bool} {i r : Nat} {V W : List Nat} (h1 : 1 ≤ r) (ht : rk (c i) = r) (g : GV r V) (hw : rkT W < r) (no : r = 2 → ¬ rkT (popR 3 (V ++ W)) = 2) : Rc c kn (i, V ++ W, false, 0) (i + 1, c i :: W, true, 0) := by
  refine Rc_1 ?_ rfl
  have p := rk_pos (show 1 ≤ rk (c i) by omega)
  unfold rdSt
  rw [if_neg (by simp), if_neg (by simp), if_neg (fun z => p.2.2 z.1), if_pos (show 0 < rk (c i) by omega), if_neg (fun z => no (by rw [← ht]; exact z.1) z.2)]
  show some (i + 1, c i :: popR (rk (c i)) (V ++ W), true, 0) = _
  rw [ht, popR_app g, popR_stop hw]
/-! the reference's descent -/
abbrev RfS : Type := Nat × Nat
def qStar (c : Nat → Nat) (tp : RfS → RfS) : Nat → RfS → RfS
  | 0, s => s
  | n + 1, s => if s.2 = 0 ∧ c s.1 = 42 then qStar c tp n (tp (s.1 + 1, 0)) else s
def qProd (c : Nat → Nat) (tp : RfS → RfS) (F : Nat) (s : RfS) : RfS := qStar c tp F (tp s)
def qPlus (c : Nat → Nat) (tp : RfS → RfS) (F : Nat) : Nat → RfS → RfS
  | 0, s => s
  | n + 1, s => if s.2 = 0 ∧ (c s.1 = 43 ∨ c s.1 = 45) then qPlus c tp F n (qProd c tp F (s.1 + 1, 0)) else s
def qSum (c : Nat → Nat) (tp : RfS → RfS) (F : Nat) (s : RfS) : RfS := qPlus c tp F F (qProd c tp F s)
def qTest (c : Nat → Nat) (tp : RfS → RfS) (F : Nat) (s : RfS) : RfS := if (qSum c tp F s).2 = 0 ∧ (c (qSum c tp F s).1 = 60 ∨ c (qSum c tp F s).1 = 61) then qSum c tp F ((qSum c tp F s).1 + 1, 0) else qSum c tp F s
def qAnd (c : Nat → Nat) (tp : RfS → RfS) (F : Nat) : Nat → RfS → RfS
  | 0, s => s
  | n + 1, s => if s.2 = 0 ∧ (c s.1 = 7 ∨ c s.1 = 8) then qAnd c tp F n (qTest c tp F (s.1 + 1, 0)) else s
def qAll (c : Nat → Nat) (tp : RfS → RfS) (F : Nat) (s : RfS) : RfS := qAnd c tp F F (qTest c tp F s)
def qPart (c : Nat → Nat) (kn : Nat → Bool) (F : Nat) : Nat → Nat → RfS → RfS
  | 0, _, s => s
  | n + 1, d, s => if ¬ s.2 = 0 then s else if isO (c s.1) = false ∧ isE (c s.1) = false then (s.1, 1) else if c s.1 = 200 ∧ kn s.1 = false then (s.1, 2) else if d = 4 then (s.1, 5) else if c s.1 = 9 then qPart c kn F n (d + 1) (s.1 + 1, 0) else if c s.1 = 40 then (if ¬ (qAll c (qPart c kn F n (d + 1)) F (s.1 + 1, 0)).2 = 0 then qAll c (qPart c kn F n (d + 1)) F (s.1 + 1, 0) else if c (qAll c (qPart c kn F n (d + 1)) F (s.1 + 1, 0)).1 = 41 then ((qAll c (qPart c kn F n (d + 1)) F (s.1 + 1, 0)).1 + 1, 0) else ((qAll c (qPart c kn F n (d + 1)) F (s.1 + 1, 0)).1, 1)) else (s.1 + 1, 0)
section SIM
variable {c : Nat → Nat} {kn : Nat → Bool} {K d F : Nat} {tp : RfS → RfS}
/-- what a part's reading does -/
def TP (c : Nat → Nat) (kn : Nat → Bool) (K d : Nat) (tp : RfS → RfS) : Prop := ∀ (i : Nat) (W : List Nat), i ≤ K → opens W = d → ((tp (i, 0)).2 = 0 → i < (tp (i, 0)).1 ∧ (tp (i, 0)).1 ≤ K ∧ Rc c kn (i, W, true, 0) ((tp (i, 0)).1, popN W, false, 0)) ∧ (¬ (tp (i, 0)).2 = 0 → Ft c kn (i, W, true, 0) (tp (i, 0)) ∧ (tp (i, 0)).1 ≤ K)
/-- a level's reading: at its end only operators from rank r on wait over W; E: what can't stand there then -/
def LV (c : Nat → Nat) (kn : Nat → Bool) (K r : Nat) (E : Nat → List Nat → Prop) (i : Nat) (W : List Nat) (q : RfS) : Prop := (q.2 = 0 → i < q.1 ∧ q.1 ≤ K ∧ ∃ V, GV r V ∧ Rc c kn (i, W, true, 0) (q.1, V ++ W, false, 0) ∧ E (c q.1) (V ++ W)) ∧ (¬ q.2 = 0 → Ft c kn (i, W, true, 0) q ∧ q.1 ≤ K)
theorem rdl_star (hE : c K = 202) (H : TP c kn K d tp) {W : List Nat} (oW : opens W = d) (hw : rkT W < 4) {i0 : Nat} : ∀ (n : Nat) (q : RfS), K - q.1 < n → (q.2 = 0 → i0 < q.1 ∧ q.1 ≤ K ∧ ∃ V, GV 4 V ∧ Rc c kn (i0, W, true, 0) (q.1, V ++ W, false, 0)) → (¬ q.2 = 0 → Ft c kn (i0, W, true, 0) q ∧ q.1 ≤ K) → LV c kn K 4 (fun t _ => ¬ t = 42) i0 W (qStar c tp n q) := by
  intro n
  induction n with
  | zero => intro q h; exact absurd h (by omega)
  | succ n ih =>
    intro q hn h0 h1
    show LV c kn K 4 (fun t _ => ¬ t = 42) i0 W (if q.2 = 0 ∧ c q.1 = 42 then qStar c tp n (tp (q.1 + 1, 0)) else q)
    by_cases z : q.2 = 0 ∧ c q.1 = 42
    · rw [if_pos z]
      obtain ⟨a1, a2, V, a3, a4⟩ := h0 z.1
      have lt : q.1 < K := by
        by_cases e : q.1 = K
        · have z2 := z.2
          rw [e, hE] at z2
          exact absurd z2 (by decide)
        · omega
      have r42 : rk (c q.1) = 4 := by rw [z.2]; rfl
      have s := Rc_trans a4 (st_op (kn := kn) (r := 4) (by decide) r42 a3 hw (fun z9 => absurd z9 (by decide)))
      rw [z.2] at s
      have t := H (q.1 + 1) (42 :: W) (by omega) ((opens_op (by decide)).trans oW)
      refine ih _ ?_ (fun e0 => ?_) (fun e0 => ?_)
      · by_cases e0 : (tp (q.1 + 1, 0)).2 = 0
        · have := (t.1 e0).1
          omega
        · obtain ⟨f, g⟩ := t.2 e0
          have := f.1
          have f1 : q.1 + 1 ≤ (tp (q.1 + 1, 0)).1 := this
          omega
      · obtain ⟨b1, b2, b3⟩ := t.1 e0
        refine ⟨by omega, b2, [42], fun u hu => ?_, Rc_trans s b3⟩
        rw [List.mem_singleton.mp hu]
        exact Nat.le_refl 4
      · obtain ⟨f, g⟩ := t.2 e0
        exact ⟨Ft_after s f, g⟩
    · rw [if_neg z]
      refine ⟨fun e0 => ?_, h1⟩
      obtain ⟨a1, a2, V, a3, a4⟩ := h0 e0
      exact ⟨a1, a2, V, a3, a4, fun z9 => z ⟨e0, z9⟩⟩
theorem rdl_prod (hE : c K = 202) (hF : K < F) (H : TP c kn K d tp) {W : List Nat} (oW : opens W = d) (hw : rkT W < 4) (h9W : h9 W) {i : Nat} (hi : i ≤ K) : LV c kn K 4 (fun t _ => ¬ t = 42) i W (qProd c tp F (i, 0)) := by
  have t := H i W hi oW
  rw [popN_h9 h9W] at t
  refine rdl_star hE H oW hw F (tp (i, 0)) (by omega) (fun e0 => ?_) (fun e0 => t.2 e0)
  obtain ⟨b1, b2, b3⟩ := t.1 e0
  exact ⟨b1, b2, [], GV_nil 4, b3⟩
theorem rk_pm {t : Nat} (h : t = 43 ∨ t = 45) : rk t = 3 := by
  rcases h with rfl | rfl <;> rfl
theorem rk_cm {t : Nat} (h : t = 60 ∨ t = 61) : rk t = 2 := by
  rcases h with rfl | rfl <;> rfl
theorem rk_ao {t : Nat} (h : t = 7 ∨ t = 8) : rk t = 1 := by
  rcases h with rfl | rfl <;> rfl
theorem lt_K (hE : c K = 202) {i : Nat} (hi : i ≤ K) (h : ¬ c i = 202) : i < K := by
  by_cases e : i = K
  · rw [e] at h
    exact absurd hE h
  · omega
theorem rdl_plus (hE : c K = 202) (hF : K < F) (H : TP c kn K d tp) {W : List Nat} (oW : opens W = d) (hw : rkT W < 3) {i0 : Nat} : ∀ (n : Nat) (q : RfS), K - q.1 < n → LV c kn K 3 (fun t _ => ¬ t = 42) i0 W q → LV c kn K 3 (fun t _ => ¬ (t = 42 ∨ t = 43 ∨ t = 45)) i0 W (qPlus c tp F n q) := by
  intro n
  induction n with
  | zero => intro q h; exact absurd h (by omega)
  | succ n ih =>
    intro q hn h0
    show LV c kn K 3 (fun t _ => ¬ (t = 42 ∨ t = 43 ∨ t = 45)) i0 W (if q.2 = 0 ∧ (c q.1 = 43 ∨ c q.1 = 45) then qPlus c tp F n (qProd c tp F (q.1 + 1, 0)) else q)
    by_cases z : q.2 = 0 ∧ (c q.1 = 43 ∨ c q.1 = 45)
    · rw [if_pos z]
      obtain ⟨a1, a2, V, a3, a4, a5⟩ := h0.1 z.1
      have lt : q.1 < K := lt_K hE a2 (by rcases z.2 with e | e <;> rw [e] <;> decide)
      have r3 := rk_pm z.2
      have s := Rc_trans a4 (st_op (kn := kn) (r := 3) (by decide) r3 a3 hw (fun z9 => absurd z9 (by decide)))
      have t := rdl_prod (W := c q.1 :: W) hE hF H ((opens_op (by omega)).trans oW) (by show rk (c q.1) < 4; omega) (rk_pos (by omega)).1 (i := q.1 + 1) (by omega)
      generalize qProd c tp F (q.1 + 1, 0) = p at t ⊢
      refine ih p ?_ ⟨fun e0 => ?_, fun e0 => ?_⟩
      · by_cases e0 : p.2 = 0
        · have := (t.1 e0).1
          omega
        · have f1 : q.1 + 1 ≤ p.1 := (t.2 e0).1.1
          omega
      · obtain ⟨b1, b2, V', b3, b4, b5⟩ := t.1 e0
        refine ⟨by omega, b2, V' ++ [c q.1], GV_app (GV_mono (by decide) b3) (by omega), ?_, b5⟩
        rw [List.append_assoc]
        exact Rc_trans s b4
      · exact ⟨Ft_after s (t.2 e0).1, (t.2 e0).2⟩
    · rw [if_neg z]
      refine ⟨fun e0 => ?_, h0.2⟩
      obtain ⟨a1, a2, V, a3, a4, a5⟩ := h0.1 e0
      refine ⟨a1, a2, V, a3, a4, fun z9 => ?_⟩
      rcases z9 with z9 | z9
      · exact a5 z9
      · exact z ⟨e0, z9⟩
theorem rdl_sum (hE : c K = 202) (hF : K < F) (H : TP c kn K d tp) {W : List Nat} (oW : opens W = d) (hw : rkT W < 3) (h9W : h9 W) {i : Nat} (hi : i ≤ K) : LV c kn K 3 (fun t _ => ¬ (t = 42 ∨ t = 43 ∨ t = 45)) i W (qSum c tp F (i, 0)) := by
  have t := rdl_prod hE hF H oW (by omega) h9W hi
  refine rdl_plus hE hF H oW hw F _ (by omega) ⟨fun e0 => ?_, t.2⟩
  obtain ⟨b1, b2, V, b3, b4, b5⟩ := t.1 e0
  exact ⟨b1, b2, V, GV_mono (by decide) b3, b4, b5⟩
/-- a second comparison -/
def cmE (t : Nat) (X : List Nat) : Prop := ¬ (t = 42 ∨ t = 43 ∨ t = 45) ∧ (t = 60 ∨ t = 61 → rkT (popR 3 X) = 2)
theorem rdl_test (hE : c K = 202) (hF : K < F) (H : TP c kn K d tp) {W : List Nat} (oW : opens W = d) (hw : rkT W < 2) (h9W : h9 W) {i : Nat} (hi : i ≤ K) : LV c kn K 2 cmE i W (qTest c tp F (i, 0)) := by
  have t := rdl_sum hE hF H oW (by omega) h9W hi
  unfold qTest
  generalize qSum c tp F (i, 0) = q at t ⊢
  by_cases z : q.2 = 0 ∧ (c q.1 = 60 ∨ c q.1 = 61)
  · rw [if_pos z]
    obtain ⟨a1, a2, V, a3, a4, a5⟩ := t.1 z.1
    have lt : q.1 < K := lt_K hE a2 (by rcases z.2 with e | e <;> rw [e] <;> decide)
    have r2 := rk_cm z.2
    have s := Rc_trans a4 (st_op (kn := kn) (r := 2) (by decide) r2 (GV_mono (by decide) a3) hw (fun _ => by rw [popR_app a3, popR_stop (by omega)]; omega))
    have u := rdl_sum (W := c q.1 :: W) hE hF H ((opens_op (by omega)).trans oW) (by show rk (c q.1) < 3; omega) (rk_pos (by omega)).1 (i := q.1 + 1) (by omega)
    generalize qSum c tp F (q.1 + 1, 0) = p at u ⊢
    refine ⟨fun e0 => ?_, fun e0 => ⟨Ft_after s (u.2 e0).1, (u.2 e0).2⟩⟩
    obtain ⟨b1, b2, V', b3, b4, b5⟩ := u.1 e0
    have ap : V' ++ [c q.1] ++ W = V' ++ (c q.1 :: W) := by rw [List.append_assoc]; rfl
    refine ⟨by omega, b2, V' ++ [c q.1], GV_app (GV_mono (by decide) b3) (by omega), ?_, b5, fun _ => ?_⟩
    · rw [ap]
      exact Rc_trans s b4
    · rw [ap, popR_app b3, popR_stop (by show rk (c q.1) < 3; omega)]
      exact r2
  · rw [if_neg z]
    refine ⟨fun e0 => ?_, t.2⟩
    obtain ⟨b1, b2, V, b3, b4, b5⟩ := t.1 e0
    exact ⟨b1, b2, V, GV_mono (by decide) b3, b4, b5, fun z9 => absurd ⟨e0, z9⟩ z⟩
theorem rdl_and (hE : c K = 202) (hF : K < F) (H : TP c kn K d tp) {W : List Nat} (oW : opens W = d) (hw : rkT W < 1) {i0 : Nat} : ∀ (n : Nat) (q : RfS), K - q.1 < n → LV c kn K 1 cmE i0 W q → LV c kn K 1 (fun t X => ¬ (t = 7 ∨ t = 8) ∧ cmE t X) i0 W (qAnd c tp F n q) := by
  intro n
  induction n with
  | zero => intro q h; exact absurd h (by omega)
  | succ n ih =>
    intro q hn h0
    show LV c kn K 1 (fun t X => ¬ (t = 7 ∨ t = 8) ∧ cmE t X) i0 W (if q.2 = 0 ∧ (c q.1 = 7 ∨ c q.1 = 8) then qAnd c tp F n (qTest c tp F (q.1 + 1, 0)) else q)
    by_cases z : q.2 = 0 ∧ (c q.1 = 7 ∨ c q.1 = 8)
    · rw [if_pos z]
      obtain ⟨a1, a2, V, a3, a4, a5⟩ := h0.1 z.1
      have lt : q.1 < K := lt_K hE a2 (by rcases z.2 with e | e <;> rw [e] <;> decide)
      have r1 := rk_ao z.2
      have s := Rc_trans a4 (st_op (kn := kn) (r := 1) (by decide) r1 a3 hw (fun z9 => absurd z9 (by decide)))
      have t := rdl_test (W := c q.1 :: W) hE hF H ((opens_op (by omega)).trans oW) (by show rk (c q.1) < 2; omega) (rk_pos (by omega)).1 (i := q.1 + 1) (by omega)
      generalize qTest c tp F (q.1 + 1, 0) = p at t ⊢
      refine ih p ?_ ⟨fun e0 => ?_, fun e0 => ⟨Ft_after s (t.2 e0).1, (t.2 e0).2⟩⟩
      · by_cases e0 : p.2 = 0
        · have := (t.1 e0).1
          omega
        · have f1 : q.1 + 1 ≤ p.1 := (t.2 e0).1.1
          omega
      · obtain ⟨b1, b2, V', b3, b4, b5⟩ := t.1 e0
        have ap : V' ++ [c q.1] ++ W = V' ++ (c q.1 :: W) := by rw [List.append_assoc]; rfl
        refine ⟨by omega, b2, V' ++ [c q.1], GV_app (GV_mono (by decide) b3) (by omega), ?_, ?_⟩
        · rw [ap]
          exact Rc_trans s b4
        · rw [ap]
          exact b5
    · rw [if_neg z]
      refine ⟨fun e0 => ?_, h0.2⟩
      obtain ⟨a1, a2, V, a3, a4, a5⟩ := h0.1 e0
      exact ⟨a1, a2, V, a3, a4, fun z9 => z ⟨e0, z9⟩, a5⟩
theorem rdl_all (hE : c K = 202) (hF : K < F) (H : TP c kn K d tp) {W : List Nat} (oW : opens W = d) (hw : rkT W < 1) (h9W : h9 W) {i : Nat} (hi : i ≤ K) : LV c kn K 1 (fun t X => ¬ (t = 7 ∨ t = 8) ∧ cmE t X) i W (qAll c tp F (i, 0)) := by
  have t := rdl_test hE hF H oW (by omega) h9W hi
  refine rdl_and hE hF H oW hw F _ (by omega) ⟨fun e0 => ?_, t.2⟩
  obtain ⟨b1, b2, V, b3, b4, b5⟩ := t.1 e0
  exact ⟨b1, b2, V, GV_mono (by decide) b3, b4, b5⟩
theorem opens_popR {r : Nat} (h1 : 1 ≤ r) : ∀ W, opens (popR r W) = opens W := by
  intro W
  induction W with
  | nil => rfl
  | cons t W ih =>
    show opens (if r ≤ rk t then popR r W else t :: W) = opens (t :: W)
    by_cases z : r ≤ rk t
    · rw [if_pos z, ih, opens_op (by omega)]
    · rw [if_neg z]
theorem rk_what (t : Nat) : rk t = 0 ∨ (t = 7 ∨ t = 8) ∨ (t = 60 ∨ t = 61) ∨ (t = 42 ∨ t = 43 ∨ t = 45) := by
  unfold rk
  by_cases h1 : t = 7 ∨ t = 8
  · exact Or.inr (Or.inl h1)
  · by_cases h2 : t = 60 ∨ t = 61
    · exact Or.inr (Or.inr (Or.inl h2))
    · by_cases h3 : t = 43 ∨ t = 45
      · exact Or.inr (Or.inr (Or.inr (Or.inr h3)))
      · by_cases h4 : t = 42
        · exact Or.inr (Or.inr (Or.inr (Or.inl h4)))
        · rw [if_neg h1, if_neg h2, if_neg h3, if_neg h4]
          exact Or.inl rfl
/-- behind an expression: a second comparison is a fault, all else stops there -/
theorem st_end {i : Nat} {X : List Nat} (h : ¬ (c i = 7 ∨ c i = 8) ∧ cmE (c i) X) (h41 : ¬ (c i = 41 ∧ 0 < opens X)) : (rk (c i) = 0 → rdSt c kn (i, X, false, 0) = none) ∧ (¬ rk (c i) = 0 → rdSt c kn (i, X, false, 0) = some (i, popR 3 X, false, 1)) := by
  constructor
  · intro z
    unfold rdSt
    rw [if_neg (by simp), if_neg (by simp), if_neg h41, if_neg (show ¬ 0 < rk (c i) by omega)]
  · intro z
    have cm : c i = 60 ∨ c i = 61 := by
      rcases rk_what (c i) with e | e | e | e
      · exact absurd e z
      · exact absurd e h.1
      · exact e
      · exact absurd e h.2.1
    unfold rdSt
    rw [if_neg (by simp), if_neg (by simp), if_neg h41, if_pos (show 0 < rk (c i) by omega), if_pos ⟨rk_cm cm, h.2.2 cm⟩]
theorem rdl_part (hE : c K = 202) (hF : K < F) : ∀ (n d : Nat), d ≤ 4 → 4 < d + n → TP c kn K d (qPart c kn F n d) := by
  intro n
  induction n with
  | zero => intro d h1 h2; exact absurd h2 (by omega)
  | succ n ih =>
    intro d hd hn i W hi oW
    have ei : qPart c kn F (n + 1) d (i, 0) = if isO (c i) = false ∧ isE (c i) = false then (i, 1) else if c i = 200 ∧ kn i = false then (i, 2) else if d = 4 then (i, 5) else if c i = 9 then qPart c kn F n (d + 1) (i + 1, 0) else if c i = 40 then (if ¬ (qAll c (qPart c kn F n (d + 1)) F (i + 1, 0)).2 = 0 then qAll c (qPart c kn F n (d + 1)) F (i + 1, 0) else if c (qAll c (qPart c kn F n (d + 1)) F (i + 1, 0)).1 = 41 then ((qAll c (qPart c kn F n (d + 1)) F (i + 1, 0)).1 + 1, 0) else ((qAll c (qPart c kn F n (d + 1)) F (i + 1, 0)).1, 1)) else (i + 1, 0) := by
      show (if ¬ (0 : Nat) = 0 then _ else _) = _
      rw [if_neg (by simp)]
    have es : rdSt c kn (i, W, true, 0) = some (if isO (c i) = false ∧ isE (c i) = false then (i, W, true, 1) else if c i = 200 ∧ kn i = false then (i, W, true, 2) else if 4 ≤ opens W then (i, W, true, 5) else if isO (c i) = true then (i + 1, c i :: W, true, 0) else (i + 1, popN W, false, 0)) := by
      unfold rdSt
      rw [if_neg (by simp), if_pos rfl]
    rw [ei]
    by_cases z1 : isO (c i) = false ∧ isE (c i) = false
    · rw [if_pos z1] at es ⊢
      exact ⟨fun e => absurd e (by simp), fun _ => ⟨Ft_1 es rfl rfl rfl (by simp), hi⟩⟩
    · rw [if_neg z1] at es ⊢
      have ne : ¬ c i = 202 := fun z => z1 (by rw [z]; decide)
      have lt := lt_K hE hi ne
      by_cases z2 : c i = 200 ∧ kn i = false
      · rw [if_pos z2] at es ⊢
        exact ⟨fun e => absurd e (by simp), fun _ => ⟨Ft_1 es rfl rfl rfl (by simp), hi⟩⟩
      · rw [if_neg z2] at es ⊢
        by_cases z3 : d = 4
        · rw [if_pos (by omega)] at es
          rw [if_pos z3]
          exact ⟨fun e => absurd e (by simp), fun _ => ⟨Ft_1 es rfl rfl rfl (by simp), hi⟩⟩
        · rw [if_neg (by omega)] at es
          rw [if_neg z3]
          by_cases z4 : c i = 9
          · rw [if_pos z4]
            rw [if_pos (by rw [z4]; decide), z4] at es
            have s : Rc c kn (i, W, true, 0) (i + 1, 9 :: W, true, 0) := Rc_1 es rfl
            have t := ih (d + 1) (by omega) (by omega) (i + 1) (9 :: W) (by omega) (by show 1 + opens W = d + 1; omega)
            generalize qPart c kn F n (d + 1) (i + 1, 0) = q at t ⊢
            refine ⟨fun e0 => ?_, fun e0 => ⟨Ft_after s (t.2 e0).1, (t.2 e0).2⟩⟩
            obtain ⟨b1, b2, b3⟩ := t.1 e0
            exact ⟨by omega, b2, Rc_trans s b3⟩
          · rw [if_neg z4]
            by_cases z5 : c i = 40
            · rw [if_pos z5]
              rw [if_pos (by rw [z5]; decide), z5] at es
              have s : Rc c kn (i, W, true, 0) (i + 1, 40 :: W, true, 0) := Rc_1 es rfl
              have oo : opens (40 :: W) = d + 1 := by show 1 + opens W = d + 1; omega
              have t := rdl_all (W := 40 :: W) hE hF (ih (d + 1) (by omega) (by omega)) oo (by show rk 40 < 1; decide) (by show ¬ (40 : Nat) = 9; decide) (i := i + 1) (by omega)
              generalize qAll c (qPart c kn F n (d + 1)) F (i + 1, 0) = q at t ⊢
              by_cases e0 : q.2 = 0
              · obtain ⟨b1, b2, V, b3, b4, b5⟩ := t.1 e0
                have ov : opens (V ++ 40 :: W) = d + 1 := (opens_app b3).trans oo
                rw [if_neg (by simp [e0])]
                by_cases z6 : c q.1 = 41
                · rw [if_pos z6]
                  have lt2 := lt_K hE b2 (by rw [z6]; decide)
                  have cl : rdSt c kn (q.1, V ++ 40 :: W, false, 0) = some (q.1 + 1, popN W, false, 0) := by
                    unfold rdSt
                    rw [if_neg (by simp), if_neg (by simp), if_pos (show c q.1 = 41 ∧ 0 < opens (V ++ 40 :: W) from ⟨z6, by omega⟩)]
                    show some (q.1 + 1, popN (clB (popR 1 (V ++ 40 :: W))), false, 0) = _
                    rw [popR_app b3, popR_stop (show rk 40 < 1 by decide)]
                    rfl
                  exact ⟨fun _ => ⟨by show i < q.1 + 1; omega, by show q.1 + 1 ≤ K; omega, Rc_trans (Rc_trans s b4) (Rc_1 cl rfl)⟩, fun e => absurd rfl e⟩
                · rw [if_neg z6]
                  refine ⟨fun e => absurd e (by simp), fun _ => ⟨Ft_after (Rc_trans s b4) ?_, b2⟩⟩
                  have en := st_end (kn := kn) b5 (fun z => z6 z.1)
                  by_cases r0 : rk (c q.1) = 0
                  · exact ⟨Nat.le_refl _, 0, _, by omega, fun m => rn_none (en.1 r0) _, rfl, Or.inr ⟨rfl, by show 0 < opens (V ++ 40 :: W); omega, rfl⟩⟩
                  · exact Ft_1 (en.2 r0) rfl rfl rfl (by simp)
              · rw [if_pos e0]
                exact ⟨fun e => absurd e e0, fun _ => ⟨Ft_after s (t.2 e0).1, (t.2 e0).2⟩⟩
            · rw [if_neg z5]
              rw [if_neg (by
                intro z
                rcases of_decide_eq_true z with z9 | z9
                · exact z4 z9
                · exact z5 z9)] at es
              exact ⟨fun _ => ⟨by show i < i + 1; omega, by show i + 1 ≤ K; omega, Rc_1 es rfl⟩, fun e => absurd rfl e⟩
/-- a whole expression -/
theorem rdl_expr (hE : c K = 202) (hF : K < F) {i : Nat} (hi : i ≤ K) : ((qAll c (qPart c kn F 6 0) F (i, 0)).2 = 0 → i < (qAll c (qPart c kn F 6 0) F (i, 0)).1 ∧ (qAll c (qPart c kn F 6 0) F (i, 0)).1 ≤ K ∧ ∃ k X, k ≤ (qAll c (qPart c kn F 6 0) F (i, 0)).1 - i + 1 ∧ opens X = 0 ∧ ((rk (c (qAll c (qPart c kn F 6 0) F (i, 0)).1) = 0 ∧ ∀ m, rn c kn (m + k) (i, [], true, 0) = ((qAll c (qPart c kn F 6 0) F (i, 0)).1, X, false, 0)) ∨ (¬ rk (c (qAll c (qPart c kn F 6 0) F (i, 0)).1) = 0 ∧ ∀ m, rn c kn (m + k) (i, [], true, 0) = ((qAll c (qPart c kn F 6 0) F (i, 0)).1, X, false, 1)))) ∧ (¬ (qAll c (qPart c kn F 6 0) F (i, 0)).2 = 0 → Ft c kn (i, [], true, 0) (qAll c (qPart c kn F 6 0) F (i, 0)) ∧ (qAll c (qPart c kn F 6 0) F (i, 0)).1 ≤ K) := by
  have t := rdl_all (W := []) hE hF (rdl_part (kn := kn) hE hF 6 0 (by decide) (by decide)) rfl (by decide) trivial hi
  generalize qAll c (qPart c kn F 6 0) F (i, 0) = q at t ⊢
  refine ⟨fun e0 => ?_, t.2⟩
  obtain ⟨b1, b2, V, b3, b4, b5⟩ := t.1 e0
  obtain ⟨k, k1, k2⟩ := b4
  have oX : opens (V ++ []) = 0 := opens_app b3
  have en := st_end (kn := kn) b5 (fun z => by have := z.2; omega)
  have k1' : i + k = q.1 := k1
  refine ⟨b1, b2, ?_⟩
  by_cases r0 : rk (c q.1) = 0
  · exact ⟨k, V ++ [], by omega, oX, Or.inl ⟨r0, fun m => (k2 m).trans (rn_none (en.1 r0) m)⟩⟩
  · have st : rdSt c kn (q.1, popR 3 (V ++ []), false, 1) = none := by
      unfold rdSt
      rw [if_pos (by simp)]
    refine ⟨1 + k, popR 3 (V ++ []), by omega, (opens_popR (by decide) _).trans oX, Or.inr ⟨r0, fun m => ?_⟩⟩
    rw [← Nat.add_assoc, k2 (m + 1), rn_some (en.2 r0), rn_none st]
end SIM
/-! what waits is never more than 24 -/
def okW : List Nat → Prop
  | [] => True
  | t :: W => okW W ∧ ((t = 9 ∨ t = 40) ∨ rkT W < rk t)
theorem rk_4 (t : Nat) : rk t ≤ 4 := by
  unfold rk
  by_cases h1 : t = 7 ∨ t = 8
  · rw [if_pos h1]; omega
  · by_cases h2 : t = 60 ∨ t = 61
    · rw [if_neg h1, if_pos h2]; omega
    · by_cases h3 : t = 43 ∨ t = 45
      · rw [if_neg h1, if_neg h2, if_pos h3]; omega
      · by_cases h4 : t = 42
        · rw [if_neg h1, if_neg h2, if_neg h3, if_pos h4]; omega
        · rw [if_neg h1, if_neg h2, if_neg h3, if_neg h4]; omega
theorem okW_len : ∀ W, okW W → W.length ≤ 5 * opens W + rkT W := by
  intro W
  induction W with
  | nil => intro _; exact Nat.le_refl _
  | cons t W ih =>
    intro h
    have i := ih h.1
    have r4 : rkT W ≤ 4 := by
      cases W with
      | nil => exact Nat.zero_le _
      | cons u W => exact rk_4 u
    show W.length + 1 ≤ 5 * ((if t = 9 ∨ t = 40 then 1 else 0) + opens W) + rk t
    by_cases o : t = 9 ∨ t = 40
    · rw [if_pos o]; omega
    · rw [if_neg o]
      have := h.2.resolve_left o
      omega
theorem okW_popR {r : Nat} : ∀ W, okW W → okW (popR r W) ∧ (1 ≤ r → rkT (popR r W) < r) ∧ (1 ≤ r → opens (popR r W) = opens W) := by
  intro W
  induction W with
  | nil => exact fun _ => ⟨trivial, fun h => h, fun _ => rfl⟩
  | cons t W ih =>
    intro h
    show okW (if r ≤ rk t then popR r W else t :: W) ∧ (1 ≤ r → rkT (if r ≤ rk t then popR r W else t :: W) < r) ∧ (1 ≤ r → opens (if r ≤ rk t then popR r W else t :: W) = opens (t :: W))
    by_cases z : r ≤ rk t
    · rw [if_pos z]
      obtain ⟨a, b, d⟩ := ih h.1
      exact ⟨a, b, fun h1 => by rw [d h1, opens_op (by omega)]⟩
    · rw [if_neg z]
      exact ⟨h, fun _ => by show rk t < r; omega, fun _ => rfl⟩
theorem okW_popN : ∀ W, okW W → okW (popN W) := by
  intro W
  induction W with
  | nil => exact fun _ => trivial
  | cons t W ih =>
    intro h
    show okW (if t = 9 then popN W else t :: W)
    by_cases z : t = 9
    · rw [if_pos z]; exact ih h.1
    · rw [if_neg z]; exact h
theorem okW_clB : ∀ W, okW W → okW (clB W) := by
  intro W
  cases W with
  | nil => exact fun _ => trivial
  | cons t W =>
    intro h
    show okW (if t = 40 then W else t :: W)
    by_cases z : t = 40
    · rw [if_pos z]; exact h.1
    · rw [if_neg z]; exact h
/-- a step keeps what waits in order -/
theorem okW_step {c : Nat → Nat} {kn : Nat → Bool} {s s' : RdS} (e : rdSt c kn s = some s') (ok : okW s.2.1) (ho : opens s.2.1 ≤ 4) : okW s'.2.1 ∧ opens s'.2.1 ≤ 4 := by
  have nN : ∀ W, opens (popN W) ≤ opens W := by
    intro W
    induction W with
    | nil => exact Nat.le_refl _
    | cons t W ih =>
      show opens (if t = 9 then popN W else t :: W) ≤ (if t = 9 ∨ t = 40 then 1 else 0) + opens W
      by_cases z : t = 9
      · rw [if_pos z]; omega
      · rw [if_neg z]; exact Nat.le_refl _
  have nC : ∀ W, opens (clB W) ≤ opens W := by
    intro W
    cases W with
    | nil => exact Nat.le_refl _
    | cons t W =>
      show opens (if t = 40 then W else t :: W) ≤ (if t = 9 ∨ t = 40 then 1 else 0) + opens W
      by_cases z : t = 40
      · rw [if_pos z]; omega
      · rw [if_neg z]; exact Nat.le_refl _
  unfold rdSt at e
  by_cases z0 : ¬ s.2.2.2 = 0
  · rw [if_pos z0] at e; cases e
  · rw [if_neg z0] at e
    by_cases z1 : s.2.2.1 = true
    · rw [if_pos z1] at e
      cases e
      by_cases a1 : isO (c s.1) = false ∧ isE (c s.1) = false
      · rw [if_pos a1]; exact ⟨ok, ho⟩
      · rw [if_neg a1]
        by_cases a2 : c s.1 = 200 ∧ kn s.1 = false
        · rw [if_pos a2]; exact ⟨ok, ho⟩
        · rw [if_neg a2]
          by_cases a3 : 4 ≤ opens s.2.1
          · rw [if_pos a3]; exact ⟨ok, ho⟩
          · rw [if_neg a3]
            by_cases a4 : isO (c s.1) = true
            · rw [if_pos a4]
              have o := of_decide_eq_true a4
              refine ⟨⟨ok, Or.inl o⟩, ?_⟩
              show (if c s.1 = 9 ∨ c s.1 = 40 then 1 else 0) + opens s.2.1 ≤ 4
              rw [if_pos o]
              omega
            · rw [if_neg a4]
              exact ⟨okW_popN _ ok, Nat.le_trans (nN _) ho⟩
    · rw [if_neg z1] at e
      by_cases z2 : c s.1 = 41 ∧ 0 < opens s.2.1
      · rw [if_pos z2] at e
        cases e
        refine ⟨okW_popN _ (okW_clB _ (okW_popR _ ok).1), ?_⟩
        exact Nat.le_trans (nN _) (Nat.le_trans (nC _) (by rw [opens_popR (by decide)]; exact ho))
      · rw [if_neg z2] at e
        by_cases z3 : 0 < rk (c s.1)
        · rw [if_pos z3] at e
          cases e
          by_cases a1 : rk (c s.1) = 2 ∧ rkT (popR 3 s.2.1) = 2
          · rw [if_pos a1]
            exact ⟨(okW_popR _ ok).1, by show opens (popR 3 s.2.1) ≤ 4; rw [opens_popR (by decide)]; exact ho⟩
          · rw [if_neg a1]
            refine ⟨⟨(okW_popR _ ok).1, Or.inr ((okW_popR _ ok).2.1 z3)⟩, ?_⟩
            show opens (c s.1 :: popR (rk (c s.1)) s.2.1) ≤ 4
            rw [opens_op z3, opens_popR z3]
            exact ho
        · rw [if_neg z3] at e; cases e
