/-! codes that a pile can work -/
def stp (c a : Int32) (t : Nat) : Option Nat := if c = 1 then some (t + 1) else if c = 2 then (if 0 ≤ a ∧ a ≤ 10 then some (t + 1) else none) else if c = 3 then (if 0 ≤ a ∧ a ≤ 7 then some (t + 1) else none) else if c = 4 then (if 1 ≤ t then some t else none) else if 5 ≤ c ∧ c ≤ 11 then (if 2 ≤ t then some (t - 1) else none) else none
def run (op one : Nat → Int32) : Nat → Nat → Nat → Option Nat
  | 0, _, t => some t
  | k + 1, i, t => (stp (op i) (one i) t).bind fun u => run op one k (i + 1) u
theorem run_add (op one : Nat → Int32) (k2 : Nat) : ∀ (k1 i t : Nat), run op one (k1 + k2) i t = (run op one k1 i t).bind fun u => run op one k2 (i + k1) u := by
  intro k1
  induction k1 with
  | zero => intro i t; rw [Nat.zero_add]; rfl
  | succ k1 ih =>
    intro i t
    rw [Nat.succ_add]
    show (stp (op i) (one i) t).bind (fun u => run op one (k1 + k2) (i + 1) u) = ((stp (op i) (one i) t).bind (fun u => run op one k1 (i + 1) u)).bind _
    cases stp (op i) (one i) t with
    | none => rfl
    | some u =>
      show run op one (k1 + k2) (i + 1) u = (run op one k1 (i + 1) u).bind _
      rw [ih, show i + 1 + k1 = i + (k1 + 1) by omega]
theorem run_shift {op one op' one' : Nat → Int32} : ∀ (k i i' t : Nat), (∀ j, j < k → op' (i' + j) = op (i + j) ∧ one' (i' + j) = one (i + j)) → run op' one' k i' t = run op one k i t := by
  intro k
  induction k with
  | zero => intro i i' t _; rfl
  | succ k ih =>
    intro i i' t hq
    have h0 := hq 0 (by omega)
    rw [Nat.add_zero, Nat.add_zero] at h0
    simp only [run]
    rw [h0.1, h0.2]
    cases stp (op i) (one i) t with
    | none => simp only [Option.bind_none]
    | some u =>
      simp only [Option.bind_some]
      refine ih (i + 1) (i' + 1) u (fun j hj => ?_)
      have := hq (j + 1) (by omega)
      rw [show i' + 1 + j = i' + (j + 1) by omega, show i + 1 + j = i + (j + 1) by omega]
      exact this
def SEG (op one : Nat → Int32) (i k : Nat) : Prop := ∀ t, run op one k i t = some (t + 1)
theorem SEG_shift {op one op' one' : Nat → Int32} {i i' k : Nat} (s : SEG op one i k) (hq : ∀ j, j < k → op' (i' + j) = op (i + j) ∧ one' (i' + j) = one (i + j)) : SEG op' one' i' k := fun t => (run_shift k i i' t hq).trans (s t)
theorem SEG_congr {op one op' one' : Nat → Int32} {i k : Nat} (s : SEG op one i k) (hq : ∀ j, i ≤ j → j < i + k → op' j = op j ∧ one' j = one j) : SEG op' one' i k := SEG_shift s (fun j hj => hq (i + j) (by omega) (by omega))
theorem SEG_one {op one : Nat → Int32} {i : Nat} (h : op i = 1 ∨ (op i = 2 ∧ 0 ≤ one i ∧ one i ≤ 10) ∨ (op i = 3 ∧ 0 ≤ one i ∧ one i ≤ 7)) : SEG op one i 1 := by
  intro t
  show (stp (op i) (one i) t).bind (fun u => some u) = some (t + 1)
  rcases h with h | ⟨h, h1⟩ | ⟨h, h1⟩
  · rw [h]; rfl
  · rw [h]; unfold stp; rw [if_neg (by decide), if_pos rfl, if_pos h1]; rfl
  · rw [h]; unfold stp; rw [if_neg (by decide), if_neg (by decide), if_pos rfl, if_pos h1]; rfl
theorem SEG_not {op one : Nat → Int32} {i k : Nat} (s : SEG op one i k) (h : op (i + k) = 4) : SEG op one i (k + 1) := by
  intro t
  rw [run_add, s t]
  show (stp (op (i + k)) (one (i + k)) (t + 1)).bind (fun u => some u) = some (t + 1)
  rw [h]
  unfold stp
  rw [if_neg (by decide), if_neg (by decide), if_neg (by decide), if_pos rfl, if_pos (by omega)]
  rfl
theorem stp_bin {c a : Int32} {t : Nat} (h : 5 ≤ c ∧ c ≤ 11) (ht : 2 ≤ t) : stp c a t = some (t - 1) := by
  unfold stp
  rw [if_neg (by lia), if_neg (by lia), if_neg (by lia), if_neg (by lia), if_pos h, if_pos ht]
theorem SEG_bin {op one : Nat → Int32} {i k1 k2 : Nat} (s1 : SEG op one i k1) (s2 : SEG op one (i + k1) k2) (h : 5 ≤ op (i + k1 + k2) ∧ op (i + k1 + k2) ≤ 11) : SEG op one i (k1 + k2 + 1) := by
  intro t
  rw [run_add, run_add, s1 t]
  show (run op one k2 (i + k1) (t + 1)).bind _ = _
  rw [s2 (t + 1)]
  show (stp (op (i + (k1 + k2))) (one (i + (k1 + k2))) (t + 1 + 1)).bind (fun u => some u) = some (t + 1)
  rw [← Nat.add_assoc, stp_bin h (by omega)]
  rfl
/-! a code of the class's as the reference writes it -/
def rcO (x : Nat) : Int32 := if x < 10000 then 1 else if x < 20000 then 2 else if x < 30000 then 3 else if x = 30009 then 4 else if x = 30043 then 5 else if x = 30045 then 6 else if x = 30042 then 7 else if x = 30060 then 8 else if x = 30061 then 9 else if x = 30007 then 10 else 11
def rcA (x : Nat) : Int32 := if x < 10000 then nI x else if x < 20000 then nI (pm (x - 10000) - 10) else if x < 30000 then nI (x - 20000) else 0
def LST (op one : Nat → Int32) : Nat → List Nat → Prop
  | _, [] => True
  | i, x :: o => (op i = rcO x ∧ one i = rcA x) ∧ LST op one (i + 1) o
theorem LST_congr {op one op' one' : Nat → Int32} : ∀ (o : List Nat) (i i' : Nat), LST op one i o → (∀ j, j < o.length → op' (i' + j) = op (i + j) ∧ one' (i' + j) = one (i + j)) → LST op' one' i' o := by
  intro o
  induction o with
  | nil => intro i i' _ _; trivial
  | cons x o ih =>
    intro i i' l e
    have e0 := e 0 (by show 0 < o.length + 1; omega)
    rw [Nat.add_zero, Nat.add_zero] at e0
    refine ⟨⟨e0.1.trans l.1.1, e0.2.trans l.1.2⟩, ih (i + 1) (i' + 1) l.2 (fun j hj => ?_)⟩
    have := e (j + 1) (by show j + 1 < o.length + 1; omega)
    rw [show i' + 1 + j = i' + (j + 1) by omega, show i + 1 + j = i + (j + 1) by omega]
    exact this
theorem LST_app {op one : Nat → Int32} : ∀ (o p : List Nat) (i : Nat), LST op one i o → LST op one (i + o.length) p → LST op one i (o ++ p) := by
  intro o
  induction o with
  | nil => intro p i _ h; exact h
  | cons x o ih =>
    intro p i l h
    refine ⟨l.1, ih p (i + 1) l.2 ?_⟩
    rw [show i + 1 + o.length = i + (x :: o).length by show i + 1 + o.length = i + (o.length + 1); omega]
    exact h
/-! the reference's reader: its place, its codes -/
def gP (g : zGh) (a c : Nat) (f : Int32) (op one : Nat → Int32) : zGh := gset (gset (gset (gsA (gsA g 55 op) 56 one) 42 7 (nI a)) 42 8 f) 42 19 (nI c)
theorem gP_7 (g : zGh) (a a' c : Nat) (f : Int32) (op one : Nat → Int32) : gset (gP g a c f op one) 42 7 (nI a') = gP g a' c f op one := by
  unfold gP
  rw [gset_comm _ 42 _ _ (by decide : 19 ≠ 7), gset_comm _ 42 _ _ (by decide : 8 ≠ 7), gset_over]
theorem gP_8 (g : zGh) (a c : Nat) (f f' : Int32) (op one : Nat → Int32) : gset (gP g a c f op one) 42 8 f' = gP g a c f' op one := by
  unfold gP
  rw [gset_comm _ 42 _ _ (by decide : 19 ≠ 8), gset_over]
theorem gP_19 (g : zGh) (a c c' : Nat) (f : Int32) (op one : Nat → Int32) : gset (gP g a c f op one) 42 19 (nI c') = gP g a c' f op one := by
  unfold gP
  rw [gset_over]
theorem gP_55 (g : zGh) (a c : Nat) (f : Int32) (op one op' : Nat → Int32) : gsA (gP g a c f op one) 55 op' = gP g a c f op' one := by
  refine Prod.ext rfl (Prod.ext ?_ rfl)
  funext p
  show (if p = 55 then op' else if p = 56 then one else if p = 55 then op else g.2.1 p) = (if p = 56 then one else if p = 55 then op' else g.2.1 p)
  by_cases e : p = 55
  · subst e; simp
  · simp [e]
theorem gP_56 (g : zGh) (a c : Nat) (f : Int32) (op one one' : Nat → Int32) : gsA (gP g a c f op one) 56 one' = gP g a c f op one' := by
  refine Prod.ext rfl (Prod.ext ?_ rfl)
  funext p
  show (if p = 56 then one' else if p = 56 then one else if p = 55 then op else g.2.1 p) = (if p = 56 then one' else if p = 55 then op else g.2.1 p)
  by_cases e : p = 56
  · subst e; simp
  · simp [e]
/-- the fault's number: what is wrong at the token a -/
def FV (pl : Nat → Int32) (a k : Nat) : Int32 := if k = 0 then 0 else nI k + 16 * pl a
theorem FV_0 (pl : Nat → Int32) (a : Nat) : FV pl a 0 = 0 := if_pos rfl
theorem FV_k {pl : Nat → Int32} {a k : Nat} (h : ¬ k = 0) : FV pl a k = nI k + 16 * pl a := if_neg h
theorem FV_r {pl : Nat → Int32} {a k : Nat} (hk : k ≤ 5) (r : 0 ≤ pl a ∧ pl a ≤ 1000) : 0 ≤ FV pl a k ∧ (FV pl a k = 0 ↔ k = 0) := by
  by_cases z : k = 0
  · subst z
    rw [FV_0]
    exact ⟨by decide, fun _ => rfl, fun _ => rfl⟩
  · rw [FV_k z]
    obtain ⟨r2, r3⟩ := r
    have h5 : k = 1 ∨ k = 2 ∨ k = 3 ∨ k = 4 ∨ k = 5 := by omega
    have e1 : nI k = 1 ∨ nI k = 2 ∨ nI k = 3 ∨ nI k = 4 ∨ nI k = 5 := by
      rcases h5 with h | h | h | h | h <;> subst h <;> decide
    generalize nI k = y at e1
    generalize pl a = x at r2 r3
    exact ⟨by lia, fun y2 => absurd y2 (by lia), fun y2 => absurd y2 z⟩
def PW (n b L : Nat) (xs : Nat → Int32) (τ : Nat → Nat) (g : zGh) (nT a k c : Nat) (op one : Nat → Int32) (h : zH) : Prop := WT n b L xs τ (gP g a c (FV (g.2.1 45) a k) op one) h ∧ a ≤ nT ∧ c ≤ a ∧ k ≤ 5 ∧ nT ≤ 1000 ∧ g.2.1 44 nT = 0
theorem nI_b {a : Nat} (h : a ≤ 1001) : 0 ≤ nI a ∧ nI a ≤ 1001 := nI_r h (by decide)
theorem n0_lt {a m : Nat} (h : m < 2 ^ 31) (ha : a < 2 ^ 31) : (nI a < nI m) = (a < m) := by
  have e1 : (nI a).toInt = (a : Int) := Int32.toInt_ofNat_of_lt (by omega)
  have e2 : (nI m).toInt = (m : Int) := Int32.toInt_ofNat_of_lt (by omega)
  apply propext
  rw [Int32.lt_iff_toInt_lt, e1, e2]
  omega
theorem nle {a m : Nat} (h : a ≤ m) (hm : m < 2 ^ 31) : nI a ≤ nI m := (nI_r h hm).2
theorem nnle {a m : Nat} (h : m < a) (ha : a < 2 ^ 31) : ¬ nI a ≤ nI m := by
  rw [nI_leI (by omega) (by omega)]
  omega
theorem nlt {a m : Nat} (h : a < m) (hm : m < 2 ^ 31) : nI a < nI m := by
  rw [n0_lt hm (by omega)]
  exact h
theorem nnlt {a m : Nat} (h : m ≤ a) (ha : a < 2 ^ 31) : ¬ nI a < nI m := by
  rw [n0_lt (by omega) ha]
  omega
def qS (f s : Int32) (z : Int64) (v : Int32) : Int32 := if f = 0 then (if s = 3 then (if lg_cmp z v.toInt64 = 0 then 1 else 0) else 0) else 0
def qW (f s : Int32) (z y : Int64) : Int32 := if f = 0 then (if s = 1 then (if lg_cmp z y = 0 then 1 else 0) else 0) else 0
/-- the reference's tokens are those of tk, as the class numbers them; nu: the numbers -/
def RT (g : zGh) (tk nu : Nat → Nat) (nT : Nat) : Prop :=
  (∀ i, i ≤ nT → ∀ v, 40 ≤ v → v ≤ 61 → (tk i = v ↔ g.2.1 44 i = 3 ∧ g.2.2 46 i = (nI v).toInt64))
  ∧ (∀ i, i ≤ nT → ∀ j, j < 21 → (tk i = pm j ↔ g.2.1 44 i = 1 ∧ g.2.2 46 i = g.2.2 47 j))
  ∧ (∀ i, i ≤ nT → (tk i = 201 ↔ g.2.1 44 i = 2))
  ∧ (∀ i, i ≤ nT → tk i = 201 → g.2.2 46 i = Int64.ofNat (nu i) ∧ nu i < 10000)
  ∧ (∀ i, i ≤ nT → (tk i = 200 ↔ g.2.1 44 i = 1 ∧ ∀ j, j < 21 → ¬ g.2.2 46 i = g.2.2 47 j))
  ∧ (∀ i, i ≤ nT → (tk i = 202 ↔ g.2.1 44 i = 0))
theorem RT.sg {g : zGh} {tk nu : Nat → Nat} {nT : Nat} (R : RT g tk nu nT) : ∀ i, i ≤ nT → ∀ v, 40 ≤ v → v ≤ 61 → (tk i = v ↔ g.2.1 44 i = 3 ∧ g.2.2 46 i = (nI v).toInt64) := R.1
theorem RT.wd {g : zGh} {tk nu : Nat → Nat} {nT : Nat} (R : RT g tk nu nT) : ∀ i, i ≤ nT → ∀ j, j < 21 → (tk i = pm j ↔ g.2.1 44 i = 1 ∧ g.2.2 46 i = g.2.2 47 j) := R.2.1
theorem RT.nb {g : zGh} {tk nu : Nat → Nat} {nT : Nat} (R : RT g tk nu nT) : ∀ i, i ≤ nT → (tk i = 201 ↔ g.2.1 44 i = 2) := R.2.2.1
theorem RT.nv {g : zGh} {tk nu : Nat → Nat} {nT : Nat} (R : RT g tk nu nT) : ∀ i, i ≤ nT → tk i = 201 → g.2.2 46 i = Int64.ofNat (nu i) ∧ nu i < 10000 := R.2.2.2.1
theorem RT.na {g : zGh} {tk nu : Nat → Nat} {nT : Nat} (R : RT g tk nu nT) : ∀ i, i ≤ nT → (tk i = 200 ↔ g.2.1 44 i = 1 ∧ ∀ j, j < 21 → ¬ g.2.2 46 i = g.2.2 47 j) := R.2.2.2.2.1
theorem RT.en {g : zGh} {tk nu : Nat → Nat} {nT : Nat} (R : RT g tk nu nT) : ∀ i, i ≤ nT → (tk i = 202 ↔ g.2.1 44 i = 0) := R.2.2.2.2.2
/-- kn: the names that are told -/
def KN (g : zGh) (tk : Nat → Nat) (kn : Nat → Bool) (ix : Nat → Nat) (nT M : Nat) : Prop := M ≤ 8 ∧ g.1 42 17 = nI M ∧ ∀ i, i ≤ nT → tk i = 200 → (kn i = true ↔ ∃ k, k < M ∧ g.2.2 54 k = g.2.2 46 i) ∧ ∀ k, k < M → g.2.2 54 k = g.2.2 46 i → k = ix i
def tS (tk : Nat → Nat) (a k v : Nat) : Int32 := if k = 0 ∧ tk a = v then 1 else 0
theorem tS_01 (tk : Nat → Nat) (a k v : Nat) : (tS tk a k v = 0 ∧ ¬ (k = 0 ∧ tk a = v)) ∨ (tS tk a k v = 1 ∧ k = 0 ∧ tk a = v) := by
  unfold tS
  by_cases z : k = 0 ∧ tk a = v
  · rw [if_pos z]; exact Or.inr ⟨rfl, z⟩
  · rw [if_neg z]; exact Or.inl ⟨rfl, z⟩
theorem tS_0 {tk : Nat → Nat} {a k v : Nat} (h : tS tk a k v = 0) : ¬ (k = 0 ∧ tk a = v) := by
  rcases tS_01 tk a k v with z | z
  · exact z.2
  · rw [z.1] at h; exact absurd h (by decide)
theorem tS_1 {tk : Nat → Nat} {a k v : Nat} (h : ¬ tS tk a k v = 0) : k = 0 ∧ tk a = v := by
  rcases tS_01 tk a k v with z | z
  · exact absurd z.1 h
  · exact z.2
theorem exQ_yes {tk : Nat → Nat} {a v : Nat} (h : tk a = v) : exQ tk v (a, 0) = (a + 1, 0) := by
  show (if ¬ (0 : Nat) = 0 then ((a, 0) : RfS) else if tk a = v then (a + 1, 0) else (a, 1)) = _
  rw [if_neg (by decide), if_pos h]
theorem exQ_no {tk : Nat → Nat} {a k v : Nat} (h : ¬ (k = 0 ∧ tk a = v)) : exQ tk v (a, k) = (a, if k = 0 then 1 else k) := by
  show (if ¬ k = 0 then ((a, k) : RfS) else if tk a = v then (a + 1, 0) else (a, 1)) = _
  by_cases z : k = 0
  · rw [if_neg (fun y => y z), if_neg (fun y => h ⟨z, y⟩), if_pos z]
  · rw [if_pos z, if_neg z]
section PRS
variable {n b L : Nat} {xs : Nat → Int32} {τ : Nat → Nat} {g : zGh} {h : zH} {nT a k c : Nat} {op one : Nat → Int32} {tk nu : Nat → Nat}
theorem P_7 (p : PW n b L xs τ g nT a k c op one h) : gI h (n + 42) 12 7 = some (nI a) := E_42_7 p.1
theorem P_8 (p : PW n b L xs τ g nT a k c op one h) : gI h (n + 42) 12 8 = some (FV (g.2.1 45) a k) := E_42_8 p.1
theorem P_19 (p : PW n b L xs τ g nT a k c op one h) : gI h (n + 42) 12 19 = some (nI c) := E_42_19 p.1
theorem P_a (p : PW n b L xs τ g nT a k c op one h) : a ≤ 1000 := by
  obtain ⟨-, p1, -, -, p2, -⟩ := p
  omega
theorem P_S (p : PW n b L xs τ g nT a k c op one h) : aI h (n + 44) (nI a) = some (g.2.1 44 a) := by
  have ha := P_a p
  have r := nI_r (show a ≤ 1000 by omega) (by decide : 1000 < 2 ^ 31)
  have e : nI 1000 = 1000 := rfl
  have q := A_44 p.1 (i := nI a) r.1 (by lia)
  rw [nI_clamp (by omega)] at q
  exact q
theorem P_V (p : PW n b L xs τ g nT a k c op one h) : aL h (n + 46) (nI a) = some (g.2.2 46 a) := by
  have ha := P_a p
  have r := nI_r (show a ≤ 1000 by omega) (by decide : 1000 < 2 ^ 31)
  have e : nI 1000 = 1000 := rfl
  have q := A_46 p.1 (i := nI a) r.1 (by lia)
  rw [nI_clamp (by omega)] at q
  exact q
theorem P_P (p : PW n b L xs τ g nT a k c op one h) : aI h (n + 45) (nI a) = some (g.2.1 45 a) ∧ 0 ≤ g.2.1 45 a ∧ g.2.1 45 a ≤ 1000 := by
  have ha := P_a p
  have r := nI_r (show a ≤ 1000 by omega) (by decide : 1000 < 2 ^ 31)
  have e : nI 1000 = 1000 := rfl
  obtain ⟨x, ex, q1, q2, q3⟩ := aI_45 p.1 (i := nI a) r.1 (by lia)
  rw [nI_clamp (by omega)] at q1
  have q4 : x = g.2.1 45 a := q1
  rw [← q4]
  exact ⟨ex, q2, q3⟩
theorem P_f (p : PW n b L xs τ g nT a k c op one h) : 0 ≤ FV (g.2.1 45) a k ∧ (FV (g.2.1 45) a k = 0 ↔ k = 0) := FV_r p.2.2.2.1 (P_P p).2
theorem P_le (p : PW n b L xs τ g nT a k c op one h) : FV (g.2.1 45) a k ≤ 0 ↔ k = 0 := by
  obtain ⟨f0, f1⟩ := P_f p
  constructor
  · intro z
    exact f1.mp (by lia)
  · intro z
    rw [f1.mpr z]
    decide
theorem P_isSign0 {v : Int32} (p : PW n b L xs τ g nT a k c op one h) : f_X12_isSign 10000 (n + 42) v h = some (qS (FV (g.2.1 45) a k) (g.2.1 44 a) (g.2.2 46 a) v) := by
  unfold f_X12_isSign qS
  rw [P_8 p]
  generalize FV (g.2.1 45) a k = f
  show (if f = 0 then _ else _) = _
  by_cases c1 : f = 0
  · rw [if_pos c1, if_pos c1, gR_42_4 p.1]
    show (gI h (n + 42) 12 7).bind _ = _
    rw [P_7 p]
    show (aI h (n + 44) (nI a)).bind _ = _
    rw [P_S p]
    show (if g.2.1 44 a = 3 then _ else _) = _
    by_cases c2 : g.2.1 44 a = 3
    · rw [if_pos c2, if_pos c2, gR_42_6 p.1]
      show (aL h (n + 46) (nI a)).bind _ = _
      rw [P_V p]
      show (if lg_cmp (g.2.2 46 a) v.toInt64 = 0 then some 1 else some 0) = _
      by_cases c3 : lg_cmp (g.2.2 46 a) v.toInt64 = 0
      · rw [if_pos c3, if_pos c3]
      · rw [if_neg c3, if_neg c3]
    · rw [if_neg c2, if_neg c2]
  · rw [if_neg c1, if_neg c1]
theorem P_isWord0 {v : Int32} (p : PW n b L xs τ g nT a k c op one h) (v0 : 0 ≤ v) (v1 : v < 21) : f_X12_isWord 10000 (n + 42) v h = some (qW (FV (g.2.1 45) a k) (g.2.1 44 a) (g.2.2 46 a) (g.2.2 47 v.toNatClampNeg)) := by
  unfold f_X12_isWord qW
  rw [P_8 p]
  generalize FV (g.2.1 45) a k = f
  show (if f = 0 then _ else _) = _
  by_cases c1 : f = 0
  · rw [if_pos c1, if_pos c1, gR_42_4 p.1]
    show (gI h (n + 42) 12 7).bind _ = _
    rw [P_7 p]
    show (aI h (n + 44) (nI a)).bind _ = _
    rw [P_S p]
    show (if g.2.1 44 a = 1 then _ else _) = _
    by_cases c2 : g.2.1 44 a = 1
    · rw [if_pos c2, if_pos c2, gR_42_6 p.1]
      show (aL h (n + 46) (nI a)).bind _ = _
      rw [P_V p]
      show (gR h (n + 42) 12 9).bind _ = _
      rw [gR_42_9 p.1]
      show (aL h (n + 47) v).bind _ = _
      rw [A_47 p.1 v0 v1]
      show (if lg_cmp (g.2.2 46 a) (g.2.2 47 v.toNatClampNeg) = 0 then some 1 else some 0) = _
      by_cases c3 : lg_cmp (g.2.2 46 a) (g.2.2 47 v.toNatClampNeg) = 0
      · rw [if_pos c3, if_pos c3]
      · rw [if_neg c3, if_neg c3]
    · rw [if_neg c2, if_neg c2]
  · rw [if_neg c1, if_neg c1]
theorem P_isSign {v : Nat} (R : RT g tk nu nT) (p : PW n b L xs τ g nT a k c op one h) (v0 : 40 ≤ v) (v1 : v ≤ 61) : f_X12_isSign 10000 (n + 42) (nI v) h = some (tS tk a k v) := by
  rw [P_isSign0 p]
  have t := R.sg a p.2.1 v v0 v1
  have fz := (P_f p).2
  refine congrArg some ?_
  unfold qS
  by_cases c1 : k = 0
  · rw [if_pos (fz.mpr c1)]
    rcases tS_01 tk a k v with z | z
    · rw [z.1]
      by_cases c3 : g.2.1 44 a = 3
      · rw [if_pos c3, if_neg (fun y => z.2 ⟨c1, t.mpr ⟨c3, (lg_cmp_eq _ _).mp y⟩⟩)]
      · rw [if_neg c3]
    · rw [z.1]
      obtain ⟨x, y⟩ := t.mp z.2.2
      rw [if_pos x, if_pos ((lg_cmp_eq _ _).mpr y)]
  · rw [if_neg (fun z => c1 (fz.mp z))]
    rcases tS_01 tk a k v with z | z
    · rw [z.1]
    · exact absurd z.2.1 c1
theorem P_isWord {j : Nat} (R : RT g tk nu nT) (p : PW n b L xs τ g nT a k c op one h) (hj : j < 21) : f_X12_isWord 10000 (n + 42) (nI j) h = some (tS tk a k (pm j)) := by
  have rj := nI_r (show j ≤ 20 by omega) (by decide : 20 < 2 ^ 31)
  have e20 : nI 20 = 20 := rfl
  rw [P_isWord0 p rj.1 (by lia), nI_clamp (by omega)]
  have t := R.wd a p.2.1 j hj
  have fz := (P_f p).2
  refine congrArg some ?_
  unfold qW
  by_cases c1 : k = 0
  · rw [if_pos (fz.mpr c1)]
    rcases tS_01 tk a k (pm j) with z | z
    · rw [z.1]
      by_cases c3 : g.2.1 44 a = 1
      · rw [if_pos c3, if_neg (fun y => z.2 ⟨c1, t.mpr ⟨c3, (lg_cmp_eq _ _).mp y⟩⟩)]
      · rw [if_neg c3]
    · rw [z.1]
      obtain ⟨x, y⟩ := t.mp z.2.2
      rw [if_pos x, if_pos ((lg_cmp_eq _ _).mpr y)]
  · rw [if_neg (fun z => c1 (fz.mp z))]
    rcases tS_01 tk a k (pm j) with z | z
    · rw [z.1]
    · exact absurd z.2.1 c1
theorem P_take (p : PW n b L xs τ g nT a 0 c op one h) (hs : ¬ g.2.1 44 a = 0) : wp (pF h (n + 42) 12 7 (.int (nI a + 1))) (fun r => PW n b L xs τ g nT (a + 1) 0 c op one r) := by
  obtain ⟨w, p1, p2, p3, p4, p5⟩ := p
  have ne : a ≠ nT := fun e => hs (by rw [e]; exact p5)
  have r := nI_b (show a + 1 ≤ 1001 by omega)
  rw [nI_1]
  rw [FV_0] at w
  refine wp_mono (pI_42_7 w r.1 r.2) fun r q => ?_
  rw [gP_7] at q
  refine ⟨?_, by omega, by omega, p3, p4, p5⟩
  rw [FV_0]
  exact q
theorem P_go (R : RT g tk nu nT) (p : PW n b L xs τ g nT a 0 c op one h) (ht : ¬ tk a = 202) : wp (pF h (n + 42) 12 7 (.int (nI a + 1))) (fun r => PW n b L xs τ g nT (a + 1) 0 c op one r) := P_take p (fun z => ht ((R.en a p.2.1).mpr z))
theorem P_stay (p : PW n b L xs τ g nT a k c op one h) : wp (pF h (n + 42) 12 7 (.int (nI a + 0))) (fun r => PW n b L xs τ g nT a k c op one r) := by
  obtain ⟨w, p1, p2, p3, p4, p5⟩ := p
  have r := nI_b (show a ≤ 1001 by omega)
  rw [Int32.add_zero]
  refine wp_mono (pI_42_7 w r.1 r.2) fun r q => ?_
  rw [gP_7] at q
  exact ⟨q, p1, p2, p3, p4, p5⟩
theorem P_emit {v1 v2 : Int32} (p : PW n b L xs τ g nT a k c op one h) (hc : c + 1 ≤ a) : wp (f_X12_emit 10000 (n + 42) v1 v2 h) (fun r => PW n b L xs τ g nT a k (c + 1) (upd op (19200 + c) v1) (upd one (19200 + c) v2) r) := by
  unfold f_X12_emit
  obtain ⟨w, p1, p2, p3, p4, p5⟩ := p
  have ei : (19200 : Int32) + nI c = nI (19200 + c) := nI_add 19200 c
  have r := nI_r (show 19200 + c ≤ 20399 by omega) (by decide : 20399 < 2 ^ 31)
  have e9 : nI 20399 = 20399 := rfl
  have r2 := nI_r (show c + 1 ≤ 1199 by omega) (by decide : 1199 < 2 ^ 31)
  have e11 : nI 1199 = 1199 := rfl
  refine wp_eq (gR_42_20 w) ?_
  refine wp_eq (E_42_19 w) ?_
  show wp (Option.bind (sI h (n + 55) ((19200 : Int32) + nI c) v1) _) _
  rw [ei]
  refine wp_bind (sI_55 w r.1 (by lia)) fun h3 w3 => ?_
  rw [gP_55, nI_clamp (by omega)] at w3
  refine wp_eq (gR_42_21 w3) ?_
  refine wp_eq (E_42_19 w3) ?_
  show wp (Option.bind (sI h3 (n + 56) ((19200 : Int32) + nI c) v2) _) _
  rw [ei]
  refine wp_bind (sI_56 w3 r.1 (by lia)) fun h6 w6 => ?_
  rw [gP_56, nI_clamp (by omega)] at w6
  refine wp_eq (E_42_19 w6) ?_
  show wp (Option.bind (pF h6 (n + 42) 12 19 (.int (nI c + 1))) _) _
  rw [nI_1]
  refine wp_bind (pI_42_19 w6 r2.1 (by lia)) fun h8 w8 => ?_
  rw [gP_19] at w8
  exact wp_some ⟨w8, p1, by omega, p3, p4, p5⟩
theorem P_wrong {v : Nat} (p : PW n b L xs τ g nT a k c op one h) (h1 : 1 ≤ v) (h2 : v ≤ 5) : wp (f_X12_wrong 10000 (n + 42) (nI v) h) (fun r => PW n b L xs τ g nT a (if k = 0 then v else k) c op one r) := by
  unfold f_X12_wrong
  refine wp_eq (P_8 p) ?_
  have fz := (P_f p).2
  refine wp_ite (fun c1 => ?_) (fun c1 => ?_)
  · refine wp_eq (gR_42_5 p.1) ?_
    refine wp_eq (P_7 p) ?_
    refine wp_eq (P_P p).1 ?_
    refine wp_bind (pI_42_8 p.1 (x := nI v + 16 * g.2.1 45 a)) fun h6 w6 => ?_
    rw [gP_8] at w6
    obtain ⟨-, q1, q2, q3, q4, q5⟩ := p
    rw [if_pos (fz.mp c1)]
    refine wp_some ⟨?_, q1, q2, h2, q4, q5⟩
    rw [FV_k (show ¬ v = 0 by omega)]
    exact w6
  · rw [if_neg (fun z => c1 (fz.mpr z))]
    exact wp_some p
theorem P_hasSign {v : Nat} (R : RT g tk nu nT) (p : PW n b L xs τ g nT a k c op one h) (v0 : 40 ≤ v) (v1 : v ≤ 61) : wp (f_X12_hasSign 10000 (n + 42) (nI v) h) (fun r => (r.1 = 0 ∧ ¬ (k = 0 ∧ tk a = v) ∧ PW n b L xs τ g nT a k c op one r.2) ∨ (r.1 = 1 ∧ k = 0 ∧ tk a = v ∧ PW n b L xs τ g nT (a + 1) 0 c op one r.2)) := by
  unfold f_X12_hasSign
  refine wp_zif (ob_42 p.1) ?_
  refine wp_eq (P_isSign R p v0 v1) ?_
  refine wp_eq (P_7 p) ?_
  have z := tS_01 tk a k v
  generalize tS tk a k v = q at z
  refine wp_ite (fun c1 => ?_) (fun c1 => ?_)
  · have z2 := (z.resolve_right (fun y => by rw [y.1] at c1; exact absurd c1 (by decide))).2
    exact wp_bind (P_stay p) fun h5 p5 => wp_rZ (Or.inl c1) (Or.inl ⟨c1, z2, p5⟩)
  · obtain ⟨z1, z2, z3⟩ := z.resolve_left (fun y => c1 y.1)
    subst z2
    exact wp_bind (P_go R p (by omega)) fun h5 p5 => wp_rZ (Or.inr z1) (Or.inr ⟨z1, rfl, z3, p5⟩)
theorem P_hasWord {j : Nat} (R : RT g tk nu nT) (p : PW n b L xs τ g nT a k c op one h) (hj : j < 21) : wp (f_X12_hasWord 10000 (n + 42) (nI j) h) (fun r => (r.1 = 0 ∧ ¬ (k = 0 ∧ tk a = pm j) ∧ PW n b L xs τ g nT a k c op one r.2) ∨ (r.1 = 1 ∧ k = 0 ∧ tk a = pm j ∧ PW n b L xs τ g nT (a + 1) 0 c op one r.2)) := by
  unfold f_X12_hasWord
  refine wp_zif (ob_42 p.1) ?_
  refine wp_eq (P_isWord R p hj) ?_
  refine wp_eq (P_7 p) ?_
  have pj := pm_le j hj
  have z := tS_01 tk a k (pm j)
  generalize tS tk a k (pm j) = q at z
  refine wp_ite (fun c1 => ?_) (fun c1 => ?_)
  · have z2 := (z.resolve_right (fun y => by rw [y.1] at c1; exact absurd c1 (by decide))).2
    exact wp_bind (P_stay p) fun h5 p5 => wp_rZ (Or.inl c1) (Or.inl ⟨c1, z2, p5⟩)
  · obtain ⟨z1, z2, z3⟩ := z.resolve_left (fun y => c1 y.1)
    subst z2
    exact wp_bind (P_go R p (by omega)) fun h5 p5 => wp_rZ (Or.inr z1) (Or.inr ⟨z1, rfl, z3, p5⟩)
theorem P_takeSign {v : Nat} (R : RT g tk nu nT) (p : PW n b L xs τ g nT a k c op one h) (v0 : 40 ≤ v) (v1 : v ≤ 61) : wp (f_X12_takeSign 10000 (n + 42) (nI v) h) (fun r => PW n b L xs τ g nT (exQ tk v (a, k)).1 (exQ tk v (a, k)).2 c op one r) := by
  unfold f_X12_takeSign
  refine wp_zif (ob_42 p.1) ?_
  refine wp_eq (P_isSign R p v0 v1) ?_
  refine wp_ite (fun c1 => ?_) (fun c1 => ?_)
  · rw [exQ_no (tS_0 c1)]
    refine wp_zif (ob_42 p.1) ?_
    exact wp_bind (P_wrong (v := 1) p (by decide) (by decide)) fun h5 p5 => wp_some p5
  · obtain ⟨z2, z3⟩ := tS_1 c1
    subst z2
    rw [exQ_yes z3]
    refine wp_eq (P_7 p) ?_
    exact wp_bind (P_go R p (by omega)) fun h7 p7 => wp_some p7
theorem P_takeWord {j : Nat} (R : RT g tk nu nT) (p : PW n b L xs τ g nT a k c op one h) (hj : j < 21) : wp (f_X12_takeWord 10000 (n + 42) (nI j) h) (fun r => PW n b L xs τ g nT (exQ tk (pm j) (a, k)).1 (exQ tk (pm j) (a, k)).2 c op one r) := by
  unfold f_X12_takeWord
  refine wp_zif (ob_42 p.1) ?_
  refine wp_bind (P_hasWord R p hj) fun q2 p2 => ?_
  rcases p2 with ⟨e, z, p2⟩ | ⟨e, z2, z3, p2⟩
  · refine wp_ite (fun _ => ?_) (fun c1 => absurd e c1)
    rw [exQ_no z]
    refine wp_zif (ob_42 p2.1) ?_
    exact wp_bind (P_wrong (v := 1) p2 (by decide) (by decide)) fun h5 p5 => wp_some p5
  · refine wp_ite (fun c1 => ?_) (fun c1 => ?_)
    · rw [e] at c1; exact absurd c1 (by decide)
    · subst z2
      rw [exQ_yes z3]
      exact wp_some p2
theorem P_isName_L28 (p : PW n b L xs τ g nT a k c op one h) : ∀ (m j : Nat) {v1 : Int32}, (v1 = 0 ∨ v1 = 1) → j ≤ 21 → 21 - j < m → wp (f_X12_isName_L28 10000 (n + 42) h m v1 (nI j)) (fun r => (r = 0 ∨ r = 1) ∧ (r = 1 ↔ v1 = 1 ∧ ∀ i, j ≤ i → i < 21 → ¬ g.2.2 46 a = g.2.2 47 i)) := by
  intro m
  induction m with
  | zero => intro j v1 i1 i0 hm; exact absurd hm (Nat.not_lt_zero _)
  | succ m ih =>
    intro j v1 i1 i0 hm
    rw [f_X12_isName_L28.eq_2]
    by_cases c : 21 ≤ j
    · rw [if_pos (show (21 : Int32) ≤ nI j from nle (a := 21) c (by omega))]
      exact wp_some ⟨i1, fun e => ⟨e, fun i h1 h2 => absurd h2 (by omega)⟩, fun e => e.1⟩
    · rw [if_neg (show ¬ (21 : Int32) ≤ nI j from nnle (a := 21) (by omega) (by omega)), nI_1]
      refine wp_ite (fun c2 => ?_) (fun c2 => ?_)
      · refine wp_mono (ih (j + 1) (Or.inl rfl) (by omega) (by omega)) fun r q => ⟨q.1, fun e => absurd (q.2.mp e).1 (by decide), fun e => ?_⟩
        rw [c2] at e
        exact absurd e.1 (by decide)
      · have v1e : v1 = 1 := i1.resolve_left c2
        have rj := nI_r (show j ≤ 20 by omega) (by decide : 20 < 2 ^ 31)
        have e20 : nI 20 = 20 := rfl
        refine wp_eq (gR_42_6 p.1) ?_
        refine wp_eq (P_7 p) ?_
        refine wp_eq (P_V p) ?_
        refine wp_eq (gR_42_9 p.1) ?_
        have e47 := A_47 p.1 (i := nI j) rj.1 (by lia)
        rw [nI_clamp (by omega)] at e47
        refine wp_eq e47 ?_
        refine wp_ite (fun c3 => ?_) (fun c3 => ?_)
        · refine wp_mono (ih (j + 1) (Or.inl rfl) (by omega) (by omega)) fun r q => ⟨q.1, fun e => absurd (q.2.mp e).1 (by decide), fun e => ?_⟩
          exact absurd ((lg_cmp_eq _ _).mp c3) (e.2 j (Nat.le_refl _) (by omega))
        · refine wp_mono (ih (j + 1) (Or.inr rfl) (by omega) (by omega)) fun r q => ⟨q.1, fun e => ⟨v1e, fun i h1 h2 => ?_⟩, fun e => q.2.mpr ⟨rfl, fun i h1 h2 => e.2 i (by omega) h2⟩⟩
          by_cases ei : i = j
          · rw [ei]
            exact fun z => c3 ((lg_cmp_eq _ _).mpr z)
          · exact (q.2.mp e).2 i (by omega) h2
theorem P_isName (R : RT g tk nu nT) (p : PW n b L xs τ g nT a k c op one h) : f_X12_isName 10000 (n + 42) h = some (tS tk a k 200) := by
  refine wp_is ?_
  unfold f_X12_isName
  have fz := (P_f p).2
  have t := R.na a p.2.1
  refine wp_eq (P_8 p) ?_
  refine wp_bind (R := fun r => (r = 0 ∨ r = 1) ∧ (r = 1 ↔ k = 0 ∧ g.2.1 44 a = 1)) ?_ (fun m2 p2 => ?_)
  · refine wp_ite (fun c1 => ?_) (fun c1 => wp_some ⟨Or.inl rfl, fun e => absurd e (by decide), fun e => absurd (fz.mpr e.1) c1⟩)
    refine wp_eq (gR_42_4 p.1) ?_
    refine wp_eq (P_7 p) ?_
    refine wp_eq (P_S p) ?_
    exact wp_ite (fun c2 => wp_some ⟨Or.inr rfl, fun _ => ⟨fz.mp c1, c2⟩, fun _ => rfl⟩) (fun c2 => wp_some ⟨Or.inl rfl, fun e => absurd e (by decide), fun e => absurd e.2 c2⟩)
  refine wp_bind (P_isName_L28 p 10000 0 p2.1 (by decide) (by decide)) fun m16 p16 => ?_
  refine wp_rZ0 p16.1 ?_
  rcases tS_01 tk a k 200 with z | z
  · rw [z.1]
    rcases p16.1 with y | y
    · exact y
    · exfalso
      obtain ⟨y1, y2⟩ := p16.2.mp y
      obtain ⟨x1, x2⟩ := p2.2.mp y1
      exact z.2 ⟨x1, t.mpr ⟨x2, fun j hj => y2 j (Nat.zero_le _) hj⟩⟩
  · rw [z.1]
    obtain ⟨x1, x2⟩ := t.mp z.2.2
    exact p16.2.mpr ⟨p2.2.mpr ⟨z.2.1, x1⟩, fun i _ hi => x2 i hi⟩
theorem P_findName_L4 {M : Nat} (p : PW n b L xs τ g nT a k c op one h) (hM : M ≤ 8) (eM : g.1 42 17 = nI M) : ∀ (m j : Nat) {v1 : Int32}, (v1 = -1 ∨ ∃ i, i < j ∧ v1 = nI i ∧ g.2.2 54 i = g.2.2 46 a) → j ≤ M → M - j < m → (v1 = -1 ↔ ¬ ∃ i, i < j ∧ g.2.2 54 i = g.2.2 46 a) → wp (f_X12_findName_L4 10000 (n + 42) h m v1 (nI j)) (fun r => (r = -1 ∨ ∃ i, i < M ∧ r = nI i ∧ g.2.2 54 i = g.2.2 46 a) ∧ (r = -1 ↔ ¬ ∃ i, i < M ∧ g.2.2 54 i = g.2.2 46 a)) := by
  intro m
  induction m with
  | zero => intro j v1 i1 i0 hm; exact absurd hm (Nat.not_lt_zero _)
  | succ m ih =>
    intro j v1 i1 i0 hm hv
    rw [f_X12_findName_L4.eq_2]
    have e17 : gI h (n + 42) 12 17 = some (nI M) := by
      rw [E_42_17 p.1]
      exact congrArg some eM
    refine wp_eq e17 ?_
    by_cases c : M ≤ j
    · have e : j = M := by omega
      subst e
      rw [if_pos (nle (Nat.le_refl _) (by omega))]
      exact wp_some ⟨i1, hv⟩
    · rw [if_neg (nnle (by omega) (by omega))]
      have rj := nI_r (show j ≤ 7 by omega) (by decide : 7 < 2 ^ 31)
      have e7 : nI 7 = 7 := rfl
      refine wp_eq (gR_42_18 p.1) ?_
      have e54 := A_54 p.1 (i := nI j) rj.1 (by lia)
      rw [nI_clamp (by omega)] at e54
      refine wp_eq e54 ?_
      refine wp_eq (gR_42_6 p.1) ?_
      refine wp_eq (P_7 p) ?_
      refine wp_eq (P_V p) ?_
      rw [nI_1]
      refine wp_ite (fun c2 => ?_) (fun c2 => ?_)
      · have e2 : g.2.2 54 j = g.2.2 46 a := (lg_cmp_eq _ _).mp c2
        refine ih (j + 1) (Or.inr ⟨j, by omega, rfl, e2⟩) (by omega) (by omega) ⟨fun z => ?_, fun z => absurd ⟨j, by omega, e2⟩ z⟩
        exfalso
        rw [z] at rj
        exact absurd rj.1 (by decide)
      · refine ih (j + 1) (i1.imp id (fun ⟨i, h1, h2⟩ => ⟨i, by omega, h2⟩)) (by omega) (by omega) (hv.trans (not_congr ⟨fun ⟨i, h1, h2⟩ => ⟨i, by omega, h2⟩, fun ⟨i, h1, h2⟩ => ?_⟩))
        by_cases ei : i = j
        · rw [ei] at h2
          exact absurd ((lg_cmp_eq _ _).mpr h2) c2
        · exact ⟨i, by omega, h2⟩
theorem P_findName {M : Nat} {kn : Nat → Bool} {ix : Nat → Nat} (K : KN g tk kn ix nT M) (p : PW n b L xs τ g nT a k c op one h) (ht : tk a = 200) : wp (f_X12_findName 10000 (n + 42) h) (fun r => -1 ≤ r ∧ r ≤ 7 ∧ (0 ≤ r ↔ kn a = true) ∧ (0 ≤ r → r = nI (ix a) ∧ ix a ≤ 7)) := by
  obtain ⟨k1, k2, k3⟩ := K
  have k4 := (k3 a p.2.1 ht).1
  have k5 := (k3 a p.2.1 ht).2
  unfold f_X12_findName
  refine wp_bind (P_findName_L4 p k1 k2 10000 0 (Or.inl rfl) (by omega) (by omega) ⟨fun _ ⟨i, h1, _⟩ => absurd h1 (Nat.not_lt_zero _), fun _ => rfl⟩) fun r q => wp_some ?_
  obtain ⟨q1, q2⟩ := q
  rcases q1 with e | ⟨i, h1, h2, h3⟩
  · refine ⟨by rw [e]; decide, by rw [e]; decide, ⟨fun z => ?_, fun z => absurd (k4.mp z) (q2.mp e)⟩, fun z => ?_⟩
    · rw [e] at z
      exact absurd z (by decide)
    · rw [e] at z
      exact absurd z (by decide)
  · have ri := nI_r (show i ≤ 7 by omega) (by decide : 7 < 2 ^ 31)
    have e7 : nI 7 = 7 := rfl
    rw [← h2] at ri
    have ei := k5 i h1 h3
    refine ⟨by lia, by lia, ⟨fun _ => k4.mpr ?_, fun _ => ri.1⟩, fun _ => ⟨by rw [h2, ei], by omega⟩⟩
    refine Decidable.byContradiction fun z => ?_
    have y := q2.mpr z
    rw [y] at ri
    exact absurd ri.1 (by decide)
/-- a name that isn't looked for -/
theorem P_findName0 {M : Nat} (p : PW n b L xs τ g nT a k c op one h) (hM : M ≤ 8) (eM : g.1 42 17 = nI M) : wp (f_X12_findName 10000 (n + 42) h) (fun r => -1 ≤ r ∧ r ≤ 7) := by
  unfold f_X12_findName
  refine wp_bind (P_findName_L4 p hM eM 10000 0 (Or.inl rfl) (by omega) (by omega) ⟨fun _ ⟨i, h1, _⟩ => absurd h1 (Nat.not_lt_zero _), fun _ => rfl⟩) fun r q => wp_some ?_
  rcases q.1 with e | ⟨i, h1, h2, -⟩
  · exact ⟨by rw [e]; decide, by rw [e]; decide⟩
  · have ri := nI_r (show i ≤ 7 by omega) (by decide : 7 < 2 ^ 31)
    have e7 : nI 7 = 7 := rfl
    rw [← h2] at ri
    exact ⟨by lia, by lia⟩
theorem nI_sb10 {j : Nat} (h : 10 ≤ j) : nI j - 10 = nI (j - 10) := by
  have e : nI j = nI (j - 10) + 10 := by
    rw [show (10 : Int32) = nI 10 from rfl, nI_add, show j - 10 + 10 = j by omega]
  rw [e]
  lia
theorem P_L13 (R : RT g tk nu nT) (p : PW n b L xs τ g nT a k c op one h) : ∀ (m j : Nat) {v2 : Int32}, 10 ≤ j → j ≤ 21 → 21 - j < m → ((v2 = -1 ∧ ¬ (k = 0 ∧ ∃ i, 10 ≤ i ∧ i < j ∧ tk a = pm i)) ∨ (0 ≤ v2 ∧ v2 ≤ 10 ∧ k = 0 ∧ ∃ i, 10 ≤ i ∧ i < j ∧ tk a = pm i ∧ v2 = nI (i - 10))) → wp (f_X12_takePart_L13 10000 (n + 42) h m v2 (nI j)) (fun r => (r = -1 ∧ ¬ (k = 0 ∧ ∃ i, 10 ≤ i ∧ i < 21 ∧ tk a = pm i)) ∨ (0 ≤ r ∧ r ≤ 10 ∧ k = 0 ∧ ∃ i, 10 ≤ i ∧ i < 21 ∧ tk a = pm i ∧ r = nI (i - 10))) := by
  intro m
  induction m with
  | zero => intro j v2 i1 i0 hm; exact absurd hm (Nat.not_lt_zero _)
  | succ m ih =>
    intro j v2 i1 i0 hm hv
    rw [f_X12_takePart_L13.eq_2]
    by_cases c : 21 ≤ j
    · have e : j = 21 := by omega
      subst e
      rw [if_pos (show (21 : Int32) ≤ nI 21 by decide)]
      exact wp_some hv
    · rw [if_neg (show ¬ (21 : Int32) ≤ nI j from nnle (a := 21) (by omega) (by omega))]
      refine wp_zif (ob_42 p.1) ?_
      refine wp_eq (P_isWord R p (by omega)) ?_
      rw [nI_1]
      refine wp_ite (fun c2 => ?_) (fun c2 => ?_)
      · refine ih (j + 1) (by omega) (by omega) (by omega) ?_
        rcases hv with ⟨h1, h2⟩ | ⟨h1, h2, h3, i, h4, h5, h6, h7⟩
        · refine Or.inl ⟨h1, fun ⟨z1, i, z2, z3, z4⟩ => ?_⟩
          by_cases ei : i = j
          · rw [ei] at z4
            exact tS_0 c2 ⟨z1, z4⟩
          · exact h2 ⟨z1, i, z2, by omega, z4⟩
        · exact Or.inr ⟨h1, h2, h3, i, h4, by omega, h6, h7⟩
      · obtain ⟨z1, z2⟩ := tS_1 c2
        have rj := nI_r (show j ≤ 20 by omega) (by decide : 20 < 2 ^ 31)
        have r10 : (10 : Int32) ≤ nI j := nle (a := 10) i1 (by omega)
        have e20 : nI 20 = 20 := rfl
        have ej : nI j - 10 = nI (j - 10) := nI_sb10 i1
        refine wp_zlet (ih (j + 1) (by omega) (by omega) (by omega) (Or.inr ⟨by lia, by lia, z1, j, i1, by omega, z2, ej⟩))
/-- facts' words -/
theorem pm_fact (t : Nat) : (∃ i, 10 ≤ i ∧ i < 21 ∧ t = pm i) ↔ 10 ≤ t ∧ t ≤ 20 := by
  constructor
  · intro ⟨i, h1, h2, h3⟩
    have : ∀ i, i < 21 → 10 ≤ i → 10 ≤ pm i ∧ pm i ≤ 20 := by decide
    rw [h3]
    exact this i h2 h1
  · intro h
    have : ∀ t, t < 21 → 10 ≤ t → pm (pm t) = t ∧ 10 ≤ pm t ∧ pm t < 21 := by decide
    obtain ⟨e1, e2, e3⟩ := this t (by omega) h.1
    exact ⟨pm t, e2, e3, e1.symm⟩
theorem P_fact (R : RT g tk nu nT) (p : PW n b L xs τ g nT a k c op one h) : wp (f_X12_takePart_L13 10000 (n + 42) h 10000 (-1) 10) (fun r => (r = -1 ∧ ¬ (k = 0 ∧ 10 ≤ tk a ∧ tk a ≤ 20)) ∨ (0 ≤ r ∧ r ≤ 10 ∧ k = 0 ∧ (10 ≤ tk a ∧ tk a ≤ 20) ∧ r = nI (pm (tk a) - 10))) := by
  refine wp_mono (P_L13 R p 10000 10 (v2 := -1) (by decide) (by decide) (by decide) (Or.inl ⟨rfl, fun ⟨_, i, z2, z3, _⟩ => by omega⟩)) fun r q => ?_
  have inv : ∀ i, i < 21 → 10 ≤ i → pm (pm i) = i := by decide
  rcases q with ⟨q1, q2⟩ | ⟨q1, q2, q3, i, q4, q5, q6, q7⟩
  · rw [pm_fact (tk a)] at q2
    exact Or.inl ⟨q1, q2⟩
  · refine Or.inr ⟨q1, q2, q3, (pm_fact (tk a)).mp ⟨i, q4, q5, q6⟩, ?_⟩
    rw [q6, inv i q5 q4]
    exact q7
end PRS
