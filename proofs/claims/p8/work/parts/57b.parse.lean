/-! codes that a pile can work -/
def stp (c a : Int32) (t : Nat) : Option Nat := if c = 1 then some (t + 1) else if c = 2 then (if 0 ≤ a ∧ a ≤ 10 then some (t + 1) else none) else if c = 3 then (if 0 ≤ a ∧ a ≤ 7 then some (t + 1) else none) else if c = 4 then (if 1 ≤ t then some t else none) else if 5 ≤ c ∧ c ≤ 11 then (if 2 ≤ t then some (t - 1) else none) else none
def run (op one : Nat → Int32) : Nat → Nat → Nat → Option Nat
  | 0, _, t => some t
  | k + 1, i, t => (stp (op i) (one i) t).bind fun u => run op one k (i + 1) u
theorem run_add (op one : Nat → Int32) (k2 : Nat) : ∀ (k1 i t : Nat), run op one (k1 + k2) i t = (run op one k1 i t).bind fun u => run op one k2 (i + k1) u := by
  intro k1
  induction k1 with
  | zero => intro i t; rw [Nat.zero_add]; rfl
  | succ k1 ih =>
    intro i t
    rw [Nat.succ_add]
    show (stp (op i) (one i) t).bind (fun u => run op one (k1 + k2) (i + 1) u) = ((stp (op i) (one i) t).bind (fun u => run op one k1 (i + 1) u)).bind _
    cases stp (op i) (one i) t with
    | none => rfl
    | some u =>
      show run op one (k1 + k2) (i + 1) u = (run op one k1 (i + 1) u).bind _
      rw [ih, show i + 1 + k1 = i + (k1 + 1) by omega]
theorem run_shift {op one op' one' : Nat → Int32} : ∀ (k i i' t : Nat), (∀ j, j < k → op' (i' + j) = op (i + j) ∧ one' (i' + j) = one (i + j)) → run op' one' k i' t = run op one k i t := by
  intro k
  induction k with
  | zero => intro i i' t _; rfl
  | succ k ih =>
    intro i i' t hq
    have h0 := hq 0 (by omega)
    rw [Nat.add_zero, Nat.add_zero] at h0
    simp only [run]
    rw [h0.1, h0.2]
    cases stp (op i) (one i) t with
    | none => simp only [Option.bind_none]
    | some u =>
      simp only [Option.bind_some]
      refine ih (i + 1) (i' + 1) u (fun j hj => ?_)
      have := hq (j + 1) (by omega)
      rw [show i' + 1 + j = i' + (j + 1) by omega, show i + 1 + j = i + (j + 1) by omega]
      exact this
def SEG (op one : Nat → Int32) (i k : Nat) : Prop := ∀ t, run op one k i t = some (t + 1)
theorem SEG_shift {op one op' one' : Nat → Int32} {i i' k : Nat} (s : SEG op one i k) (hq : ∀ j, j < k → op' (i' + j) = op (i + j) ∧ one' (i' + j) = one (i + j)) : SEG op' one' i' k := fun t => (run_shift k i i' t hq).trans (s t)
theorem SEG_congr {op one op' one' : Nat → Int32} {i k : Nat} (s : SEG op one i k) (hq : ∀ j, i ≤ j → j < i + k → op' j = op j ∧ one' j = one j) : SEG op' one' i k := SEG_shift s (fun j hj => hq (i + j) (by omega) (by omega))
theorem SEG_one {op one : Nat → Int32} {i : Nat} (h : op i = 1 ∨ (op i = 2 ∧ 0 ≤ one i ∧ one i ≤ 10) ∨ (op i = 3 ∧ 0 ≤ one i ∧ one i ≤ 7)) : SEG op one i 1 := by
  intro t
  show (stp (op i) (one i) t).bind (fun u => some u) = some (t + 1)
  rcases h with h | ⟨h, h1⟩ | ⟨h, h1⟩
  · rw [h]; rfl
  · rw [h]; unfold stp; rw [if_neg (by decide), if_pos rfl, if_pos h1]; rfl
  · rw [h]; unfold stp; rw [if_neg (by decide), if_neg (by decide), if_pos rfl, if_pos h1]; rfl
theorem SEG_not {op one : Nat → Int32} {i k : Nat} (s : SEG op one i k) (h : op (i + k) = 4) : SEG op one i (k + 1) := by
  intro t
  rw [run_add, s t]
  show (stp (op (i + k)) (one (i + k)) (t + 1)).bind (fun u => some u) = some (t + 1)
  rw [h]
  unfold stp
  rw [if_neg (by decide), if_neg (by decide), if_neg (by decide), if_pos rfl, if_pos (by omega)]
  rfl
theorem stp_bin {c a : Int32} {t : Nat} (h : 5 ≤ c ∧ c ≤ 11) (ht : 2 ≤ t) : stp c a t = some (t - 1) := by
  unfold stp
  rw [if_neg (by lia), if_neg (by lia), if_neg (by lia), if_neg (by lia), if_pos h, if_pos ht]
theorem SEG_bin {op one : Nat → Int32} {i k1 k2 : Nat} (s1 : SEG op one i k1) (s2 : SEG op one (i + k1) k2) (h : 5 ≤ op (i + k1 + k2) ∧ op (i + k1 + k2) ≤ 11) : SEG op one i (k1 + k2 + 1) := by
  intro t
  rw [run_add, run_add, s1 t]
  show (run op one k2 (i + k1) (t + 1)).bind _ = _
  rw [s2 (t + 1)]
  show (stp (op (i + (k1 + k2))) (one (i + (k1 + k2))) (t + 1 + 1)).bind (fun u => some u) = some (t + 1)
  rw [← Nat.add_assoc, stp_bin h (by omega)]
  rfl
/-! the reference's reader: its place, its codes -/
def gP (g : zGh) (a c : Nat) (f : Int32) (op one : Nat → Int32) : zGh := gset (gset (gset (gsA (gsA g 55 op) 56 one) 42 7 (nI a)) 42 8 f) 42 19 (nI c)
theorem gP_7 (g : zGh) (a a' c : Nat) (f : Int32) (op one : Nat → Int32) : gset (gP g a c f op one) 42 7 (nI a') = gP g a' c f op one := by
  unfold gP
  rw [gset_comm _ 42 _ _ (by decide : 19 ≠ 7), gset_comm _ 42 _ _ (by decide : 8 ≠ 7), gset_over]
theorem gP_8 (g : zGh) (a c : Nat) (f f' : Int32) (op one : Nat → Int32) : gset (gP g a c f op one) 42 8 f' = gP g a c f' op one := by
  unfold gP
  rw [gset_comm _ 42 _ _ (by decide : 19 ≠ 8), gset_over]
theorem gP_19 (g : zGh) (a c c' : Nat) (f : Int32) (op one : Nat → Int32) : gset (gP g a c f op one) 42 19 (nI c') = gP g a c' f op one := by
  unfold gP
  rw [gset_over]
theorem gP_55 (g : zGh) (a c : Nat) (f : Int32) (op one op' : Nat → Int32) : gsA (gP g a c f op one) 55 op' = gP g a c f op' one := by
  refine Prod.ext rfl (Prod.ext ?_ rfl)
  funext p
  show (if p = 55 then op' else if p = 56 then one else if p = 55 then op else g.2.1 p) = (if p = 56 then one else if p = 55 then op' else g.2.1 p)
  by_cases e : p = 55
  · subst e; simp
  · simp [e]
theorem gP_56 (g : zGh) (a c : Nat) (f : Int32) (op one one' : Nat → Int32) : gsA (gP g a c f op one) 56 one' = gP g a c f op one' := by
  refine Prod.ext rfl (Prod.ext ?_ rfl)
  funext p
  show (if p = 56 then one' else if p = 56 then one else if p = 55 then op else g.2.1 p) = (if p = 56 then one' else if p = 55 then op else g.2.1 p)
  by_cases e : p = 56
  · subst e; simp
  · simp [e]
def PW (n b L : Nat) (xs : Nat → Int32) (τ : Nat → Nat) (g : zGh) (nT a c : Nat) (f : Int32) (op one : Nat → Int32) (h : zH) : Prop := WT n b L xs τ (gP g a c f op one) h ∧ a ≤ nT ∧ c ≤ a ∧ 0 ≤ f ∧ nT ≤ 1000 ∧ g.2.1 44 nT = 0
theorem nI_b {a : Nat} (h : a ≤ 1001) : 0 ≤ nI a ∧ nI a ≤ 1001 := nI_r h (by decide)
def qS (f s : Int32) (z : Int64) (v : Int32) : Int32 := if f = 0 then (if s = 3 then (if lg_cmp z v.toInt64 = 0 then 1 else 0) else 0) else 0
def qW (f s : Int32) (z y : Int64) : Int32 := if f = 0 then (if s = 1 then (if lg_cmp z y = 0 then 1 else 0) else 0) else 0
theorem qS_01 (f s : Int32) (z : Int64) (v : Int32) : qS f s z v = 0 ∨ (qS f s z v = 1 ∧ f = 0 ∧ s = 3) := by
  unfold qS
  by_cases c1 : f = 0
  · rw [if_pos c1]
    by_cases c2 : s = 3
    · rw [if_pos c2]
      by_cases c3 : lg_cmp z v.toInt64 = 0
      · rw [if_pos c3]; exact Or.inr ⟨rfl, c1, c2⟩
      · rw [if_neg c3]; exact Or.inl rfl
    · rw [if_neg c2]; exact Or.inl rfl
  · rw [if_neg c1]; exact Or.inl rfl
theorem qW_01 (f s : Int32) (z y : Int64) : qW f s z y = 0 ∨ (qW f s z y = 1 ∧ f = 0 ∧ s = 1) := by
  unfold qW
  by_cases c1 : f = 0
  · rw [if_pos c1]
    by_cases c2 : s = 1
    · rw [if_pos c2]
      by_cases c3 : lg_cmp z y = 0
      · rw [if_pos c3]; exact Or.inr ⟨rfl, c1, c2⟩
      · rw [if_neg c3]; exact Or.inl rfl
    · rw [if_neg c2]; exact Or.inl rfl
  · rw [if_neg c1]; exact Or.inl rfl
section PRS
variable {n b L : Nat} {xs : Nat → Int32} {τ : Nat → Nat} {g : zGh} {h : zH} {nT a c : Nat} {f : Int32} {op one : Nat → Int32}
theorem P_7 (p : PW n b L xs τ g nT a c f op one h) : gI h (n + 42) 12 7 = some (nI a) := E_42_7 p.1
theorem P_8 (p : PW n b L xs τ g nT a c f op one h) : gI h (n + 42) 12 8 = some f := E_42_8 p.1
theorem P_19 (p : PW n b L xs τ g nT a c f op one h) : gI h (n + 42) 12 19 = some (nI c) := E_42_19 p.1
theorem P_a (p : PW n b L xs τ g nT a c f op one h) : a ≤ 1000 := by
  obtain ⟨-, p1, -, -, p2, -⟩ := p
  omega
theorem P_S (p : PW n b L xs τ g nT a c f op one h) : aI h (n + 44) (nI a) = some (g.2.1 44 a) := by
  have ha := P_a p
  have r := nI_r (show a ≤ 1000 by omega) (by decide : 1000 < 2 ^ 31)
  have e : nI 1000 = 1000 := rfl
  have q := A_44 p.1 (i := nI a) r.1 (by lia)
  rw [nI_clamp (by omega)] at q
  exact q
theorem P_V (p : PW n b L xs τ g nT a c f op one h) : aL h (n + 46) (nI a) = some (g.2.2 46 a) := by
  have ha := P_a p
  have r := nI_r (show a ≤ 1000 by omega) (by decide : 1000 < 2 ^ 31)
  have e : nI 1000 = 1000 := rfl
  have q := A_46 p.1 (i := nI a) r.1 (by lia)
  rw [nI_clamp (by omega)] at q
  exact q
theorem P_P (p : PW n b L xs τ g nT a c f op one h) : wp (aI h (n + 45) (nI a)) (fun x => 0 ≤ x ∧ x ≤ 1000) := by
  have ha := P_a p
  have r := nI_r (show a ≤ 1000 by omega) (by decide : 1000 < 2 ^ 31)
  have e : nI 1000 = 1000 := rfl
  exact aI_45 p.1 r.1 (by lia)
theorem P_isSign {v : Int32} (p : PW n b L xs τ g nT a c f op one h) : f_X12_isSign 10000 (n + 42) v h = some (qS f (g.2.1 44 a) (g.2.2 46 a) v) := by
  unfold f_X12_isSign qS
  rw [P_8 p]
  show (if f = 0 then _ else _) = _
  by_cases c1 : f = 0
  · rw [if_pos c1, if_pos c1, gR_42_4 p.1]
    show (gI h (n + 42) 12 7).bind _ = _
    rw [P_7 p]
    show (aI h (n + 44) (nI a)).bind _ = _
    rw [P_S p]
    show (if g.2.1 44 a = 3 then _ else _) = _
    by_cases c2 : g.2.1 44 a = 3
    · rw [if_pos c2, if_pos c2, gR_42_6 p.1]
      show (aL h (n + 46) (nI a)).bind _ = _
      rw [P_V p]
      show (if lg_cmp (g.2.2 46 a) v.toInt64 = 0 then some 1 else some 0) = _
      by_cases c3 : lg_cmp (g.2.2 46 a) v.toInt64 = 0
      · rw [if_pos c3, if_pos c3]
      · rw [if_neg c3, if_neg c3]
    · rw [if_neg c2, if_neg c2]
  · rw [if_neg c1, if_neg c1]
theorem P_isWord {v : Int32} (p : PW n b L xs τ g nT a c f op one h) (v0 : 0 ≤ v) (v1 : v < 21) : f_X12_isWord 10000 (n + 42) v h = some (qW f (g.2.1 44 a) (g.2.2 46 a) (g.2.2 47 v.toNatClampNeg)) := by
  unfold f_X12_isWord qW
  rw [P_8 p]
  show (if f = 0 then _ else _) = _
  by_cases c1 : f = 0
  · rw [if_pos c1, if_pos c1, gR_42_4 p.1]
    show (gI h (n + 42) 12 7).bind _ = _
    rw [P_7 p]
    show (aI h (n + 44) (nI a)).bind _ = _
    rw [P_S p]
    show (if g.2.1 44 a = 1 then _ else _) = _
    by_cases c2 : g.2.1 44 a = 1
    · rw [if_pos c2, if_pos c2, gR_42_6 p.1]
      show (aL h (n + 46) (nI a)).bind _ = _
      rw [P_V p]
      show (gR h (n + 42) 12 9).bind _ = _
      rw [gR_42_9 p.1]
      show (aL h (n + 47) v).bind _ = _
      rw [A_47 p.1 v0 v1]
      show (if lg_cmp (g.2.2 46 a) (g.2.2 47 v.toNatClampNeg) = 0 then some 1 else some 0) = _
      by_cases c3 : lg_cmp (g.2.2 46 a) (g.2.2 47 v.toNatClampNeg) = 0
      · rw [if_pos c3, if_pos c3]
      · rw [if_neg c3, if_neg c3]
    · rw [if_neg c2, if_neg c2]
  · rw [if_neg c1, if_neg c1]
theorem P_take (p : PW n b L xs τ g nT a c f op one h) (hs : ¬ g.2.1 44 a = 0) : wp (pF h (n + 42) 12 7 (.int (nI a + 1))) (fun r => PW n b L xs τ g nT (a + 1) c f op one r) := by
  obtain ⟨w, p1, p2, p3, p4, p5⟩ := p
  have ne : a ≠ nT := fun e => hs (by rw [e]; exact p5)
  have r := nI_b (show a + 1 ≤ 1001 by omega)
  rw [nI_1]
  refine wp_mono (pI_42_7 w r.1 r.2) fun r q => ?_
  rw [gP_7] at q
  exact ⟨q, by omega, by omega, p3, p4, p5⟩
theorem P_stay (p : PW n b L xs τ g nT a c f op one h) : wp (pF h (n + 42) 12 7 (.int (nI a + 0))) (fun r => PW n b L xs τ g nT a c f op one r) := by
  obtain ⟨w, p1, p2, p3, p4, p5⟩ := p
  have r := nI_b (show a ≤ 1001 by omega)
  rw [Int32.add_zero]
  refine wp_mono (pI_42_7 w r.1 r.2) fun r q => ?_
  rw [gP_7] at q
  exact ⟨q, p1, p2, p3, p4, p5⟩
theorem P_emit {v1 v2 : Int32} (p : PW n b L xs τ g nT a c f op one h) (hc : c + 1 ≤ a) : wp (f_X12_emit 10000 (n + 42) v1 v2 h) (fun r => PW n b L xs τ g nT a (c + 1) f (upd op (19200 + c) v1) (upd one (19200 + c) v2) r) := by
  unfold f_X12_emit
  obtain ⟨w, p1, p2, p3, p4, p5⟩ := p
  have ei : (19200 : Int32) + nI c = nI (19200 + c) := nI_add 19200 c
  have r := nI_r (show 19200 + c ≤ 20399 by omega) (by decide : 20399 < 2 ^ 31)
  have e9 : nI 20399 = 20399 := rfl
  have r2 := nI_r (show c + 1 ≤ 1199 by omega) (by decide : 1199 < 2 ^ 31)
  have e11 : nI 1199 = 1199 := rfl
  refine wp_eq (gR_42_20 w) ?_
  refine wp_eq (E_42_19 w) ?_
  show wp (Option.bind (sI h (n + 55) ((19200 : Int32) + nI c) v1) _) _
  rw [ei]
  refine wp_bind (sI_55 w r.1 (by lia)) fun h3 w3 => ?_
  rw [gP_55, nI_clamp (by omega)] at w3
  refine wp_eq (gR_42_21 w3) ?_
  refine wp_eq (E_42_19 w3) ?_
  show wp (Option.bind (sI h3 (n + 56) ((19200 : Int32) + nI c) v2) _) _
  rw [ei]
  refine wp_bind (sI_56 w3 r.1 (by lia)) fun h6 w6 => ?_
  rw [gP_56, nI_clamp (by omega)] at w6
  refine wp_eq (E_42_19 w6) ?_
  show wp (Option.bind (pF h6 (n + 42) 12 19 (.int (nI c + 1))) _) _
  rw [nI_1]
  refine wp_bind (pI_42_19 w6 r2.1 (by lia)) fun h8 w8 => ?_
  rw [gP_19] at w8
  exact wp_some ⟨w8, p1, by omega, p3, p4, p5⟩
theorem P_wrong {v1 : Int32} (p : PW n b L xs τ g nT a c f op one h) (h1 : 1 ≤ v1) (h2 : v1 ≤ 5) : wp (f_X12_wrong 10000 (n + 42) v1 h) (fun r => ∃ f', ¬ f' = 0 ∧ PW n b L xs τ g nT a c f' op one r) := by
  unfold f_X12_wrong
  refine wp_eq (P_8 p) ?_
  refine wp_ite (fun c1 => ?_) (fun c1 => wp_some ⟨f, c1, p⟩)
  refine wp_eq (gR_42_5 p.1) ?_
  refine wp_eq (P_7 p) ?_
  refine wp_bind (P_P p) fun x5 p5 => ?_
  refine wp_bind (pI_42_8 p.1 (x := v1 + 16 * x5)) fun h6 w6 => ?_
  rw [gP_8] at w6
  obtain ⟨-, q1, q2, q3, q4, q5⟩ := p
  obtain ⟨z0, z1⟩ := p5
  exact wp_some ⟨v1 + 16 * x5, by lia, w6, q1, q2, by lia, q4, q5⟩
theorem P_hasSign {v : Int32} (p : PW n b L xs τ g nT a c f op one h) : wp (f_X12_hasSign 10000 (n + 42) v h) (fun r => r.1 = qS f (g.2.1 44 a) (g.2.2 46 a) v ∧ ((r.1 = 0 ∧ PW n b L xs τ g nT a c f op one r.2) ∨ (¬ r.1 = 0 ∧ f = 0 ∧ PW n b L xs τ g nT (a + 1) c f op one r.2))) := by
  unfold f_X12_hasSign
  refine wp_zif (ob_42 p.1) ?_
  refine wp_eq (P_isSign p) ?_
  refine wp_eq (P_7 p) ?_
  have z := qS_01 f (g.2.1 44 a) (g.2.2 46 a) v
  generalize qS f (g.2.1 44 a) (g.2.2 46 a) v = q at z
  refine wp_ite (fun c1 => ?_) (fun c1 => ?_)
  · exact wp_bind (P_stay p) fun h5 p5 => wp_rZ (Or.inl c1) ⟨rfl, Or.inl ⟨c1, p5⟩⟩
  · obtain ⟨z1, z2, z3⟩ := z.resolve_left c1
    exact wp_bind (P_take p (by rw [z3]; decide)) fun h5 p5 => wp_rZ (Or.inr z1) ⟨rfl, Or.inr ⟨c1, z2, p5⟩⟩
theorem P_hasWord {v : Int32} (p : PW n b L xs τ g nT a c f op one h) (v0 : 0 ≤ v) (v1 : v < 21) : wp (f_X12_hasWord 10000 (n + 42) v h) (fun r => r.1 = qW f (g.2.1 44 a) (g.2.2 46 a) (g.2.2 47 v.toNatClampNeg) ∧ ((r.1 = 0 ∧ PW n b L xs τ g nT a c f op one r.2) ∨ (¬ r.1 = 0 ∧ f = 0 ∧ PW n b L xs τ g nT (a + 1) c f op one r.2))) := by
  unfold f_X12_hasWord
  refine wp_zif (ob_42 p.1) ?_
  refine wp_eq (P_isWord p v0 v1) ?_
  refine wp_eq (P_7 p) ?_
  have z := qW_01 f (g.2.1 44 a) (g.2.2 46 a) (g.2.2 47 v.toNatClampNeg)
  generalize qW f (g.2.1 44 a) (g.2.2 46 a) (g.2.2 47 v.toNatClampNeg) = q at z
  refine wp_ite (fun c1 => ?_) (fun c1 => ?_)
  · exact wp_bind (P_stay p) fun h5 p5 => wp_rZ (Or.inl c1) ⟨rfl, Or.inl ⟨c1, p5⟩⟩
  · obtain ⟨z1, z2, z3⟩ := z.resolve_left c1
    exact wp_bind (P_take p (by rw [z3]; decide)) fun h5 p5 => wp_rZ (Or.inr z1) ⟨rfl, Or.inr ⟨c1, z2, p5⟩⟩
theorem P_takeSign {v : Int32} (p : PW n b L xs τ g nT a c f op one h) : wp (f_X12_takeSign 10000 (n + 42) v h) (fun r => ∃ a' f', PW n b L xs τ g nT a' c f' op one r ∧ a ≤ a' ∧ (f' = 0 → f = 0)) := by
  unfold f_X12_takeSign
  refine wp_zif (ob_42 p.1) ?_
  refine wp_eq (P_isSign p) ?_
  have z := qS_01 f (g.2.1 44 a) (g.2.2 46 a) v
  refine wp_ite (fun c1 => ?_) (fun c1 => ?_)
  · refine wp_zif (ob_42 p.1) ?_
    refine wp_bind (P_wrong p (by decide) (by decide)) fun h5 p5 => ?_
    obtain ⟨f', nf, p5⟩ := p5
    exact wp_some ⟨a, f', p5, Nat.le_refl _, fun e => absurd e nf⟩
  · obtain ⟨z1, z2, z3⟩ := z.resolve_left c1
    refine wp_eq (P_7 p) ?_
    exact wp_bind (P_take p (by rw [z3]; decide)) fun h7 p7 => wp_some ⟨a + 1, f, p7, by omega, fun e => e⟩
theorem P_takeWord {v : Int32} (p : PW n b L xs τ g nT a c f op one h) (v0 : 0 ≤ v) (v1 : v < 21) : wp (f_X12_takeWord 10000 (n + 42) v h) (fun r => ∃ a' f', PW n b L xs τ g nT a' c f' op one r ∧ a ≤ a' ∧ (f' = 0 → f = 0)) := by
  unfold f_X12_takeWord
  refine wp_zif (ob_42 p.1) ?_
  refine wp_bind (P_hasWord p v0 v1) fun q2 p2 => ?_
  obtain ⟨-, p2⟩ := p2
  refine wp_ite (fun c1 => ?_) (fun c1 => ?_)
  · have p3 := (p2.resolve_right (fun z => z.1 c1)).2
    refine wp_zif (ob_42 p3.1) ?_
    refine wp_bind (P_wrong p3 (by decide) (by decide)) fun h5 p5 => ?_
    obtain ⟨f', nf, p5⟩ := p5
    exact wp_some ⟨a, f', p5, Nat.le_refl _, fun e => absurd e nf⟩
  · have p3 := (p2.resolve_left (fun z => c1 z.1)).2.2
    exact wp_some ⟨a + 1, f, p3, by omega, fun e => e⟩
theorem P_isName_L28 (p : PW n b L xs τ g nT a c f op one h) : ∀ (m : Nat) {v1 v2 : Int32}, (v1 = 0 ∨ v1 = 1) → 0 ≤ v2 → (9000 - v2.toInt).toNat < m → wp (f_X12_isName_L28 10000 (n + 42) h m v1 v2) (fun r => (r = 0 ∨ r = 1) ∧ (v1 = 0 → r = 0)) := by
  intro m
  induction m with
  | zero => intro v1 v2 i1 i0 hm; exact absurd hm (Nat.not_lt_zero _)
  | succ m ih =>
    intro v1 v2 i1 i0 hm
    rw [f_X12_isName_L28.eq_2]
    refine wp_ite (fun c1 => wp_some ⟨i1, fun e => e⟩) (fun c1 => ?_)
    refine wp_ite (fun c2 => ?_) (fun c2 => ?_)
    · exact wp_mono (ih (Or.inl rfl) (by lia) (mu_up i0 (by lia) hm)) fun r q => ⟨q.1, fun _ => q.2 rfl⟩
    · refine wp_eq (gR_42_6 p.1) ?_
      refine wp_eq (P_7 p) ?_
      refine wp_eq (P_V p) ?_
      refine wp_eq (gR_42_9 p.1) ?_
      refine wp_bind (aL_47 p.1 i0 (by lia)) fun x14 _ => ?_
      refine wp_ite (fun c3 => ?_) (fun c3 => ?_)
      · exact wp_mono (ih (Or.inl rfl) (by lia) (mu_up i0 (by lia) hm)) fun r q => ⟨q.1, fun e => absurd e c2⟩
      · exact wp_mono (ih (Or.inr rfl) (by lia) (mu_up i0 (by lia) hm)) fun r q => ⟨q.1, fun e => absurd e c2⟩
theorem P_isName (p : PW n b L xs τ g nT a c f op one h) : wp (f_X12_isName 10000 (n + 42) h) (fun r => r = 0 ∨ (r = 1 ∧ f = 0 ∧ g.2.1 44 a = 1)) := by
  unfold f_X12_isName
  refine wp_eq (P_8 p) ?_
  refine wp_bind (R := fun r => r = 0 ∨ (r = 1 ∧ f = 0 ∧ g.2.1 44 a = 1)) ?_ (fun m2 p2 => ?_)
  · refine wp_ite (fun c1 => ?_) (fun c1 => wp_some (Or.inl rfl))
    refine wp_eq (gR_42_4 p.1) ?_
    refine wp_eq (P_7 p) ?_
    refine wp_eq (P_S p) ?_
    exact wp_ite (fun c2 => wp_some (Or.inr ⟨rfl, c1, c2⟩)) (fun c2 => wp_some (Or.inl rfl))
  refine wp_bind (P_isName_L28 p _ (p2.imp id (fun z => z.1)) (by decide) (mu_0 (by decide))) fun m16 p16 => ?_
  refine wp_rZ0 p16.1 ?_
  rcases p2 with p2 | p2
  · exact Or.inl (p16.2 p2)
  · exact p16.1.imp id (fun z => ⟨z, p2.2⟩)
theorem P_findName_L4 (p : PW n b L xs τ g nT a c f op one h) : ∀ (m : Nat) {v1 v2 : Int32}, -1 ≤ v1 → v1 ≤ 7 → 0 ≤ v2 → (9000 - v2.toInt).toNat < m → wp (f_X12_findName_L4 10000 (n + 42) h m v1 v2) (fun r => -1 ≤ r ∧ r ≤ 7) := by
  intro m
  induction m with
  | zero => intro v1 v2 i1 i2 i0 hm; exact absurd hm (Nat.not_lt_zero _)
  | succ m ih =>
    intro v1 v2 i1 i2 i0 hm
    rw [f_X12_findName_L4.eq_2]
    have rr := gr_42_17 p.1
    refine wp_eq (E_42_17 p.1) ?_
    refine wp_ite (fun c1 => wp_some ⟨i1, i2⟩) (fun c1 => ?_)
    refine wp_eq (gR_42_18 p.1) ?_
    refine wp_bind (aL_54 p.1 i0 (by lia)) fun x4 _ => ?_
    refine wp_eq (gR_42_6 p.1) ?_
    refine wp_eq (P_7 p) ?_
    refine wp_eq (P_V p) ?_
    exact wp_ite (fun c2 => ih (by lia) (by lia) (by lia) (mu_up i0 (by lia) hm)) (fun c2 => ih i1 i2 (by lia) (mu_up i0 (by lia) hm))
theorem P_findName (p : PW n b L xs τ g nT a c f op one h) : wp (f_X12_findName 10000 (n + 42) h) (fun r => -1 ≤ r ∧ r ≤ 7) := by
  unfold f_X12_findName
  exact wp_bind (P_findName_L4 p _ (by decide) (by decide) (by decide) (mu_0 (by decide))) fun r q => wp_some q
theorem P_L13 (p : PW n b L xs τ g nT a c f op one h) : ∀ (m : Nat) {v2 v3 : Int32}, (v2 = -1 ∨ (0 ≤ v2 ∧ v2 ≤ 10 ∧ g.2.1 44 a = 1)) → 10 ≤ v3 → (9000 - v3.toInt).toNat < m → wp (f_X12_takePart_L13 10000 (n + 42) h m v2 v3) (fun r => r = -1 ∨ (0 ≤ r ∧ r ≤ 10 ∧ g.2.1 44 a = 1)) := by
  intro m
  induction m with
  | zero => intro v2 v3 i1 i0 hm; exact absurd hm (Nat.not_lt_zero _)
  | succ m ih =>
    intro v2 v3 i1 i0 hm
    rw [f_X12_takePart_L13.eq_2]
    refine wp_ite (fun c1 => wp_some i1) (fun c1 => ?_)
    refine wp_zif (ob_42 p.1) ?_
    refine wp_eq (P_isWord p (by lia) (by lia)) ?_
    have z := qW_01 f (g.2.1 44 a) (g.2.2 46 a) (g.2.2 47 v3.toNatClampNeg)
    refine wp_ite (fun c2 => ih i1 (by lia) (mu_up (by lia) (by lia) hm)) (fun c2 => ?_)
    obtain ⟨z1, z2, z3⟩ := z.resolve_left c2
    exact wp_zlet (ih (Or.inr ⟨by lia, by lia, z3⟩) (by lia) (mu_up (by lia) (by lia) hm))
end PRS
