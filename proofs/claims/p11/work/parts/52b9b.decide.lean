/-! the town of the class: the plans, number by number -/
def tmT (td : Nat) (H : Nat → Nat) (c s : Nat) : Nat := if td.testBit s = true then H (3 * s + dg c s) else 0
def tlS (t : Nat → Nat) : Nat → Nat → Nat
  | _, 0 => 0
  | j, k + 1 => tlS t (j + 1) k + t j
theorem tl_congr {t t' : Nat → Nat} : ∀ (k j : Nat), (∀ s, j ≤ s → s < j + k → t s = t' s) → tlS t j k = tlS t' j k := by
  intro k
  induction k with
  | zero => intro j _; rfl
  | succ k ih =>
    intro j h
    show tlS t (j + 1) k + t j = tlS t' (j + 1) k + t' j
    rw [ih (j + 1) (fun s h1 h2 => h s (by omega) (by omega)), h j (by omega) (by omega)]
theorem hm_tl {td : Nat} {H : Nat → Nat} {c : Nat} : ∀ (k j : Nat), hmS td H c j + tlS (tmT td H c) j k = hmS td H c (j + k) := by
  intro k
  induction k with
  | zero => intro j; rfl
  | succ k ih =>
    intro j
    have e := ih (j + 1)
    have e2 : hmS td H c (j + 1) = hmS td H c j + tmT td H c j := rfl
    show hmS td H c j + (tlS (tmT td H c) (j + 1) k + tmT td H c j) = _
    rw [show j + (k + 1) = j + 1 + k by omega, ← e, e2]
    omega
theorem hm_8 {td : Nat} {H : Nat → Nat} {c : Nat} : hmS td H c 8 = tlS (tmT td H c) 0 8 := by
  have e := hm_tl (td := td) (H := H) (c := c) 8 0
  have z : hmS td H c 0 = 0 := rfl
  rw [z] at e
  have e' : 0 + tlS (tmT td H c) 0 8 = hmS td H c 8 := e
  omega
theorem hm_le {td : Nat} {H : Nat → Nat} {c : Nat} (hH : ∀ k, k < 24 → H k ≤ 999) : ∀ s, s ≤ 8 → hmS td H c s ≤ 999 * s := by
  intro s
  induction s with
  | zero => intro _; exact Nat.le_refl _
  | succ s ih =>
    intro hs
    have e := ih (by omega)
    have d := dg_lt c s
    show hmS td H c s + (if td.testBit s = true then H (3 * s + dg c s) else 0) ≤ _
    by_cases t : td.testBit s = true
    · rw [if_pos t]
      have := hH (3 * s + dg c s) (by omega)
      omega
    · rw [if_neg t]
      omega
theorem dg_at {num d j : Nat} (hd : d < 3) : dg ((num * 3 + d) * 3 ^ j) j = d := by
  unfold dg
  rw [Nat.mul_div_cancel _ (Nat.pow_pos (by decide))]
  omega
theorem dg_hi {num d j s : Nat} (hd : d < 3) (hs : j + 1 ≤ s) : dg ((num * 3 + d) * 3 ^ j) s = dg (num * 3 ^ (j + 1)) s := by
  obtain ⟨i, rfl⟩ : ∃ i, s = j + 1 + i := ⟨s - (j + 1), by omega⟩
  unfold dg
  have p0 : 0 < 3 ^ j := Nat.pow_pos (by decide)
  have p1 : 0 < 3 ^ (j + 1) := Nat.pow_pos (by decide)
  have e1 : (num * 3 + d) * 3 ^ j / 3 ^ (j + 1 + i) = num / 3 ^ i := by
    rw [show 3 ^ (j + 1 + i) = 3 ^ j * (3 * 3 ^ i) by rw [Nat.pow_add, Nat.pow_succ, Nat.mul_assoc], ← Nat.div_div_eq_div_mul, Nat.mul_div_cancel _ p0, ← Nat.div_div_eq_div_mul, show (num * 3 + d) / 3 = num by omega]
  have e2 : num * 3 ^ (j + 1) / 3 ^ (j + 1 + i) = num / 3 ^ i := by
    rw [Nat.pow_add 3 (j + 1) i, ← Nat.div_div_eq_div_mul, Nat.mul_div_cancel _ p1]
  rw [e1, e2]
theorem nI_sub {a c : Nat} (h : c ≤ a) : nI a - nI c = nI (a - c) := by
  obtain ⟨d, rfl⟩ : ∃ d, a = d + c := ⟨a - c, by omega⟩
  rw [← nI_add, Int32.add_sub_cancel, Nat.add_sub_cancel]
def gTw (g : zGh) (S N : Nat → Int32) : zGh := gsA (gsA g 40 S) 41 N
theorem gTw_40 (g : zGh) (S N S' : Nat → Int32) : gsA (gTw g S N) 40 S' = gTw g S' N := by
  refine Prod.ext rfl (Prod.ext ?_ rfl)
  funext p
  show (if p = 40 then S' else if p = 41 then N else if p = 40 then S else g.2.1 p) = (if p = 41 then N else if p = 40 then S' else g.2.1 p)
  by_cases e : p = 40
  · subst e; simp
  · simp [e]
theorem gTw_41 (g : zGh) (S N N' : Nat → Int32) : gsA (gTw g S N) 41 N' = gTw g S N' := gA_over _ _ _ _
theorem gTw_id (g : zGh) : gTw g (g.2.1 40) (g.2.1 41) = g := by
  unfold gTw
  have e : gsA g 40 (g.2.1 40) = g := gA_id g 40
  rw [e, gA_id]
theorem TG_T (g : zGh) (S N : Nat → Int32) : TG g (gTw g S N) := TG_trans (TG_40 g S) (TG_41 _ N)
def PlE (td : Nat) (A B F G : Nat → Nat) (tr l c : Nat) : Prop := okC td c ∧ laS td A B F G tr c = some l
/-- sums and numbers when the numbers below k are seen -/
def BT (td : Nat) (A B H F G : Nat → Nat) (tr k : Nat) (S N : Nat → Int32) : Prop := ∀ l, l < 9 → ∃ bo, Mn (PlE td A B F G tr l) (fun c => hmS td H c 8) k bo ∧ (match bo with | none => S l = -1 | some m => S l = nI (hmS td H m 8) ∧ N l = nI m)
section DECIDE
variable {n b L : Nat} {xs : Nat → Int32} {τ : Nat → Nat} {g : zGh} {h : zH} {td tr : Nat} {A B H F G : Nat → Nat}
theorem BT_no {k : Nat} {S N : Nat → Int32} (bt : BT td A B H F G tr k S N) (no : ∀ l, ¬ PlE td A B F G tr l k) : BT td A B H F G tr (k + 1) S N := fun l hl => by
  obtain ⟨bo, m1, m2⟩ := bt l hl
  exact ⟨bo, Mn_skip m1 (fun z => absurd z (no l)), m2⟩
theorem BT_far {S N : Nat → Int32} : ∀ (d k : Nat), BT td A B H F G tr k S N → (∀ x, k ≤ x → x < k + d → ¬ okC td x) → BT td A B H F G tr (k + d) S N := by
  intro d
  induction d with
  | zero => intro k bt _; exact bt
  | succ d ih =>
    intro k bt no
    have e := BT_no (ih k bt (fun x h1 h2 => no x h1 (by omega))) (fun l z => no (k + d) (by omega) (by omega) z.1)
    exact e
theorem c_weigh {as op c : Nat} {S N : Nat → Int32} (ts : TS td tr A B H F G g) (ld : LD td tr A B F G 256 (g.2.1 38)) (hc : c < 6561) (ok : okC td c) (ha : as < 256) (ho : op < 256) (ba : ∀ s, s < 8 → as.testBit s = inM td c 0 s) (bo : ∀ s, s < 8 → op.testBit s = inM td c 1 s) (w : WT n b L xs τ (gTw g S N) h) (bt : BT td A B H F G tr c S N) : wp (f_X10_weigh 10000 (n + 33) (nI as) (nI op) (nI (hmS td H c 8)) (nI c) h) (fun r => ∃ S' N', WT n b L xs τ (gTw g S' N') r ∧ BT td A B H F G tr (c + 1) S' N') := by
  have t8 := ts.2.1.2
  have hH : ∀ k, k < 24 → H k ≤ 999 := fun k hk => (ts.2.2.2.1 k hk).2
  have hb := hm_le (td := td) (c := c) hH 8 (Nat.le_refl _)
  have qa := h_ix (m := 256) (j := as) ha (by omega)
  have qo := h_ix (m := 256) (j := op) ho (by omega)
  have e256 : nI 256 = 256 := rfl
  rw [e256] at qa qo
  have insub : ∀ (x most : Nat), (∀ s, s < 8 → x.testBit s = inM td c most s) → ∀ s, s < 8 → x.testBit s = true → td.testBit s = true := fun x most e s hs z => by
    rw [e s hs] at z
    unfold inM at z
    rw [Bool.and_eq_true] at z
    exact z.1
  have la := ld as ha (insub as 0 ba)
  have lo := ld op ho (insub op 1 bo)
  rw [ld_congr (S' := inM td c 0) (fun s hs => ba s hs) tr] at la
  rw [ld_congr (S' := inM td c 1) (fun s hs => bo s hs) tr] at lo
  have le1 := ld_le (S := inM td c 1) (A := A) (B := B) (F := F) (G := G) tr
  have le0 := ld_le (S := inM td c 0) (A := A) (B := B) (F := F) (G := G) tr
  have tsT := TS_TG ts (TG_T g S N)
  unfold f_X10_weigh
  refine wp_eq (gR_33_4 w) ?_
  refine wp_eq (aN_38 w) ?_
  refine wp_eq (a := (1 : Int32)) ?_ ?_
  · apply wp_is
    refine in11 (fun z => absurd (show 0 ≤ nI as ∧ nI as ≤ 256 - 1 from ⟨qa.1, by have := qa.2.1; lia⟩) z) (fun _ => ?_)
    refine wp_eq (gR_33_4 w) ?_
    refine wp_eq (aN_38 w) ?_
    exact in11 (fun z => absurd (show 0 ≤ nI op ∧ nI op ≤ 256 - 1 from ⟨qo.1, by have := qo.2.1; lia⟩) z) (fun _ => wp_some rfl)
  rw [if_neg ne10]
  refine wp_eq (gR_33_4 w) ?_
  refine wp_eq (A_38 w qo.1 qo.2.1) ?_
  refine wp_eq (E_33_10 w) ?_
  rw [qo.2.2, tsT.2.1.1]
  have lo' : (gTw g S N).2.1 38 op = nI (ldN (inM td c 1) A B F G tr) := lo
  rw [lo']
  by_cases all : ldN (inM td c 1) A B F G tr = tr
  · rw [if_pos (nI_r (show tr ≤ ldN (inM td c 1) A B F G tr by omega) (by omega)).2]
    refine wp_eq (E_33_10 w) ?_
    refine wp_eq (gR_33_4 w) ?_
    refine wp_eq (A_38 w qa.1 qa.2.1) ?_
    refine wp_zlet ?_
    have la' : (gTw g S N).2.1 38 as = nI (ldN (inM td c 0) A B F G tr) := la
    rw [qa.2.2, tsT.2.1.1, la', nI_sub le0]
    have lS : laS td A B F G tr c = some (tr - ldN (inM td c 0) A B F G tr) := if_pos all
    generalize tr - ldN (inM td c 0) A B F G tr = l at lS ⊢
    have l9 : l < 9 := by
      have e : laS td A B F G tr c = some (tr - ldN (inM td c 0) A B F G tr) := if_pos all
      rw [e] at lS
      cases lS
      omega
    have ql := h_ix (m := 9) (j := l) l9 (by omega)
    have e9 : nI 9 = 9 := rfl
    rw [e9] at ql
    rw [if_neg (Int32.not_lt.mpr ql.1)]
    refine wp_eq (gR_33_6 w) ?_
    refine wp_eq (aN_40 w) ?_
    rw [if_neg (Int32.not_le.mpr ql.2.1)]
    refine wp_eq (gR_33_6 w) ?_
    have rS : aI h (n + 40) (nI l) = some (S l) := by
      rw [A_40 w ql.1 ql.2.1, ql.2.2]
      rfl
    refine wp_eq rS ?_
    have oth : ∀ l', l' < 9 → l' ≠ l → ∃ bo, Mn (PlE td A B F G tr l') (fun c => hmS td H c 8) (c + 1) bo ∧ (match bo with | none => S l' = -1 | some m => S l' = nI (hmS td H m 8) ∧ N l' = nI m) := fun l' h1 h2 => by
      obtain ⟨bo, m1, m2⟩ := bt l' h1
      refine ⟨bo, Mn_skip m1 (fun z => ?_), m2⟩
      have z2 := z.2
      rw [lS] at z2
      cases z2
      exact absurd rfl h2
    have tk : (∀ m, (∃ bo, Mn (PlE td A B F G tr l) (fun c => hmS td H c 8) c bo ∧ bo = some m) → hmS td H c 8 < hmS td H m 8) → wp ((gR h (n + 33) 10 6).bind fun r30 => (sI h r30 (nI l) (nI (hmS td H c 8))).bind fun h31 => (gR h31 (n + 33) 10 7).bind fun r32 => (sI h31 r32 (nI l) (nI c)).bind fun h33 => some h33) (fun r => ∃ S' N', WT n b L xs τ (gTw g S' N') r ∧ BT td A B H F G tr (c + 1) S' N') := fun better => by
      refine wp_eq (gR_33_6 w) ?_
      refine wp_bind (sI_40 w ql.1 ql.2.1) fun h31 w31 => ?_
      rw [gTw_40, ql.2.2] at w31
      refine wp_eq (gR_33_7 w31) ?_
      refine wp_bind (sI_41 w31 ql.1 ql.2.1) fun h33 w33 => ?_
      rw [gTw_41, ql.2.2] at w33
      refine wp_some ⟨_, _, w33, fun l' hl' => ?_⟩
      by_cases el : l' = l
      · rw [el]
        obtain ⟨bo, m1, m2⟩ := bt l l9
        refine ⟨some c, Mn_take m1 ⟨ok, lS⟩ (fun m e => better m ⟨bo, m1, e⟩), ?_, ?_⟩
        · exact hu_at _ _ _
        · exact hu_at _ _ _
      · obtain ⟨bo, m1, m2⟩ := oth l' hl' el
        refine ⟨bo, m1, ?_⟩
        have u1 : upd ((gTw g S N).2.1 40) l (nI (hmS td H c 8)) l' = S l' := hu_ne el
        have u2 : upd ((gTw g (upd ((gTw g S N).2.1 40) l (nI (hmS td H c 8))) N).2.1 41) l (nI c) l' = N l' := hu_ne el
        rw [u1, u2]
        exact m2
    obtain ⟨bo, m1, m2⟩ := bt l l9
    cases bo with
    | none =>
      have s0 : S l = -1 := m2
      refine wp_eq (a := .inl ()) (if_pos s0) ?_
      refine wp_zsL (tk (fun m e => ?_))
      obtain ⟨bo', e1, e2⟩ := e
      rw [Mn_uniq e1 m1] at e2
      cases e2
    | some x =>
      obtain ⟨s1, s2⟩ := m2
      have hx := hm_le (td := td) (c := x) hH 8 (Nat.le_refl _)
      have ns : ¬ S l = -1 := fun z => by
        have y := (nI_r (Nat.zero_le (hmS td H x 8)) (by omega)).2
        rw [← s1, z] at y
        exact absurd y (by decide)
      by_cases cmp : hmS td H x 8 ≤ hmS td H c 8
      · refine wp_eq (a := .inr h) ?_ ?_
        · rw [if_neg ns]
          apply wp_is
          refine wp_eq (gR_33_6 w) ?_
          refine wp_eq rS ?_
          rw [s1, if_pos (nI_r cmp (by omega)).2]
          exact wp_some rfl
        · refine wp_zsR ⟨S, N, w, fun l' hl' => ?_⟩
          by_cases el : l' = l
          · rw [el]
            exact ⟨some x, Mn_skip m1 (fun _ => ⟨x, rfl, cmp⟩), s1, s2⟩
          · exact oth l' hl' el
      · refine wp_eq (a := .inl ()) ?_ ?_
        · rw [if_neg ns]
          apply wp_is
          refine wp_eq (gR_33_6 w) ?_
          refine wp_eq rS ?_
          rw [s1, if_neg (Int32.not_le.mpr (hI_lt (by omega) (by omega)))]
          exact wp_some rfl
        · refine wp_zsL (tk (fun m e => ?_))
          obtain ⟨bo', e1, e2⟩ := e
          rw [Mn_uniq e1 m1] at e2
          cases e2
          omega
  · rw [if_neg (Int32.not_le.mpr (hI_lt (by omega) (by omega)))]
    have lS : laS td A B F G tr c = none := if_neg all
    refine wp_some ⟨S, N, w, BT_no bt (fun l z => ?_)⟩
    have z2 := z.2
    rw [lS] at z2
    cases z2
/-- what stands when the streets from j up are decided -/
def DQ (td : Nat) (H : Nat → Nat) (j as op sm num : Nat) : Prop := as < 256 ∧ op < 256 ∧ (∀ s, s < 8 → as.testBit s = (decide (j ≤ s) && inM td (num * 3 ^ j) 0 s)) ∧ (∀ s, s < 8 → op.testBit s = (decide (j ≤ s) && inM td (num * 3 ^ j) 1 s)) ∧ sm = tlS (tmT td H (num * 3 ^ j)) j (8 - j) ∧ (∀ s, j ≤ s → s < 8 → td.testBit s = false → dg (num * 3 ^ j) s = 0) ∧ num < 3 ^ (8 - j)
theorem bits_told {x most j num d : Nat} (hj : j < 8) (hd : d < 3) (t : td.testBit j = true) (e : ∀ s, s < 8 → x.testBit s = (decide (j + 1 ≤ s) && inM td (num * 3 ^ (j + 1)) most s)) : ∀ s, s < 8 → (if d ≤ most then x ||| 2 ^ j else x).testBit s = (decide (j ≤ s) && inM td ((num * 3 + d) * 3 ^ j) most s) := by
  intro s hs
  have xs' := e s hs
  by_cases es : s = j
  · subst es
    have x0 : x.testBit s = false := by
      rw [xs', decide_eq_false (by omega)]
      rfl
    have r0 : (decide (s ≤ s) && inM td ((num * 3 + d) * 3 ^ s) most s) = decide (d ≤ most) := by
      unfold inM
      rw [dg_at hd, t, decide_eq_true (Nat.le_refl s), Bool.true_and, Bool.true_and]
    rw [r0]
    by_cases c : d ≤ most
    · rw [if_pos c, Nat.testBit_or, x0, Nat.testBit_two_pow, decide_eq_true c]
      simp
    · rw [if_neg c, x0, decide_eq_false c]
  · have r1 : inM td ((num * 3 + d) * 3 ^ j) most s = inM td ((num * 3 + d) * 3 ^ j) most s := rfl
    have bs : (if d ≤ most then x ||| 2 ^ j else x).testBit s = x.testBit s := by
      by_cases c : d ≤ most
      · rw [if_pos c, Nat.testBit_or, Nat.testBit_two_pow, decide_eq_false (fun z => es z.symm), Bool.or_false]
      · rw [if_neg c]
    rw [bs, xs']
    by_cases lt : j + 1 ≤ s
    · rw [decide_eq_true lt, decide_eq_true (show j ≤ s by omega)]
      unfold inM
      rw [dg_hi hd lt]
    · rw [decide_eq_false lt, decide_eq_false (show ¬ j ≤ s by omega), Bool.false_and, Bool.false_and]
theorem bits_not {x most j num : Nat} (t : td.testBit j = false) (e : ∀ s, s < 8 → x.testBit s = (decide (j + 1 ≤ s) && inM td (num * 3 ^ (j + 1)) most s)) : ∀ s, s < 8 → x.testBit s = (decide (j ≤ s) && inM td ((num * 3 + 0) * 3 ^ j) most s) := by
  intro s hs
  rw [e s hs]
  by_cases es : s = j
  · subst es
    unfold inM
    rw [t, decide_eq_false (show ¬ s + 1 ≤ s by omega), Bool.false_and, Bool.false_and, Bool.and_false]
  · by_cases lt : j + 1 ≤ s
    · rw [decide_eq_true lt, decide_eq_true (show j ≤ s by omega)]
      unfold inM
      rw [dg_hi (by decide) lt]
    · rw [decide_eq_false lt, decide_eq_false (show ¬ j ≤ s by omega), Bool.false_and, Bool.false_and]
theorem tl_next {j num d : Nat} (hj : j < 8) (hd : d < 3) : tlS (tmT td H ((num * 3 + d) * 3 ^ j)) j (8 - j) = tlS (tmT td H (num * 3 ^ (j + 1))) (j + 1) (8 - (j + 1)) + (if td.testBit j = true then H (3 * j + d) else 0) := by
  rw [show 8 - j = (8 - (j + 1)) + 1 by omega]
  show tlS (tmT td H ((num * 3 + d) * 3 ^ j)) (j + 1) (8 - (j + 1)) + tmT td H ((num * 3 + d) * 3 ^ j) j = _
  have e : tmT td H ((num * 3 + d) * 3 ^ j) j = (if td.testBit j = true then H (3 * j + d) else 0) := by
    unfold tmT
    rw [dg_at hd]
  rw [e, tl_congr (t' := tmT td H (num * 3 ^ (j + 1))) (8 - (j + 1)) (j + 1) (fun s h1 _ => by
    unfold tmT
    rw [dg_hi hd h1])]
theorem num_next {j num d : Nat} (hj : j < 8) (hd : d < 3) (h : num < 3 ^ (8 - (j + 1))) : num * 3 + d < 3 ^ (8 - j) := by
  rw [show 8 - j = (8 - (j + 1)) + 1 by omega, Nat.pow_succ]
  omega
theorem two_lt {j : Nat} (hj : j < 8) : 2 ^ j < 256 := by
  have : 2 ^ j ≤ 2 ^ 7 := Nat.pow_le_pow_right (by omega) (by omega)
  omega
theorem DQ_told {j as op sm num d : Nat} (hj : j < 8) (hd : d < 3) (t : td.testBit j = true) (q : DQ td H (j + 1) as op sm num) : DQ td H j (if d ≤ 0 then as ||| 2 ^ j else as) (if d ≤ 1 then op ||| 2 ^ j else op) (sm + H (3 * j + d)) (num * 3 + d) := by
  obtain ⟨q1, q2, q3, q4, q5, q6, q7⟩ := q
  refine ⟨?_, ?_, bits_told hj hd t q3, bits_told hj hd t q4, ?_, fun s h1 h2 z => ?_, num_next hj hd q7⟩
  · split
    · exact Nat.or_lt_two_pow (n := 8) q1 (two_lt hj)
    · exact q1
  · split
    · exact Nat.or_lt_two_pow (n := 8) q2 (two_lt hj)
    · exact q2
  · rw [tl_next hj hd, if_pos t, q5]
  · by_cases es : s = j
    · rw [es, t] at z
      exact absurd z (by decide)
    · rw [dg_hi hd (by omega)]
      exact q6 s (by omega) h2 z
theorem DQ_not {j as op sm num : Nat} (hj : j < 8) (t : td.testBit j = false) (q : DQ td H (j + 1) as op sm num) : DQ td H j as op sm (num * 3 + 0) := by
  obtain ⟨q1, q2, q3, q4, q5, q6, q7⟩ := q
  refine ⟨q1, q2, bits_not t q3, bits_not t q4, ?_, fun s h1 h2 z => ?_, num_next hj (by decide) q7⟩
  · rw [tl_next hj (by decide), if_neg (by rw [t]; decide), q5]
    rfl
  · by_cases es : s = j
    · rw [es]
      exact dg_at (by decide)
    · rw [dg_hi (by decide) (by omega)]
      exact q6 s (by omega) h2 z
theorem dg_bad {j num x : Nat} (h1 : (num * 3 + 1) * 3 ^ j ≤ x) (h2 : x < (num + 1) * 3 ^ (j + 1)) : ¬ dg x j = 0 := by
  unfold dg
  have p0 : 0 < 3 ^ j := Nat.pow_pos (by decide)
  have l1 : num * 3 + 1 ≤ x / 3 ^ j := (Nat.le_div_iff_mul_le p0).mpr h1
  have l2 : x / 3 ^ j < (num + 1) * 3 := by
    rw [Nat.div_lt_iff_lt_mul p0, Nat.mul_assoc, Nat.mul_comm 3, ← Nat.pow_succ]
    exact h2
  omega
theorem c_isT {j : Nat} (hj : j < 8) (ts : TS td tr A B H F G g) (w : WT n b L xs τ g h) : f_X10_isTold 10000 (n + 33) (nI j) h = some (if td.testBit j = true then 1 else 0) := by
  apply wp_is
  unfold f_X10_isTold
  rw [if_neg (Int32.not_lt.mpr (q8 hj).1), if_neg (Int32.not_le.mpr (q8 hj).2.1)]
  refine wp_eq (E_33_9 w) ?_
  rw [ts.1.1]
  have bb := bit8 td ts.1.2 j hj
  cases t : td.testBit j with
  | false =>
    rw [if_pos (bb.mpr t)]
    exact wp_some rfl
  | true =>
    rw [if_neg (fun z => by rw [bb.mp z] at t; exact absurd t (by decide))]
    exact wp_some rfl
theorem c_decide (ts : TS td tr A B H F G g) (ld : LD td tr A B F G 256 (g.2.1 38)) : ∀ (m j : Nat) {as op sm num : Nat} {S N : Nat → Int32} {h : zH}, j < m → j ≤ 8 → DQ td H j as op sm num → WT n b L xs τ (gTw g S N) h → BT td A B H F G tr (num * 3 ^ j) S N → wp (f_X10_decide 10000 m (n + 33) (nI j - 1) (nI as) (nI op) (nI sm) (nI num) h) (fun r => ∃ S' N', WT n b L xs τ (gTw g S' N') r ∧ BT td A B H F G tr ((num + 1) * 3 ^ j) S' N') := by
  intro m
  induction m with
  | zero => intro j as op sm num S N h hm hj q w bt; exact absurd hm (Nat.not_lt_zero _)
  | succ m ih =>
    intro j as op sm num S N h hm hj q w bt
    rw [f_X10_decide.eq_2]
    rcases j with _ | j
    · refine wp_eq (a := .inl h) (if_pos (by decide)) ?_
      refine wp_zsL ?_
      refine wp_zif (ob_33 w) ?_
      obtain ⟨q1, q2, q3, q4, q5, q6, q7⟩ := q
      rw [Nat.pow_zero, Nat.mul_one] at q3 q4 q5 q6 bt
      have es : sm = hmS td H num 8 := by rw [q5, hm_8]
      rw [es, Nat.pow_zero, Nat.mul_one]
      have lt : num < 6561 := q7
      refine wp_bind (c_weigh ts ld lt (fun s hs z => q6 s (Nat.zero_le _) hs z) q1 q2 (fun s hs => ?_) (fun s hs => ?_) w bt) fun r p => wp_some p
      · rw [q3 s hs, decide_eq_true (Nat.zero_le s), Bool.true_and]
      · rw [q4 s hs, decide_eq_true (Nat.zero_le s), Bool.true_and]
    · have j8 : j < 8 := by omega
      rw [nI_pred j]
      have i3 : nI num * 3 = nI (num * 3) := by
        have e3 : (3 : Int32) = nI 3 := rfl
        rw [e3, hI_mul]
      rw [if_neg (Int32.not_lt.mpr (q8 j8).1), if_pos (q8 j8).2.1, i3]
      refine wp_bind (R := fun r => match r with | .inl _ => False | .inr q => ∃ S' N', WT n b L xs τ (gTw g S' N') q ∧ BT td A B H F G tr ((num + 1) * 3 ^ (j + 1)) S' N') ?_ (fun m1 p1 => ?_)
      · refine wp_zif (ob_33 w) ?_
        refine wp_eq (c_isT j8 (TS_TG ts (TG_T g S N)) w) ?_
        have b0 : num * 3 ^ (j + 1) = (num * 3 + 0) * 3 ^ j := by rw [Nat.pow_succ, Nat.add_zero, Nat.mul_assoc, Nat.mul_comm 3]
        have b3 : (num + 1) * 3 ^ (j + 1) = (num * 3 + 3) * 3 ^ j := by rw [Nat.pow_succ, Nat.mul_comm (3 ^ j) 3, ← Nat.mul_assoc, Nat.add_mul, Nat.one_mul]
        rw [b0] at bt
        cases t : td.testBit j with
        | false =>
          rw [if_neg (show ¬ (false : Bool) = true by decide), if_pos eq00]
          refine wp_zif (ob_33 w) ?_
          refine wp_bind (ih j (by omega) (by omega) (DQ_not j8 t q) w bt) fun h24 p24 => ?_
          obtain ⟨S', N', w', bt'⟩ := p24
          refine wp_map (wp_some ⟨S', N', w', ?_⟩)
          have far := BT_far ((num + 1) * 3 ^ (j + 1) - (num * 3 + 0 + 1) * 3 ^ j) ((num * 3 + 0 + 1) * 3 ^ j) bt' (fun x h1 h2 ok => dg_bad (j := j) (num := num) h1 (by omega) (ok j j8 t))
          have le : (num * 3 + 0 + 1) * 3 ^ j ≤ (num + 1) * 3 ^ (j + 1) := by
            rw [b3]
            exact Nat.mul_le_mul_right _ (by omega)
          rwa [show (num * 3 + 0 + 1) * 3 ^ j + ((num + 1) * 3 ^ (j + 1) - (num * 3 + 0 + 1) * 3 ^ j) = (num + 1) * 3 ^ (j + 1) by omega] at far
        | true =>
          rw [if_pos (show (true : Bool) = true from rfl), if_neg ne10]
          refine wp_zlet ?_
          refine wp_zlet ?_
          have x9 : nI j * 3 = nI (3 * j) := by
            have e3 : (3 : Int32) = nI 3 := rfl
            rw [e3, hI_mul, Nat.mul_comm]
          have p2 : ∀ y : Nat, nI y + 2 = nI (y + 2) := fun y => nI_add y 2
          rw [x9, shl8 j j8, or_nI, or_nI]
          have e24 : nI 24 = 24 := rfl
          have k0 := h_ix (m := 24) (j := 3 * j) (by omega) (by omega)
          have k1 := h_ix (m := 24) (j := 3 * j + 1) (by omega) (by omega)
          have k2 := h_ix (m := 24) (j := 3 * j + 2) (by omega) (by omega)
          rw [e24] at k0 k1 k2
          rw [nI_1, nI_1, p2, p2]
          refine wp_eq (gR_33_1 w) ?_
          refine wp_eq (A_35 w k0.1 k0.2.1) ?_
          have r0 : (gTw g S N).2.1 35 (3 * j) = nI (H (3 * j + 0)) := (ts.2.2.2.1 (3 * j) (by omega)).1
          rw [k0.2.2, r0, nI_add]
          refine wp_zif (ob_33 w) ?_
          refine wp_bind (ih j (by omega) (by omega) (DQ_told (d := 0) j8 (by decide) t q) w bt) fun h13 p13 => ?_
          obtain ⟨S1, N1, w1, bt1⟩ := p13
          refine wp_eq (gR_33_1 w1) ?_
          refine wp_eq (A_35 w1 k1.1 k1.2.1) ?_
          have r1 : (gTw g S1 N1).2.1 35 (3 * j + 1) = nI (H (3 * j + 1)) := (ts.2.2.2.1 (3 * j + 1) (by omega)).1
          rw [k1.2.2, r1, nI_add]
          refine wp_zif (ob_33 w1) ?_
          refine wp_bind (ih j (by omega) (by omega) (DQ_told (d := 1) j8 (by decide) t q) w1 bt1) fun h17 p17 => ?_
          obtain ⟨S2, N2, w2, bt2⟩ := p17
          refine wp_eq (gR_33_1 w2) ?_
          refine wp_eq (A_35 w2 k2.1 k2.2.1) ?_
          have r2 : (gTw g S2 N2).2.1 35 (3 * j + 2) = nI (H (3 * j + 2)) := (ts.2.2.2.1 (3 * j + 2) (by omega)).1
          rw [k2.2.2, r2, nI_add]
          refine wp_zif (ob_33 w2) ?_
          refine wp_bind (ih j (by omega) (by omega) (DQ_told (d := 2) j8 (by decide) t q) w2 bt2) fun h21 p21 => ?_
          obtain ⟨S3, N3, w3, bt3⟩ := p21
          refine wp_map (wp_some ⟨S3, N3, w3, ?_⟩)
          rw [b3]
          exact bt3
      · rcases m1 with x | x
        · exact absurd p1 id
        · exact wp_zsR p1
end DECIDE
