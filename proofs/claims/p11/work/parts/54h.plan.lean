/-! plan of the reference -/
def TR (td tr : Nat) (A B H F G : Nat → Nat) (g : zGh) : Prop := (∀ s, s < 8 → g.2.1 92 s = (if td.testBit s = true then 1 else 0)) ∧ (∀ s, s < 8 → g.2.1 93 s = nI (A s) ∧ g.2.1 94 s = nI (B s) ∧ A s < 8 ∧ B s < 8) ∧ (∀ k, k < 24 → g.2.1 95 k = nI (H k) ∧ H k ≤ 999) ∧ (g.1 42 76 = nI tr ∧ tr ≤ 8) ∧ (∀ i, i < 8 → g.2.1 96 i = nI (F i) ∧ g.2.1 97 i = nI (G i) ∧ F i < 8 ∧ G i < 8) ∧ (∀ s, s < 8 → g.2.1 98 s = nI (3 ^ s))
theorem pow3_le {s : Nat} (hs : s < 8) : 3 ^ s ≤ 2187 := by
  have : 3 ^ s ≤ 3 ^ 7 := Nat.pow_le_pow_right (by omega) (by omega)
  omega
/-- one pass over the streets -/
def paS (S : Nat → Bool) (A B : Nat → Nat) (x : Nat) : Nat → Nat
  | 0 => x
  | k + 1 => if S k = true ∧ ((paS S A B x k).testBit (A k) = true ∨ (paS S A B x k).testBit (B k) = true) then paS S A B x k ||| (2 ^ A k ||| 2 ^ B k) else paS S A B x k
section PASS
variable {S : Nat → Bool} {A B : Nat → Nat} {x : Nat}
theorem pa_lt (hA : ∀ s, s < 8 → A s < 8) (hB : ∀ s, s < 8 → B s < 8) (hx : x < 256) : ∀ k, k ≤ 8 → paS S A B x k < 256 := by
  intro k
  induction k with
  | zero => intro _; exact hx
  | succ k ih =>
    intro hk
    show (if _ then _ else _) < 256
    split
    · exact Nat.or_lt_two_pow (n := 8) (ih (by omega)) (Nat.or_lt_two_pow (n := 8) (two_lt (hA k (by omega))) (two_lt (hB k (by omega))))
    · exact ih (by omega)
theorem pa_up {q : Nat} (h : x.testBit q = true) : ∀ k, (paS S A B x k).testBit q = true := by
  intro k
  induction k with
  | zero => exact h
  | succ k ih =>
    show (if _ then _ else _ : Nat).testBit q = true
    split
    · rw [Nat.testBit_or, ih]
      rfl
    · exact ih
theorem pa_cn {a : Nat} (hx : ∀ q, q < 8 → x.testBit q = true → Cn (Ed S A B 8) a q) (hA : ∀ s, s < 8 → A s < 8) (hB : ∀ s, s < 8 → B s < 8) : ∀ k, k ≤ 8 → ∀ q, q < 8 → (paS S A B x k).testBit q = true → Cn (Ed S A B 8) a q := by
  intro k
  induction k with
  | zero => intro _; exact hx
  | succ k ih =>
    intro hk q hq z
    have e : paS S A B x (k + 1) = if S k = true ∧ ((paS S A B x k).testBit (A k) = true ∨ (paS S A B x k).testBit (B k) = true) then paS S A B x k ||| (2 ^ A k ||| 2 ^ B k) else paS S A B x k := rfl
    by_cases c : S k = true ∧ ((paS S A B x k).testBit (A k) = true ∨ (paS S A B x k).testBit (B k) = true)
    · rw [e, if_pos c, Nat.testBit_or, Nat.testBit_or, Nat.testBit_two_pow, Nat.testBit_two_pow, Bool.or_eq_true, Bool.or_eq_true, decide_eq_true_eq, decide_eq_true_eq] at z
      have ab : Ed S A B 8 (A k) (B k) := ⟨k, by omega, c.1, Or.inl ⟨rfl, rfl⟩⟩
      have cA : Cn (Ed S A B 8) a (A k) := by
        rcases c.2 with y | y
        · exact ih (by omega) _ (hA k (by omega)) y
        · exact Cn_step (ih (by omega) _ (hB k (by omega)) y) (Ed_symm _ _ ab)
      rcases z with z | z | z
      · exact ih (by omega) q hq z
      · rw [← z]; exact cA
      · rw [← z]; exact Cn_step cA ab
    · rw [e, if_neg c] at z
      exact ih (by omega) q hq z
theorem pa_keep (h : paS S A B x 8 = x) : ∀ d k, k + d = 8 → paS S A B x k = x := by
  intro d
  induction d with
  | zero => intro k e; rw [show k = 8 by omega]; exact h
  | succ d ih =>
    intro k e
    have n1 := ih (k + 1) (by omega)
    apply Nat.eq_of_testBit_eq
    intro q
    cases y : x.testBit q with
    | true => exact pa_up y k
    | false =>
      cases u : (paS S A B x k).testBit q with
      | false => rfl
      | true =>
        have e2 : (paS S A B x (k + 1)).testBit q = true := by
          show (if _ then _ else _ : Nat).testBit q = true
          split
          · rw [Nat.testBit_or, u]
            rfl
          · exact u
        rw [n1, y] at e2
        exact absurd e2 (by decide)
theorem pa_closed (h : paS S A B x 8 = x) : ∀ s, s < 8 → S s = true → (x.testBit (A s) = true ↔ x.testBit (B s) = true) := by
  intro s hs t
  have e0 := pa_keep h (8 - s) s (by omega)
  have e1 := pa_keep h (8 - (s + 1)) (s + 1) (by omega)
  have e : paS S A B x (s + 1) = if S s = true ∧ ((paS S A B x s).testBit (A s) = true ∨ (paS S A B x s).testBit (B s) = true) then paS S A B x s ||| (2 ^ A s ||| 2 ^ B s) else paS S A B x s := rfl
  rw [e0, e1] at e
  by_cases c : S s = true ∧ (x.testBit (A s) = true ∨ x.testBit (B s) = true)
  · rw [if_pos c] at e
    have bA : x.testBit (A s) = true := by
      rw [e, Nat.testBit_or, Nat.testBit_or, Nat.testBit_two_pow, decide_eq_true rfl]
      simp
    have bB : x.testBit (B s) = true := by
      rw [e, Nat.testBit_or, Nat.testBit_or, Nat.testBit_two_pow (n := B s), decide_eq_true rfl]
      simp
    exact ⟨fun _ => bB, fun _ => bA⟩
  · exact ⟨fun z => absurd ⟨t, Or.inl z⟩ c, fun z => absurd ⟨t, Or.inr z⟩ c⟩
end PASS
section RPLAN
variable {n b L : Nat} {xs : Nat → Int32} {τ : Nat → Nat} {g : zGh} {h : zH} {td tr : Nat} {A B H F G : Nat → Nat}
theorem wp_both {α : Type} {o : Option α} {R Q : α → Prop} (e : wp o R) (k : ∀ r, o = some r → Q r) : wp o Q := by
  obtain ⟨a, e1, _⟩ := e
  exact ⟨a, e1, k a e1⟩
theorem r_doneTo {c s : Nat} (hc : c < 6561) (hs : s < 8) (t : TR td tr A B H F G g) (w : WT n b L xs τ g h) : f_X12_doneTo 10000 (n + 42) (nI c) (nI s) h = some (nI (dg c s)) := by
  apply wp_is
  unfold f_X12_doneTo
  refine wp_eq (gR_42_79 w) ?_
  refine wp_eq (A_98 w (q8 hs).1 (q8 hs).2.1) ?_
  rw [(q8 hs).2.2, t.2.2.2.2.2 s hs]
  have p3 := pow3_le hs
  have p0 : 0 < 3 ^ s := Nat.pow_pos (by decide)
  have le : c / 3 ^ s ≤ c := Nat.div_le_self _ _
  refine wp_zdiv (fun z => absurd (nI_inj (b := 0) (by omega) (by omega) z) (by omega)) ?_
  rw [nI_div (by omega) (by omega), nI_mod3 (by omega)]
  exact wp_some rfl
theorem r_harmOf_L4 {c : Nat} (hc : c < 6561) (t : TR td tr A B H F G g) (w : WT n b L xs τ g h) : ∀ (m s : Nat) {y : Int32}, s ≤ 8 → 8 - s < m → y = nI (hmS td H c s) → f_X12_harmOf_L4 10000 (n + 42) (nI c) h m y (nI s) = some (nI (hmS td H c 8)) := by
  intro m
  induction m with
  | zero => intro s y hs hm e; exact absurd hm (Nat.not_lt_zero _)
  | succ m ih =>
    intro s y hs hm e
    apply wp_is
    rw [f_X12_harmOf_L4.eq_2]
    by_cases e8 : s = 8
    · subst e8
      rw [if_pos (by decide)]
      exact wp_some e
    · have s8 : s < 8 := by omega
      rw [if_neg (Int32.not_le.mpr (q8 s8).2.1), nI_1]
      refine wp_eq (gR_42_72 w) ?_
      refine wp_eq (A_92 w (q8 s8).1 (q8 s8).2.1) ?_
      rw [(q8 s8).2.2, t.1 s s8]
      have es : hmS td H c (s + 1) = hmS td H c s + (if td.testBit s = true then H (3 * s + dg c s) else 0) := rfl
      by_cases tb : td.testBit s = true
      · rw [if_pos tb, if_neg ne10]
        rw [if_pos tb] at es
        refine wp_eq (gR_42_75 w) ?_
        refine wp_zif (ob_42 w) ?_
        refine wp_eq (r_doneTo hc s8 t w) ?_
        have d3 := dg_lt c s
        have i1 : (3 : Int32) * nI s + nI (dg c s) = nI (3 * s + dg c s) := by
          have e3 : (3 : Int32) = nI 3 := rfl
          rw [e3, hI_mul, nI_add]
        have q := h_ix (m := 24) (j := 3 * s + dg c s) (by omega) (by omega)
        have e24 : nI 24 = 24 := rfl
        rw [e24] at q
        rw [i1]
        refine wp_eq (A_95 w q.1 q.2.1) ?_
        rw [q.2.2, (t.2.2.1 _ (by omega)).1]
        refine wp_zlet ?_
        exact ⟨_, ih (s + 1) (by omega) (by omega) (by rw [e, es, nI_add]), rfl⟩
      · rw [if_neg tb, if_pos eq00]
        rw [if_neg tb] at es
        refine wp_zlet ?_
        exact ⟨_, ih (s + 1) (by omega) (by omega) (by rw [e, es, Nat.add_zero, Int32.add_zero]), rfl⟩
theorem r_harmOf {c : Nat} (hc : c < 6561) (t : TR td tr A B H F G g) (w : WT n b L xs τ g h) : f_X12_harmOf 10000 (n + 42) (nI c) h = some (nI (hmS td H c 8)) := by
  have e : f_X12_harmOf_L4 10000 (n + 42) (nI c) h 10000 0 0 = some (nI (hmS td H c 8)) := r_harmOf_L4 hc t w 10000 0 (by omega) (by omega) rfl
  unfold f_X12_harmOf
  rw [e]
  rfl
theorem r_comesTo_L20 {c most x : Nat} (hc : c < 6561) (hm2 : most < 3) (hx : x < 256) (t : TR td tr A B H F G g) (w : WT n b L xs τ g h) : ∀ (m s : Nat) {y : Int32}, s ≤ 8 → 8 - s < m → y = nI (paS (inM td c most) A B x s) → f_X12_comesTo_L20 10000 (n + 42) (nI c) (nI most) h m y (nI s) = some (nI (paS (inM td c most) A B x 8)) := by
  have hA : ∀ s, s < 8 → A s < 8 := fun s hs => (t.2.1 s hs).2.2.1
  have hB : ∀ s, s < 8 → B s < 8 := fun s hs => (t.2.1 s hs).2.2.2
  intro m
  induction m with
  | zero => intro s y hs hm e; exact absurd hm (Nat.not_lt_zero _)
  | succ m ih =>
    intro s y hs hm e
    apply wp_is
    rw [f_X12_comesTo_L20.eq_2]
    by_cases e8 : s = 8
    · subst e8
      rw [if_pos (by decide)]
      exact wp_some e
    · have s8 : s < 8 := by omega
      have plt := pa_lt (S := inM td c most) hA hB hx s (by omega)
      have bA := bit8' _ plt _ (hA s s8)
      have bB := bit8' _ plt _ (hB s s8)
      have es : paS (inM td c most) A B x (s + 1) = if inM td c most s = true ∧ ((paS (inM td c most) A B x s).testBit (A s) = true ∨ (paS (inM td c most) A B x s).testBit (B s) = true) then paS (inM td c most) A B x s ||| (2 ^ A s ||| 2 ^ B s) else paS (inM td c most) A B x s := rfl
      rw [if_neg (Int32.not_le.mpr (q8 s8).2.1), nI_1, e]
      generalize paS (inM td c most) A B x s = z at bA bB es plt
      refine wp_eq (gR_42_72 w) ?_
      refine wp_eq (A_92 w (q8 s8).1 (q8 s8).2.1) ?_
      rw [(q8 s8).2.2, t.1 s s8]
      have rA : aI h (n + 93) (nI s) = some (nI (A s)) := by rw [A_93 w (q8 s8).1 (q8 s8).2.1, (q8 s8).2.2, (t.2.1 s s8).1]
      have rB : aI h (n + 94) (nI s) = some (nI (B s)) := by rw [A_94 w (q8 s8).1 (q8 s8).2.1, (q8 s8).2.2, (t.2.1 s s8).2.1]
      by_cases cc : inM td c most s = true ∧ (z.testBit (A s) = true ∨ z.testBit (B s) = true)
      · rw [if_pos cc] at es
        have tb : td.testBit s = true ∧ dg c s ≤ most := by
          have u := cc.1
          unfold inM at u
          rw [Bool.and_eq_true, decide_eq_true_eq] at u
          exact u
        refine wp_eq (a := (1 : Int32)) ?_ ?_
        · rw [if_pos tb.1, if_neg ne10]
          apply wp_is
          refine wp_zif (ob_42 w) ?_
          refine wp_eq (r_doneTo hc s8 t w) ?_
          rw [if_neg (Int32.not_lt.mpr (nI_r tb.2 (by omega)).2)]
          refine wp_eq (gR_42_73 w) ?_
          refine wp_eq rA ?_
          by_cases a1 : z.testBit (A s) = true
          · rw [if_pos (bA.mpr a1)]
            exact wp_some rfl
          · rw [if_neg (show ¬ (nI z >>> (nI (A s) &&& 31)) &&& 1 = 1 from fun u => a1 (bA.mp u))]
            refine wp_eq (gR_42_74 w) ?_
            refine wp_eq rB ?_
            rw [if_pos (bB.mpr (cc.2.resolve_left a1))]
            exact wp_some rfl
        · rw [if_neg ne10]
          refine wp_eq (gR_42_73 w) ?_
          refine wp_eq rA ?_
          refine wp_eq (gR_42_74 w) ?_
          refine wp_eq rB ?_
          refine wp_zlet ?_
          rw [shl8 _ (hA s s8), shl8 _ (hB s s8), or_nI, or_nI]
          exact ⟨_, ih (s + 1) (by omega) (by omega) (by rw [es]), rfl⟩
      · rw [if_neg cc] at es
        refine wp_eq (a := (0 : Int32)) ?_ ?_
        · by_cases t1 : td.testBit s = true
          · rw [if_pos t1, if_neg ne10]
            apply wp_is
            refine wp_zif (ob_42 w) ?_
            refine wp_eq (r_doneTo hc s8 t w) ?_
            by_cases t2 : dg c s ≤ most
            · have im : inM td c most s = true := by
                unfold inM
                rw [t1, decide_eq_true t2]
                rfl
              rw [if_neg (Int32.not_lt.mpr (nI_r t2 (by omega)).2)]
              refine wp_eq (gR_42_73 w) ?_
              refine wp_eq rA ?_
              rw [if_neg (show ¬ (nI z >>> (nI (A s) &&& 31)) &&& 1 = 1 from fun u => cc ⟨im, Or.inl (bA.mp u)⟩)]
              refine wp_eq (gR_42_74 w) ?_
              refine wp_eq rB ?_
              rw [if_neg (show ¬ (nI z >>> (nI (B s) &&& 31)) &&& 1 = 1 from fun u => cc ⟨im, Or.inr (bB.mp u)⟩)]
              exact wp_some rfl
            · have d3 := dg_lt c s
              rw [if_pos (hI_lt (by omega) (by omega))]
              exact wp_some rfl
          · rw [if_neg t1, if_pos eq00]
        · rw [if_pos eq00]
          refine wp_zlet ?_
          exact ⟨_, ih (s + 1) (by omega) (by omega) (by rw [es, Int32.or_zero]), rfl⟩
theorem r_comesTo_L8 {c most a : Nat} (hc : c < 6561) (hm2 : most < 3) (t : TR td tr A B H F G g) (w : WT n b L xs τ g h) : ∀ (m x : Nat) {v5 r : Int32}, x < 256 → x.testBit a = true → (∀ q, q < 8 → x.testBit q = true → Cn (Ed (inM td c most) A B 8) a q) → (v5 = 0 → ∀ s, s < 8 → inM td c most s = true → (x.testBit (A s) = true ↔ x.testBit (B s) = true)) → f_X12_comesTo_L8 10000 (n + 42) (nI c) (nI most) h m (nI x) v5 = some r → ∃ y, y < 256 ∧ r = nI y ∧ y.testBit a = true ∧ (∀ q, q < 8 → y.testBit q = true → Cn (Ed (inM td c most) A B 8) a q) ∧ (∀ s, s < 8 → inM td c most s = true → (y.testBit (A s) = true ↔ y.testBit (B s) = true)) := by
  have hA : ∀ s, s < 8 → A s < 8 := fun s hs => (t.2.1 s hs).2.2.1
  have hB : ∀ s, s < 8 → B s < 8 := fun s hs => (t.2.1 s hs).2.2.2
  intro m
  induction m with
  | zero => intro x v5 r hx h0 h1 h2 e; cases e
  | succ m ih =>
    intro x v5 r hx h0 h1 h2 e
    rw [f_X12_comesTo_L8.eq_2] at e
    by_cases z : v5 = 0
    · rw [if_pos z] at e
      cases e
      exact ⟨x, hx, rfl, h0, h1, h2 z⟩
    · have l : f_X12_comesTo_L20 10000 (n + 42) (nI c) (nI most) h 10000 (nI x) 0 = some (nI (paS (inM td c most) A B x 8)) := r_comesTo_L20 hc hm2 hx t w 10000 0 (by omega) (by omega) rfl
      have plt := pa_lt (S := inM td c most) hA hB hx 8 (Nat.le_refl _)
      have pcn := pa_cn h1 hA hB 8 (Nat.le_refl _)
      have pup := pa_up (S := inM td c most) (A := A) (B := B) h0 8
      rw [if_neg z, l] at e
      have e' : (if nI (paS (inM td c most) A B x 8) = nI x then f_X12_comesTo_L8 10000 (n + 42) (nI c) (nI most) h m (nI (paS (inM td c most) A B x 8)) 0 else f_X12_comesTo_L8 10000 (n + 42) (nI c) (nI most) h m (nI (paS (inM td c most) A B x 8)) 1) = some r := e
      by_cases y : nI (paS (inM td c most) A B x 8) = nI x
      · rw [if_pos y] at e'
        have eq := nI_inj (by omega) (by omega) y
        refine ih _ plt pup pcn (fun _ => ?_) e'
        rw [eq]
        exact pa_closed eq
      · rw [if_neg y] at e'
        exact ih _ plt pup pcn (fun u => absurd u (by decide)) e'
theorem r_comesTo {c most a : Nat} (hc : c < 6561) (hm2 : most < 3) (ha : a < 8) (t : TR td tr A B H F G g) (w : WT n b L xs τ g h) : wp (f_X12_comesTo 10000 (n + 42) (nI c) (nI a) (nI most) h) (fun r => ∃ y, y < 256 ∧ r = nI y ∧ ∀ q, q < 8 → (y.testBit q = true ↔ Cn (Ed (inM td c most) A B 8) a q)) := by
  have hA : ∀ s, s < 8 → A s < 8 := fun s hs => (t.2.1 s hs).2.2.1
  have hB : ∀ s, s < 8 → B s < 8 := fun s hs => (t.2.1 s hs).2.2.2
  have qa := q8 ha
  have e7 : nI 7 = 7 := rfl
  have c0 := (nI_r (Nat.zero_le c) (by omega)).2
  have a7 := (nI_r (show a ≤ 7 by omega) (by omega)).2
  rw [e7] at a7
  refine wp_both (t_X12_comesTo w c0 qa.1 a7) (fun r e => ?_)
  unfold f_X12_comesTo at e
  have e' : (f_X12_comesTo_L8 10000 (n + 42) (nI c) (nI most) h 10000 ((1 : Int32) <<< (nI a &&& 31)) 1).bind (fun m26 => some m26) = some r := e
  rw [shl8 a ha] at e'
  rcases hl : f_X12_comesTo_L8 10000 (n + 42) (nI c) (nI most) h 10000 (nI (2 ^ a)) 1 with _ | r'
  · rw [hl] at e'
    cases e'
  · rw [hl] at e'
    cases e'
    have b0 : (2 ^ a).testBit a = true := by rw [Nat.testBit_two_pow, decide_eq_true rfl]
    obtain ⟨y, y1, y2, y3, y4, y5⟩ := r_comesTo_L8 (a := a) hc hm2 t w 10000 (2 ^ a) (two_lt ha) b0 (fun q hq z => by
      rw [Nat.testBit_two_pow, decide_eq_true_eq] at z
      rw [← z]
      exact Cn_refl a) (fun u => absurd u (by decide)) hl
    exact ⟨y, y1, y2, close_iff ha hA hB y3 y4 y5⟩
theorem r_goes {c most i : Nat} (hc : c < 6561) (hm2 : most < 3) (hi : i < 8) (t : TR td tr A B H F G g) (w : WT n b L xs τ g h) : f_X12_goes 10000 (n + 42) (nI c) (nI i) (nI most) h = some (if ldB (inM td c most) A B F G i = true then 1 else 0) := by
  have hA : ∀ s, s < 8 → A s < 8 := fun s hs => (t.2.1 s hs).2.2.1
  have hB : ∀ s, s < 8 → B s < 8 := fun s hs => (t.2.1 s hs).2.2.2
  obtain ⟨f1, g1, f2, g2⟩ := t.2.2.2.2.1 i hi
  apply wp_is
  unfold f_X12_goes
  refine wp_eq (gR_42_77 w) ?_
  refine wp_eq (A_96 w (q8 hi).1 (q8 hi).2.1) ?_
  rw [(q8 hi).2.2, f1]
  refine wp_zif (ob_42 w) ?_
  refine wp_bind (r_comesTo hc hm2 f2 t w) fun q4 p4 => ?_
  obtain ⟨y, y1, y2, y3⟩ := p4
  refine wp_eq (gR_42_78 w) ?_
  refine wp_eq (A_97 w (q8 hi).1 (q8 hi).2.1) ?_
  rw [(q8 hi).2.2, g1, y2]
  have bb := bit8' y y1 _ g2
  have gi := (gr_GI (S := inM td c most) hA hB 8 (Nat.le_refl _) _ f2).2 _ g2
  have iff : y.testBit (G i) = true ↔ ldB (inM td c most) A B F G i = true := (y3 _ g2).trans gi.symm
  by_cases z : y.testBit (G i) = true
  · rw [if_pos (bb.mpr z), if_pos (iff.mp z)]
    exact wp_some rfl
  · rw [if_neg (show ¬ (nI y >>> (nI (G i) &&& 31)) &&& 1 = 1 from fun u => z (bb.mp u)), if_neg (show ¬ ldB (inM td c most) A B F G i = true from fun u => z (iff.mpr u))]
    exact wp_some rfl
theorem r_lateBy_L2 {c : Nat} (hc : c < 6561) (t : TR td tr A B H F G g) (w : WT n b L xs τ g h) : ∀ (m s : Nat), s ≤ 8 → 8 - s < m → (∀ k, k < s → td.testBit k = false → dg c k = 0) → wp (f_X12_lateBy_L2 10000 (n + 42) (nI c) h m (nI s)) (fun r => (r = .inl () ∧ okC td c) ∨ (r = .inr (-1) ∧ ¬ okC td c)) := by
  intro m
  induction m with
  | zero => intro s hs hm a; exact absurd hm (Nat.not_lt_zero _)
  | succ m ih =>
    intro s hs hm a
    rw [f_X12_lateBy_L2.eq_2]
    by_cases e8 : s = 8
    · subst e8
      rw [if_pos (by decide)]
      exact wp_some (Or.inl ⟨rfl, fun k hk => a k hk⟩)
    · have s8 : s < 8 := by omega
      rw [if_neg (Int32.not_le.mpr (q8 s8).2.1), nI_1]
      refine wp_eq (gR_42_72 w) ?_
      refine wp_eq (A_92 w (q8 s8).1 (q8 s8).2.1) ?_
      rw [(q8 s8).2.2, t.1 s s8]
      by_cases tb : td.testBit s = true
      · rw [if_pos tb, if_neg ne10]
        refine ih (s + 1) (by omega) (by omega) (fun k hk z => ?_)
        by_cases ek : k = s
        · rw [ek, tb] at z
          exact absurd z (by decide)
        · exact a k (by omega) z
      · have tf : td.testBit s = false := by
          cases y : td.testBit s with
          | false => rfl
          | true => exact absurd y tb
        rw [if_neg tb, if_pos eq00]
        refine wp_zif (ob_42 w) ?_
        refine wp_eq (r_doneTo hc s8 t w) ?_
        have d3 := dg_lt c s
        by_cases dz : dg c s = 0
        · rw [if_pos (show nI (dg c s) ≤ 0 by rw [dz]; decide)]
          refine ih (s + 1) (by omega) (by omega) (fun k hk z => ?_)
          by_cases ek : k = s
          · rw [ek]; exact dz
          · exact a k (by omega) z
        · rw [if_neg (show ¬ nI (dg c s) ≤ 0 from Int32.not_le.mpr (hI_lt (j := 0) (by omega) (by omega)))]
          exact wp_some (Or.inr ⟨rfl, fun ok => dz (ok s s8 tf)⟩)
theorem r_lateBy_L38 {c : Nat} (hc : c < 6561) (t : TR td tr A B H F G g) (w : WT n b L xs τ g h) : ∀ (m i : Nat) {y : Int32}, i ≤ tr → tr - i < m → (∀ k, k < i → ldB (inM td c 1) A B F G k = true) → y = nI (i - ldN (inM td c 0) A B F G i) → wp (f_X12_lateBy_L38 10000 (n + 42) (nI c) h m y (nI i)) (fun r => (∃ l, r = .inl (nI l) ∧ laS td A B F G tr c = some l) ∨ (r = .inr (-1) ∧ laS td A B F G tr c = none)) := by
  have t8 := t.2.2.2.1.2
  intro m
  induction m with
  | zero => intro i y hi hm a e; exact absurd hm (Nat.not_lt_zero _)
  | succ m ih =>
    intro i y hi hm a e
    rw [f_X12_lateBy_L38.eq_2]
    refine wp_eq (E_42_76 w) ?_
    rw [t.2.2.2.1.1]
    by_cases ei : i = tr
    · rw [ei] at a e ⊢
      rw [if_pos (Int32.le_refl _)]
      refine wp_some (Or.inl ⟨tr - ldN (inM td c 0) A B F G tr, by rw [e], ?_⟩)
      exact if_pos ((ld_all tr).mpr a)
    · have i8 : i < 8 := by omega
      rw [if_neg (Int32.not_le.mpr (hI_lt (by omega) (by omega))), nI_1]
      refine wp_zif (ob_42 w) ?_
      have g1 : f_X12_goes 10000 (n + 42) (nI c) (nI i) 1 h = some (if ldB (inM td c 1) A B F G i = true then 1 else 0) := r_goes (most := 1) hc (by decide) i8 t w
      have g0 : f_X12_goes 10000 (n + 42) (nI c) (nI i) 0 h = some (if ldB (inM td c 0) A B F G i = true then 1 else 0) := r_goes (most := 0) hc (by decide) i8 t w
      refine wp_eq g1 ?_
      by_cases c1 : ldB (inM td c 1) A B F G i = true
      · rw [if_pos c1, if_neg ne10]
        refine wp_zif (ob_42 w) ?_
        refine wp_eq g0 ?_
        have es : ldN (inM td c 0) A B F G (i + 1) = ldN (inM td c 0) A B F G i + (if ldB (inM td c 0) A B F G i = true then 1 else 0) := rfl
        have le := ld_le (S := inM td c 0) (A := A) (B := B) (F := F) (G := G) i
        have a' : ∀ k, k < i + 1 → ldB (inM td c 1) A B F G k = true := fun k hk => by
          by_cases ek : k = i
          · rw [ek]; exact c1
          · exact a k (by omega)
        by_cases c0 : ldB (inM td c 0) A B F G i = true
        · rw [if_pos c0] at es ⊢
          rw [if_neg ne10]
          refine wp_zlet ?_
          exact ih (i + 1) (by omega) (by omega) a' (by rw [e, es, Int32.add_zero, show i + 1 - (ldN (inM td c 0) A B F G i + 1) = i - ldN (inM td c 0) A B F G i by omega])
        · rw [if_neg c0] at es ⊢
          rw [if_pos eq00]
          refine wp_zlet ?_
          exact ih (i + 1) (by omega) (by omega) a' (by rw [e, es, nI_1, show i - ldN (inM td c 0) A B F G i + 1 = i + 1 - (ldN (inM td c 0) A B F G i + 0) by omega])
      · rw [if_neg c1, if_pos eq00]
        refine wp_some (Or.inr ⟨rfl, ?_⟩)
        exact if_neg (fun z => c1 ((ld_all tr).mp z i (by omega)))
theorem r_lateBy {c : Nat} (hc : c < 6561) (t : TR td tr A B H F G g) (w : WT n b L xs τ g h) : wp (f_X12_lateBy 10000 (n + 42) (nI c) h) (fun r => (∃ l, l ≤ 8 ∧ r = nI l ∧ PlE td A B F G tr l c) ∨ (r = -1 ∧ ∀ l, ¬ PlE td A B F G tr l c)) := by
  have t8 := t.2.2.2.1.2
  unfold f_X12_lateBy
  refine wp_bind (r_lateBy_L2 hc t w 10000 0 (by omega) (by omega) (fun k hk => absurd hk (Nat.not_lt_zero _))) fun m8 p8 => ?_
  rcases p8 with ⟨e8, ok⟩ | ⟨e8, no⟩
  · subst e8
    refine wp_zsL ?_
    refine wp_bind (r_lateBy_L38 hc t w 10000 0 (by omega) (by omega) (fun k hk => absurd hk (Nat.not_lt_zero _)) rfl) fun m20 p20 => ?_
    rcases p20 with ⟨l, e20, la⟩ | ⟨e20, la⟩
    · subst e20
      refine wp_zsL (wp_some (Or.inl ⟨l, ?_, rfl, ok, la⟩))
      unfold laS at la
      split at la
      · cases la
        omega
      · cases la
    · subst e20
      refine wp_zsR (Or.inr ⟨rfl, fun l z => ?_⟩)
      have z2 := z.2
      rw [la] at z2
      cases z2
  · subst e8
    exact wp_zsR (Or.inr ⟨rfl, fun l z => no z.1⟩)
theorem r_plan_L47 {most : Nat} (hm8 : most ≤ 8) (t : TR td tr A B H F G g) (w : WT n b L xs τ g h) : ∀ (m c : Nat) {v : Int32} {bo : Option Nat}, c ≤ 6561 → 6561 - c < m → Mn (PlL td A B F G tr (most + 1)) (fun c => hmS td H c 8) c bo → (match bo with | none => v = -1 | some x => v = nI x) → wp (f_X12_plan_L47 10000 (n + 42) (nI most) h m v (nI c)) (fun r => ∃ bo, Mn (PlL td A B F G tr (most + 1)) (fun c => hmS td H c 8) 6561 bo ∧ (match bo with | none => r = -1 | some x => r = nI x)) := by
  have hH : ∀ k, k < 24 → H k ≤ 999 := fun k hk => (t.2.2.1 k hk).2
  intro m
  induction m with
  | zero => intro c v bo hc hm mn e; exact absurd hm (Nat.not_lt_zero _)
  | succ m ih =>
    intro c v bo hc hm mn e
    rw [f_X12_plan_L47.eq_2]
    by_cases ec : c = 6561
    · subst ec
      rw [if_pos (by decide)]
      exact wp_some ⟨bo, mn, e⟩
    · have c6 : c < 6561 := by omega
      have e6 : nI 6561 = 6561 := rfl
      have lt := hI_lt c6 (by omega)
      rw [e6] at lt
      rw [if_neg (Int32.not_le.mpr lt)]
      have bc := hm_le (td := td) (c := c) hH 8 (Nat.le_refl _)
      have tail : (∀ x, bo = some x → hmS td H c 8 < hmS td H x 8) → wp (zif (zob h (n + 42) 12) <| (f_X12_lateBy 10000 (n + 42) (nI c) h).bind fun q22 => if q22 < 0 then (f_X12_plan_L47 10000 (n + 42) (nI most) h m v (nI c + 1)) else (if nI most < q22 then (f_X12_plan_L47 10000 (n + 42) (nI most) h m v (nI c + 1)) else (f_X12_plan_L47 10000 (n + 42) (nI most) h m (nI c) (nI c + 1)))) (fun r => ∃ bo, Mn (PlL td A B F G tr (most + 1)) (fun c => hmS td H c 8) 6561 bo ∧ (match bo with | none => r = -1 | some x => r = nI x)) := fun better => by
        refine wp_zif (ob_42 w) ?_
        refine wp_bind (r_lateBy c6 t w) fun q22 p22 => ?_
        rw [nI_1]
        rcases p22 with ⟨l, l8, el, pl⟩ | ⟨el, no⟩
        · rw [el, if_neg (Int32.not_lt.mpr (nI_r (Nat.le_refl l) (by omega)).1)]
          by_cases lm : l ≤ most
          · rw [if_neg (Int32.not_lt.mpr (nI_r lm (by omega)).2)]
            exact ih (c + 1) (bo := some c) (by omega) (by omega) (Mn_take mn ⟨l, by omega, pl⟩ better) rfl
          · rw [if_pos (hI_lt (by omega) (by omega))]
            refine ih (c + 1) (by omega) (by omega) (Mn_skip mn (fun z => ?_)) e
            obtain ⟨l', h1, h2⟩ := z
            have h3 := h2.2
            rw [pl.2] at h3
            cases h3
            exact absurd h1 (by omega)
        · rw [el, if_pos (show (-1 : Int32) < 0 by decide)]
          refine ih (c + 1) (by omega) (by omega) (Mn_skip mn (fun z => ?_)) e
          obtain ⟨l', h1, h2⟩ := z
          exact absurd h2 (no l')
      cases bo with
      | none =>
        have v1 : v = -1 := e
        refine wp_eq (a := .inl (nI c)) ?_ ?_
        · rw [v1]
          rfl
        · exact wp_zsL (tail (fun x z => by cases z))
      | some x =>
        have v1 : v = nI x := e
        have x6 : x < 6561 := by have := mn.1; omega
        have bx := hm_le (td := td) (c := x) hH 8 (Nat.le_refl _)
        have nv : ¬ v < 0 := by
          rw [v1]
          exact Int32.not_lt.mpr (nI_r (Nat.le_refl x) (by omega)).1
        by_cases cmp : hmS td H x 8 ≤ hmS td H c 8
        · refine wp_bind (R := fun r => match r with | .inl _ => False | .inr q => ∃ bo, Mn (PlL td A B F G tr (most + 1)) (fun c => hmS td H c 8) 6561 bo ∧ (match bo with | none => q = -1 | some x => q = nI x)) ?_ (fun m12 p12 => ?_)
          · rw [if_neg nv, v1]
            refine wp_zif (ob_42 w) ?_
            refine wp_eq (r_harmOf c6 t w) ?_
            refine wp_zif (ob_42 w) ?_
            refine wp_eq (r_harmOf x6 t w) ?_
            rw [if_pos (nI_r cmp (by omega)).2, nI_1]
            exact wp_map (ih (c + 1) (bo := some x) (by omega) (by omega) (Mn_skip mn (fun _ => ⟨x, rfl, cmp⟩)) rfl)
          · rcases m12 with u | u
            · exact absurd p12 id
            · exact wp_zsR p12
        · refine wp_eq (a := .inl (nI c)) ?_ ?_
          · rw [if_neg nv, v1]
            apply wp_is
            refine wp_zif (ob_42 w) ?_
            refine wp_eq (r_harmOf c6 t w) ?_
            refine wp_zif (ob_42 w) ?_
            refine wp_eq (r_harmOf x6 t w) ?_
            rw [if_neg (Int32.not_le.mpr (hI_lt (by omega) (by omega)))]
            exact wp_some rfl
          · exact wp_zsL (tail (fun x' z => by cases z; omega))
theorem v_X12_plan {v1 v2 : Int32} (t : TR td tr A B H F G g) (w : WT n b L xs τ g h) : wp (f_X12_plan 10000 (n + 42) v1 v2 h) (fun r => WT n b L xs τ g r.2 ∧ (¬ ((0 ≤ v1 ∧ v1 ≤ 8) ∧ (0 ≤ v2 ∧ v2 ≤ 9)) → r.1 = -1) ∧ ((0 ≤ v1 ∧ v1 ≤ 8) ∧ (0 ≤ v2 ∧ v2 ≤ 9) → (v2 < 8 ∧ td.testBit v2.toNatClampNeg = false ∧ r.1 = -1) ∨ ∃ bo, Mn (PlL td A B F G tr (v1.toNatClampNeg + 1)) (fun c => hmS td H c 8) 6561 bo ∧ r.1 = plA td A B H F G tr bo v2)) := by
  unfold f_X12_plan
  refine wp_bind (pI_42_0 w) fun h1 w => ?_
  refine in12 (fun c => wp_some ⟨w, fun _ => rfl, fun z => absurd z.1 c⟩) (fun c1 => ?_)
  refine in12 (fun c => wp_some ⟨w, fun _ => rfl, fun z => absurd z.2 c⟩) (fun c2 => ?_)
  refine wp_mono (R := fun r => WT n b L xs τ g r.2 ∧ ((v2 < 8 ∧ td.testBit v2.toNatClampNeg = false ∧ r.1 = -1) ∨ ∃ bo, Mn (PlL td A B F G tr (v1.toNatClampNeg + 1)) (fun c => hmS td H c 8) 6561 bo ∧ r.1 = plA td A B H F G tr bo v2)) ?_ (fun r p => ⟨p.1, fun z => absurd ⟨c1, c2⟩ z, fun _ => p.2⟩)
  have e1 : nI v1.toNatClampNeg = v1 := i32_nI c1.1
  have l1 : v1.toNatClampNeg < 9 := (i32_clamp c1.1 (N := 9) (by decide) (by show v1 < 9; lia)).2
  have ev : nI v2.toNatClampNeg = v2 := i32_nI c2.1
  have lp := r_plan_L47 (most := v1.toNatClampNeg) (by omega) t w 10000 0 (v := -1) (bo := none) (by omega) (by omega) Mn_0 rfl
  rw [e1] at lp
  by_cases c8 : 8 ≤ v2
  · refine wp_eq (a := .inl ()) (if_pos c8) ?_
    refine wp_zsL ?_
    refine wp_bind lp fun m25 p25 => ?_
    obtain ⟨bo, mn, e⟩ := p25
    cases bo with
    | none =>
      have v0 : m25 = -1 := e
      rw [v0, if_neg (show ¬ (0 : Int32) ≤ -1 by decide)]
      exact wp_some ⟨w, Or.inr ⟨none, mn, rfl⟩⟩
    | some x =>
      have v0 : m25 = nI x := e
      have x6 := mn.1
      rw [v0, if_pos (nI_r (Nat.le_refl x) (by omega)).1, if_pos c8]
      by_cases e8 : v2 = 8
      · rw [if_pos e8]
        refine wp_zif (ob_42 w) ?_
        refine wp_eq (r_harmOf x6 t w) ?_
        refine wp_some ⟨w, Or.inr ⟨some x, mn, ?_⟩⟩
        show _ = (if v2 = 8 then nI (hmS td H x 8) else _)
        rw [if_pos e8]
      · have e9 : v2 = 9 := by lia
        rw [if_neg e8]
        refine wp_zif (ob_42 w) ?_
        refine wp_bind (r_lateBy x6 t w) fun q30 p30 => ?_
        obtain ⟨l, l0, pl⟩ := mn.2.1
        rcases p30 with ⟨l', l8, el, pl'⟩ | ⟨el, no⟩
        · refine wp_some ⟨w, Or.inr ⟨some x, mn, ?_⟩⟩
          show q30 = (if v2 = 8 then _ else if v2 = 9 then nI ((laS td A B F G tr x).getD 0) else _)
          rw [if_neg e8, if_pos e9, pl'.2, el]
          rfl
        · exact absurd pl (no l)
  · have s8 : v2.toNatClampNeg < 8 := (i32_clamp c2.1 (N := 8) (by decide) (by show v2 < 8; lia)).2
    have r92 : aZ h1 (n + 92) v2 = some (if td.testBit v2.toNatClampNeg = true then 1 else 0) := by
      rw [A_92 w c2.1 (by lia), t.1 _ s8]
    by_cases tb : td.testBit v2.toNatClampNeg = true
    · rw [if_pos tb] at r92
      refine wp_eq (a := .inl ()) ?_ ?_
      · rw [if_neg c8, gR_42_72 w]
        show (aZ h1 (n + 92) v2).bind _ = _
        rw [r92]
        rfl
      refine wp_zsL ?_
      refine wp_bind lp fun m25 p25 => ?_
      obtain ⟨bo, mn, e⟩ := p25
      cases bo with
      | none =>
        have v0 : m25 = -1 := e
        rw [v0, if_neg (show ¬ (0 : Int32) ≤ -1 by decide)]
        exact wp_some ⟨w, Or.inr ⟨none, mn, rfl⟩⟩
      | some x =>
        have v0 : m25 = nI x := e
        have x6 := mn.1
        rw [v0, if_pos (nI_r (Nat.le_refl x) (by omega)).1, if_neg c8]
        refine wp_zif (ob_42 w) ?_
        have dt := r_doneTo x6 s8 t w
        rw [ev] at dt
        refine wp_eq dt ?_
        refine wp_some ⟨w, Or.inr ⟨some x, mn, ?_⟩⟩
        show _ = (if v2 = 8 then _ else if v2 = 9 then _ else if td.testBit v2.toNatClampNeg = true then nI (dg x v2.toNatClampNeg) else -1)
        rw [if_neg (show ¬ v2 = 8 from fun z => c8 (by rw [z]; decide)), if_neg (show ¬ v2 = 9 from fun z => c8 (by rw [z]; decide)), if_pos tb]
    · have tf : td.testBit v2.toNatClampNeg = false := by
        cases y : td.testBit v2.toNatClampNeg with
        | false => rfl
        | true => exact absurd y tb
      rw [if_neg tb] at r92
      refine wp_eq (a := .inr (-1, h1)) ?_ ?_
      · rw [if_neg c8, gR_42_72 w]
        show (aZ h1 (n + 92) v2).bind _ = _
        rw [r92]
        rfl
      exact wp_zsR ⟨w, Or.inl ⟨Int32.not_le.mp c8, tf, rfl⟩⟩
/-- where the street isn't told, the class answers so too -/
theorem pl_not {bo : Option Nat} {v2 : Int32} (h : v2 < 8) (t : td.testBit v2.toNatClampNeg = false) : plA td A B H F G tr bo v2 = -1 := by
  unfold plA
  cases bo with
  | none => rfl
  | some x =>
    show (if v2 = 8 then _ else if v2 = 9 then _ else if td.testBit v2.toNatClampNeg = true then nI (dg x v2.toNatClampNeg) else -1) = -1
    rw [if_neg (show ¬ v2 = 8 from fun z => by rw [z] at h; exact absurd h (by decide)), if_neg (show ¬ v2 = 9 from fun z => by rw [z] at h; exact absurd h (by decide)), if_neg (show ¬ td.testBit v2.toNatClampNeg = true by rw [t]; decide)]
end RPLAN
