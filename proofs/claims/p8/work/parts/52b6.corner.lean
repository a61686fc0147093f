/-! the corner of the class -/
def mtS (ms : Nat → Int32) (i q : Nat) : Bool := decide (¬ (ms i >>> (nI q &&& 31)) &&& 1 = 0)
def CS (nd cm ms : Nat → Int32) (g : zGh) : Prop := g.2.1 21 = nd ∧ g.2.1 22 = cm ∧ g.2.1 23 = ms
/-- what lights may change -/
def CG (g g' : zGh) : Prop := (∀ j k, ¬ (j = 20 ∧ 4 ≤ k ∧ k ≤ 7) → ¬ (j = 42 ∧ 63 ≤ k ∧ k ≤ 65) → g'.1 j k = g.1 j k) ∧ (∀ j, j ≠ 24 → j ≠ 87 → g'.2.1 j = g.2.1 j) ∧ g'.2.2 = g.2.2
/-- what an arrangement changes -/
def AG (g g' : zGh) : Prop := (∀ j k, ¬ (j = 20 ∧ k = 4) → g'.1 j k = g.1 j k) ∧ (∀ j, j ≠ 24 → g'.2.1 j = g.2.1 j) ∧ g'.2.2 = g.2.2
theorem CG_id (g : zGh) : CG g g := ⟨fun _ _ _ _ => rfl, fun _ _ _ => rfl, rfl⟩
theorem CG_trans {g g1 g2 : zGh} (p : CG g g1) (q : CG g1 g2) : CG g g2 := ⟨fun j k a c => (q.1 j k a c).trans (p.1 j k a c), fun j a c => (q.2.1 j a c).trans (p.2.1 j a c), q.2.2.trans p.2.2⟩
theorem AG_id (g : zGh) : AG g g := ⟨fun _ _ _ => rfl, fun _ _ => rfl, rfl⟩
theorem AG_trans {g g1 g2 : zGh} (p : AG g g1) (q : AG g1 g2) : AG g g2 := ⟨fun j k a => (q.1 j k a).trans (p.1 j k a), fun j a => (q.2.1 j a).trans (p.2.1 j a), q.2.2.trans p.2.2⟩
theorem AG_CG {g g' : zGh} (p : AG g g') : CG g g' := ⟨fun j k a _ => p.1 j k (fun z => a ⟨z.1, by omega, by omega⟩), fun j a _ => p.2.1 j a, p.2.2⟩
theorem gs_ne {g : zGh} {j k j' k' : Nat} {x : Int32} (e : ¬ (j' = j ∧ k' = k)) : (gset g j k x).1 j' k' = g.1 j' k' := by
  show (if j' = j then upd (g.1 j) k x else g.1 j') k' = _
  by_cases e1 : j' = j
  · subst e1
    rw [if_pos rfl, hu_ne (fun z => e ⟨rfl, z⟩)]
  · rw [if_neg e1]
theorem gs_at {g : zGh} {j k : Nat} {x : Int32} : (gset g j k x).1 j k = x := by
  show (if j = j then upd (g.1 j) k x else g.1 j) k = x
  rw [if_pos rfl, hu_at]
theorem AG_4 (g : zGh) (x : Int32) : AG g (gset g 20 4 x) := ⟨fun _ _ a => gs_ne a, fun _ _ => rfl, rfl⟩
theorem AG_24 (g : zGh) (F : Nat → Int32) : AG g (gsA g 24 F) := ⟨fun _ _ _ => rfl, fun _ a => if_neg a, rfl⟩
theorem CG_20 (g : zGh) {k : Nat} (x : Int32) (h1 : 4 ≤ k) (h2 : k ≤ 7) : CG g (gset g 20 k x) := ⟨fun _ _ a _ => gs_ne (fun z => a ⟨z.1, by omega, by omega⟩), fun _ _ _ => rfl, rfl⟩
theorem CG_42 (g : zGh) {k : Nat} (x : Int32) (h1 : 63 ≤ k) (h2 : k ≤ 65) : CG g (gset g 42 k x) := ⟨fun _ _ _ a => gs_ne (fun z => a ⟨z.1, by omega, by omega⟩), fun _ _ _ => rfl, rfl⟩
theorem CG_87 (g : zGh) (F : Nat → Int32) : CG g (gsA g 87 F) := ⟨fun _ _ _ _ => rfl, fun _ _ a => if_neg a, rfl⟩
theorem CS_CG {nd cm ms : Nat → Int32} {g g' : zGh} (c : CS nd cm ms g) (p : CG g g') : CS nd cm ms g' := ⟨(p.2.1 21 (by decide) (by decide)).trans c.1, (p.2.1 22 (by decide) (by decide)).trans c.2.1, (p.2.1 23 (by decide) (by decide)).trans c.2.2⟩
section CORNER
variable {n b L : Nat} {xs : Nat → Int32} {τ : Nat → Nat} {g : zGh} {h : zH} {nd cm ms : Nat → Int32} {c i : Nat} {lost : Int32} {a : Nat × (Nat → Int32)}
theorem q4 {j : Nat} (hj : j < 4) : 0 ≤ nI j ∧ nI j < 4 ∧ (nI j).toNatClampNeg = j := h_ix (m := 4) hj (by omega)
theorem isS_1 {j : Nat} (hj : j < 4) : ¬ p_X2_isStream (nI j) = 0 := by
  rw [isS_eq, if_pos ⟨(q4 hj).1, (q4 hj).2.1⟩]
  decide
theorem c_isTold (w : WT n b L xs τ g h) (cs : CS nd cm ms g) (hi : i < 4) : f_X2_isTold 10000 (n + 20) (nI i) h = some (if 0 < nd i then 1 else 0) := by
  apply wp_is
  unfold f_X2_isTold
  rw [if_neg (isS_1 hi)]
  refine wp_eq (gR_20_0 w) ?_
  refine wp_eq (A_21 w (q4 hi).1 (q4 hi).2.1) ?_
  rw [(q4 hi).2.2, cs.1]
  by_cases t : 0 < nd i
  · rw [if_pos t, if_neg (Int32.not_le.mpr t)]
    exact wp_some rfl
  · rw [if_neg t, if_pos (Int32.not_lt.mp t)]
    exact wp_some rfl
theorem c_mayJoin_L2 (w : WT n b L xs τ g h) (cs : CS nd cm ms g) (hi : i < 4) (hc : c < 256) : ∀ (m q : Nat), q ≤ i → i - q < m → jnS nd (mtS ms) c i q = true → f_X2_mayJoin_L2 10000 (n + 20) (nI i) (nI c) h m (nI q) = some (if jnS nd (mtS ms) c i i = true then .inl () else .inr 0) := by
  intro m
  induction m with
  | zero => intro q hq hm hj; exact absurd hm (Nat.not_lt_zero _)
  | succ m ih =>
    intro q hq hm hj
    apply wp_is
    rw [f_X2_mayJoin_L2.eq_2]
    by_cases e : q = i
    · rw [e] at hj ⊢
      rw [if_pos (Int32.le_refl _), if_pos hj]
      exact wp_some rfl
    · have hq4 : q < 4 := by omega
      rw [if_neg (Int32.not_le.mpr (hI_lt (by omega) (by omega))), if_neg (isS_1 hi)]
      refine wp_zif (ob_20 w) ?_
      refine wp_eq (c_isTold w cs hq4) ?_
      have nx : jnS nd (mtS ms) c i (q + 1) = (jnS nd (mtS ms) c i q && (if 0 < nd q ∧ ph c q = ph c i then mtS ms i q else true)) := rfl
      rw [hj, Bool.true_and] at nx
      by_cases t : 0 < nd q
      · rw [if_pos t]
        by_cases e2 : ph c q = ph c i
        · refine wp_eq (a := (1 : Int32)) ?_ ?_
          · rw [if_neg ne10, if_pos (show p_X2_phaseOf (nI c) (nI q) = p_X2_phaseOf (nI c) (nI i) by rw [ph_2 c hc q hq4, ph_2 c hc i hi, e2])]
          · rw [if_neg ne10]
            refine wp_eq (gR_20_2 w) ?_
            refine wp_eq (A_23 w (q4 hi).1 (q4 hi).2.1) ?_
            rw [(q4 hi).2.2, cs.2.2]
            rw [if_pos (And.intro t e2)] at nx
            by_cases z : (ms i >>> (nI q &&& 31)) &&& 1 = 0
            · have f : jnS nd (mtS ms) c i (q + 1) = false := by
                rw [nx]
                unfold mtS
                exact decide_eq_false (fun y => y z)
              rw [if_pos z, if_neg (jn_end f (by omega))]
              exact wp_some rfl
            · have f : jnS nd (mtS ms) c i (q + 1) = true := by
                rw [nx]
                unfold mtS
                exact decide_eq_true z
              rw [if_neg z, nI_1]
              exact ⟨_, ih (q + 1) (by omega) (by omega) f, rfl⟩
        · rw [if_neg (show ¬ (0 < nd q ∧ ph c q = ph c i) from fun z => e2 z.2)] at nx
          refine wp_eq (a := (0 : Int32)) ?_ ?_
          · rw [if_neg ne10, if_neg (show ¬ p_X2_phaseOf (nI c) (nI q) = p_X2_phaseOf (nI c) (nI i) from fun z => e2 (by
              rw [ph_2 c hc q hq4, ph_2 c hc i hi] at z
              exact nI_inj (by have := ph_lt c q; omega) (by have := ph_lt c i; omega) z))]
          · rw [if_pos eq00, nI_1]
            exact ⟨_, ih (q + 1) (by omega) (by omega) nx, rfl⟩
      · rw [if_neg t]
        rw [if_neg (show ¬ (0 < nd q ∧ ph c q = ph c i) from fun z => t z.1)] at nx
        refine wp_eq (a := (0 : Int32)) ?_ ?_
        · rw [if_pos eq00]
        · rw [if_pos eq00, nI_1]
          exact ⟨_, ih (q + 1) (by omega) (by omega) nx, rfl⟩
theorem c_mayJoin (w : WT n b L xs τ g h) (cs : CS nd cm ms g) (hi : i < 4) (hc : c < 256) : f_X2_mayJoin 10000 (n + 20) (nI i) (nI c) h = some (if jnS nd (mtS ms) c i i = true then 1 else 0) := by
  have e : f_X2_mayJoin_L2 10000 (n + 20) (nI i) (nI c) h 10000 0 = some (if jnS nd (mtS ms) c i i = true then .inl () else .inr 0) := c_mayJoin_L2 w cs hi hc 10000 0 (by omega) (by omega) rfl
  unfold f_X2_mayJoin
  rw [e]
  by_cases j : jnS nd (mtS ms) c i i = true
  · rw [if_pos j, if_pos j]
    rfl
  · rw [if_neg j, if_neg j]
    rfl
theorem c_arrange_L7 : ∀ (m j : Nat) {F : Nat → Int32} {h : zH}, WT n b L xs τ (gsA g 24 F) h → j ≤ 4 → 4 - j < m → (∀ k, k < j → F k = 0) → wp (f_X2_arrange_L7 10000 (n + 20) m (nI j) h) (fun r => ∃ F', WT n b L xs τ (gsA g 24 F') r ∧ ∀ k, k < 4 → F' k = 0) := by
  intro m
  induction m with
  | zero => intro j F h w hj hm a; exact absurd hm (Nat.not_lt_zero _)
  | succ m ih =>
    intro j F h w hj hm a
    rw [f_X2_arrange_L7.eq_2]
    by_cases e : j = 4
    · subst e
      rw [if_pos (by decide)]
      exact wp_some ⟨F, w, a⟩
    · have j4 : j < 4 := by omega
      rw [if_neg (Int32.not_le.mpr (q4 j4).2.1)]
      refine wp_eq (gR_20_3 w) ?_
      refine wp_bind (sI_24 w (q4 j4).1 (q4 j4).2.1) fun h4 w4 => ?_
      rw [gA_over, (q4 j4).2.2] at w4
      rw [nI_1]
      refine ih (j + 1) w4 (by omega) (by omega) (fun k hk => ?_)
      show upd F j 0 k = 0
      by_cases ek : k = j
      · rw [ek, hu_at]
      · rw [hu_ne ek]
        exact a k (by omega)
def ARp (n b L : Nat) (xs : Nat → Int32) (τ : Nat → Nat) (nd ms : Nat → Int32) (c : Nat) (g : zGh) (r : zH ⊕ (Int32 × zH)) : Prop := match r with
  | .inl r => ∃ g' a, WT n b L xs τ g' r ∧ AG g g' ∧ arS nd (mtS ms) c 4 = some a ∧ g'.1 20 4 = nI a.1 ∧ ∀ k, k < 4 → g'.2.1 24 k = a.2 k
  | .inr r => r.1 = 0 ∧ arS nd (mtS ms) c 4 = none ∧ ∃ g', WT n b L xs τ g' r.2 ∧ AG g g'
theorem AR_mono {g1 : zGh} {r : zH ⊕ (Int32 × zH)} (p : AG g g1) (q : ARp n b L xs τ nd ms c g1 r) : ARp n b L xs τ nd ms c g r := by
  rcases r with r | r
  · obtain ⟨g', a, q1, q2, q3⟩ := q
    exact ⟨g', a, q1, AG_trans p q2, q3⟩
  · obtain ⟨q0, q1, g', q2, q3⟩ := q
    exact ⟨q0, q1, g', q2, AG_trans p q3⟩
theorem mx_nI {x y : Nat} (hx : x < 10) (hy : y < 10) : (if nI x < nI y then nI y else nI x) = nI (if x < y then y else x) := by
  by_cases e : x < y
  · rw [if_pos e, if_pos (hI_lt e (by omega))]
  · rw [if_neg e, if_neg (Int32.not_lt.mpr (nI_r (by omega : y ≤ x) (by omega)).2)]
theorem c_arrange_L27 (hc : c < 256) : ∀ (m i : Nat) {g : zGh} {h : zH} {a : Nat × (Nat → Int32)}, WT n b L xs τ g h → CS nd cm ms g → i ≤ 4 → 4 - i < m → arS nd (mtS ms) c i = some a → g.1 20 4 = nI a.1 → (∀ k, k < 4 → g.2.1 24 k = a.2 k) → wp (f_X2_arrange_L27 10000 (n + 20) (nI c) m (nI i) h) (ARp n b L xs τ nd ms c g) := by
  intro m
  induction m with
  | zero => intro i g h a w cs hi hm ar e20 e24; exact absurd hm (Nat.not_lt_zero _)
  | succ m ih =>
    intro i g h a w cs hi hm ar e20 e24
    rw [f_X2_arrange_L27.eq_2]
    by_cases e4 : i = 4
    · subst e4
      rw [if_pos (by decide)]
      exact wp_some ⟨g, a, w, AG_id g, ar, e20, e24⟩
    · have i4 : i < 4 := by omega
      have al := ar_le i ar
      have pl := ph_lt c i
      rw [if_neg (Int32.not_le.mpr (q4 i4).2.1)]
      refine wp_zlet ?_
      rw [ph_2 c hc i i4]
      refine wp_zif (ob_20 w) ?_
      refine wp_eq (c_isTold w cs i4) ?_
      by_cases t : 0 < nd i
      · rw [if_pos t]
        by_cases j : ph c i ≤ a.1 ∧ jnS nd (mtS ms) c i i = true
        · have ar' := ar_told ar t j
          refine wp_bind (R := fun r => match r with | .inl _ => False | .inr q => ARp n b L xs τ nd ms c g q) ?_ (fun m10 p10 => ?_)
          · rw [if_neg ne10]
            refine wp_eq (E_20_4 w) ?_
            rw [e20, if_neg (Int32.not_lt.mpr (nI_r j.1 (by omega)).2)]
            refine wp_zif (ob_20 w) ?_
            refine wp_eq (c_mayJoin w cs i4 hc) ?_
            rw [if_pos j.2, if_neg ne10]
            refine wp_eq (E_20_4 w) ?_
            rw [e20, nI_1, mx_nI (by omega) (by omega)]
            have bd : (if a.1 < ph c i + 1 then ph c i + 1 else a.1) ≤ 4 := by split <;> omega
            have r5 := nI_r bd (by omega)
            refine wp_bind (pI_20_4 w r5.1 r5.2) fun h19 w19 => ?_
            refine wp_eq (gR_20_3 w19) ?_
            refine wp_eq (gR_20_3 w19) ?_
            refine wp_eq (A_24 w19 (q4 pl).1 (q4 pl).2.1) ?_
            refine wp_eq (gR_20_0 w19) ?_
            refine wp_eq (A_21 w19 (q4 i4).1 (q4 i4).2.1) ?_
            rw [(q4 pl).2.2, (q4 i4).2.2]
            refine wp_bind (sI_24 w19 (q4 pl).1 (q4 pl).2.1) fun h25 w25 => ?_
            rw [(q4 pl).2.2] at w25
            rw [nI_1]
            have fr : AG g (gsA (gset g 20 4 (nI (if a.1 < ph c i + 1 then ph c i + 1 else a.1))) 24 (upd (g.2.1 24) (ph c i) (if g.2.1 24 (ph c i) < g.2.1 21 i then g.2.1 21 i else g.2.1 24 (ph c i)))) := AG_trans (AG_4 g _) (AG_24 _ _)
            refine wp_map (wp_mono (ih (i + 1) w25 (CS_CG cs (AG_CG fr)) (by omega) (by omega) ar' (gs_at (g := g) (j := 20) (k := 4) (x := nI (if a.1 < ph c i + 1 then ph c i + 1 else a.1))) (fun k hk => ?_)) fun r p => AR_mono fr p)
            show upd (g.2.1 24) (ph c i) (if g.2.1 24 (ph c i) < g.2.1 21 i then g.2.1 21 i else g.2.1 24 (ph c i)) k = upd a.2 (ph c i) (if a.2 (ph c i) < nd i then nd i else a.2 (ph c i)) k
            rw [cs.1, e24 _ pl]
            by_cases ek : k = ph c i
            · rw [ek, hu_at, hu_at]
            · rw [hu_ne ek, hu_ne ek]
              exact e24 k hk
          · rcases m10 with q | q
            · exact absurd p10 id
            · exact wp_zsR p10
        · have ar' := ar_end (ar_f1 ar t j) (by omega)
          refine wp_bind (R := fun r => r = .inl (nI i, h)) ?_ (fun m10 p10 => ?_)
          · rw [if_neg ne10]
            refine wp_eq (E_20_4 w) ?_
            rw [e20]
            refine wp_ite (fun _ => wp_some rfl) (fun c1 => ?_)
            have le : ph c i ≤ a.1 := by
              by_cases z : ph c i ≤ a.1
              · exact z
              · exact absurd (hI_lt (by omega) (by omega)) c1
            refine wp_zif (ob_20 w) ?_
            refine wp_eq (c_mayJoin w cs i4 hc) ?_
            rw [if_neg (show ¬ jnS nd (mtS ms) c i i = true from fun z => j ⟨le, z⟩), if_pos eq00]
            exact wp_some rfl
          · subst p10
            refine wp_zsL ?_
            refine wp_zif (ob_20 w) ?_
            refine wp_eq (c_isTold w cs i4) ?_
            rw [if_pos t, if_neg ne10]
            exact wp_some ⟨rfl, ar', g, w, AG_id g⟩
      · rw [if_neg t]
        refine wp_bind (R := fun r => r = .inl (nI i, h)) ?_ (fun m10 p10 => ?_)
        · rw [if_pos eq00]
          exact wp_some rfl
        · subst p10
          refine wp_zsL ?_
          refine wp_zif (ob_20 w) ?_
          refine wp_eq (c_isTold w cs i4) ?_
          rw [if_neg t, if_pos eq00]
          by_cases p0 : ph c i = 0
          · rw [if_pos (show nI (ph c i) = 0 by rw [p0]; rfl)]
            show wp (f_X2_arrange_L27 10000 (n + 20) (nI c) m (nI i + 1) h) _
            rw [nI_1]
            exact ih (i + 1) w cs (by omega) (by omega) (ar_not ar t p0) e20 e24
          · rw [if_neg (show ¬ nI (ph c i) = 0 from fun z => p0 (nI_inj (b := 0) (by omega) (by omega) z))]
            exact wp_some ⟨rfl, ar_end (ar_f2 ar t p0) (by omega), g, w, AG_id g⟩
theorem c_arrange (hc : c < 256) (w : WT n b L xs τ g h) (cs : CS nd cm ms g) : wp (f_X2_arrange 10000 (n + 20) (nI c) h) (fun r => ∃ g', WT n b L xs τ g' r.2 ∧ AG g g' ∧ ((r.1 = 0 ∧ arS nd (mtS ms) c 4 = none) ∨ (r.1 = 1 ∧ ∃ a, arS nd (mtS ms) c 4 = some a ∧ g'.1 20 4 = nI a.1 ∧ ∀ k, k < 4 → g'.2.1 24 k = a.2 k))) := by
  unfold f_X2_arrange
  refine wp_bind (pI_20_4 w (x := 0) (by decide) (by decide)) fun h1 w1 => ?_
  have w1' : WT n b L xs τ (gsA (gset g 20 4 0) 24 (g.2.1 24)) h1 := by
    have e : gsA (gset g 20 4 0) 24 (g.2.1 24) = gset g 20 4 0 := gA_id (gset g 20 4 0) 24
    rw [e]
    exact w1
  refine wp_bind (c_arrange_L7 10000 0 w1' (by omega) (by omega) (fun k hk => absurd hk (Nat.not_lt_zero _))) fun m5 p5 => ?_
  obtain ⟨F, w5, k5⟩ := p5
  have fr : AG g (gsA (gset g 20 4 0) 24 F) := AG_trans (AG_4 g _) (AG_24 _ _)
  refine wp_bind (c_arrange_L27 hc 10000 0 w5 (CS_CG cs (AG_CG fr)) (by omega) (by omega) (a := (0, fun _ => 0)) rfl (gs_at (g := g) (j := 20) (k := 4) (x := 0)) k5) fun m31 p31 => ?_
  rcases m31 with r | r
  · obtain ⟨g', a, q1, q2, q3, q4, q5⟩ := p31
    exact wp_zsL (wp_some ⟨g', q1, AG_trans fr q2, Or.inr ⟨rfl, a, q3, q4, q5⟩⟩)
  · obtain ⟨q0, q1, g', q2, q3⟩ := p31
    exact wp_zsR ⟨g', q2, AG_trans fr q3, Or.inl ⟨q0, q1⟩⟩
theorem c_round_L9 (w : WT n b L xs τ g h) (e24 : ∀ k, k < 4 → g.2.1 24 k = a.2 k) : ∀ (m j : Nat) {x y : Int32}, j ≤ 4 → 4 - j < m → y = sumL x a.2 j → f_X2_round_L9 10000 (n + 20) h m y (nI j) = some (sumL x a.2 4) := by
  intro m
  induction m with
  | zero => intro j x y hj hm e; exact absurd hm (Nat.not_lt_zero _)
  | succ m ih =>
    intro j x y hj hm e
    apply wp_is
    rw [f_X2_round_L9.eq_2]
    by_cases e4 : j = 4
    · subst e4
      rw [if_pos (by decide)]
      exact wp_some e
    · have j4 : j < 4 := by omega
      rw [if_neg (Int32.not_le.mpr (q4 j4).2.1)]
      refine wp_eq (gR_20_3 w) ?_
      refine wp_eq (A_24 w (q4 j4).1 (q4 j4).2.1) ?_
      rw [(q4 j4).2.2, e24 j j4]
      refine wp_zlet ?_
      rw [nI_1]
      exact ⟨_, ih (j + 1) (x := x) (by omega) (by omega) (by rw [e]; rfl), rfl⟩
theorem c_round (w : WT n b L xs τ g h) (e20 : g.1 20 4 = nI a.1) (e24 : ∀ k, k < 4 → g.2.1 24 k = a.2 k) : f_X2_round 10000 (n + 20) lost h = some (rdS lost a) := by
  apply wp_is
  unfold f_X2_round
  refine wp_eq (E_20_4 w) ?_
  rw [e20]
  refine wp_zlet ?_
  exact wp_eq (c_round_L9 w e24 10000 0 (x := lost * nI a.1) (by omega) (by omega) rfl) (wp_some rfl)
theorem c_waitingOf {rd : Int32} {l : Nat → Int32} (w : WT n b L xs τ g h) (cs : CS nd cm ms g) (hi : i < 4) (hc : c < 256) (e24 : ∀ k, k < 4 → g.2.1 24 k = l k) : f_X2_waitingOf 10000 (n + 20) (nI i) (nI c) rd h = some (wtS nd cm c rd l i) := by
  apply wp_is
  unfold f_X2_waitingOf wtS
  refine wp_zif (ob_20 w) ?_
  refine wp_eq (c_isTold w cs hi) ?_
  by_cases t : 0 < nd i
  · rw [if_pos t, if_pos t, if_neg ne10]
    refine wp_eq (gR_20_1 w) ?_
    refine wp_eq (A_22 w (q4 hi).1 (q4 hi).2.1) ?_
    refine wp_eq (gR_20_3 w) ?_
    rw [ph_2 c hc i hi]
    have pl := ph_lt c i
    refine wp_eq (A_24 w (q4 pl).1 (q4 pl).2.1) ?_
    rw [(q4 pl).2.2, (q4 hi).2.2, cs.2.1, e24 _ pl]
    exact wp_some rfl
  · rw [if_neg t, if_neg t, if_pos eq00]
    exact wp_some rfl
theorem c_compare_L19 {rd : Int32} {l : Nat → Int32} (w : WT n b L xs τ g h) (cs : CS nd cm ms g) (hc : c < 256) (e24 : ∀ k, k < 4 → g.2.1 24 k = l k) : ∀ (m j : Nat) {y : Int32}, j ≤ 4 → 4 - j < m → y = wgS nd cm c rd l j → f_X2_compare_L19 10000 (n + 20) (nI c) rd h m y (nI j) = some (wgS nd cm c rd l 4) := by
  intro m
  induction m with
  | zero => intro j y hj hm e; exact absurd hm (Nat.not_lt_zero _)
  | succ m ih =>
    intro j y hj hm e
    apply wp_is
    rw [f_X2_compare_L19.eq_2]
    by_cases e4 : j = 4
    · subst e4
      rw [if_pos (by decide)]
      exact wp_some e
    · have j4 : j < 4 := by omega
      rw [if_neg (Int32.not_le.mpr (q4 j4).2.1)]
      refine wp_zif (ob_20 w) ?_
      refine wp_eq (c_waitingOf w cs j4 hc e24) ?_
      refine wp_zlet ?_
      rw [nI_1]
      exact ⟨_, ih (j + 1) (by omega) (by omega) (by rw [e]; rfl), rfl⟩
theorem c_compare {o : Option (Nat × Int32 × Int32)} (w : WT n b L xs τ g h) (cs : CS nd cm ms g) (hc : c < 256) (e20 : g.1 20 4 = nI a.1) (e24 : ∀ k, k < 4 → g.2.1 24 k = a.2 k) (bq : BQ o (g.1 20 5) (g.1 20 6) (g.1 20 7)) : wp (f_X2_compare 10000 (n + 20) (nI c) lost h) (fun r => ∃ g', WT n b L xs τ g' r ∧ CG g g' ∧ BQ (nxS o c (rdS lost a) (wgS nd cm c (rdS lost a) a.2 4)) (g'.1 20 5) (g'.1 20 6) (g'.1 20 7)) := by
  unfold f_X2_compare nxS
  refine wp_zif (ob_20 w) ?_
  refine wp_eq (c_round w e20 e24) ?_
  generalize erd : rdS lost a = rd
  by_cases r : rd ≤ 120
  · rw [if_pos r, if_pos r]
    have es : f_X2_compare_L19 10000 (n + 20) (nI c) rd h 10000 0 0 = some (wgS nd cm c rd a.2 4) := c_compare_L19 w cs hc e24 10000 0 (by omega) (by omega) rfl
    refine wp_eq es ?_
    generalize wgS nd cm c rd a.2 4 = W
    refine wp_eq (E_20_5 w) ?_
    have tk : ∀ {Q : zH → Prop}, (∀ r, (∃ g', WT n b L xs τ g' r ∧ CG g g' ∧ g'.1 20 5 = nI c ∧ g'.1 20 6 = rd ∧ g'.1 20 7 = W) → Q r) → wp ((pF h (n + 20) 2 5 (.int (nI c))).bind fun h21 => (pF h21 (n + 20) 2 6 (.int rd)).bind fun h22 => (pF h22 (n + 20) 2 7 (.int W)).bind fun h23 => some h23) Q := fun k => by
      refine wp_bind (pI_20_5 w) fun h21 w21 => ?_
      refine wp_bind (pI_20_6 w21) fun h22 w22 => ?_
      refine wp_bind (pI_20_7 w22) fun h23 w23 => ?_
      refine wp_some (k _ ⟨_, w23, CG_trans (CG_trans (CG_20 g _ (by decide) (by decide)) (CG_20 _ _ (by decide) (by decide))) (CG_20 _ _ (by decide) (by decide)), ?_, ?_, gs_at⟩)
      · rw [gs_ne (by decide), gs_ne (by decide), gs_at]
      · rw [gs_ne (by decide), gs_at]
    cases o with
    | none =>
      have b0 : g.1 20 5 = -1 := bq
      refine wp_eq (a := .inl ()) ?_ ?_
      · rw [if_pos b0]
      · refine wp_zsL (tk fun r p => ?_)
        obtain ⟨g', q1, q2, q3, q4, q5⟩ := p
        exact ⟨g', q1, q2, q3, hc, q4, q5⟩
    | some x =>
      obtain ⟨b1, b2, b3, b4⟩ := bq
      have nb : ¬ g.1 20 5 = -1 := fun z => by
        have y := (nI_r (Nat.zero_le x.1) (by omega : x.1 < 2 ^ 31)).2
        rw [b1] at z
        rw [z] at y
        exact absurd y (by decide)
      show wp _ (fun r => ∃ g', WT n b L xs τ g' r ∧ CG g g' ∧ BQ (if W < x.2.2 ∨ (W = x.2.2 ∧ rd < x.2.1) then some (c, rd, W) else some x) (g'.1 20 5) (g'.1 20 6) (g'.1 20 7))
      by_cases q : W < x.2.2 ∨ (W = x.2.2 ∧ rd < x.2.1)
      · rw [if_pos q]
        refine wp_eq (a := .inl ()) ?_ ?_
        · rw [if_neg nb, E_20_7 w]
          show (if W < g.1 20 7 then _ else _) = _
          rw [b4]
          rcases q with q | ⟨q1, q2⟩
          · rw [if_pos q]
          · by_cases q0 : W < x.2.2
            · rw [if_pos q0]
            · rw [if_neg q0]
              show (if W = x.2.2 then _ else _) = _
              rw [if_pos q1, E_20_6 w]
              show (if g.1 20 6 ≤ rd then _ else _) = _
              rw [b3, if_neg (Int32.not_le.mpr q2)]
        · refine wp_zsL (tk fun r p => ?_)
          obtain ⟨g', q1, q2, q3, q4, q5⟩ := p
          exact ⟨g', q1, q2, q3, hc, q4, q5⟩
      · rw [if_neg q]
        refine wp_eq (a := .inr h) ?_ ?_
        · rw [if_neg nb, E_20_7 w]
          show (if W < g.1 20 7 then _ else _) = _
          rw [b4, if_neg (show ¬ W < x.2.2 from fun z => q (Or.inl z))]
          show (if W = x.2.2 then _ else _) = _
          by_cases q1 : W = x.2.2
          · rw [if_pos q1, E_20_6 w]
            show (if g.1 20 6 ≤ rd then _ else _) = _
            rw [b3, if_pos (Int32.not_lt.mp (fun z => q (Or.inr ⟨q1, z⟩)))]
            rfl
          · rw [if_neg q1]
            rfl
        · exact wp_zsR ⟨g, w, CG_id g, b1, b2, b3, b4⟩
  · rw [if_neg r, if_neg r]
    exact wp_some ⟨g, w, CG_id g, bq⟩
theorem c_findBest_L16 : ∀ (m c : Nat) {g : zGh} {h : zH}, WT n b L xs τ g h → CS nd cm ms g → c ≤ 256 → 256 - c < m → BQ (bsS nd cm (mtS ms) lost c) (g.1 20 5) (g.1 20 6) (g.1 20 7) → wp (f_X2_findBest_L16 10000 (n + 20) lost m (nI c) h) (fun r => ∃ g', WT n b L xs τ g' r ∧ CG g g' ∧ BQ (bsS nd cm (mtS ms) lost 256) (g'.1 20 5) (g'.1 20 6) (g'.1 20 7)) := by
  intro m
  induction m with
  | zero => intro c g h w cs hc hm bq; exact absurd hm (Nat.not_lt_zero _)
  | succ m ih =>
    intro c g h w cs hc hm bq
    rw [f_X2_findBest_L16.eq_2]
    by_cases e : c = 256
    · subst e
      rw [if_pos (by decide)]
      exact wp_some ⟨g, w, CG_id g, bq⟩
    · have c2 : c < 256 := by omega
      have q := h_ix (m := 256) (j := c) c2 (by omega)
      have e256 : nI 256 = 256 := rfl
      rw [e256] at q
      rw [if_neg (Int32.not_le.mpr q.2.1)]
      refine wp_zif (ob_20 w) ?_
      refine wp_bind (c_arrange c2 w cs) fun q7 p7 => ?_
      obtain ⟨g1, w1, ag, p7⟩ := p7
      have bq1 : BQ (bsS nd cm (mtS ms) lost c) (g1.1 20 5) (g1.1 20 6) (g1.1 20 7) := by
        rw [ag.1 20 5 (by decide), ag.1 20 6 (by decide), ag.1 20 7 (by decide)]
        exact bq
      have cs1 := CS_CG cs (AG_CG ag)
      rw [nI_1]
      rcases p7 with ⟨z, no⟩ | ⟨z, a, so, a1, a2⟩
      · rw [if_pos z]
        refine wp_mono (ih (c + 1) w1 cs1 (by omega) (by omega) (by rw [bs_no no]; exact bq1)) fun r p => ?_
        obtain ⟨g', p1, p2, p3⟩ := p
        exact ⟨g', p1, CG_trans (AG_CG ag) p2, p3⟩
      · rw [if_neg (show ¬ q7.1 = 0 by rw [z]; exact ne10)]
        refine wp_zif (ob_20 w1) ?_
        refine wp_bind (c_compare (lost := lost) w1 cs1 c2 a1 a2 bq1) fun h10 p10 => ?_
        obtain ⟨g2, w2, cg, bq2⟩ := p10
        refine wp_mono (ih (c + 1) w2 (CS_CG cs1 cg) (by omega) (by omega) (by rw [bs_so so]; exact bq2)) fun r p => ?_
        obtain ⟨g', p1, p2, p3⟩ := p
        exact ⟨g', p1, CG_trans (AG_CG ag) (CG_trans cg p2), p3⟩
theorem c_streams_L4 (w : WT n b L xs τ g h) (cs : CS nd cm ms g) : ∀ (m j : Nat) {y : Int32}, j ≤ 4 → 4 - j < m → y = stS nd j → f_X2_streams_L4 10000 (n + 20) h m y (nI j) = some (stS nd 4) := by
  intro m
  induction m with
  | zero => intro j y hj hm e; exact absurd hm (Nat.not_lt_zero _)
  | succ m ih =>
    intro j y hj hm e
    apply wp_is
    rw [f_X2_streams_L4.eq_2]
    by_cases e4 : j = 4
    · subst e4
      rw [if_pos (by decide)]
      exact wp_some e
    · have j4 : j < 4 := by omega
      rw [if_neg (Int32.not_le.mpr (q4 j4).2.1)]
      refine wp_zif (ob_20 w) ?_
      refine wp_eq (c_isTold w cs j4) ?_
      have es : stS nd (j + 1) = if 0 < nd j then stS nd j + 1 else stS nd j := rfl
      rw [nI_1]
      by_cases t : 0 < nd j
      · rw [if_pos t, if_neg ne10]
        rw [if_pos t] at es
        exact ⟨_, ih (j + 1) (by omega) (by omega) (by rw [e, es]), rfl⟩
      · rw [if_neg t, if_pos eq00]
        rw [if_neg t] at es
        exact ⟨_, ih (j + 1) (by omega) (by omega) (by rw [e, es]), rfl⟩
theorem c_streams (w : WT n b L xs τ g h) (cs : CS nd cm ms g) : f_X2_streams 10000 (n + 20) h = some (stS nd 4) := by
  have e : f_X2_streams_L4 10000 (n + 20) h 10000 0 0 = some (stS nd 4) := c_streams_L4 w cs 10000 0 (by omega) (by omega) rfl
  unfold f_X2_streams
  rw [e]
  rfl
theorem c_findBest (w : WT n b L xs τ g h) (cs : CS nd cm ms g) : wp (f_X2_findBest 10000 (n + 20) lost h) (fun r => ∃ g', WT n b L xs τ g' r.2 ∧ CG g g' ∧ BQ (beS nd cm (mtS ms) lost) (g'.1 20 5) (g'.1 20 6) (g'.1 20 7) ∧ r.1 = (match beS nd cm (mtS ms) lost with | none => 0 | some _ => 1)) := by
  unfold f_X2_findBest beS
  refine wp_bind (pI_20_5 w) fun h1 w1 => ?_
  have cg1 : CG g (gset g 20 5 (-1)) := CG_20 g _ (by decide) (by decide)
  have cs1 := CS_CG cs cg1
  refine wp_zif (ob_20 w1) ?_
  refine wp_eq (c_streams w1 cs1) ?_
  by_cases s0 : stS nd 4 = 0
  · rw [if_pos s0, if_pos s0]
    exact wp_some ⟨_, w1, cg1, gs_at, rfl⟩
  · rw [if_neg s0, if_neg s0]
    refine wp_bind (c_findBest_L16 (lost := lost) 10000 0 w1 cs1 (by omega) (by omega) gs_at) fun m11 p11 => ?_
    obtain ⟨g2, w2, cg2, bq⟩ := p11
    refine wp_eq (E_20_5 w2) ?_
    rcases hb : bsS nd cm (mtS ms) lost 256 with _ | x
    · rw [hb] at bq
      have b0 : g2.1 20 5 = -1 := bq
      rw [if_pos b0]
      exact wp_some ⟨g2, w2, CG_trans cg1 cg2, bq, rfl⟩
    · rw [hb] at bq
      have nb : ¬ g2.1 20 5 = -1 := fun z => by
        have y := (nI_r (Nat.zero_le x.1) (by have := bq.2.1; omega : x.1 < 2 ^ 31)).2
        rw [bq.1] at z
        rw [z] at y
        exact absurd y (by decide)
      rw [if_neg nb]
      exact wp_some ⟨g2, w2, CG_trans cg1 cg2, bq, rfl⟩
theorem v_X11_lights {v1 v2 : Int32} (w : WT n b L xs τ g h) (cs : CS nd cm ms g) : wp (f_X11_lights 10000 n v1 v2 h) (fun r => ∃ g', WT n b L xs τ g' r.2 ∧ CG g g' ∧ (¬ ((0 ≤ v1 ∧ v1 ≤ 9) ∧ (0 ≤ v2 ∧ v2 ≤ 9)) → r.1 = -1) ∧ ((0 ≤ v1 ∧ v1 ≤ 9) ∧ (0 ≤ v2 ∧ v2 ≤ 9) → r.1 = lgS nd cm (mtS ms) v1 v2)) := by
  unfold f_X11_lights
  refine in11 (fun c => wp_some ⟨g, w, CG_id g, fun _ => rfl, fun z => absurd z.1 c⟩) (fun c1 => ?_)
  refine in11 (fun c => wp_some ⟨g, w, CG_id g, fun _ => rfl, fun z => absurd z.2 c⟩) (fun c2 => ?_)
  refine wp_mono (R := fun r => ∃ g', WT n b L xs τ g' r.2 ∧ CG g g' ∧ r.1 = lgS nd cm (mtS ms) v1 v2) ?_ (fun r p => ?_)
  · refine wp_eq (gR_0_6 w) ?_
    refine wp_zif (ob_20 w) ?_
    refine wp_bind (c_findBest (lost := v1) w cs) fun q5 p5 => ?_
    obtain ⟨g1, w1, cg, bq, k⟩ := p5
    have cs1 := CS_CG cs cg
    unfold lgS
    rcases hb : beS nd cm (mtS ms) v1 with _ | x
    · rw [hb] at k
      rw [if_pos k]
      exact wp_some ⟨g1, w1, cg, rfl⟩
    · rw [hb] at k bq
      have k1 : q5.1 = 1 := k
      obtain ⟨b1, b2, b3, b4⟩ := bq
      rw [if_neg (show ¬ q5.1 = 0 by rw [k1]; exact ne10)]
      show wp _ (fun (r : Int32 × zH) => ∃ g', WT n b L xs τ g' r.2 ∧ CG g g' ∧ r.1 = (if v2 = 4 then x.2.1 else if v2 = 5 then x.2.2 else if 0 < nd (if 4 ≤ v2 then v2 - 6 else v2).toNatClampNeg then (if 4 ≤ v2 then (match arS nd (mtS ms) x.1 4 with | none => -1 | some a => wtS nd cm x.1 (rdS v1 a) a.2 (if 4 ≤ v2 then v2 - 6 else v2).toNatClampNeg) else nI (ph x.1 (if 4 ≤ v2 then v2 - 6 else v2).toNatClampNeg)) else -1))
      by_cases e4 : v2 = 4
      · rw [if_pos e4, if_pos e4]
        refine wp_eq (gR_0_6 w1) ?_
        refine wp_eq (E_20_6 w1) ?_
        exact wp_some ⟨g1, w1, cg, b3⟩
      · rw [if_neg e4, if_neg e4]
        by_cases e5 : v2 = 5
        · rw [if_pos e5, if_pos e5]
          refine wp_eq (gR_0_6 w1) ?_
          refine wp_eq (E_20_7 w1) ?_
          exact wp_some ⟨g1, w1, cg, b4⟩
        · rw [if_neg e5, if_neg e5]
          have sr : 0 ≤ (if 4 ≤ v2 then v2 - 6 else v2) ∧ (if 4 ≤ v2 then v2 - 6 else v2) < 4 := by
            by_cases q : 4 ≤ v2
            · rw [if_pos q]
              constructor <;> lia
            · rw [if_neg q]
              constructor <;> lia
          refine wp_eq (a := if 4 ≤ v2 then v2 - 6 else v2) ?_ ?_
          · by_cases q : 4 ≤ v2
            · rw [if_pos q, if_pos q]
            · rw [if_neg q, if_neg q]
          generalize (if 4 ≤ v2 then v2 - 6 else v2) = s at sr ⊢
          have s4 : s.toNatClampNeg < 4 := (i32_clamp sr.1 (N := 4) (by decide) sr.2).2
          have es : nI s.toNatClampNeg = s := i32_nI sr.1
          refine wp_eq (gR_0_6 w1) ?_
          refine wp_zif (ob_20 w1) ?_
          have it := c_isTold w1 cs1 s4
          rw [es] at it
          refine wp_eq it ?_
          by_cases t : 0 < nd s.toNatClampNeg
          · rw [if_pos t, if_pos t, if_neg ne10]
            by_cases q : 4 ≤ v2
            · rw [if_pos q, if_pos q]
              refine wp_eq (gR_0_6 w1) ?_
              refine wp_zif (ob_20 w1) ?_
              refine wp_bind (R := fun r => ∃ g', WT n b L xs τ g' r.2 ∧ CG g g' ∧ r.1 = (match arS nd (mtS ms) x.1 4 with | none => -1 | some a => wtS nd cm x.1 (rdS v1 a) a.2 s.toNatClampNeg)) ?_ (fun q18 p18 => wp_some p18)
              unfold f_X2_bestWaitingOf
              refine wp_eq (E_20_5 w1) ?_
              refine wp_zif (ob_20 w1) ?_
              rw [b1]
              refine wp_bind (c_arrange b2 w1 cs1) fun q3 p3 => ?_
              obtain ⟨g2, w2, ag, p3⟩ := p3
              rcases p3 with ⟨z, no⟩ | ⟨z, a, so, a1, a2⟩
              · rw [if_pos z, no]
                exact wp_some ⟨g2, w2, CG_trans cg (AG_CG ag), rfl⟩
              · rw [if_neg (show ¬ q3.1 = 0 by rw [z]; exact ne10), so]
                refine wp_eq (E_20_5 w2) ?_
                refine wp_zif (ob_20 w2) ?_
                refine wp_eq (c_round w2 a1 a2) ?_
                refine wp_zif (ob_20 w2) ?_
                have e20 : g2.1 20 5 = nI x.1 := (ag.1 20 5 (by decide)).trans b1
                rw [e20]
                have ww := c_waitingOf (rd := rdS v1 a) w2 (CS_CG cs1 (AG_CG ag)) s4 b2 a2
                rw [es] at ww
                refine wp_eq ww ?_
                exact wp_some ⟨g2, w2, CG_trans cg (AG_CG ag), rfl⟩
            · rw [if_neg q, if_neg q]
              refine wp_eq (gR_0_6 w1) ?_
              refine wp_zif (ob_20 w1) ?_
              refine wp_eq (a := nI (ph x.1 s.toNatClampNeg)) ?_ (wp_some ⟨g1, w1, cg, rfl⟩)
              apply wp_is
              unfold f_X2_bestPhaseOf
              refine wp_eq (E_20_5 w1) ?_
              have pp := ph_2 x.1 b2 _ s4
              rw [es] at pp
              rw [b1, pp]
              exact wp_some rfl
          · rw [if_neg t, if_neg t, if_pos eq00]
            exact wp_some ⟨g1, w1, cg, rfl⟩
  · obtain ⟨g', p1, p2, p3⟩ := p
    exact ⟨g', p1, p2, fun z => absurd ⟨c1, c2⟩ z, fun _ => p3⟩
end CORNER
