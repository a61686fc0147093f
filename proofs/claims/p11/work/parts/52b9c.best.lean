/-! the town of the class: the plan -/
theorem nI_div {a c : Nat} (ha : a < 2 ^ 31) (hc : c < 2 ^ 31) : nI a / nI c = nI (a / c) := by
  have ea : (nI a).toInt = a := Int32.toInt_ofNat_of_lt ha
  have ec : (nI c).toInt = c := Int32.toInt_ofNat_of_lt hc
  have le : a / c ≤ a := Nat.div_le_self a c
  have er : (nI (a / c)).toInt = ((a / c : Nat) : Int) := Int32.toInt_ofNat_of_lt (by omega)
  apply Int32.toInt_inj.mp
  rw [Int32.toInt_div, ea, ec, er, Int.tdiv_eq_ediv_of_nonneg (by omega), ← Int.natCast_ediv]
  have nn : (0 : Int) ≤ ((a / c : Nat) : Int) := Int.natCast_nonneg _
  have l0 : a / c < 2147483648 := by omega
  have l2 : ((a / c : Nat) : Int) < 2147483648 := Int.ofNat_lt.mpr l0
  clear ea ec er
  generalize ((a / c : Nat) : Int) = z at nn l2 ⊢
  exact Int.bmod_eq_of_le (by omega) (by omega)
theorem nI_mod3 {a : Nat} (ha : a < 2 ^ 31) : nI a - nI a / 3 * 3 = nI (a % 3) := by
  have e3 : (3 : Int32) = nI 3 := rfl
  have le : a / 3 * 3 ≤ a := Nat.div_mul_le_self a 3
  rw [e3, nI_div ha (by omega), hI_mul, nI_sub le]
  congr 1
  omega
section PLAN
variable {n b L : Nat} {xs : Nat → Int32} {τ : Nat → Nat} {g : zGh} {h : zH} {td tr : Nat} {A B H F G : Nat → Nat}
theorem c_fill40 : ∀ (m j : Nat) {X : Nat → Int32} {h : zH}, WT n b L xs τ (gsA g 40 X) h → j ≤ 9 → 9 - j < m → (∀ s, s < j → X s = -1) → wp (f_J7_fill_53178_L5 10000 (n + 40) (-1) 9 m (nI j) h) (fun r => ∃ X', WT n b L xs τ (gsA g 40 X') r ∧ ∀ s, s < 9 → X' s = -1) := by
  intro m
  induction m with
  | zero => intro j X h w hj hm a; exact absurd hm (Nat.not_lt_zero _)
  | succ m ih =>
    intro j X h w hj hm a
    rw [f_J7_fill_53178_L5.eq_2]
    by_cases ej : j = 9
    · subst ej
      rw [if_pos (by decide)]
      exact wp_some ⟨X, w, a⟩
    · have q := h_ix (m := 9) (j := j) (by omega) (by omega)
      have e9 : nI 9 = 9 := rfl
      rw [e9] at q
      rw [if_neg (Int32.not_le.mpr q.2.1)]
      refine wp_bind (sI_40 w q.1 q.2.1) fun h2 w2 => ?_
      rw [gA_over, q.2.2] at w2
      rw [nI_1]
      refine ih (j + 1) w2 (by omega) (by omega) (fun s hs => ?_)
      show upd X j (-1) s = -1
      by_cases es : s = j
      · subst es
        exact hu_at _ _ _
      · rw [hu_ne es]
        exact a s (by omega)
theorem c_findPlans (ts : TS td tr A B H F G g) (w : WT n b L xs τ g h) : wp (f_X10_findPlans 10000 (n + 33) h) (fun r => ∃ g', WT n b L xs τ g' r ∧ TG g g' ∧ BT td A B H F G tr 6561 (g'.2.1 40) (g'.2.1 41)) := by
  have w0 : WT n b L xs τ (gsA g 40 (g.2.1 40)) h := by rw [gA_id]; exact w
  unfold f_X10_findPlans
  refine wp_eq (gR_33_6 w) ?_
  refine wp_bind (R := fun r => ∃ X', WT n b L xs τ (gsA g 40 X') r ∧ ∀ s, s < 9 → X' s = -1) ?_ (fun h2 p2 => ?_)
  · unfold f_J7_fill_53178
    refine wp_eq (aN_40 w0) ?_
    exact wp_bind (c_fill40 10000 0 w0 (by omega) (by omega) (fun s hs => absurd hs (Nat.not_lt_zero _))) fun r p => wp_some p
  obtain ⟨X, w2, k2⟩ := p2
  have tg2 : TG g (gsA g 40 X) := TG_40 g X
  have ts2 := TS_TG ts tg2
  refine wp_bind (c_findPlans_L10 ts2 10000 0 w2 (TG_id _) rfl rfl rfl (by omega) (by omega) (fun x hx => absurd hx (Nat.not_lt_zero _))) fun m12 p12 => ?_
  obtain ⟨g3, w3, tg3, e40, e41, e8, ld⟩ := p12
  have ts3 := TS_TG ts2 tg3
  refine wp_zif (ob_33 w3) ?_
  have w3' : WT n b L xs τ (gTw g3 (g3.2.1 40) (g3.2.1 41)) m12 := by rw [gTw_id]; exact w3
  have bt0 : BT td A B H F G tr (0 * 3 ^ 8) (g3.2.1 40) (g3.2.1 41) := fun l hl => by
    refine ⟨none, Mn_0, ?_⟩
    show g3.2.1 40 l = -1
    rw [e40]
    exact k2 l hl
  have dq : DQ td H 8 0 0 0 0 := by
    refine ⟨by decide, by decide, fun s hs => ?_, fun s hs => ?_, rfl, fun s h1 h2 => absurd h2 (by omega), by decide⟩
    · rw [Nat.zero_testBit, decide_eq_false (show ¬ 8 ≤ s by omega), Bool.false_and]
    · rw [Nat.zero_testBit, decide_eq_false (show ¬ 8 ≤ s by omega), Bool.false_and]
  refine wp_bind (c_decide ts3 ld 9 8 (by decide) (by decide) dq w3' bt0) fun h14 p14 => ?_
  obtain ⟨S', N', w', bt'⟩ := p14
  exact wp_some ⟨_, w', TG_trans tg2 (TG_trans tg3 (TG_T g3 S' N')), bt'⟩
/-- plans with fewer than k late -/
def PlL (td : Nat) (A B F G : Nat → Nat) (tr k c : Nat) : Prop := ∃ l, l < k ∧ PlE td A B F G tr l c
/-- the plan found so far, and its number of late ones -/
def FB (td : Nat) (A B H F G : Nat → Nat) (tr k : Nat) (S N : Nat → Int32) (v : Int32) : Prop := ∃ bo, Mn (PlL td A B F G tr k) (fun c => hmS td H c 8) 6561 bo ∧ (match bo with | none => v = -1 | some x => ∃ l, l < 9 ∧ v = nI l ∧ laS td A B F G tr x = some l ∧ S l = nI (hmS td H x 8) ∧ N l = nI x)
theorem c_sumWith {l : Nat} (hl : l < 9) (w : WT n b L xs τ g h) : f_X10_sumWith 10000 (n + 33) (nI l) h = some (g.2.1 40 l) := by
  have q := h_ix (m := 9) (j := l) hl (by omega)
  have e9 : nI 9 = 9 := rfl
  rw [e9] at q
  apply wp_is
  unfold f_X10_sumWith
  rw [if_neg (Int32.not_lt.mpr q.1)]
  refine wp_eq (gR_33_6 w) ?_
  refine wp_eq (aN_40 w) ?_
  rw [if_neg (Int32.not_le.mpr q.2.1)]
  refine wp_eq (gR_33_6 w) ?_
  refine wp_eq (A_40 w q.1 q.2.1) ?_
  rw [q.2.2]
  exact wp_some rfl
theorem c_isBetter {l k x y wx wy : Nat} (hl : l < 9) (hk : k < 9) (bx : x < 2 ^ 31) (by' : y < 2 ^ 31) (bwx : wx < 2 ^ 31) (bwy : wy < 2 ^ 31) (s1 : g.2.1 40 l = nI wx) (s2 : g.2.1 40 k = nI wy) (n1 : g.2.1 41 l = nI x) (n2 : g.2.1 41 k = nI y) (w : WT n b L xs τ g h) : f_X10_isBetter 10000 (n + 33) (nI l) (nI k) h = some (if wx < wy ∨ (wx = wy ∧ x < y) then 1 else 0) := by
  have q := h_ix (m := 9) (j := l) hl (by omega)
  have q' := h_ix (m := 9) (j := k) hk (by omega)
  have e9 : nI 9 = 9 := rfl
  rw [e9] at q q'
  apply wp_is
  unfold f_X10_isBetter
  refine wp_zif (ob_33 w) ?_
  refine wp_eq (c_sumWith hl w) ?_
  refine wp_zif (ob_33 w) ?_
  refine wp_eq (c_sumWith hk w) ?_
  rw [s1, s2]
  by_cases c1 : wx < wy
  · rw [if_pos (hI_lt c1 bwy), if_pos (show wx < wy ∨ (wx = wy ∧ x < y) from Or.inl c1)]
    exact wp_some rfl
  · rw [if_neg (Int32.not_lt.mpr (nI_r (show wy ≤ wx by omega) bwx).2)]
    by_cases c2 : wx = wy
    · rw [if_pos (show nI wx = nI wy by rw [c2])]
      refine wp_eq (gR_33_7 w) ?_
      refine wp_eq (aN_41 w) ?_
      rw [if_neg (Int32.not_le.mpr q.2.1)]
      refine wp_eq (gR_33_7 w) ?_
      refine wp_eq (aN_41 w) ?_
      rw [if_neg (Int32.not_le.mpr q'.2.1)]
      refine wp_eq (gR_33_7 w) ?_
      refine wp_eq (A_41 w q.1 q.2.1) ?_
      refine wp_eq (gR_33_7 w) ?_
      refine wp_eq (A_41 w q'.1 q'.2.1) ?_
      rw [q.2.2, q'.2.2, n1, n2]
      by_cases c3 : x < y
      · rw [if_neg (Int32.not_le.mpr (hI_lt c3 by')), if_pos (show wx < wy ∨ (wx = wy ∧ x < y) from Or.inr ⟨c2, c3⟩)]
        exact wp_some rfl
      · rw [if_pos (nI_r (show y ≤ x by omega) bx).2, if_neg (show ¬ (wx < wy ∨ (wx = wy ∧ x < y)) by omega)]
        exact wp_some rfl
    · rw [if_neg (show ¬ nI wx = nI wy from fun z => c2 (nI_inj bwx bwy z)), if_neg (show ¬ (wx < wy ∨ (wx = wy ∧ x < y)) by omega)]
      exact wp_some rfl
theorem c_bestLate_L20 {most : Nat} (hm8 : most ≤ 8) (ts : TS td tr A B H F G g) (w : WT n b L xs τ g h) (bt : BT td A B H F G tr 6561 (g.2.1 40) (g.2.1 41)) : ∀ (m k : Nat) {v : Int32}, k ≤ most + 1 → most + 1 - k < m → FB td A B H F G tr k (g.2.1 40) (g.2.1 41) v → wp (f_X10_bestLate_L20 10000 (n + 33) (nI most) h m v (nI k)) (fun r => FB td A B H F G tr (most + 1) (g.2.1 40) (g.2.1 41) r) := by
  have hH : ∀ k, k < 24 → H k ≤ 999 := fun k hk => (ts.2.2.2.1 k hk).2
  intro m
  induction m with
  | zero => intro k v hk hm f; exact absurd hm (Nat.not_lt_zero _)
  | succ m ih =>
    intro k v hk hm f
    rw [f_X10_bestLate_L20.eq_2]
    by_cases ek : k = most + 1
    · subst ek
      rw [if_pos (hI_lt (by omega) (by omega))]
      exact wp_some f
    · have k9 : k < 9 := by omega
      have q := h_ix (m := 9) (j := k) k9 (by omega)
      have e9 : nI 9 = 9 := rfl
      rw [e9] at q
      rw [if_neg (Int32.not_lt.mpr (nI_r (show k ≤ most by omega) (by omega)).2), nI_1]
      refine wp_eq (gR_33_6 w) ?_
      refine wp_eq (aN_40 w) ?_
      rw [if_neg (Int32.not_le.mpr q.2.1)]
      refine wp_eq (gR_33_6 w) ?_
      refine wp_eq (A_40 w q.1 q.2.1) ?_
      rw [q.2.2]
      obtain ⟨b2, m2, s2⟩ := bt k k9
      obtain ⟨b1, m1, s1⟩ := f
      have jn := Mn_join (Q := fun l c => PlE td A B F G tr l c) m1 m2
      cases b2 with
      | none =>
        have z : g.2.1 40 k = -1 := s2
        rw [if_pos z]
        exact ih (k + 1) (by omega) (by omega) ⟨b1, jn, s1⟩
      | some x =>
        obtain ⟨x1, x2⟩ := s2
        have hx := hm_le (td := td) (c := x) hH 8 (Nat.le_refl _)
        have ns : ¬ g.2.1 40 k = -1 := fun z => by
          have y := (nI_r (Nat.zero_le (hmS td H x 8)) (by omega)).2
          rw [← x1, z] at y
          exact absurd y (by decide)
        have lx : laS td A B F G tr x = some k := m2.2.1.2
        have x6 := m2.1
        rw [if_neg ns]
        cases b1 with
        | none =>
          have v1 : v = -1 := s1
          rw [if_pos v1]
          exact ih (k + 1) (by omega) (by omega) ⟨some x, jn, k, k9, rfl, lx, x1, x2⟩
        | some y =>
          obtain ⟨l, l9, v1, ly, y1, y2⟩ := s1
          have hy := hm_le (td := td) (c := y) hH 8 (Nat.le_refl _)
          have y6 := m1.1
          have nv : ¬ v = -1 := fun z => by
            have u := (nI_r (Nat.zero_le l) (by omega)).2
            rw [← v1, z] at u
            exact absurd u (by decide)
          rw [if_neg nv, v1]
          refine wp_zif (ob_33 w) ?_
          refine wp_eq (c_isBetter k9 l9 (by omega) (by omega) (by omega) (by omega) x1 y1 x2 y2 w) ?_
          have jn' : Mn (PlL td A B F G tr (k + 1)) (fun c => hmS td H c 8) 6561 (if hmS td H x 8 < hmS td H y 8 ∨ (hmS td H x 8 = hmS td H y 8 ∧ x < y) then some x else some y) := jn
          by_cases c : hmS td H x 8 < hmS td H y 8 ∨ (hmS td H x 8 = hmS td H y 8 ∧ x < y)
          · rw [if_pos c] at jn' ⊢
            rw [if_neg ne10]
            exact ih (k + 1) (by omega) (by omega) ⟨some x, jn', k, k9, rfl, lx, x1, x2⟩
          · rw [if_neg c] at jn' ⊢
            rw [if_pos eq00]
            exact ih (k + 1) (by omega) (by omega) ⟨some y, jn', l, l9, rfl, ly, y1, y2⟩
/-- what the town has ready -/
def TC (td tr : Nat) (A B H F G : Nat → Nat) (g : zGh) : Prop := g.1 33 8 = 0 → BT td A B H F G tr 6561 (g.2.1 40) (g.2.1 41)
theorem c_bestLate {most : Nat} (hm8 : most ≤ 8) (ts : TS td tr A B H F G g) (tc : TC td tr A B H F G g) (w : WT n b L xs τ g h) : wp (f_X10_bestLate 10000 (n + 33) (nI most) h) (fun r => ∃ g', WT n b L xs τ g' r.2 ∧ TG g g' ∧ TC td tr A B H F G g' ∧ FB td A B H F G tr (most + 1) (g'.2.1 40) (g'.2.1 41) r.1) := by
  unfold f_X10_bestLate
  refine wp_eq (E_33_8 w) ?_
  refine wp_bind (R := fun r => ∃ g', WT n b L xs τ g' r ∧ TG g g' ∧ BT td A B H F G tr 6561 (g'.2.1 40) (g'.2.1 41)) ?_ (fun m2 p2 => ?_)
  · refine wp_ite (fun z => wp_some ⟨g, w, TG_id g, tc z⟩) (fun z => ?_)
    refine wp_zif (ob_33 w) ?_
    refine wp_bind (c_findPlans ts w) fun h5 p5 => ?_
    obtain ⟨g5, w5, tg5, bt5⟩ := p5
    exact wp_bind (pZ_33_8 w5 (x := 0) (Or.inl rfl)) fun h6 w6 => wp_some ⟨_, w6, TG_trans tg5 (TG_8 g5 0), bt5⟩
  obtain ⟨g', w2, tg, bt⟩ := p2
  have f0 : FB td A B H F G tr 0 (g'.2.1 40) (g'.2.1 41) (-1) := ⟨none, fun c _ z => by
    obtain ⟨l, h1, _⟩ := z
    exact absurd h1 (Nat.not_lt_zero _), rfl⟩
  refine wp_bind (c_bestLate_L20 hm8 (TS_TG ts tg) w2 bt 10000 0 (by omega) (by omega) f0) fun m18 p18 => ?_
  exact wp_some ⟨g', w2, tg, fun _ => bt, p18⟩
end PLAN
