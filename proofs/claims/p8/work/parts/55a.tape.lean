/-! the class's tape over a typed heap -/
theorem gset_in (g : zGh) (j k : Nat) (x : Int32) : (gset g j k x).1 j = upd (g.1 j) k x := by
  show (if j = j then _ else _) = _
  rw [if_pos rfl]
theorem gset_out {g : zGh} {j k : Nat} {x : Int32} {i : Nat} (e : i ≠ j) : (gset g j k x).1 i = g.1 i := if_neg e
theorem gset_over (g : zGh) (j k : Nat) (x y : Int32) : gset (gset g j k x) j k y = gset g j k y := by
  refine Prod.ext ?_ rfl
  funext p
  by_cases e : p = j
  · subst e
    rw [gset_in, gset_in, gset_in]
    funext i
    unfold upd
    by_cases e2 : i = k <;> simp [e2]
  · rw [gset_out e, gset_out e, gset_out e]
theorem gset_comm (g : zGh) (j : Nat) {k k' : Nat} (x y : Int32) (e : k ≠ k') : gset (gset g j k x) j k' y = gset (gset g j k' y) j k x := by
  refine Prod.ext ?_ rfl
  funext p
  by_cases e1 : p = j
  · subst e1
    rw [gset_in, gset_in, gset_in, gset_in]
    funext i
    unfold upd
    by_cases e2 : i = k
    · subst e2
      simp [e]
    · by_cases e3 : i = k'
      · subst e3
        simp [Ne.symm e]
      · simp [e2, e3]
  · rw [gset_out e1, gset_out e1, gset_out e1, gset_out e1]
theorem gset_id (g : zGh) (j k : Nat) : gset g j k (g.1 j k) = g := by
  refine Prod.ext ?_ rfl
  funext p
  by_cases e : p = j
  · subst e
    rw [gset_in]
    funext i
    unfold upd
    by_cases e2 : i = k <;> simp [e2]
  · rw [gset_out e]
/-- the tape's cell: next, token, place, number -/
def gT (g : zGh) (nx tk pl nu : Int32) : zGh := gset (gset (gset (gset g 3 3 nx) 3 4 tk) 3 5 pl) 3 6 nu
theorem gT_id (g : zGh) : gT g (g.1 3 3) (g.1 3 4) (g.1 3 5) (g.1 3 6) = g := by
  unfold gT
  rw [gset_id]
  have e1 : (gset g 3 4 (g.1 3 4)) = g := gset_id g 3 4
  rw [e1, gset_id, gset_id]
theorem gT_3 (g : zGh) (nx tk pl nu x : Int32) : gset (gT g nx tk pl nu) 3 3 x = gT g x tk pl nu := by
  unfold gT
  rw [gset_comm _ 3 _ _ (by decide : 6 ≠ 3), gset_comm _ 3 _ _ (by decide : 5 ≠ 3), gset_comm _ 3 _ _ (by decide : 4 ≠ 3), gset_over]
theorem gT_4 (g : zGh) (nx tk pl nu x : Int32) : gset (gT g nx tk pl nu) 3 4 x = gT g nx x pl nu := by
  unfold gT
  rw [gset_comm _ 3 _ _ (by decide : 6 ≠ 4), gset_comm _ 3 _ _ (by decide : 5 ≠ 4), gset_over]
theorem gT_5 (g : zGh) (nx tk pl nu x : Int32) : gset (gT g nx tk pl nu) 3 5 x = gT g nx tk x nu := by
  unfold gT
  rw [gset_comm _ 3 _ _ (by decide : 6 ≠ 5), gset_over]
theorem gT_6 (g : zGh) (nx tk pl nu x : Int32) : gset (gT g nx tk pl nu) 3 6 x = gT g nx tk pl x := by
  unfold gT
  rw [gset_over]
/-- whether a sign of the tape lies within two bounds -/
def tR (lo hi S : Int32) (f : Nat → Int32) (v : Int32) : Int32 := if v < 0 then 0 else if S ≤ v then 0 else if 1000 ≤ v then 0 else if f v.toNatClampNeg < lo then 0 else if hi < f v.toNatClampNeg then 0 else 1
theorem tR_1 {lo hi S : Int32} {f : Nat → Int32} {v : Int32} (e : ¬ tR lo hi S f v = 0) : 0 ≤ v ∧ v < S ∧ v < 1000 ∧ lo ≤ f v.toNatClampNeg ∧ f v.toNatClampNeg ≤ hi := by
  unfold tR at e
  by_cases c1 : v < 0
  · rw [if_pos c1] at e; exact absurd rfl e
  · rw [if_neg c1] at e
    by_cases c2 : S ≤ v
    · rw [if_pos c2] at e; exact absurd rfl e
    · rw [if_neg c2] at e
      by_cases c3 : 1000 ≤ v
      · rw [if_pos c3] at e; exact absurd rfl e
      · rw [if_neg c3] at e
        by_cases c4 : f v.toNatClampNeg < lo
        · rw [if_pos c4] at e; exact absurd rfl e
        · rw [if_neg c4] at e
          by_cases c5 : hi < f v.toNatClampNeg
          · rw [if_pos c5] at e; exact absurd rfl e
          · exact ⟨Int32.not_lt.mp c1, Int32.not_le.mp c2, Int32.not_le.mp c3, Int32.not_lt.mp c4, Int32.not_lt.mp c5⟩
theorem chr_id {x : Int32} (h0 : 0 ≤ x) (h1 : x ≤ 126) : (x.toUInt32 % 65536).toInt32 = x := by
  have key : ∀ m : Fin 127, ((Int32.ofNat m.1).toUInt32 % 65536).toInt32 = Int32.ofNat m.1 := by decide +kernel
  have q := (i32_clamp (i := x) h0 (N := 127) (by decide) (by show x < 127; lia)).2
  have e := i32_nI h0
  have k := key ⟨x.toNatClampNeg, q⟩
  have e' : Int32.ofNat x.toNatClampNeg = x := e
  rw [e'] at k
  exact k
section TAPE
variable {n b L : Nat} {xs : Nat → Int32} {τ : Nat → Nat} {g : zGh} {h : zH} {nx tk pl nu : Int32}
theorem T2 (w : WT n b L xs τ g h) : gI h (n + 3) 9 2 = some (g.1 3 2) := by
  obtain ⟨x, e, p⟩ := gI_3_2 w
  rw [e, p.1]
theorem T3 (w : WT n b L xs τ g h) : gI h (n + 3) 9 3 = some (g.1 3 3) := by
  obtain ⟨x, e, p⟩ := gI_3_3 w
  rw [e, p.1]
theorem T4 (w : WT n b L xs τ g h) : gI h (n + 3) 9 4 = some (g.1 3 4) := by
  obtain ⟨x, e, p⟩ := gI_3_4 w
  rw [e, p.1]
theorem T5 (w : WT n b L xs τ g h) : gI h (n + 3) 9 5 = some (g.1 3 5) := by
  obtain ⟨x, e, p⟩ := gI_3_5 w
  rw [e, p.1]
theorem T6 (w : WT n b L xs τ g h) : gI h (n + 3) 9 6 = some (g.1 3 6) := by
  obtain ⟨x, e, p⟩ := gI_3_6 w
  rw [e, p.1]
theorem TB (w : WT n b L xs τ g h) {v : Int32} (h0 : 0 ≤ v) (h1 : v < 1000) : aB h (n + 4) v = some (g.2.1 4 v.toNatClampNeg) := by
  obtain ⟨x, e, p⟩ := aB_4 w h0 h1
  rw [e, p.1]
theorem t_X9_isLetter {v : Int32} (w : WT n b L xs τ g h) : f_X9_isLetter 10000 (n + 3) v h = some (tR 97 122 (g.1 3 2) (g.2.1 4) v) := by
  unfold f_X9_isLetter tR
  by_cases c1 : v < 0
  · rw [if_pos c1, if_pos c1]
  · rw [if_neg c1, if_neg c1, T2 w]
    show (if g.1 3 2 ≤ v then _ else _) = _
    by_cases c2 : g.1 3 2 ≤ v
    · rw [if_pos c2, if_pos c2]
    · rw [if_neg c2, if_neg c2]
      by_cases c3 : 1000 ≤ v
      · rw [if_pos c3, if_pos c3]
      · rw [if_neg c3, if_neg c3, gR_3_0 w]
        show (aB h (n + 4) v).bind _ = _
        rw [TB w (Int32.not_lt.mp c1) (Int32.not_le.mp c3)]
        show (if g.2.1 4 v.toNatClampNeg < 97 then _ else (some (n + 4)).bind _) = _
        by_cases c4 : g.2.1 4 v.toNatClampNeg < 97
        · rw [if_pos c4, if_pos c4]
        · rw [if_neg c4, if_neg c4]
          show (aB h (n + 4) v).bind _ = _
          rw [TB w (Int32.not_lt.mp c1) (Int32.not_le.mp c3)]
          show (if 122 < g.2.1 4 v.toNatClampNeg then _ else _) = _
          by_cases c5 : 122 < g.2.1 4 v.toNatClampNeg
          · rw [if_pos c5, if_pos c5]
          · rw [if_neg c5, if_neg c5]
theorem t_X9_isDigit {v : Int32} (w : WT n b L xs τ g h) : f_X9_isDigit 10000 (n + 3) v h = some (tR 48 57 (g.1 3 2) (g.2.1 4) v) := by
  unfold f_X9_isDigit tR
  by_cases c1 : v < 0
  · rw [if_pos c1, if_pos c1]
  · rw [if_neg c1, if_neg c1, T2 w]
    show (if g.1 3 2 ≤ v then _ else _) = _
    by_cases c2 : g.1 3 2 ≤ v
    · rw [if_pos c2, if_pos c2]
    · rw [if_neg c2, if_neg c2]
      by_cases c3 : 1000 ≤ v
      · rw [if_pos c3, if_pos c3]
      · rw [if_neg c3, if_neg c3, gR_3_0 w]
        show (aB h (n + 4) v).bind _ = _
        rw [TB w (Int32.not_lt.mp c1) (Int32.not_le.mp c3)]
        show (if g.2.1 4 v.toNatClampNeg < 48 then _ else (some (n + 4)).bind _) = _
        by_cases c4 : g.2.1 4 v.toNatClampNeg < 48
        · rw [if_pos c4, if_pos c4]
        · rw [if_neg c4, if_neg c4]
          show (aB h (n + 4) v).bind _ = _
          rw [TB w (Int32.not_lt.mp c1) (Int32.not_le.mp c3)]
          show (if 57 < g.2.1 4 v.toNatClampNeg then _ else _) = _
          by_cases c5 : 57 < g.2.1 4 v.toNatClampNeg
          · rw [if_pos c5, if_pos c5]
          · rw [if_neg c5, if_neg c5]
theorem t_X9_wordOf_L2 {v1 : Int64} (w : WT n b L xs τ g h) : ∀ (m : Nat) {v3 : Int32}, 0 ≤ v3 → (9000 - v3.toInt).toNat < m → wp (f_X9_wordOf_L2 10000 (n + 3) v1 h m v3) (fun r => ∀ a, r = .inr a → 0 ≤ a ∧ a ≤ 20) := by
  intro m
  induction m with
  | zero => intro v3 i0 hm; exact absurd hm (Nat.not_lt_zero _)
  | succ m ih =>
    intro v3 i0 hm
    rw [f_X9_wordOf_L2.eq_2]
    refine wp_eq (gR_3_1 w) ?_
    refine wp_eq (aN_5 w) ?_
    refine wp_ite (fun c => wp_some (fun a e => by cases e)) (fun c => ?_)
    refine wp_eq (gR_3_1 w) ?_
    refine wp_bind (aL_5 w i0 (by lia)) fun x5 _ => ?_
    refine wp_ite (fun c2 => wp_some (fun a e => ?_)) (fun c2 => ih (by lia) (mu_up (by lia) (by lia) hm))
    cases e
    exact ⟨i0, by lia⟩
theorem t_X9_wordOf {v1 : Int64} (w : WT n b L xs τ g h) : wp (f_X9_wordOf 10000 (n + 3) v1 h) (fun r => 0 ≤ r ∧ r ≤ 200 ∧ (r ≤ 20 ∨ r = 200)) := by
  unfold f_X9_wordOf
  refine wp_bind (t_X9_wordOf_L2 w _ (by decide) (mu_0 (by decide))) fun m7 p => ?_
  refine wp_zsum (fun a e => wp_some ⟨by decide, by decide, Or.inr rfl⟩) (fun a e => ?_)
  have q := p a e
  exact ⟨q.1, by lia, Or.inl q.2⟩
set_option maxHeartbeats 4000000 in
theorem t_X9_takeWord_L5 : ∀ (m : Nat) {nx : Int32} {h : zH}, WT n b L xs τ (gT g nx tk pl nu) h → 0 ≤ nx → nx ≤ g.1 3 2 → g.1 3 2 ≤ 1000 → (9000 - nx.toInt).toNat < m → wp (f_X9_takeWord_L5 10000 (n + 3) m h) (fun r => ∃ nx', WT n b L xs τ (gT g nx' tk pl nu) r ∧ nx ≤ nx' ∧ nx' ≤ g.1 3 2 ∧ (¬ tR 97 122 (g.1 3 2) (g.2.1 4) nx = 0 → nx < nx')) := by
  intro m
  induction m with
  | zero => intro nx h w i0 i1 i2 hm; exact absurd hm (Nat.not_lt_zero _)
  | succ m ih =>
    intro nx h w i0 i1 i2 hm
    rw [f_X9_takeWord_L5.eq_2]
    refine wp_eq (T3 w) ?_
    refine wp_eq (T2 w) ?_
    refine wp_ite (fun c => wp_some ⟨nx, w, by lia, i1, fun q => ?_⟩) (fun c => ?_)
    · have q1 := (tR_1 q).2.1
      have c' : g.1 3 2 ≤ nx := c
      lia
    refine wp_eq (T3 w) ?_
    refine wp_zif (ob_3 w) ?_
    refine wp_eq (t_X9_isLetter w) ?_
    refine wp_ite (fun c2 => wp_some ⟨nx, w, by lia, i1, fun q => absurd c2 q⟩) (fun c2 => ?_)
    have c' : ¬ g.1 3 2 ≤ nx := c
    refine wp_eq (T3 w) ?_
    refine wp_eq (T5 w) ?_
    refine wp_bind (R := fun r => WT n b L xs τ (gT g nx tk pl nu) r) ?_ (fun m11 w11 => ?_)
    · refine wp_ite (fun _ => wp_some w) (fun _ => ?_)
      refine wp_bind (gL_3_7 w) fun x13 _ => ?_
      refine wp_eq (gR_3_0 w) ?_
      refine wp_eq (T3 w) ?_
      refine wp_bind (aB_4 w (i := nx) i0 (by lia)) fun x16 _ => ?_
      refine wp_bind (pL_3_7 w) fun h17 w17 => wp_some w17
    · refine wp_eq (T3 w11) ?_
      have hx : (gT g nx tk pl nu).1 3 3 = nx := rfl
      rw [hx]
      refine wp_bind (pI_3_3 w11 (x := nx + 1) (by lia) (by lia)) fun h19 w19 => ?_
      rw [gT_3] at w19
      refine wp_mono (ih w19 (by lia) (by lia) i2 (mu_up i0 (by lia) hm)) fun r p => ?_
      obtain ⟨nx', q1, q2, q3, q4⟩ := p
      exact ⟨nx', q1, by lia, q3, fun _ => by lia⟩
theorem t_X9_takeWord (w : WT n b L xs τ (gT g nx tk pl nu) h) (i0 : 0 ≤ nx) (i1 : nx ≤ g.1 3 2) (i2 : g.1 3 2 ≤ 1000) : wp (f_X9_takeWord 10000 (n + 3) h) (fun r => ∃ nx' tk', WT n b L xs τ (gT g nx' tk' pl nu) r ∧ nx ≤ nx' ∧ nx' ≤ g.1 3 2 ∧ (¬ tR 97 122 (g.1 3 2) (g.2.1 4) nx = 0 → nx < nx')) := by
  unfold f_X9_takeWord
  refine wp_bind (pL_3_7 w) fun h1 w1 => ?_
  refine wp_bind (t_X9_takeWord_L5 _ w1 i0 i1 i2 (mu_0 i0)) fun m20 p => ?_
  obtain ⟨nx', w2, q2, q3, q4⟩ := p
  refine wp_eq (T3 w2) ?_
  refine wp_eq (T5 w2) ?_
  refine wp_ite (fun c => ?_) (fun c => ?_)
  · refine wp_bind (gL_3_7 w2) fun x24 _ => ?_
    refine wp_zif (ob_3 w2) ?_
    refine wp_bind (t_X9_wordOf w2) fun q26 p26 => ?_
    refine wp_bind (pI_3_4 w2 (x := q26) (by lia) (by lia)) fun h27 w27 => ?_
    rw [gT_4] at w27
    exact wp_some ⟨nx', q26, w27, q2, q3, q4⟩
  · refine wp_bind (pI_3_4 w2 (x := 203) (by decide) (by decide)) fun h27 w27 => ?_
    rw [gT_4] at w27
    exact wp_some ⟨nx', 203, w27, q2, q3, q4⟩
/-- a number's digits so far -/
def nuB (d nu : Int32) : Prop := 0 ≤ d ∧ 0 ≤ nu ∧ nu ≤ 9999 ∧ (d = 0 → nu = 0) ∧ (d = 1 → nu ≤ 9) ∧ (d = 2 → nu ≤ 99) ∧ (d = 3 → nu ≤ 999)
theorem nuB_up {d nu x : Int32} (h : nuB d nu) (hd : d < 4) (h0 : 48 ≤ x) (h1 : x ≤ 57) : nuB (d + 1) (nu * 10 + x - 48) := by
  obtain ⟨a0, a1, a2, a3, a4, a5, a6⟩ := h
  have e : d = 0 ∨ d = 1 ∨ d = 2 ∨ d = 3 := by lia
  rcases e with rfl | rfl | rfl | rfl
  · have := a3 rfl
    subst this
    refine ⟨by decide, by lia, by lia, by lia, by lia, by lia, by lia⟩
  · have := a4 rfl
    refine ⟨by decide, by lia, by lia, by lia, by lia, by lia, by lia⟩
  · have := a5 rfl
    refine ⟨by decide, by lia, by lia, by lia, by lia, by lia, by lia⟩
  · have := a6 rfl
    refine ⟨by decide, by lia, by lia, by lia, by lia, by lia, by lia⟩
set_option maxHeartbeats 4000000 in
theorem t_X9_takeNumber_L5 : ∀ (m : Nat) {nx nu : Int32} {h : zH}, WT n b L xs τ (gT g nx tk pl nu) h → 0 ≤ nx → nx ≤ g.1 3 2 → g.1 3 2 ≤ 1000 → 0 ≤ pl → pl ≤ nx → nuB (nx - pl) nu → (9000 - nx.toInt).toNat < m → wp (f_X9_takeNumber_L5 10000 (n + 3) m h) (fun r => ∃ nx' nu', WT n b L xs τ (gT g nx' tk pl nu') r ∧ nx ≤ nx' ∧ nx' ≤ g.1 3 2 ∧ (¬ tR 48 57 (g.1 3 2) (g.2.1 4) nx = 0 → nx < nx')) := by
  intro m
  induction m with
  | zero => intro nx nu h w i0 i1 i2 i3 i4 i5 hm; exact absurd hm (Nat.not_lt_zero _)
  | succ m ih =>
    intro nx nu h w i0 i1 i2 i3 i4 i5 hm
    rw [f_X9_takeNumber_L5.eq_2]
    refine wp_eq (T3 w) ?_
    refine wp_eq (T2 w) ?_
    refine wp_ite (fun c => wp_some ⟨nx, nu, w, by lia, i1, fun q => ?_⟩) (fun c => ?_)
    · have q1 := (tR_1 q).2.1
      have c' : g.1 3 2 ≤ nx := c
      lia
    refine wp_eq (T3 w) ?_
    refine wp_zif (ob_3 w) ?_
    refine wp_eq (t_X9_isDigit w) ?_
    refine wp_ite (fun c2 => wp_some ⟨nx, nu, w, by lia, i1, fun q => absurd c2 q⟩) (fun c2 => ?_)
    have c' : ¬ g.1 3 2 ≤ nx := c
    have d5 : 0 ≤ nx ∧ nx < g.1 3 2 ∧ nx < 1000 ∧ 48 ≤ g.2.1 4 nx.toNatClampNeg ∧ g.2.1 4 nx.toNatClampNeg ≤ 57 := tR_1 c2
    refine wp_eq (T3 w) ?_
    refine wp_eq (T5 w) ?_
    have hx : (gT g nx tk pl nu).1 3 3 = nx := rfl
    have hp : (gT g nx tk pl nu).1 3 5 = pl := rfl
    rw [hx, hp]
    refine wp_bind (R := fun r => ∃ nu', WT n b L xs τ (gT g nx tk pl nu') r ∧ nuB (nx + 1 - pl) nu') ?_ (fun m11 p11 => ?_)
    · refine wp_ite (fun c3 => wp_some ⟨nu, w, ?_⟩) (fun c3 => ?_)
      · obtain ⟨a0, a1, a2, -⟩ := i5
        exact ⟨by lia, a1, a2, by lia, by lia, by lia, by lia⟩
      refine wp_eq (T6 w) ?_
      have hn : (gT g nx tk pl nu).1 3 6 = nu := rfl
      rw [hn]
      refine wp_eq (gR_3_0 w) ?_
      refine wp_eq (T3 w) ?_
      rw [hx]
      refine wp_eq (TB w (v := nx) i0 d5.2.2.1) ?_
      have hb : (gT g nx tk pl nu).2.1 4 nx.toNatClampNeg = g.2.1 4 nx.toNatClampNeg := rfl
      rw [hb]
      have u := nuB_up i5 (by lia) d5.2.2.2.1 d5.2.2.2.2
      refine wp_bind (pI_3_6 w (x := nu * 10 + g.2.1 4 nx.toNatClampNeg - 48) u.2.1 u.2.2.1) fun h17 w17 => ?_
      rw [gT_6] at w17
      refine wp_some ⟨_, w17, ?_⟩
      have e : nx + 1 - pl = nx - pl + 1 := by lia
      rw [e]
      exact u
    · obtain ⟨nu', w11, u⟩ := p11
      refine wp_eq (T3 w11) ?_
      have hx2 : (gT g nx tk pl nu').1 3 3 = nx := rfl
      rw [hx2]
      refine wp_bind (pI_3_3 w11 (x := nx + 1) (by lia) (by lia)) fun h19 w19 => ?_
      rw [gT_3] at w19
      refine wp_mono (ih w19 (by lia) (by lia) i2 i3 (by lia) u (mu_up i0 (by lia) hm)) fun r p => ?_
      obtain ⟨nx', nu2, q1, q2, q3, q4⟩ := p
      exact ⟨nx', nu2, q1, by lia, q3, fun _ => by lia⟩
theorem t_X9_takeNumber (w : WT n b L xs τ (gT g nx tk pl nu) h) (i0 : 0 ≤ nx) (i1 : nx ≤ g.1 3 2) (i2 : g.1 3 2 ≤ 1000) (i3 : pl = nx) : wp (f_X9_takeNumber 10000 (n + 3) h) (fun r => ∃ nx' tk' nu', WT n b L xs τ (gT g nx' tk' pl nu') r ∧ nx ≤ nx' ∧ nx' ≤ g.1 3 2 ∧ (¬ tR 48 57 (g.1 3 2) (g.2.1 4) nx = 0 → nx < nx')) := by
  unfold f_X9_takeNumber
  refine wp_bind (pI_3_6 w (x := 0) (by decide) (by decide)) fun h1 w1 => ?_
  rw [gT_6] at w1
  have u : nuB (nx - pl) 0 := by
    subst i3
    refine ⟨by lia, by decide, by decide, by lia, by lia, by lia, by lia⟩
  refine wp_bind (t_X9_takeNumber_L5 _ w1 i0 i1 i2 (by lia) (by lia) u (mu_0 i0)) fun m20 p => ?_
  obtain ⟨nx', nu', w2, q2, q3, q4⟩ := p
  refine wp_eq (T3 w2) ?_
  refine wp_eq (T5 w2) ?_
  refine wp_ite (fun c => ?_) (fun c => ?_)
  · refine wp_bind (pI_3_4 w2 (x := 201) (by decide) (by decide)) fun h27 w27 => ?_
    rw [gT_4] at w27
    exact wp_some ⟨nx', 201, nu', w27, q2, q3, q4⟩
  · refine wp_bind (pI_3_4 w2 (x := 203) (by decide) (by decide)) fun h27 w27 => ?_
    rw [gT_4] at w27
    exact wp_some ⟨nx', 203, nu', w27, q2, q3, q4⟩
theorem t_X9_advance_L0 : ∀ (m : Nat) {nx : Int32} {h : zH}, WT n b L xs τ (gT g nx tk pl nu) h → 0 ≤ nx → nx ≤ g.1 3 2 → g.1 3 2 ≤ 1000 → (9000 - nx.toInt).toNat < m → wp (f_X9_advance_L0 10000 (n + 3) m h) (fun r => ∃ nx', WT n b L xs τ (gT g nx' tk pl nu) r ∧ nx ≤ nx' ∧ nx' ≤ g.1 3 2) := by
  intro m
  induction m with
  | zero => intro nx h w i0 i1 i2 hm; exact absurd hm (Nat.not_lt_zero _)
  | succ m ih =>
    intro nx h w i0 i1 i2 hm
    rw [f_X9_advance_L0.eq_2]
    refine wp_eq (T3 w) ?_
    refine wp_eq (T2 w) ?_
    refine wp_ite (fun c => wp_some ⟨nx, w, by lia, i1⟩) (fun c => ?_)
    have c' : ¬ g.1 3 2 ≤ nx := c
    refine wp_eq (gR_3_0 w) ?_
    refine wp_eq (T3 w) ?_
    refine wp_bind (aB_4 w (i := nx) i0 (by lia)) fun x6 _ => ?_
    refine wp_bind (R := fun r => ∀ a, r = .inr a → a = h) ?_ (fun m7 p7 => ?_)
    · refine wp_ite (fun _ => wp_some (fun a e => by cases e)) (fun _ => ?_)
      refine wp_eq (gR_3_0 w) ?_
      refine wp_eq (T3 w) ?_
      refine wp_bind (aB_4 w (i := nx) i0 (by lia)) fun x12 _ => ?_
      refine wp_ite (fun _ => wp_some (fun a e => by cases e)) (fun _ => ?_)
      refine wp_map (wp_some (fun a e => ?_))
      cases e
      rfl
    · refine wp_zsum (fun a e => ?_) (fun a e => ?_)
      · refine wp_eq (T3 w) ?_
        have hx : (gT g nx tk pl nu).1 3 3 = nx := rfl
        rw [hx]
        refine wp_bind (pI_3_3 w (x := nx + 1) (by lia) (by lia)) fun h19 w19 => ?_
        rw [gT_3] at w19
        refine wp_mono (ih w19 (by lia) (by lia) i2 (mu_up i0 (by lia) hm)) fun r p => ?_
        obtain ⟨nx', q1, q2, q3⟩ := p
        exact ⟨nx', q1, by lia, q3⟩
      · rw [p7 a e]
        exact ⟨nx, w, by lia, i1⟩
/-! indexOf in the signs -/
theorem t_sg (w : WT n b L xs τ g h) : h.2 (h.1.2 5) = some (.inl (9, 8, .inl zSg)) ∧ h.1.2 1 ≠ h.1.2 2 := ⟨w.2.2.2.2.2.1, w.2.2.2.2.2.2.2⟩
theorem t_sv (w : WT n b L xs τ g h) : gSv h (h.1.2 2) = some (h.1.2 5) := by
  unfold gSv
  rw [if_neg (Ne.symm (t_sg w).2), if_pos rfl]
theorem t_sc (w : WT n b L xs τ g h) : gSc h (h.1.2 2) = some 0 := by
  unfold gSc
  rw [if_neg (Ne.symm (t_sg w).2), if_pos rfl]
theorem t_idx_L7 {v4 : Int32} (w : WT n b L xs τ g h) : ∀ (m : Nat) {v5 : Int32}, 0 ≤ v5 → (9000 - v5.toInt).toNat < m → wp (f_J1_indexOfChar_4cfef_L7 10000 (h.1.2 5) 8 v4 h m v5) (fun _ => True) := by
  intro m
  induction m with
  | zero => intro v5 i0 hm; exact absurd hm (Nat.not_lt_zero _)
  | succ m ih =>
    intro v5 i0 hm
    rw [f_J1_indexOfChar_4cfef_L7.eq_2]
    refine wp_ite (fun c => wp_some trivial) (fun c => ?_)
    have q := i32_clamp (i := v5) i0 (N := 8) (by decide) (by show v5 < 8; lia)
    have e : aB h (h.1.2 5) v5 = some (zSg v5.toNatClampNeg) := by
      simp [aB, (t_sg w).1, q.1, q.2]
    refine wp_eq e ?_
    exact wp_ite (fun _ => wp_some trivial) (fun _ => ih (by lia) (mu_up (by lia) (by lia) hm))
theorem t_idx {x : Int32} (w : WT n b L xs τ g h) : wp (f_J0_indexOf_0f7a4 10000 (h.1.2 2) x h) (fun r => r.2 = h) := by
  have eN : aN h (h.1.2 5) = some 8 := aN_of (t_sg w).1 (by decide)
  have eL : f_J0_isLatin1_aae02 10000 (h.1.2 2) h = some 1 := by
    unfold f_J0_isLatin1_aae02
    rw [if_neg (by decide), t_sc w]
    rfl
  have eC : f_J0_coder_7d493 10000 (h.1.2 2) h = some 0 := by
    unfold f_J0_coder_7d493
    rw [if_neg (by decide), t_sc w]
    rfl
  have eLen : f_J0_length_8abf5 10000 (h.1.2 2) h = some 8 := by
    unfold f_J0_length_8abf5
    rw [t_sv w]
    show (aN h (h.1.2 5)).bind _ = _
    rw [eN]
    show (f_J0_coder_7d493 10000 (h.1.2 2) h).bind (fun q4 => some ((8 : Int32) >>> (q4 &&& 31))) = _
    rw [eC]
    rfl
  unfold f_J0_indexOf_0f7a4
  refine wp_eq (t_sv w) ?_
  refine wp_bind (R := fun r => r.2 = h) ?_ (fun q2 p2 => wp_some p2)
  unfold f_J0_indexOf_7cf53
  refine wp_eq (t_sv w) ?_
  refine wp_eq eL ?_
  rw [if_neg (by decide)]
  refine wp_eq (t_sv w) ?_
  refine wp_eq (t_sv w) ?_
  refine wp_eq eLen ?_
  refine wp_bind (R := fun r => r.2 = h) ?_ (fun q2 p2 => wp_some p2)
  unfold f_J1_indexOf_4cfef
  refine wp_ite (fun _ => wp_some rfl) (fun _ => ?_)
  refine wp_zlet ?_
  refine wp_eq eN ?_
  refine wp_zlet ?_
  refine wp_ite (fun _ => ?_) (fun _ => wp_some rfl)
  refine wp_bind (R := fun _ => True) ?_ (fun q6 _ => wp_some rfl)
  unfold f_J1_indexOfChar_4cfef
  refine wp_zlet ?_
  refine wp_bind (t_idx_L7 w _ (by decide) (mu_0 (by decide))) fun m5 _ => ?_
  exact wp_zsum (fun _ _ => wp_some trivial) (fun _ _ => trivial)
/-- advance: the next token -/
def tAdv (S nx nx' tk' pl' : Int32) : Prop := nx ≤ pl' ∧ pl' ≤ nx' ∧ nx' ≤ S ∧ (tk' = 202 ∨ pl' < nx')
set_option maxHeartbeats 4000000 in
theorem t_X9_advance (w : WT n b L xs τ (gT g nx tk pl nu) h) (i0 : 0 ≤ nx) (i1 : nx ≤ g.1 3 2) (i2 : g.1 3 2 ≤ 1000) : wp (f_X9_advance 10000 (n + 3) h) (fun r => ∃ nx' tk' pl' nu', WT n b L xs τ (gT g nx' tk' pl' nu') r ∧ tAdv (g.1 3 2) nx nx' tk' pl') := by
  unfold f_X9_advance
  refine wp_bind (t_X9_advance_L0 _ w i0 i1 i2 (mu_0 i0)) fun m17 p => ?_
  obtain ⟨ny, w1, q1, q2⟩ := p
  refine wp_eq (T3 w1) ?_
  have hx1 : (gT g ny tk pl nu).1 3 3 = ny := rfl
  rw [hx1]
  refine wp_bind (pI_3_5 w1 (x := ny) (by lia) (by lia)) fun h19 w2 => ?_
  rw [gT_5] at w2
  have hx2 : (gT g ny tk ny nu).1 3 3 = ny := rfl
  have hs2 : (gT g ny tk ny nu).1 3 2 = g.1 3 2 := rfl
  have hf2 : (gT g ny tk ny nu).2.1 4 = g.2.1 4 := rfl
  refine wp_eq (T3 w2) ?_
  refine wp_eq (T2 w2) ?_
  rw [hx2, hs2]
  refine wp_ite (fun c => ?_) (fun c => ?_)
  · refine wp_eq (T3 w2) ?_
    rw [hx2]
    refine wp_zif (ob_3 w2) ?_
    refine wp_eq (t_X9_isLetter w2) ?_
    rw [hs2, hf2]
    refine wp_ite (fun c2 => ?_) (fun c2 => ?_)
    · refine wp_eq (T3 w2) ?_
      rw [hx2]
      refine wp_zif (ob_3 w2) ?_
      refine wp_eq (t_X9_isDigit w2) ?_
      rw [hs2, hf2]
      refine wp_ite (fun c3 => ?_) (fun c3 => ?_)
      · refine wp_eq (gR_3_0 w2) ?_
        refine wp_eq (T3 w2) ?_
        rw [hx2]
        refine wp_bind (aB_4 w2 (i := ny) (by lia) (by lia)) fun x33 p33 => ?_
        refine wp_zletE fun x34 e34 => ?_
        rw [chr_id p33.2.1 p33.2.2] at e34
        refine wp_eq (t_sv w2) ?_
        refine wp_bind (t_idx w2) fun q36 p36 => ?_
        rw [p36]
        refine wp_bind (R := fun r => 0 ≤ r ∧ r ≤ 203) ?_ (fun m37 p37 => ?_)
        · refine wp_ite (fun _ => wp_some (by decide)) (fun _ => wp_some ?_)
          lia
        refine wp_bind (pI_3_4 w2 (x := m37) p37.1 p37.2) fun h39 w39 => ?_
        rw [gT_4] at w39
        refine wp_eq (T3 w39) ?_
        have hx3 : (gT g ny m37 ny nu).1 3 3 = ny := rfl
        rw [hx3]
        refine wp_bind (pI_3_3 w39 (x := ny + 1) (by lia) (by lia)) fun h41 w41 => ?_
        rw [gT_3] at w41
        exact wp_some ⟨_, _, _, _, w41, by lia, by lia, by lia, Or.inr (by lia)⟩
      · refine wp_zif (ob_3 w2) ?_
        refine wp_bind (t_X9_takeNumber w2 (by lia) (by lia) i2 rfl) fun h43 p => ?_
        obtain ⟨nx', tk', nu', w3, r1, r2, r3⟩ := p
        exact wp_some ⟨_, _, _, _, w3, by lia, by lia, r2, Or.inr (r3 c3)⟩
    · refine wp_zif (ob_3 w2) ?_
      refine wp_bind (t_X9_takeWord w2 (by lia) (by lia) i2) fun h43 p => ?_
      obtain ⟨nx', tk', w3, r1, r2, r3⟩ := p
      exact wp_some ⟨_, _, _, _, w3, by lia, by lia, r2, Or.inr (r3 c2)⟩
  · refine wp_eq (T2 w2) ?_
    rw [hs2]
    refine wp_bind (pI_3_5 w2 (x := g.1 3 2) (by lia) (by lia)) fun h47 w3 => ?_
    rw [gT_5] at w3
    refine wp_bind (pI_3_4 w3 (x := 202) (by decide) (by decide)) fun h48 w4 => ?_
    rw [gT_4] at w4
    exact wp_some ⟨_, _, _, _, w4, by lia, by lia, by lia, Or.inl rfl⟩
end TAPE
