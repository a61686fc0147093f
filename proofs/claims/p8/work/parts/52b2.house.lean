/-! the house: what the leanings of its classes come to, who votes yes -/
def sumS (lean : Nat → Int32) (v s : Nat) : Nat → Int32
  | 0 => 0
  | c + 1 => sumS lean v s c + (if s.testBit c = true then lean (9 * v + c) else 0)
def yesS (heads lean : Nat → Int32) (s : Nat) : Nat → Int32
  | 0 => 0
  | v + 1 => yesS heads lean s v + (if sumS lean v s 9 < 0 then 0 else heads v)
def noS (heads lean : Nat → Int32) (s : Nat) : Nat → Int32
  | 0 => 0
  | v + 1 => noS heads lean s v + (if sumS lean v s 9 < 0 then heads v else 0)
def allS (heads : Nat → Int32) : Nat → Int32
  | 0 => 0
  | v + 1 => allS heads v + heads v
theorem all_split (heads lean : Nat → Int32) (s : Nat) : ∀ k, allS heads k = yesS heads lean s k + noS heads lean s k := by
  intro k
  induction k with
  | zero => rfl
  | succ k ih =>
    show allS heads k + heads k = (yesS heads lean s k + (if sumS lean k s 9 < 0 then 0 else heads k)) + (noS heads lean s k + (if sumS lean k s 9 < 0 then heads k else 0))
    rw [ih]
    by_cases c : sumS lean k s 9 < 0
    · rw [if_pos c, if_pos c]; lia
    · rw [if_neg c, if_neg c]; lia
theorem sumS_low {lean : Nat → Int32} {v s s' : Nat} : ∀ (c : Nat), (∀ j, j < c → s.testBit j = s'.testBit j) → sumS lean v s c = sumS lean v s' c := by
  intro c
  induction c with
  | zero => intro _; rfl
  | succ c ih =>
    intro hq
    show sumS lean v s c + _ = sumS lean v s' c + _
    rw [ih (fun j hj => hq j (by omega)), hq c (by omega)]
theorem sumS_top {lean : Nat → Int32} {v s c : Nat} (hs : s < 2 ^ c) : sumS lean v (2 ^ c + s) (c + 1) = sumS lean v s c + lean (9 * v + c) := by
  show sumS lean v (2 ^ c + s) c + _ = _
  have e1 : (2 ^ c + s).testBit c = true := by
    rw [Nat.testBit_two_pow_add_eq, Nat.testBit_lt_two_pow hs]
    rfl
  rw [if_pos e1, sumS_low c (s' := s) (fun j hj => Nat.testBit_two_pow_add_gt hj s)]
theorem sumS_skip {lean : Nat → Int32} {v s c : Nat} (hs : s < 2 ^ c) : sumS lean v s (c + 1) = sumS lean v s c := by
  show sumS lean v s c + _ = _
  have e1 : ¬ s.testBit c = true := by
    rw [Nat.testBit_lt_two_pow hs]
    decide
  rw [if_neg e1, Int32.add_zero]
theorem sumS_congr {lean lean' : Nat → Int32} {v s : Nat} : ∀ (c : Nat), c ≤ 9 → (∀ j, j < 9 → lean' (9 * v + j) = lean (9 * v + j)) → sumS lean' v s c = sumS lean v s c := by
  intro c
  induction c with
  | zero => intro _ _; rfl
  | succ c ih =>
    intro hc hq
    show sumS lean' v s c + _ = sumS lean v s c + _
    rw [ih (by omega) hq, hq c (by omega)]
theorem yesS_congr {heads heads' lean lean' : Nat → Int32} {s : Nat} : ∀ (C : Nat), (∀ v, v < C → heads' v = heads v) → (∀ k, k < 9 * C → lean' k = lean k) → yesS heads' lean' s C = yesS heads lean s C ∧ noS heads' lean' s C = noS heads lean s C := by
  intro C
  induction C with
  | zero => intro _ _; exact ⟨rfl, rfl⟩
  | succ C ih =>
    intro h1 h2
    obtain ⟨i1, i2⟩ := ih (fun v hv => h1 v (by omega)) (fun k hk => h2 k (by omega))
    have e := sumS_congr (lean := lean) (lean' := lean') (v := C) (s := s) 9 (Nat.le_refl _) (fun j hj => h2 _ (by omega))
    constructor
    · show yesS heads' lean' s C + _ = yesS heads lean s C + _
      rw [i1, e, h1 C (by omega)]
    · show noS heads' lean' s C + _ = noS heads lean s C + _
      rw [i2, e, h1 C (by omega)]
theorem allS_congr {heads heads' : Nat → Int32} : ∀ (C : Nat), (∀ v, v < C → heads' v = heads v) → allS heads' C = allS heads C := by
  intro C
  induction C with
  | zero => intro _; rfl
  | succ C ih =>
    intro h1
    show allS heads' C + _ = allS heads C + _
    rw [ih (fun v hv => h1 v (by omega)), h1 C (by omega)]
theorem shl_nI : ∀ c, c < 9 → (1 : Int32) <<< (nI c &&& 31) = nI (2 ^ c) := by decide
theorem hu_at (f : Nat → Int32) (k : Nat) (x : Int32) : upd f k x k = x := by
  unfold upd
  rw [if_pos rfl]
theorem hu_ne {f : Nat → Int32} {k i : Nat} {x : Int32} (h : i ≠ k) : upd f k x i = f i := by
  unfold upd
  rw [if_neg h]
theorem hI_lt {j k : Nat} (h : j < k) (hk : k < 2 ^ 31) : nI j < nI k := by
  refine Int32.lt_iff_toInt_lt.mpr ?_
  show (Int32.ofNat j).toInt < (Int32.ofNat k).toInt
  rw [Int32.toInt_ofNat_of_lt (by omega), Int32.toInt_ofNat_of_lt (by omega)]
  omega
theorem hI_mul (a i : Nat) : nI a * nI i = nI (a * i) := (Int32.ofNat_mul a i).symm
theorem gA_over (g : zGh) (j : Nat) (f f' : Nat → Int32) : gsA (gsA g j f) j f' = gsA g j f' := by
  refine Prod.ext rfl (Prod.ext ?_ rfl)
  funext p
  show (if p = j then f' else if p = j then f else g.2.1 p) = (if p = j then f' else g.2.1 p)
  by_cases e : p = j <;> simp [e]
theorem gA_id (g : zGh) (j : Nat) : gsA g j (g.2.1 j) = g := by
  refine Prod.ext rfl (Prod.ext ?_ rfl)
  funext p
  show (if p = j then g.2.1 j else g.2.1 p) = g.2.1 p
  by_cases e : p = j <;> simp [e]
/-- sums and votes -/
def gH (g : zGh) (F Y : Nat → Int32) : zGh := gsA (gsA g 29 F) 28 Y
theorem gH_29 (g : zGh) (F Y F' : Nat → Int32) : gsA (gH g F Y) 29 F' = gH g F' Y := by
  refine Prod.ext rfl (Prod.ext ?_ rfl)
  funext p
  show (if p = 29 then F' else if p = 28 then Y else if p = 29 then F else g.2.1 p) = (if p = 28 then Y else if p = 29 then F' else g.2.1 p)
  by_cases e : p = 29
  · subst e; simp
  · simp [e]
theorem gH_28 (g : zGh) (F Y Y' : Nat → Int32) : gsA (gH g F Y) 28 Y' = gH g F Y' := gA_over _ _ _ _
theorem gH_id (g : zGh) : gH g (g.2.1 29) (g.2.1 28) = g := by
  unfold gH
  have e : gsA g 29 (g.2.1 29) = g := gA_id g 29
  rw [e, gA_id]
section HOUSE
variable {n b L : Nat} {xs : Nat → Int32} {τ : Nat → Nat} {g : zGh} {h : zH} {Y : Nat → Int32}
theorem h_ix {m j : Nat} (hj : j < m) (hm : m ≤ 20000) : 0 ≤ nI j ∧ nI j < nI m ∧ (nI j).toNatClampNeg = j := ⟨(nI_r (Nat.le_of_lt hj) (by omega)).1, hI_lt hj (by omega), nI_clamp (by omega)⟩
theorem h_addUp_L41 {x : Int32} {B : Nat} {F0 : Nat → Int32} (hB : B ≤ 256) : ∀ (m j : Nat) {F : Nat → Int32} {h : zH}, WT n b L xs τ (gH g F Y) h → j ≤ B → B - j < m → (∀ s, s < B → F s = F0 s) → (∀ s, s < j → F (B + s) = F0 s + x) → wp (f_X3_addUp_L41 10000 (n + 25) x (nI B) m (nI j) h) (fun r => ∃ F', WT n b L xs τ (gH g F' Y) r ∧ (∀ s, s < B → F' s = F0 s) ∧ (∀ s, s < B → F' (B + s) = F0 s + x)) := by
  intro m
  induction m with
  | zero => intro j F h w hj hm a1 a2; exact absurd hm (Nat.not_lt_zero _)
  | succ m ih =>
    intro j F h w hj hm a1 a2
    rw [f_X3_addUp_L41.eq_2]
    have rj := nI_r hj (by omega : B < 2 ^ 31)
    by_cases ej : j = B
    · subst ej
      rw [if_pos (by lia)]
      exact wp_some ⟨F, w, a1, a2⟩
    · rw [if_neg (Int32.not_le.mpr (hI_lt (by omega) (by omega)))]
      have q1 := h_ix (m := 512) (j := j) (by omega) (by omega)
      have q2 := h_ix (m := 512) (j := B + j) (by omega) (by omega)
      have e512 : nI 512 = 512 := rfl
      rw [e512] at q1 q2
      rw [nI_add]
      refine wp_eq (gR_25_3 w) ?_
      refine wp_eq (gR_25_3 w) ?_
      refine wp_eq (A_29 w (i := nI j) q1.1 q1.2.1) ?_
      rw [q1.2.2]
      refine wp_bind (sI_29 w (i := nI (B + j)) q2.1 q2.2.1) fun h12 w12 => ?_
      rw [gH_29, q2.2.2] at w12
      rw [nI_1]
      refine ih (j + 1) w12 (by omega) (by omega) (fun s hs => ?_) (fun s hs => ?_)
      · show upd F (B + j) _ s = _
        rw [hu_ne (by omega)]
        exact a1 s hs
      · show upd F (B + j) (F j + x) (B + s) = _
        by_cases es : s = j
        · subst es
          rw [hu_at, a1 s (by omega)]
        · rw [hu_ne (by omega)]
          exact a2 s (by omega)
theorem h_addUp_L9 {v : Nat} (hv : v < 8) : ∀ (m c : Nat) {F : Nat → Int32} {h : zH}, WT n b L xs τ (gH g F Y) h → c ≤ 9 → 9 - c < m → (∀ s, s < 2 ^ c → F s = sumS (g.2.1 27) v s c) → wp (f_X3_addUp_L9 10000 (n + 25) (nI v) m (nI c) h) (fun r => ∃ F', WT n b L xs τ (gH g F' Y) r ∧ ∀ s, s < 512 → F' s = sumS (g.2.1 27) v s 9) := by
  intro m
  induction m with
  | zero => intro c F h w hc hm a; exact absurd hm (Nat.not_lt_zero _)
  | succ m ih =>
    intro c F h w hc hm a
    rw [f_X3_addUp_L9.eq_2]
    by_cases ec : c = 9
    · subst ec
      rw [if_pos (by decide)]
      exact wp_some ⟨F, w, fun s hs => a s hs⟩
    · have l9 : nI c < 9 := hI_lt (k := 9) (by omega) (by omega)
      have l8 : nI v < 8 := hI_lt (k := 8) hv (by omega)
      rw [if_neg (Int32.not_le.mpr l9), if_neg (Int32.not_le.mpr l8)]
      have i1 : nI v * 9 + nI c = nI (9 * v + c) := by
        have e9 : (9 : Int32) = nI 9 := rfl
        rw [e9, hI_mul, nI_add, Nat.mul_comm]
      have q := h_ix (m := 72) (j := 9 * v + c) (by omega) (by omega)
      have e72 : nI 72 = 72 := rfl
      rw [e72] at q
      rw [i1]
      refine wp_eq (gR_25_1 w) ?_
      refine wp_eq (A_27 w (i := nI (9 * v + c)) q.1 q.2.1) ?_
      rw [q.2.2, shl_nI c (by omega)]
      refine wp_zlet ?_
      have pw : 2 ^ c ≤ 256 := by
        have : 2 ^ c ≤ 2 ^ 8 := Nat.pow_le_pow_right (by omega) (by omega)
        omega
      refine wp_bind (h_addUp_L41 (x := g.2.1 27 (9 * v + c)) (B := 2 ^ c) (F0 := fun s => sumS (g.2.1 27) v s c) pw 10000 0 w (Nat.zero_le _) (Nat.lt_of_le_of_lt (Nat.sub_le _ _) (Nat.lt_of_le_of_lt pw (by decide))) a (fun s hs => absurd hs (Nat.not_lt_zero _))) fun m13 p13 => ?_
      obtain ⟨F', w13, k1, k2⟩ := p13
      rw [nI_1]
      refine ih (c + 1) w13 (by omega) (by omega) (fun s hs => ?_)
      by_cases cs : s < 2 ^ c
      · rw [k1 s cs, sumS_skip cs]
      · have p2 : 2 ^ (c + 1) = 2 ^ c + 2 ^ c := by rw [Nat.pow_succ]; omega
        have z := k2 (s - 2 ^ c) (by omega)
        rw [show 2 ^ c + (s - 2 ^ c) = s by omega] at z
        rw [z]
        have y := sumS_top (lean := g.2.1 27) (v := v) (s := s - 2 ^ c) (c := c) (by omega)
        rw [show 2 ^ c + (s - 2 ^ c) = s by omega] at y
        rw [y]
theorem h_addUp {v : Nat} {F : Nat → Int32} (hv : v < 8) (w : WT n b L xs τ (gH g F Y) h) : wp (f_X3_addUp 10000 (n + 25) (nI v) h) (fun r => ∃ F', WT n b L xs τ (gH g F' Y) r ∧ ∀ s, s < 512 → F' s = sumS (g.2.1 27) v s 9) := by
  unfold f_X3_addUp
  refine wp_eq (gR_25_3 w) ?_
  refine wp_bind (sI_29 w (i := 0) (x := 0) (by decide) (by decide)) fun h2 w2 => ?_
  rw [gH_29] at w2
  refine wp_bind (h_addUp_L9 hv 10000 0 w2 (by omega) (by omega) (fun s hs => ?_)) fun r p => wp_some p
  have e0 : s = 0 := by omega
  subst e0
  exact hu_at _ _ _
theorem h_poll_L31 {v : Nat} {F Y0 : Nat → Int32} (hv : v < 8) : ∀ (m j : Nat) {Y : Nat → Int32} {h : zH}, WT n b L xs τ (gH g F Y) h → j ≤ 512 → 512 - j < m → (∀ s, s < j → Y s = Y0 s + (if F s < 0 then 0 else g.2.1 26 v)) → (∀ s, j ≤ s → Y s = Y0 s) → wp (f_X3_poll_L31 10000 (n + 25) (nI v) m (nI j) h) (fun r => ∃ Y', WT n b L xs τ (gH g F Y') r ∧ ∀ s, s < 512 → Y' s = Y0 s + (if F s < 0 then 0 else g.2.1 26 v)) := by
  intro m
  induction m with
  | zero => intro j Y h w hj hm a1 a2; exact absurd hm (Nat.not_lt_zero _)
  | succ m ih =>
    intro j Y h w hj hm a1 a2
    rw [f_X3_poll_L31.eq_2]
    by_cases ej : j = 512
    · subst ej
      rw [if_pos (by decide)]
      exact wp_some ⟨Y, w, a1⟩
    · have l512 : nI j < 512 := hI_lt (k := 512) (by omega) (by omega)
      rw [if_neg (Int32.not_le.mpr l512)]
      have q1 := h_ix (m := 512) (j := j) (by omega) (by omega)
      have e512 : nI 512 = 512 := rfl
      rw [e512] at q1
      have q8 := h_ix (m := 8) (j := v) hv (by omega)
      have e8 : nI 8 = 8 := rfl
      rw [e8] at q8
      refine wp_eq (gR_25_3 w) ?_
      refine wp_eq (A_29 w (i := nI j) q1.1 q1.2.1) ?_
      rw [q1.2.2]
      show wp (if F j < 0 then _ else _) _
      refine wp_ite (fun c => ?_) (fun c => ?_)
      · rw [nI_1]
        refine ih (j + 1) w (by omega) (by omega) (fun s hs => ?_) (fun s hs => a2 s (by omega))
        by_cases es : s = j
        · subst es
          rw [if_pos c, a2 s (by omega), Int32.add_zero]
        · exact a1 s (by omega)
      · refine wp_eq (gR_25_2 w) ?_
        refine wp_eq (A_28 w (i := nI j) q1.1 q1.2.1) ?_
        rw [q1.2.2]
        refine wp_eq (gR_25_0 w) ?_
        refine wp_eq (A_26 w (i := nI v) q8.1 q8.2.1) ?_
        rw [q8.2.2]
        refine wp_bind (sI_28 w (i := nI j) q1.1 q1.2.1) fun h16 w16 => ?_
        rw [gH_28, q1.2.2] at w16
        rw [nI_1]
        refine ih (j + 1) w16 (by omega) (by omega) (fun s hs => ?_) (fun s hs => ?_)
        · show upd Y j (Y j + g.2.1 26 v) s = _
          by_cases es : s = j
          · subst es
            rw [hu_at, if_neg c, a2 s (by omega)]
          · rw [hu_ne es]
            exact a1 s (by omega)
        · show upd Y j (Y j + g.2.1 26 v) s = _
          rw [hu_ne (by omega)]
          exact a2 s (by omega)
theorem h_poll_L10 {C : Nat} (eC : g.1 25 6 = nI C) (hC : C ≤ 8) : ∀ (m v : Nat) {F Y : Nat → Int32} {h : zH}, WT n b L xs τ (gH g F Y) h → v ≤ C → C - v < m → (∀ s, s < 512 → Y s = yesS (g.2.1 26) (g.2.1 27) s v) → wp (f_X3_poll_L10 10000 (n + 25) m (nI v) h) (fun r => ∃ F' Y', WT n b L xs τ (gH g F' Y') r ∧ ∀ s, s < 512 → Y' s = yesS (g.2.1 26) (g.2.1 27) s C) := by
  intro m
  induction m with
  | zero => intro v F Y h w hv hm a; exact absurd hm (Nat.not_lt_zero _)
  | succ m ih =>
    intro v F Y h w hv hm a
    rw [f_X3_poll_L10.eq_2]
    have eC' : gI h (n + 25) 3 6 = some (nI C) := by
      rw [E_25_6 w]
      show some (g.1 25 6) = _
      rw [eC]
    refine wp_eq eC' ?_
    have rv := nI_r hv (by omega : C < 2 ^ 31)
    by_cases ev : v = C
    · subst ev
      rw [if_pos (by lia)]
      exact wp_some ⟨F, Y, w, a⟩
    · have l8 : nI v < 8 := hI_lt (k := 8) (by omega) (by omega)
      rw [if_neg (Int32.not_le.mpr (hI_lt (by omega) (by omega))), if_neg (Int32.not_le.mpr l8)]
      refine wp_zif (ob_25 w) ?_
      refine wp_bind (h_addUp (by omega) w) fun h7 p7 => ?_
      obtain ⟨F', w7, k7⟩ := p7
      refine wp_bind (h_poll_L31 (Y0 := Y) (by omega) 10000 0 w7 (by omega) (by omega) (fun s hs => absurd hs (Nat.not_lt_zero _)) (fun s _ => rfl)) fun m17 p17 => ?_
      obtain ⟨Y', w17, k17⟩ := p17
      rw [nI_1]
      refine ih (v + 1) w17 (by omega) (by omega) (fun s hs => ?_)
      rw [k17 s hs, k7 s hs, a s hs]
      rfl
theorem h_fill {F : Nat → Int32} : ∀ (m j : Nat) {Y : Nat → Int32} {h : zH}, WT n b L xs τ (gH g F Y) h → j ≤ 512 → 512 - j < m → (∀ s, s < j → Y s = 0) → wp (f_J7_fill_53178_L5 10000 (n + 28) 0 512 m (nI j) h) (fun r => ∃ Y', WT n b L xs τ (gH g F Y') r ∧ ∀ s, s < 512 → Y' s = 0) := by
  intro m
  induction m with
  | zero => intro j Y h w hj hm a; exact absurd hm (Nat.not_lt_zero _)
  | succ m ih =>
    intro j Y h w hj hm a
    rw [f_J7_fill_53178_L5.eq_2]
    by_cases ej : j = 512
    · subst ej
      rw [if_pos (by decide)]
      exact wp_some ⟨Y, w, a⟩
    · have l512 : nI j < 512 := hI_lt (k := 512) (by omega) (by omega)
      rw [if_neg (Int32.not_le.mpr l512)]
      have q1 := h_ix (m := 512) (j := j) (by omega) (by omega)
      have e512 : nI 512 = 512 := rfl
      rw [e512] at q1
      refine wp_bind (sI_28 w (i := nI j) q1.1 q1.2.1) fun h2 w2 => ?_
      rw [gH_28, q1.2.2] at w2
      rw [nI_1]
      refine ih (j + 1) w2 (by omega) (by omega) (fun s hs => ?_)
      show upd Y j 0 s = 0
      by_cases es : s = j
      · subst es
        exact hu_at _ _ _
      · rw [hu_ne es]
        exact a s (by omega)
theorem h_poll {C : Nat} (eC : g.1 25 6 = nI C) (hC : C ≤ 8) (w : WT n b L xs τ g h) : wp (f_X3_poll 10000 (n + 25) h) (fun r => ∃ F' Y', WT n b L xs τ (gH g F' Y') r ∧ ∀ s, s < 512 → Y' s = yesS (g.2.1 26) (g.2.1 27) s C) := by
  have w0 : WT n b L xs τ (gH g (g.2.1 29) (g.2.1 28)) h := by rw [gH_id]; exact w
  unfold f_X3_poll
  refine wp_eq (gR_25_2 w0) ?_
  refine wp_bind (R := fun r => ∃ Y', WT n b L xs τ (gH g (g.2.1 29) Y') r ∧ ∀ s, s < 512 → Y' s = 0) ?_ (fun h2 p2 => ?_)
  · unfold f_J7_fill_53178
    refine wp_eq (aN_28 w0) ?_
    exact wp_bind (h_fill 10000 0 w0 (by omega) (by omega) (fun s hs => absurd hs (Nat.not_lt_zero _))) fun r p => wp_some p
  obtain ⟨Y', w2, k2⟩ := p2
  exact wp_bind (h_poll_L10 eC hC 10000 0 w2 (by omega) (by omega) (fun s hs => k2 s hs)) fun r p => wp_some p
/-- what the house has ready -/
def HC (g : zGh) : Prop := ∃ C, C ≤ 8 ∧ g.1 25 6 = nI C ∧ g.1 25 5 = allS (g.2.1 26) C ∧ (g.1 25 4 = 0 → ∀ s, s < 512 → g.2.1 28 s = yesS (g.2.1 26) (g.2.1 27) s C)
/-- what a vote changes -/
def HG (g g' : zGh) : Prop := (∀ j, j ≠ 25 → g'.1 j = g.1 j) ∧ (∀ k, k ≠ 4 → g'.1 25 k = g.1 25 k) ∧ (∀ j, j ≠ 28 → j ≠ 29 → g'.2.1 j = g.2.1 j) ∧ g'.2.2 = g.2.2
theorem HG_id (g : zGh) : HG g g := ⟨fun _ _ => rfl, fun _ _ => rfl, fun _ _ _ => rfl, rfl⟩
theorem HG_trans {g g1 g2 : zGh} (p : HG g g1) (q : HG g1 g2) : HG g g2 := ⟨fun j a => (q.1 j a).trans (p.1 j a), fun k a => (q.2.1 k a).trans (p.2.1 k a), fun j a c => (q.2.2.1 j a c).trans (p.2.2.1 j a c), q.2.2.2.trans p.2.2.2⟩
theorem h_yesFor {s : Nat} (hs : s < 512) (w : WT n b L xs τ g h) (hc : HC g) : wp (f_X3_yesFor 10000 (n + 25) (nI s) h) (fun r => ∃ g', WT n b L xs τ g' r.2 ∧ HG g g' ∧ HC g' ∧ ∀ C, g.1 25 6 = nI C → C ≤ 8 → r.1 = yesS (g.2.1 26) (g.2.1 27) s C) := by
  obtain ⟨C, hC, eC, eA, eY⟩ := hc
  have uq : ∀ C', g.1 25 6 = nI C' → C' ≤ 8 → C' = C := fun C' e l => by
    have z : nI C' = nI C := e.symm.trans eC
    have y : (nI C').toNatClampNeg = (nI C).toNatClampNeg := by rw [z]
    rwa [nI_clamp (by omega), nI_clamp (by omega)] at y
  have q1 := h_ix (m := 512) (j := s) hs (by omega)
  have e512 : nI 512 = 512 := rfl
  rw [e512] at q1
  unfold f_X3_yesFor
  refine wp_eq (E_25_4 w) ?_
  refine wp_bind (R := fun r => ∃ g', WT n b L xs τ g' r ∧ HG g g' ∧ HC g' ∧ ∀ s, s < 512 → g'.2.1 28 s = yesS (g.2.1 26) (g.2.1 27) s C) ?_ (fun m2 p2 => ?_)
  · refine wp_ite (fun c => wp_some ⟨g, w, HG_id g, ⟨C, hC, eC, eA, eY⟩, eY c⟩) (fun c => ?_)
    refine wp_zif (ob_25 w) ?_
    refine wp_bind (h_poll eC hC w) fun h5 p5 => ?_
    obtain ⟨F', Y', w5, k5⟩ := p5
    refine wp_bind (pZ_25_4 w5 (x := 0) (Or.inl rfl)) fun h6 w6 => ?_
    refine wp_some ⟨_, w6, ⟨fun j hj => if_neg hj, fun k hk => ?_, fun j a1 a2 => ?_, rfl⟩, ⟨C, hC, eC, eA, fun _ => k5⟩, k5⟩
    · show (gset (gH g F' Y') 25 4 0).1 25 k = _
      show (if 25 = 25 then upd (g.1 25) 4 0 else g.1 25) k = _
      rw [if_pos rfl, hu_ne hk]
    · show (if j = 28 then Y' else if j = 29 then F' else g.2.1 j) = _
      rw [if_neg a1, if_neg a2]
  obtain ⟨g', w2, hg, hc2, k2⟩ := p2
  rw [if_neg (Int32.not_lt.mpr q1.1), if_neg (Int32.not_le.mpr q1.2.1)]
  refine wp_eq (gR_25_2 w2) ?_
  refine wp_eq (A_28 w2 (i := nI s) q1.1 q1.2.1) ?_
  rw [q1.2.2]
  refine wp_some ⟨g', w2, hg, hc2, fun C' e l => ?_⟩
  rw [uq C' e l]
  exact k2 s hs
theorem h_isMore {C s : Nat} (w : WT n b L xs τ g h) (eA : g.1 25 5 = allS (g.2.1 26) C) : f_X3_isMore 10000 (n + 25) (yesS (g.2.1 26) (g.2.1 27) s C) h = some (if yesS (g.2.1 26) (g.2.1 27) s C ≤ noS (g.2.1 26) (g.2.1 27) s C then 0 else 1) := by
  unfold f_X3_isMore
  rw [E_25_5 w, eA, all_split (g.2.1 26) (g.2.1 27) s C]
  have e : yesS (g.2.1 26) (g.2.1 27) s C + noS (g.2.1 26) (g.2.1 27) s C - yesS (g.2.1 26) (g.2.1 27) s C = noS (g.2.1 26) (g.2.1 27) s C := by lia
  show (if yesS (g.2.1 26) (g.2.1 27) s C ≤ yesS (g.2.1 26) (g.2.1 27) s C + noS (g.2.1 26) (g.2.1 27) s C - yesS (g.2.1 26) (g.2.1 27) s C then some 0 else some 1) = _
  rw [e]
  by_cases c : yesS (g.2.1 26) (g.2.1 27) s C ≤ noS (g.2.1 26) (g.2.1 27) s C
  · rw [if_pos c, if_pos c]
  · rw [if_neg c, if_neg c]
end HOUSE
