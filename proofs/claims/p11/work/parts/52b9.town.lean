/-! the town of the class: groups and what they lead -/
def TS (td tr : Nat) (A B H F G : Nat → Nat) (g : zGh) : Prop := (g.1 33 9 = nI td ∧ td < 256) ∧ (g.1 33 10 = nI tr ∧ tr ≤ 8) ∧ (∀ s, s < 8 → (g.2.1 34 (2 * s) = nI (A s) ∧ A s < 8) ∧ (g.2.1 34 (2 * s + 1) = nI (B s) ∧ B s < 8)) ∧ (∀ k, k < 24 → g.2.1 35 k = nI (H k) ∧ H k ≤ 999) ∧ (∀ i, i < 8 → (g.2.1 36 i = nI (F i) ∧ F i < 8) ∧ (g.2.1 37 i = nI (G i) ∧ G i < 8))
/-- what a plan may change -/
def TG (g g' : zGh) : Prop := (∀ j k, ¬ (j = 33 ∧ k = 8) → g'.1 j k = g.1 j k) ∧ (∀ j, j ≠ 38 → j ≠ 39 → j ≠ 40 → j ≠ 41 → g'.2.1 j = g.2.1 j) ∧ g'.2.2 = g.2.2
theorem TG_id (g : zGh) : TG g g := ⟨fun _ _ _ => rfl, fun _ _ _ _ _ => rfl, rfl⟩
theorem TG_trans {g g1 g2 : zGh} (p : TG g g1) (q : TG g1 g2) : TG g g2 := ⟨fun j k a => (q.1 j k a).trans (p.1 j k a), fun j a b c d => (q.2.1 j a b c d).trans (p.2.1 j a b c d), q.2.2.trans p.2.2⟩
theorem TG_8 (g : zGh) (x : Int32) : TG g (gset g 33 8 x) := ⟨fun _ _ a => gs_ne a, fun _ _ _ _ _ => rfl, rfl⟩
theorem TG_38 (g : zGh) (X : Nat → Int32) : TG g (gsA g 38 X) := ⟨fun _ _ _ => rfl, fun _ a _ _ _ => if_neg a, rfl⟩
theorem TG_39 (g : zGh) (X : Nat → Int32) : TG g (gsA g 39 X) := ⟨fun _ _ _ => rfl, fun _ _ a _ _ => if_neg a, rfl⟩
theorem TG_40 (g : zGh) (X : Nat → Int32) : TG g (gsA g 40 X) := ⟨fun _ _ _ => rfl, fun _ _ _ a _ => if_neg a, rfl⟩
theorem TG_41 (g : zGh) (X : Nat → Int32) : TG g (gsA g 41 X) := ⟨fun _ _ _ => rfl, fun _ _ _ _ a => if_neg a, rfl⟩
theorem TS_TG {td tr : Nat} {A B H F G : Nat → Nat} {g g' : zGh} (t : TS td tr A B H F G g) (p : TG g g') : TS td tr A B H F G g' := by
  unfold TS
  rw [p.1 33 9 (by decide), p.1 33 10 (by decide), p.2.1 34 (by decide) (by decide) (by decide) (by decide), p.2.1 35 (by decide) (by decide) (by decide) (by decide), p.2.1 36 (by decide) (by decide) (by decide) (by decide), p.2.1 37 (by decide) (by decide) (by decide) (by decide)]
  exact t
section TOWN
variable {n b L : Nat} {xs : Nat → Int32} {τ : Nat → Nat} {g : zGh} {h : zH} {td tr : Nat} {A B H F G : Nat → Nat}
theorem q8 {j : Nat} (hj : j < 8) : 0 ≤ nI j ∧ nI j < 8 ∧ (nI j).toNatClampNeg = j := h_ix (m := 8) hj (by omega)
theorem c_groupOf {p : Nat} (hp : p < 8) (w : WT n b L xs τ g h) : f_X10_groupOf 10000 (n + 33) (nI p) h = some (g.2.1 39 p) := by
  apply wp_is
  unfold f_X10_groupOf
  rw [if_neg (Int32.not_lt.mpr (q8 hp).1), if_neg (Int32.not_le.mpr (q8 hp).2.1)]
  refine wp_eq (gR_33_5 w) ?_
  refine wp_eq (A_39 w (q8 hp).1 (q8 hp).2.1) ?_
  rw [(q8 hp).2.2]
  exact wp_some rfl
theorem c_join_L15 {M : Nat} (hM : M < 256) {X0 : Nat → Int32} : ∀ (m j : Nat) {X : Nat → Int32} {h : zH}, WT n b L xs τ (gsA g 39 X) h → j ≤ 8 → 8 - j < m → (∀ p, p < j → X p = if M.testBit p = true then nI M else X0 p) → (∀ p, j ≤ p → X p = X0 p) → wp (f_X10_join_L15 10000 (n + 33) (nI M) m (nI j) h) (fun r => ∃ X', WT n b L xs τ (gsA g 39 X') r ∧ ∀ p, p < 8 → X' p = if M.testBit p = true then nI M else X0 p) := by
  intro m
  induction m with
  | zero => intro j X h w hj hm a1 a2; exact absurd hm (Nat.not_lt_zero _)
  | succ m ih =>
    intro j X h w hj hm a1 a2
    rw [f_X10_join_L15.eq_2]
    by_cases e : j = 8
    · subst e
      rw [if_pos (by decide)]
      exact wp_some ⟨X, w, a1⟩
    · have j8 : j < 8 := by omega
      rw [if_neg (Int32.not_le.mpr (q8 j8).2.1), nI_1]
      have bb := bit8 M hM j j8
      by_cases z : (nI M >>> (nI j &&& 31)) &&& 1 = 0
      · have tb := bb.mp z
        rw [if_pos z]
        refine ih (j + 1) w (by omega) (by omega) (fun p hp => ?_) (fun p hp => a2 p (by omega))
        by_cases ep : p = j
        · rw [ep, if_neg (by rw [tb]; decide)]
          exact a2 j (Nat.le_refl _)
        · exact a1 p (by omega)
      · have tb : M.testBit j = true := by
          cases y : M.testBit j with
          | false => exact absurd (bb.mpr y) z
          | true => rfl
        rw [if_neg z]
        refine wp_eq (gR_33_5 w) ?_
        refine wp_bind (sI_39 w (q8 j8).1 (q8 j8).2.1) fun h9 w9 => ?_
        rw [gA_over, (q8 j8).2.2] at w9
        refine ih (j + 1) w9 (by omega) (by omega) (fun p hp => ?_) (fun p hp => ?_)
        · show upd X j (nI M) p = _
          by_cases ep : p = j
          · rw [ep, hu_at, if_pos tb]
          · rw [hu_ne ep]
            exact a1 p (by omega)
        · show upd X j (nI M) p = _
          rw [hu_ne (by omega)]
          exact a2 p (by omega)
theorem c_join {a c : Nat} {gr : Nat → Nat} {X : Nat → Int32} (ha : a < 8) (hc : c < 8) (hX : ∀ p, p < 8 → X p = nI (gr p)) (hg : ∀ p, p < 8 → gr p < 256) (w : WT n b L xs τ (gsA g 39 X) h) : wp (f_X10_join 10000 (n + 33) (nI a) (nI c) h) (fun r => ∃ X', WT n b L xs τ (gsA g 39 X') r ∧ ∀ p, p < 8 → X' p = nI (if (gr a ||| gr c).testBit p = true then gr a ||| gr c else gr p)) := by
  unfold f_X10_join
  refine wp_zif (ob_33 w) ?_
  refine wp_eq (c_groupOf ha w) ?_
  refine wp_zif (ob_33 w) ?_
  refine wp_eq (c_groupOf hc w) ?_
  refine wp_zlet ?_
  have ea : (gsA g 39 X).2.1 39 a = nI (gr a) := hX a ha
  have ec : (gsA g 39 X).2.1 39 c = nI (gr c) := hX c hc
  rw [ea, ec, or_nI]
  refine wp_bind (c_join_L15 (M := gr a ||| gr c) (Nat.or_lt_two_pow (n := 8) (hg a ha) (hg c hc)) (X0 := X) 10000 0 w (by omega) (by omega) (fun p hp => absurd hp (Nat.not_lt_zero _)) (fun p _ => rfl)) fun m10 p10 => ?_
  obtain ⟨X', w10, k⟩ := p10
  refine wp_some ⟨X', w10, fun p hp => ?_⟩
  rw [k p hp]
  by_cases z : (gr a ||| gr c).testBit p = true
  · rw [if_pos z, if_pos z]
  · rw [if_neg z, if_neg z]
    exact hX p hp
theorem c_tripsBy_L2 : ∀ (m j : Nat) {X : Nat → Int32} {h : zH}, WT n b L xs τ (gsA g 39 X) h → j ≤ 8 → 8 - j < m → (∀ p, p < j → X p = nI (2 ^ p)) → wp (f_X10_tripsBy_L2 10000 (n + 33) m (nI j) h) (fun r => ∃ X', WT n b L xs τ (gsA g 39 X') r ∧ ∀ p, p < 8 → X' p = nI (2 ^ p)) := by
  intro m
  induction m with
  | zero => intro j X h w hj hm a1; exact absurd hm (Nat.not_lt_zero _)
  | succ m ih =>
    intro j X h w hj hm a1
    rw [f_X10_tripsBy_L2.eq_2]
    by_cases e : j = 8
    · subst e
      rw [if_pos (by decide)]
      exact wp_some ⟨X, w, a1⟩
    · have j8 : j < 8 := by omega
      rw [if_neg (Int32.not_le.mpr (q8 j8).2.1), nI_1, shl8 j j8]
      refine wp_eq (gR_33_5 w) ?_
      refine wp_bind (sI_39 w (q8 j8).1 (q8 j8).2.1) fun h3 w3 => ?_
      rw [gA_over, (q8 j8).2.2] at w3
      refine ih (j + 1) w3 (by omega) (by omega) (fun p hp => ?_)
      show upd X j (nI (2 ^ j)) p = _
      by_cases ep : p = j
      · rw [ep, hu_at]
      · rw [hu_ne ep]
        exact a1 p (by omega)
theorem c_tripsBy_L25 {M : Nat} (hM : M < 256) (ts : TS td tr A B H F G g) : ∀ (m k : Nat) {X : Nat → Int32} {h : zH}, WT n b L xs τ (gsA g 39 X) h → k ≤ 8 → 8 - k < m → (∀ p, p < 8 → X p = nI (grS (fun s => M.testBit s) A B k p)) → wp (f_X10_tripsBy_L25 10000 (n + 33) (nI M) m (nI k) h) (fun r => ∃ X', WT n b L xs τ (gsA g 39 X') r ∧ ∀ p, p < 8 → X' p = nI (grS (fun s => M.testBit s) A B 8 p)) := by
  have hA : ∀ s, s < 8 → A s < 8 := fun s hs => (ts.2.2.1 s hs).1.2
  have hB : ∀ s, s < 8 → B s < 8 := fun s hs => (ts.2.2.1 s hs).2.2
  intro m
  induction m with
  | zero => intro k X h w hk hm a; exact absurd hm (Nat.not_lt_zero _)
  | succ m ih =>
    intro k X h w hk hm a
    rw [f_X10_tripsBy_L25.eq_2]
    by_cases e : k = 8
    · subst e
      rw [if_pos (by decide)]
      exact wp_some ⟨X, w, a⟩
    · have k8 : k < 8 := by omega
      rw [if_neg (Int32.not_le.mpr (q8 k8).2.1), nI_1]
      have bb := bit8 M hM k k8
      have gi := gr_GI (S := fun s => M.testBit s) hA hB k (by omega)
      by_cases z : (nI M >>> (nI k &&& 31)) &&& 1 = 0
      · have tb := bb.mp z
        rw [if_pos z]
        refine ih (k + 1) w (by omega) (by omega) (fun p hp => ?_)
        rw [a p hp]
        show _ = nI (if M.testBit k = true then _ else _)
        rw [if_neg (by rw [tb]; decide)]
      · have tb : M.testBit k = true := by
          cases y : M.testBit k with
          | false => exact absurd (bb.mpr y) z
          | true => rfl
        rw [if_neg z]
        have i1 : nI k * 2 = nI (2 * k) := by
          have e2 : (2 : Int32) = nI 2 := rfl
          rw [e2, hI_mul, Nat.mul_comm]
        rw [i1, nI_1]
        have qa := h_ix (m := 16) (j := 2 * k) (by omega) (by omega)
        have qb := h_ix (m := 16) (j := 2 * k + 1) (by omega) (by omega)
        have e16 : nI 16 = 16 := rfl
        rw [e16] at qa qb
        refine wp_eq (gR_33_0 w) ?_
        refine wp_eq (A_34 w qa.1 qa.2.1) ?_
        refine wp_eq (gR_33_0 w) ?_
        refine wp_eq (A_34 w qb.1 qb.2.1) ?_
        rw [qa.2.2, qb.2.2]
        have ea : (gsA g 39 X).2.1 34 (2 * k) = nI (A k) := (ts.2.2.1 k k8).1.1
        have eb : (gsA g 39 X).2.1 34 (2 * k + 1) = nI (B k) := (ts.2.2.1 k k8).2.1
        rw [ea, eb]
        refine wp_zif (ob_33 w) ?_
        refine wp_bind (c_join (hA k k8) (hB k k8) a (fun p hp => (gi p hp).1) w) fun h12 p12 => ?_
        obtain ⟨X', w12, k12⟩ := p12
        refine ih (k + 1) w12 (by omega) (by omega) (fun p hp => ?_)
        rw [k12 p hp]
        show _ = nI (if M.testBit k = true then _ else _)
        rw [if_pos tb]
theorem c_tripsBy_L71 {S : Nat → Bool} (ts : TS td tr A B H F G g) (w : WT n b L xs τ g h) (hX : ∀ p, p < 8 → g.2.1 39 p = nI (grS S A B 8 p)) : ∀ (m i : Nat) {y : Int32}, i ≤ tr → tr - i < m → y = nI (ldN S A B F G i) → f_X10_tripsBy_L71 10000 (n + 33) h m y (nI i) = some (nI (ldN S A B F G tr)) := by
  have hA : ∀ s, s < 8 → A s < 8 := fun s hs => (ts.2.2.1 s hs).1.2
  have hB : ∀ s, s < 8 → B s < 8 := fun s hs => (ts.2.2.1 s hs).2.2
  have t8 := ts.2.1.2
  intro m
  induction m with
  | zero => intro i y hi hm a; exact absurd hm (Nat.not_lt_zero _)
  | succ m ih =>
    intro i y hi hm a
    apply wp_is
    rw [f_X10_tripsBy_L71.eq_2]
    refine wp_eq (E_33_10 w) ?_
    rw [ts.2.1.1]
    by_cases e : i = tr
    · rw [e] at a ⊢
      rw [if_pos (Int32.le_refl _)]
      exact wp_some a
    · have i8 : i < 8 := by omega
      rw [if_neg (Int32.not_le.mpr (hI_lt (by omega) (by omega))), if_neg (Int32.not_le.mpr (q8 i8).2.1), nI_1]
      obtain ⟨⟨f1, f2⟩, ⟨g1, g2⟩⟩ := ts.2.2.2.2 i i8
      refine wp_eq (gR_33_2 w) ?_
      refine wp_eq (A_36 w (q8 i8).1 (q8 i8).2.1) ?_
      rw [(q8 i8).2.2, f1]
      refine wp_zif (ob_33 w) ?_
      refine wp_eq (c_groupOf f2 w) ?_
      rw [hX _ f2]
      refine wp_eq (gR_33_3 w) ?_
      refine wp_eq (A_37 w (q8 i8).1 (q8 i8).2.1) ?_
      rw [(q8 i8).2.2, g1]
      have gi := gr_GI (S := S) hA hB 8 (Nat.le_refl _)
      have bb := bit8 _ (gi _ f2).1 _ g2
      have es : ldN S A B F G (i + 1) = ldN S A B F G i + (if ldB S A B F G i = true then 1 else 0) := rfl
      by_cases z : (nI (grS S A B 8 (F i)) >>> (nI (G i) &&& 31)) &&& 1 = 0
      · have tb : ¬ ldB S A B F G i = true := by
          show ¬ (grS S A B 8 (F i)).testBit (G i) = true
          rw [bb.mp z]
          decide
        rw [if_pos z]
        rw [if_neg tb] at es
        exact ⟨_, ih (i + 1) (by omega) (by omega) (by rw [a, es, Nat.add_zero]), rfl⟩
      · have tb : ldB S A B F G i = true := by
          show (grS S A B 8 (F i)).testBit (G i) = true
          cases y : (grS S A B 8 (F i)).testBit (G i) with
          | false => exact absurd (bb.mpr y) z
          | true => rfl
        rw [if_neg z]
        rw [if_pos tb] at es
        exact ⟨_, ih (i + 1) (by omega) (by omega) (by rw [a, es, nI_1]), rfl⟩
theorem c_tripsBy {M : Nat} (hM : M < 256) (ts : TS td tr A B H F G g) (w : WT n b L xs τ g h) : wp (f_X10_tripsBy 10000 (n + 33) (nI M) h) (fun r => r.1 = nI (ldN (fun s => M.testBit s) A B F G tr) ∧ ∃ X', WT n b L xs τ (gsA g 39 X') r.2) := by
  have w0 : WT n b L xs τ (gsA g 39 (g.2.1 39)) h := by rw [gA_id]; exact w
  have t8 := ts.2.1.2
  unfold f_X10_tripsBy
  refine wp_bind (c_tripsBy_L2 10000 0 w0 (by omega) (by omega) (fun p hp => absurd hp (Nat.not_lt_zero _))) fun m4 p4 => ?_
  obtain ⟨X4, w4, k4⟩ := p4
  refine wp_bind (c_tripsBy_L25 hM ts 10000 0 w4 (by omega) (by omega) k4) fun m13 p13 => ?_
  obtain ⟨X13, w13, k13⟩ := p13
  have e : f_X10_tripsBy_L71 10000 (n + 33) m13 10000 0 0 = some (nI (ldN (fun s => M.testBit s) A B F G tr)) := c_tripsBy_L71 (TS_TG ts (TG_39 g X13)) w13 k13 10000 0 (by omega) (by omega) rfl
  refine wp_eq e ?_
  exact wp_some ⟨rfl, X13, w13⟩
/-- what is led, for the sets of told streets below k -/
def LD (td tr : Nat) (A B F G : Nat → Nat) (k : Nat) (X : Nat → Int32) : Prop := ∀ x, x < k → (∀ s, s < 8 → x.testBit s = true → td.testBit s = true) → X x = nI (ldN (fun s => x.testBit s) A B F G tr)
theorem sub8 {x y : Nat} (hx : x < 256) (h : ∀ s, s < 8 → x.testBit s = true → y.testBit s = true) : nI x &&& (nI y ^^^ (-1)) = 0 := by
  have e : BitVec.ofNat 32 x &&& (BitVec.ofNat 32 y ^^^ BitVec.allOnes 32) = 0#32 := by
    apply BitVec.eq_of_getLsbD_eq
    intro i hi
    simp only [BitVec.getLsbD_and, BitVec.getLsbD_xor, BitVec.getLsbD_ofNat, BitVec.getLsbD_allOnes, hi, decide_true, Bool.true_and, BitVec.getLsbD_zero]
    by_cases i8 : i < 8
    · have k := h i i8
      cases h1 : x.testBit i <;> cases h2 : y.testBit i <;> simp_all
    · have : x < 2 ^ i := Nat.lt_of_lt_of_le hx (by
        have : 2 ^ 8 ≤ 2 ^ i := Nat.pow_le_pow_right (by omega) (by omega)
        omega)
      rw [Nat.testBit_lt_two_pow this, Bool.false_and, Nat.zero_testBit]
  exact congrArg (fun x => (⟨⟨x⟩⟩ : Int32)) e
theorem c_findPlans_L10 (ts : TS td tr A B H F G g) : ∀ (m k : Nat) {g1 : zGh} {h : zH}, WT n b L xs τ g1 h → TG g g1 → g1.2.1 40 = g.2.1 40 → g1.2.1 41 = g.2.1 41 → g1.1 33 8 = g.1 33 8 → k ≤ 256 → 256 - k < m → LD td tr A B F G k (g1.2.1 38) → wp (f_X10_findPlans_L10 10000 (n + 33) m (nI k) h) (fun r => ∃ g2, WT n b L xs τ g2 r ∧ TG g g2 ∧ g2.2.1 40 = g.2.1 40 ∧ g2.2.1 41 = g.2.1 41 ∧ g2.1 33 8 = g.1 33 8 ∧ LD td tr A B F G 256 (g2.2.1 38)) := by
  intro m
  induction m with
  | zero => intro k g1 h w tg e40 e41 e8 hk hm a; exact absurd hm (Nat.not_lt_zero _)
  | succ m ih =>
    intro k g1 h w tg e40 e41 e8 hk hm a
    have ts1 := TS_TG ts tg
    rw [f_X10_findPlans_L10.eq_2]
    refine wp_eq (gR_33_4 w) ?_
    refine wp_eq (aN_38 w) ?_
    by_cases e : k = 256
    · subst e
      rw [if_pos (by decide)]
      exact wp_some ⟨g1, w, tg, e40, e41, e8, a⟩
    · have k2 : k < 256 := by omega
      have q := h_ix (m := 256) (j := k) k2 (by omega)
      have e256 : nI 256 = 256 := rfl
      rw [e256] at q
      rw [if_neg (Int32.not_le.mpr q.2.1), nI_1]
      refine wp_eq (E_33_9 w) ?_
      rw [ts1.1.1]
      by_cases z : nI k &&& (nI td ^^^ (-1)) = 0
      · rw [if_pos z]
        refine wp_eq (gR_33_4 w) ?_
        refine wp_zif (ob_33 w) ?_
        refine wp_bind (c_tripsBy k2 ts1 w) fun q10 p10 => ?_
        obtain ⟨r1, X, w10⟩ := p10
        refine wp_bind (sI_38 w10 q.1 q.2.1) fun h11 w11 => ?_
        rw [q.2.2, r1] at w11
        refine ih (k + 1) w11 (TG_trans tg (TG_trans (TG_39 g1 X) (TG_38 _ _))) e40 e41 e8 (by omega) (by omega) (fun x hx hs => ?_)
        show upd (g1.2.1 38) k _ x = _
        by_cases ex : x = k
        · rw [ex, hu_at]
        · rw [hu_ne ex]
          exact a x (by omega) hs
      · rw [if_neg z]
        refine ih (k + 1) w tg e40 e41 e8 (by omega) (by omega) (fun x hx hs => ?_)
        by_cases ex : x = k
        · rw [ex] at hs
          exact absurd (sub8 k2 hs) z
        · exact a x (by omega) hs
end TOWN
