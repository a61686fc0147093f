/-! new cells and their kinds -/
section EQS
variable {n b L : Nat} {xs : Nat → Int32} {τ : Nat → Nat} {g : zGh} {h : zH}
theorem KO_mono {τ' : Nat → Nat} {ι ι' gi ga : Nat → Int32} {gl : Nat → Int64} {c : zE} (ht : ∀ a, τ a ≠ 0 → τ' a = τ a) (hi : ∀ a, τ a = 1 → ι' a = ι a) : ∀ (j : Nat), j < 100 → j ≠ 1 → KO n τ ι gi ga gl j c → KO n τ' ι' gi ga gl j c
  | 0, _, _, k => k
  | 1, _, h1, k => absurd rfl h1
  | 2, _, _, k => k
  | 3, _, _, k => k
  | 4, _, _, k => k
  | 5, _, _, k => k
  | 6, _, _, k => k
  | 7, _, _, k => k
  | 8, _, _, k => k
  | 9, _, _, k => k
  | 10, _, _, k => k
  | 11, _, _, k => by
    obtain ⟨f, e, r1, r2, r3⟩ := k
    exact ⟨f, e, fun q a ha => (ht a (by rw [r1 q a ha]; decide)).trans (r1 q a ha), r2, r3⟩
  | 12, _, _, k => k
  | 13, _, _, k => k
  | 14, _, _, k => k
  | 15, _, _, k => by
    obtain ⟨f, e, r1, r2, r3⟩ := k
    exact ⟨f, e, fun q a ha => (ht a (by rw [r1 q a ha]; decide)).trans (r1 q a ha), r2, fun q a ha => (r3 q a ha).trans (hi a (r1 q a ha)).symm⟩
  | 16, _, _, k => k
  | 17, _, _, k => k
  | 18, _, _, k => k
  | 19, _, _, k => k
  | 20, _, _, k => k
  | 21, _, _, k => k
  | 22, _, _, k => k
  | 23, _, _, k => k
  | 24, _, _, k => k
  | 25, _, _, k => k
  | 26, _, _, k => k
  | 27, _, _, k => k
  | 28, _, _, k => k
  | 29, _, _, k => k
  | 30, _, _, k => k
  | 31, _, _, k => k
  | 32, _, _, k => k
  | 33, _, _, k => k
  | 34, _, _, k => k
  | 35, _, _, k => k
  | 36, _, _, k => k
  | 37, _, _, k => k
  | 38, _, _, k => k
  | 39, _, _, k => k
  | 40, _, _, k => k
  | 41, _, _, k => k
  | 42, _, _, k => k
  | 43, _, _, k => k
  | 44, _, _, k => k
  | 45, _, _, k => k
  | 46, _, _, k => k
  | 47, _, _, k => k
  | 48, _, _, k => k
  | 49, _, _, k => k
  | 50, _, _, k => k
  | 51, _, _, k => k
  | 52, _, _, k => k
  | 53, _, _, k => k
  | 54, _, _, k => k
  | 55, _, _, k => k
  | 56, _, _, k => k
  | 57, _, _, k => k
  | 58, _, _, k => k
  | 59, _, _, k => k
  | 60, _, _, k => k
  | 61, _, _, k => k
  | 62, _, _, k => k
  | 63, _, _, k => k
  | 64, _, _, k => k
  | 65, _, _, k => k
  | 66, _, _, k => k
  | 67, _, _, k => k
  | 68, _, _, k => k
  | 69, _, _, k => k
  | 70, _, _, k => k
  | 71, _, _, k => k
  | 72, _, _, k => k
  | 73, _, _, k => k
  | 74, _, _, k => k
  | 75, _, _, k => k
  | 76, _, _, k => k
  | 77, _, _, k => k
  | 78, _, _, k => k
  | 79, _, _, k => k
  | 80, _, _, k => k
  | 81, _, _, k => k
  | 82, _, _, k => k
  | 83, _, _, k => k
  | 84, _, _, k => k
  | 85, _, _, k => k
  | 86, _, _, k => k
  | 87, _, _, k => k
  | 88, _, _, k => k
  | 89, _, _, k => k
  | 90, _, _, k => k
  | 91, _, _, k => k
  | 92, _, _, k => k
  | 93, _, _, k => k
  | 94, _, _, k => k
  | 95, _, _, k => k
  | 96, _, _, k => k
  | 97, _, _, k => k
  | 98, _, _, k => k
  | 99, _, _, k => k
  | j + 100, hj, _, _ => absurd hj (by omega)
theorem DO_mono {τ' : Nat → Nat} {ι G C : Nat → Int32} {a : Nat} {c : zE} (ht : ∀ a, τ a ≠ 0 → τ' a = τ a) (hb : ∀ a, τ' a = 1 → τ a = 1) : ∀ (t : Nat), DO τ ι G C a t c → DO τ' ι G C a t c
  | 0, k => k
  | 1, k => ⟨k.1, fun a' h1 h2 => k.2 a' (hb a' h1) h2⟩
  | 2, k => by
    obtain ⟨x, y, q, e, r, r2⟩ := k
    exact ⟨x, y, q, e, by rw [ht q (by omega)]; exact r, r2⟩
  | t + 3, k => k
theorem τ_new (w : WT n b L xs τ g h) {A : Nat} (hA : h.1.1 ≤ A) : τ A = 0 := by
  by_cases e : τ A = 0
  · exact e
  · have := (w.2.1 A e).2.1
    omega
theorem zn_ne {h : zH} {c : zE} {a : Nat} (e : a ≠ h.1.1) : (znew h c).2 a = h.2 a := if_neg e
theorem zn_same (h : zH) (c : zE) : (znew h c).2 h.1.1 = some c := if_pos rfl
theorem zn_set (h : zH) (c d : zE) : zset (znew h c) h.1.1 d = znew h d := by
  unfold zset znew
  refine Prod.ext rfl ?_
  funext q
  by_cases e : q = h.1.1 <;> simp [e]
theorem pF_new {h : zH} {ci k : Nat} {fs : List Value} {v : Value} (hk : k < fs.length) : pF (znew h (.inr (ci, fs))) h.1.1 ci k v = some (znew h (.inr (ci, fs.set k v))) := by
  rw [pF_of (zn_same h _) hk, zn_set]
theorem pZ_new {h : zH} {ci k : Nat} {fs : List Value} {x : Int32} (hx : x = 0 ∨ x = 1) (hk : k < fs.length) : pZ (znew h (.inr (ci, fs))) h.1.1 ci k x = some (znew h (.inr (ci, fs.set k (.int x)))) := by
  unfold pZ
  rw [if_pos hx, pF_new hk]
theorem WT.new {c : zE} (w : WT n b L xs τ g h) : WT n b L xs τ g (znew h c) := by
  obtain ⟨w1, w2, w3, w4, w5, w6⟩ := w
  refine ⟨fun i hi => ?_, fun a ha => ?_, ?_, ?_, ?_, ?_⟩
  · obtain ⟨d, e1, e2⟩ := w1 i hi
    exact ⟨d, (zn_ne (by omega)).trans e1, e2⟩
  · obtain ⟨a1, a2, d, e1, e2⟩ := w2 a ha
    exact ⟨a1, Nat.lt_succ_of_lt a2, d, (zn_ne (by omega)).trans e1, e2⟩
  · show n + 100 ≤ h.1.1 + 1
    omega
  · exact ⟨(zn_ne (by omega)).trans w4.1, w4.2⟩
  · refine ⟨(zn_ne ?_).trans w5.1, w5.2⟩
    show h.1.2 0 ≠ h.1.1
    omega
  · refine ⟨(zn_ne ?_).trans w6.1, w6.2⟩
    show h.1.2 5 ≠ h.1.1
    omega
theorem WT.raw {c : zE} {A : Nat} (w : WT n b L xs τ g h) (hA : n + 100 ≤ A) (t : τ A = 0) : WT n b L xs τ g (zset h A c) := by
  obtain ⟨w1, w2, w3, w4, w5, w6⟩ := w
  refine ⟨fun i hi => ?_, fun a ha => ?_, w3, ?_, ?_, ?_⟩
  · obtain ⟨d, e1, e2⟩ := w1 i hi
    exact ⟨d, (zs_ne (by omega)).trans e1, e2⟩
  · obtain ⟨a1, a2, d, e1, e2⟩ := w2 a ha
    exact ⟨a1, a2, d, (zs_ne (fun e => ha (by rw [e]; exact t))).trans e1, e2⟩
  · exact ⟨(zs_ne (by omega)).trans w4.1, w4.2⟩
  · refine ⟨(zs_ne ?_).trans w5.1, w5.2⟩
    show h.1.2 0 ≠ A
    omega
  · refine ⟨(zs_ne ?_).trans w6.1, w6.2⟩
    show h.1.2 5 ≠ A
    omega
def tu (τ : Nat → Nat) (A t : Nat) : Nat → Nat := fun a => if a = A then t else τ a
theorem tu_same (τ : Nat → Nat) (A t : Nat) : tu τ A t A = t := if_pos rfl
theorem tu_ne {A t a : Nat} (e : a ≠ A) : tu τ A t a = τ a := if_neg e
theorem tu_old {A t a : Nat} (t0 : τ A = 0) (ha : τ a ≠ 0) : tu τ A t a = τ a := tu_ne (fun e => ha (by rw [e]; exact t0))
theorem WT.ext {A t : Nat} {c : zE} (w : WT n b L xs τ g h) (h1 : n + 100 ≤ A) (h2 : A < h.1.1) (t0 : τ A = 0) (e : h.2 A = some c) (hk : t ≠ 1) (k : DO (tu τ A t) (g.2.1 1) (g.1 100) (g.2.1 101) A t c) : WT n b L xs (tu τ A t) g h := by
  obtain ⟨w1, w2, w3, w4⟩ := w
  have ht : ∀ a, τ a ≠ 0 → tu τ A t a = τ a := fun a ha => tu_old t0 ha
  have hb : ∀ a, tu τ A t a = 1 → τ a = 1 := by
    intro a ha
    by_cases ea : a = A
    · rw [ea, tu_same] at ha
      exact absurd ha hk
    · rwa [tu_ne ea] at ha
  refine ⟨fun i hi => ?_, fun a ha => ?_, w3, w4⟩
  · obtain ⟨d, e1, e2⟩ := w1 i hi
    refine ⟨d, e1, ?_⟩
    by_cases i1 : i = 1
    · subst i1
      obtain ⟨f, ef, r1, r2, r3, r4⟩ := e2
      exact ⟨f, ef, fun q a ha => (ht a (by rw [r1 q a ha]; decide)).trans (r1 q a ha), r2, r3, fun a ha => r4 a (hb a ha)⟩
    · exact KO_mono ht (fun _ _ => rfl) i hi i1 e2
  · by_cases ea : a = A
    · subst ea
      refine ⟨h1, h2, c, e, ?_⟩
      rw [tu_same]
      exact k
    · rw [tu_ne ea] at ha ⊢
      obtain ⟨a1, a2, d, e1, e2⟩ := w2 a ha
      exact ⟨a1, a2, d, e1, DO_mono ht hb _ e2⟩
/-- a new meeting: its index is k, its fields are F's -/
def gN (g : zGh) (A k : Nat) (F : Nat → Int32) : zGh := (fun p => if p = 100 then (fun y => if 16 * k ≤ y ∧ y < 16 * k + 16 then F (y - 16 * k) else g.1 100 y) else if p = 1 then upd (g.1 1) 1 (Int32.ofNat (k + 1)) else g.1 p, fun p => if p = 1 then upd (g.2.1 1) A (Int32.ofNat k) else g.2.1 p, g.2.2)
theorem gN_row {g : zGh} {A k : Nat} {F : Nat → Int32} {j z : Nat} (hz : z < 16) (hj : j ≠ k) : (gN g A k F).1 100 (16 * j + z) = g.1 100 (16 * j + z) := by
  show (if 16 * k ≤ 16 * j + z ∧ 16 * j + z < 16 * k + 16 then F (16 * j + z - 16 * k) else g.1 100 (16 * j + z)) = _
  exact if_neg (by omega)
theorem gN_own {g : zGh} {A k : Nat} {F : Nat → Int32} {z : Nat} (hz : z < 16) : (gN g A k F).1 100 (16 * k + z) = F z := by
  show (if 16 * k ≤ 16 * k + z ∧ 16 * k + z < 16 * k + 16 then F (16 * k + z - 16 * k) else g.1 100 (16 * k + z)) = _
  rw [if_pos (by omega), Nat.add_sub_cancel_left]
theorem WT.extM {A k : Nat} {F : Nat → Int32} {c : zE} (w : WT n b L xs τ g h) (h1 : n + 100 ≤ A) (h2 : A < h.1.1) (t0 : τ A = 0) (e : h.2 A = some c) (km : KM F c) (e1 : g.1 1 1 = Int32.ofNat k) (hk : k < 1000) : WT n b L xs (tu τ A 1) (gN g A k F) h := by
  have w0 := w
  obtain ⟨w1, w2, w3, w4⟩ := w
  have ht : ∀ a, τ a ≠ 0 → tu τ A 1 a = τ a := fun a ha => tu_old t0 ha
  have hne : ∀ a, τ a = 1 → a ≠ A := fun a ha e => by rw [e, t0] at ha; exact absurd ha (by decide)
  have hio : ∀ a, τ a = 1 → (gN g A k F).2.1 1 a = g.2.1 1 a := fun a ha => if_neg (hne a ha)
  have hiA : (gN g A k F).2.1 1 A = Int32.ofNat k := if_pos rfl
  have hck : (Int32.ofNat k).toNatClampNeg = k := by
    show (Int32.ofNat k).toInt.toNat = k
    rw [Int32.toInt_ofNat_of_lt (by omega)]
    omega
  have hlt : ∀ a, τ a = 1 → (g.2.1 1 a).toNatClampNeg < k := fun a ha => by
    have r := ix_r w0 ha
    rw [e1] at r
    have := clamp_lt r.1 r.2
    rwa [hck] at this
  have hb : ∀ a, tu τ A 1 a = 1 → a = A ∨ τ a = 1 := by
    intro a ha
    by_cases ea : a = A
    · exact Or.inl ea
    · exact Or.inr (by rwa [tu_ne ea] at ha)
  have k0 : (0 : Int32) ≤ Int32.ofNat k := by
    refine Int32.le_iff_toInt_le.mpr ?_
    rw [Int32.toInt_ofNat_of_lt (by omega)]
    show (0 : Int) ≤ _
    omega
  have k1 : Int32.ofNat k < Int32.ofNat (k + 1) := by
    refine Int32.lt_iff_toInt_lt.mpr ?_
    rw [Int32.toInt_ofNat_of_lt (by omega), Int32.toInt_ofNat_of_lt (by omega)]
    omega
  refine ⟨fun i hi => ?_, fun a ha => ?_, w3, w4⟩
  · obtain ⟨d, e1', e2⟩ := w1 i hi
    refine ⟨d, e1', ?_⟩
    by_cases i1 : i = 1
    · subst i1
      obtain ⟨f, ef, r1, r2, r3, r4⟩ := e2
      refine ⟨f, ef, fun q a ha => (ht a (by rw [r1 q a ha]; decide)).trans (r1 q a ha), r2, fun q a ha => (hio a (r1 q a ha)).trans (r3 q a ha), fun a ha => ?_⟩
      show 0 ≤ (gN g A k F).2.1 1 a ∧ (gN g A k F).2.1 1 a < Int32.ofNat (k + 1)
      rcases hb a ha with rfl | ha
      · rw [hiA]
        exact ⟨k0, k1⟩
      · rw [hio a ha]
        have r := ix_r w0 ha
        rw [e1] at r
        exact ⟨r.1, Int32.lt_trans r.2 k1⟩
    · have g1 : (gN g A k F).1 i = g.1 i := (if_neg (by omega)).trans (if_neg i1)
      have g2 : (gN g A k F).2.1 i = g.2.1 i := if_neg i1
      rw [g1, g2]
      exact KO_mono ht hio i hi i1 e2
  · by_cases ea : a = A
    · subst ea
      refine ⟨h1, h2, c, e, ?_⟩
      rw [tu_same]
      refine ⟨?_, fun a' ta' ea' => ?_⟩
      · obtain ⟨i, ec, r0, r1, r2, r3, r4, r5, rg⟩ := km
        refine ⟨i, ec, r0, r1, r2, r3, r4, r5, fun z hz => ?_⟩
        show i z = (gN g a k F).1 100 (16 * ((gN g a k F).2.1 1 a).toNatClampNeg + z)
        rw [hiA, hck, gN_own (by omega)]
        exact rg z hz
      · rcases hb a' ta' with h9 | h9
        · exact h9
        · rw [hio a' h9, hiA] at ea'
          have := hlt a' h9
          rw [ea', hck] at this
          omega
    · rw [tu_ne ea] at ha ⊢
      obtain ⟨a1, a2, d, e1', e2⟩ := w2 a ha
      refine ⟨a1, a2, d, e1', ?_⟩
      generalize hta : τ a = ta at e2 ⊢
      match ta, e2 with
      | 0, e2 => exact trivial
      | 1, e2 =>
        have r := ix_r w0 hta
        refine ⟨?_, fun a' ta' ea' => ?_⟩
        · obtain ⟨i, ec, r0, r1, r2, r3, r4, r5, rg⟩ := e2.1
          refine ⟨i, ec, r0, r1, r2, r3, r4, r5, fun z hz => ?_⟩
          show i z = (gN g A k F).1 100 (16 * ((gN g A k F).2.1 1 a).toNatClampNeg + z)
          have := hlt a hta
          rw [hio a hta, gN_row (by omega) (by omega)]
          exact rg z hz
        · rcases hb a' ta' with h9 | h9
          · rw [h9, hiA, hio a hta] at ea'
            have := hlt a hta
            rw [← ea', hck] at this
            omega
          · rw [hio a' h9, hio a hta] at ea'
            exact e2.2 a' h9 ea'
      | 2, e2 =>
        obtain ⟨x, y, q, ec, r, r2⟩ := e2
        exact ⟨x, y, q, ec, by rw [ht q (by omega)]; exact r, r2⟩
      | m + 3, e2 => exact e2
/-- what a law and its code hold is told of a new cell: its block -/
def gB (g : zGh) (A : Nat) (ix : Int32) (F : Nat → Int32) : zGh := gsA (gsA g 101 (fun y => if 1001 * A ≤ y ∧ y < 1001 * A + 1001 then F (y - 1001 * A) else g.2.1 101 y)) 11 (upd (g.2.1 11) A ix)
theorem gB_own {g : zGh} {A : Nat} {ix : Int32} {F : Nat → Int32} {z : Nat} (hz : z < 1001) : (gB g A ix F).2.1 101 (1001 * A + z) = F z := by
  show (if 1001 * A ≤ 1001 * A + z ∧ 1001 * A + z < 1001 * A + 1001 then F (1001 * A + z - 1001 * A) else g.2.1 101 (1001 * A + z)) = _
  rw [if_pos (by omega), Nat.add_sub_cancel_left]
theorem gB_out {g : zGh} {A a : Nat} {ix : Int32} {F : Nat → Int32} {z : Nat} (hz : z < 1001) (ha : a ≠ A) : (gB g A ix F).2.1 101 (1001 * a + z) = g.2.1 101 (1001 * a + z) := by
  show (if 1001 * A ≤ 1001 * a + z ∧ 1001 * a + z < 1001 * A + 1001 then F (1001 * a + z - 1001 * A) else g.2.1 101 (1001 * a + z)) = _
  exact if_neg (by omega)
theorem gB_ix (g : zGh) (A : Nat) (ix : Int32) (F : Nat → Int32) (a : Nat) : (gB g A ix F).2.1 11 a = if a = A then ix else g.2.1 11 a := rfl
theorem gB_1 (g : zGh) (A : Nat) (ix : Int32) (F : Nat → Int32) : (gB g A ix F).1 = g.1 := rfl
theorem gB_3 (g : zGh) (A : Nat) (ix : Int32) (F : Nat → Int32) : (gB g A ix F).2.2 = g.2.2 := rfl
theorem gB_2 {g : zGh} {A : Nat} {ix : Int32} {F : Nat → Int32} {j : Nat} (h1 : j ≠ 11) (h2 : j ≠ 101) : (gB g A ix F).2.1 j = g.2.1 j := by
  show (if j = 11 then _ else if j = 101 then _ else g.2.1 j) = _
  rw [if_neg h1, if_neg h2]
theorem WT.reB {A : Nat} {ix : Int32} {F : Nat → Int32} (w : WT n b L xs τ g h) (t0 : τ A = 0) : WT n b L xs τ (gB g A ix F) h := by
  obtain ⟨w1, w2, w3, w4⟩ := w
  have i1 : (gB g A ix F).2.1 1 = g.2.1 1 := gB_2 (by decide) (by decide)
  refine ⟨fun i hi => ?_, fun a ha => ?_, w3, w4⟩
  · obtain ⟨d, e1, e2⟩ := w1 i hi
    refine ⟨d, e1, ?_⟩
    rw [i1, gB_1, gB_3]
    by_cases e11 : i = 11
    · subst e11
      obtain ⟨f, ef, r1, r2, r3⟩ := e2
      refine ⟨f, ef, r1, r2, fun k a ha => ?_⟩
      have ta := r1 k a ha
      rw [gB_ix, if_neg (fun e => by rw [e, t0] at ta; exact absurd ta (by decide))]
      exact r3 k a ha
    · rw [gB_2 e11 (by omega)]
      exact e2
  · obtain ⟨a1, a2, d, e1, e2⟩ := w2 a ha
    refine ⟨a1, a2, d, e1, ?_⟩
    have ne : a ≠ A := fun e => ha (by rw [e]; exact t0)
    rw [i1, gB_1]
    generalize τ a = t at e2 ⊢
    match t, e2 with
    | 0, e2 => exact trivial
    | 1, e2 => exact e2
    | 2, e2 =>
      obtain ⟨x, y, q, ec, r1, r2, r3, r4⟩ := e2
      refine ⟨x, y, q, ec, r1, r2, ?_, ?_⟩
      · have := gB_out (g := g) (ix := ix) (F := F) (z := 0) (by decide) ne
        rw [Nat.add_zero] at this
        rw [this]
        exact r3
      · rw [gB_out (by decide) ne]
        exact r4
    | m + 3, e2 =>
      obtain ⟨f, ec, r1, r2, r3⟩ := e2
      exact ⟨f, ec, r1, r2, fun k hk => by rw [gB_out (by omega) ne]; exact r3 k hk⟩
theorem sQ_11 {i : Int32} {a : Nat} (w : WT n b L xs τ g h) (i0 : 0 ≤ i) (i1 : i < 16) (t : τ a = 2) (e1 : g.1 11 0 = i) (e2 : g.2.1 11 a = i) : wp (sQ h (n + 11) i a) (fun h2 => WT n b L xs τ (gset g 11 0 (i + 1)) h2) := by
  obtain ⟨c, e, ⟨f, rfl, r, r2, r3⟩⟩ := w.1 11 (by decide)
  obtain ⟨p, q⟩ := i32_clamp i0 (N := 16) (by decide) i1
  refine ⟨_, by simp [sQ, e, p, q, ob_l w t]; rfl, w.put (j := 11) (by decide) ⟨_, rfl, fun k x hx => ?_, fun k hk => ?_, fun k x hx => ?_⟩ (fun q hq => gset_ne hq)⟩
  · by_cases ek : k = i.toNatClampNeg
    · simp [va_up, ek] at hx
      exact hx ▸ t
    · simp [va_up, ek] at hx
      exact r k x hx
  · by_cases ek : k = i.toNatClampNeg
    · exact ⟨a, by simp [va_up, ek]⟩
    · have hk' : k < (i + 1).toNatClampNeg := hk
      have x := i32_0 i0
      have y : (i + 1).toInt = i.toInt + 1 := ti_1 i0 (by lia)
      have hk2 : k < i.toNatClampNeg := by
        have z : k < (i + 1).toInt.toNat := hk'
        have ek2 : k ≠ i.toInt.toNat := ek
        show k < i.toInt.toNat
        omega
      obtain ⟨z, ez⟩ := r2 k (by rw [e1]; exact hk2)
      exact ⟨z, by simp [va_up, ek, ez]⟩
  · show g.2.1 11 x = Int32.ofNat k
    by_cases ek : k = i.toNatClampNeg
    · simp [va_up, ek] at hx
      rw [← hx, e2, ek]
      exact (ix_nI i0).symm
    · simp [va_up, ek] at hx
      exact r3 k x hx
theorem WT.big (w : WT n b L xs τ g h) : n + 100 ≤ h.1.1 := w.2.2.1
theorem sQ_1 {i : Int32} {a : Nat} (w : WT n b L xs τ g h) (i0 : 0 ≤ i) (i1 : i < 40) (t : τ a = 1) (e1 : g.1 1 0 = i) (e2 : g.2.1 1 a = i) : wp (sQ h (n + 1) i a) (fun h2 => WT n b L xs τ (gset g 1 0 (i + 1)) h2) := by
  obtain ⟨c, e, ⟨f, rfl, r, r2, r3, r4⟩⟩ := w.1 1 (by decide)
  obtain ⟨p, q⟩ := i32_clamp i0 (N := 40) (by decide) i1
  refine ⟨_, by simp [sQ, e, p, q, ob_m w t]; rfl, w.put (j := 1) (by decide) ⟨_, rfl, fun k x hx => ?_, fun k hk => ?_, fun k x hx => ?_, r4⟩ (fun q hq => gset_ne hq)⟩
  · by_cases ek : k = i.toNatClampNeg
    · simp [va_up, ek] at hx
      exact hx ▸ t
    · simp [va_up, ek] at hx
      exact r k x hx
  · by_cases ek : k = i.toNatClampNeg
    · exact ⟨a, by simp [va_up, ek]⟩
    · have hk' : k < (i + 1).toNatClampNeg := hk
      have x := i32_0 i0
      have y : (i + 1).toInt = i.toInt + 1 := ti_1 i0 (by lia)
      have hk2 : k < i.toNatClampNeg := by
        have z : k < (i + 1).toInt.toNat := hk'
        have ek2 : k ≠ i.toInt.toNat := ek
        show k < i.toInt.toNat
        omega
      obtain ⟨z, ez⟩ := r2 k (by rw [e1]; exact hk2)
      exact ⟨z, by simp [va_up, ek, ez]⟩
  · by_cases ek : k = i.toNatClampNeg
    · simp [va_up, ek] at hx
      rw [ek, ix_nI i0, ← hx]
      exact e2
    · simp [va_up, ek] at hx
      exact r3 k x hx
theorem ix_1 {i : Int32} {a : Nat} (w : WT n b L xs τ g h) (i0 : 0 ≤ i) (i1 : i < 40) (e : aQ h (n + 1) i = some (some a)) : g.2.1 1 a = i := by
  obtain ⟨c, ec, ⟨f, rfl, r, r2, r3, r4⟩⟩ := w.1 1 (by decide)
  have e9 := aQ_to ec (Or.inl rfl) (by decide) i0 i1
  rw [e] at e9
  have e8 := r3 _ _ (Option.some.inj e9).symm
  rw [e8, ix_nI i0]
end EQS
