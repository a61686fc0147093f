/-! customs: pairs of words, in their order; what is so -/
def cS : Nat → Nat
  | 0 => 0
  | a + 1 => cS a + (16 - a - (if a < 8 then 1 else 0))
def cI (a b : Nat) : Nat := cS a + (b - a - (if a + 8 < b then 1 else 0))
def cA (c : Nat) : Nat := ((List.range 16).find? (fun a => decide (c < cS (a + 1)))).getD 0
def cB (c : Nat) : Nat := cA c + (c - cS (cA c)) + (if cA c < 8 ∧ 8 ≤ c - cS (cA c) then 1 else 0)
theorem cI_AB0 : ∀ a, a < 16 → ∀ b, b < 16 → (b < a ∨ b = a + 8) ∨ (cI a b < 128 ∧ cA (cI a b) = a ∧ cB (cI a b) = b ∧ cI a (b + 1) = cI a b + 1) := by decide +kernel
theorem cI_AB (a : Nat) (ha : a < 16) (b : Nat) (hb : b < 16) (h1 : a ≤ b) (h2 : ¬ b = a + 8) : cI a b < 128 ∧ cA (cI a b) = a ∧ cB (cI a b) = b ∧ cI a (b + 1) = cI a b + 1 := (cI_AB0 a ha b hb).resolve_left (by omega)
theorem cI_no : ∀ a, a < 16 → cI a (a + 8 + 1) = cI a (a + 8) := by decide +kernel
theorem cI_nx : ∀ a, a < 16 → cI a 16 = cI (a + 1) (a + 1) := by decide +kernel
theorem cI_end : cI 16 16 = 128 := by decide +kernel
theorem cAB_r : ∀ c, c < 128 → cA c < 16 ∧ cB c < 16 := by decide +kernel
/-- a WORD is so of these SIGNS -/
def hsW (s w : Nat) : Bool := s.testBit (w % 8) == decide (w < 8)
def soC (c s : Nat) : Bool := hsW s (cA c) && hsW s (cB c)
def mkC (c : Nat) : Int32 := ((1 : Int32) <<< (nI (cA c) &&& 31)) ||| ((1 : Int32) <<< (nI (cB c) &&& 31))
def wdN (s : Nat) : Int32 := nI s ||| (((nI s ^^^ (-1)) &&& 255) <<< (8 &&& 31))
theorem so_cls0 : ∀ s, s < 256 → ∀ a, a < 16 → ∀ b, b < 16 → p_X0_isSo (((1 : Int32) <<< (nI a &&& 31)) ||| ((1 : Int32) <<< (nI b &&& 31))) (wdN s) = bI (hsW s a && hsW s b) := by decide +kernel
theorem so_cls {s c : Nat} (hs : s < 256) (hc : c < 128) : p_X0_isSo (mkC c) (wdN s) = bI (soC c s) := so_cls0 s hs _ (cAB_r c hc).1 _ (cAB_r c hc).2
theorem has_ref : ∀ s, s < 256 → ∀ w, w < 16 → (if ((nI s >>> ((nI w - nI w / 8 * 8) &&& 31)) &&& 1) = (if (8 : Int32) ≤ nI w then 0 else 1) then (1 : Int32) else 0) = bI (hsW s w) := by decide +kernel
theorem bit_cls0 : ∀ a, a < 16 → ∀ b, b < 16 → ∀ w, w < 16 → (((((1 : Int32) <<< (nI a &&& 31)) ||| ((1 : Int32) <<< (nI b &&& 31))) >>> (nI w &&& 31)) &&& 1 = 0 ↔ ¬ (a = w ∨ b = w)) := by decide +kernel
theorem bit_cls {c w : Nat} (hc : c < 128) (hw : w < 16) : ((mkC c >>> (nI w &&& 31)) &&& 1 = 0) ↔ ¬ (cA c = w ∨ cB c = w) := bit_cls0 _ (cAB_r c hc).1 _ (cAB_r c hc).2 w hw
/-- some custom has not the word -/
theorem noWord : ∀ w, w < 16 → ∃ c, c < 128 ∧ ¬ (cA c = w ∨ cB c = w) := by
  intro w hw
  by_cases e : w = 0
  · exact ⟨cI 1 1, by decide +kernel, by rw [e]; decide +kernel⟩
  · refine ⟨0, by decide, ?_⟩
    have a : cA 0 = 0 := by decide +kernel
    have b : cB 0 = 0 := by decide +kernel
    rw [a, b]
    omega
/-! how many below c -/
def cnt (p : Nat → Bool) : Nat → Nat
  | 0 => 0
  | c + 1 => cnt p c + (if p c = true then 1 else 0)
theorem cnt_y {p : Nat → Bool} {c : Nat} (h : p c = true) : cnt p (c + 1) = cnt p c + 1 := by
  show cnt p c + (if p c = true then 1 else 0) = _
  rw [if_pos h]
theorem cnt_n {p : Nat → Bool} {c : Nat} (h : ¬ p c = true) : cnt p (c + 1) = cnt p c := by
  show cnt p c + (if p c = true then 1 else 0) = _
  rw [if_neg h]
  rfl
theorem cnt_le (p : Nat → Bool) : ∀ c, cnt p c ≤ c := by
  intro c
  induction c with
  | zero => exact Nat.le_refl _
  | succ c ih =>
    by_cases h : p c = true
    · rw [cnt_y h]; omega
    · rw [cnt_n h]; omega
theorem cnt_add (p : Nat → Bool) (c : Nat) : ∀ d, cnt p c ≤ cnt p (c + d) := by
  intro d
  induction d with
  | zero => exact Nat.le_refl _
  | succ d ih =>
    by_cases h : p (c + d) = true
    · rw [← Nat.add_assoc, cnt_y h]; omega
    · rw [← Nat.add_assoc, cnt_n h]; exact ih
theorem cnt_mono {p : Nat → Bool} {c d : Nat} (h : c ≤ d) : cnt p c ≤ cnt p d := by
  obtain ⟨e, rfl⟩ : ∃ e, d = c + e := ⟨d - c, by omega⟩
  exact cnt_add p c e
theorem cnt_lt {p : Nat → Bool} {c d : Nat} (hp : p c = true) (h : c < d) : cnt p c < cnt p d := by
  have a := cnt_mono (p := p) (show c + 1 ≤ d from h)
  rw [cnt_y hp] at a
  omega
theorem cnt_sub {p q : Nat → Bool} (h : ∀ c, q c = true → p c = true) : ∀ c, cnt q c ≤ cnt p c := by
  intro c
  induction c with
  | zero => exact Nat.le_refl _
  | succ c ih =>
    by_cases hq : q c = true
    · rw [cnt_y hq, cnt_y (h c hq)]; omega
    · rw [cnt_n hq]
      exact Nat.le_trans ih (cnt_mono (Nat.le_succ c))
theorem cnt_gap {p : Nat → Bool} {c : Nat} : ∀ d, (∀ e, c ≤ e → e < c + d → ¬ p e = true) → cnt p (c + d) = cnt p c := by
  intro d
  induction d with
  | zero => intro _; rfl
  | succ d ih =>
    intro h
    rw [← Nat.add_assoc, cnt_n (h (c + d) (by omega) (by omega))]
    exact ih (fun e h1 h2 => h e h1 (by omega))
theorem cnt_gap' {p : Nat → Bool} {c d : Nat} (hd : c ≤ d) (h : ∀ e, c ≤ e → e < d → ¬ p e = true) : cnt p d = cnt p c := by
  obtain ⟨e, rfl⟩ : ∃ e, d = c + e := ⟨d - c, by omega⟩
  exact cnt_gap e h
theorem cnt_next {p : Nat → Bool} : ∀ (d c : Nat), cnt p c < cnt p (c + d) → ∃ e, c ≤ e ∧ e < c + d ∧ p e = true ∧ ∀ f, c ≤ f → f < e → ¬ p f = true := by
  intro d
  induction d with
  | zero => intro c h; exact absurd h (Nat.lt_irrefl _)
  | succ d ih =>
    intro c h
    by_cases hp : p c = true
    · exact ⟨c, Nat.le_refl _, by omega, hp, fun f h1 h2 => absurd h2 (by omega)⟩
    · have e1 : c + 1 + d = c + (d + 1) := by omega
      obtain ⟨e, a1, a2, a3, a4⟩ := ih (c + 1) (by rw [cnt_n hp, e1]; exact h)
      refine ⟨e, by omega, by omega, a3, fun f h1 h2 => ?_⟩
      by_cases ef : f = c
      · rw [ef]; exact hp
      · exact a4 f (by omega) h2
theorem cnt_all {p : Nat → Bool} : ∀ m, (∀ c, c < m → p c = true) → cnt p m = m := by
  intro m
  induction m with
  | zero => intro _; rfl
  | succ m ih =>
    intro h
    rw [cnt_y (h m (by omega)), ih (fun c hc => h c (by omega))]
theorem cnt_congr {p q : Nat → Bool} : ∀ m, (∀ c, c < m → p c = q c) → cnt p m = cnt q m := by
  intro m
  induction m with
  | zero => intro _; rfl
  | succ m ih =>
    intro h
    show cnt p m + (if p m = true then 1 else 0) = cnt q m + (if q m = true then 1 else 0)
    rw [ih (fun c hc => h c (by omega)), h m (by omega)]
theorem cnt_0 {p : Nat → Bool} {m : Nat} : cnt p m = 0 ↔ ∀ c, c < m → ¬ p c = true := by
  constructor
  · intro h c hc hp
    have := cnt_lt hp hc
    omega
  · intro h
    have := cnt_gap' (p := p) (Nat.zero_le m) (fun e _ h2 => h e h2)
    exact this
theorem cnt_eq {p q : Nat → Bool} (h : ∀ c, q c = true → p c = true) : ∀ m, cnt q m = cnt p m ↔ ∀ c, c < m → p c = true → q c = true := by
  intro m
  induction m with
  | zero => exact ⟨fun _ c hc => absurd hc (by omega), fun _ => rfl⟩
  | succ m ih =>
    have le := cnt_sub h m
    by_cases hq : q m = true
    · rw [cnt_y hq, cnt_y (h m hq)]
      constructor
      · intro e c hc hp
        by_cases ec : c = m
        · rw [ec]; exact hq
        · exact (ih.mp (by omega)) c (by omega) hp
      · intro a
        have := ih.mpr (fun c hc => a c (by omega))
        omega
    · rw [cnt_n hq]
      by_cases hp : p m = true
      · rw [cnt_y hp]
        constructor
        · intro e; omega
        · intro a; exact absurd (a m (by omega) hp) hq
      · rw [cnt_n hp]
        constructor
        · intro e c hc hpc
          by_cases ec : c = m
          · rw [ec] at hpc; exact absurd hpc hp
          · exact (ih.mp e) c (by omega) hpc
        · intro a
          exact ih.mpr (fun c hc => a c (by omega))
/-! SIGNS as a number -/
def bN (b : Bool) (k : Nat) : Nat := if b = true then k else 0
def sgB (b0 b1 b2 b3 b4 b5 b6 b7 : Bool) : Nat := bN b0 1 + bN b1 2 + bN b2 4 + bN b3 8 + bN b4 16 + bN b5 32 + bN b6 64 + bN b7 128
theorem sgB_lt (b0 b1 b2 b3 b4 b5 b6 b7 : Bool) : sgB b0 b1 b2 b3 b4 b5 b6 b7 < 256 := by
  revert b0 b1 b2 b3 b4 b5 b6 b7
  decide +kernel
theorem sg_cls (b0 b1 b2 b3 b4 b5 b6 b7 : Bool) : ((((((((p_X6_bit 0 (bI b0)) ||| (p_X6_bit 1 (bI b1))) ||| (p_X6_bit 2 (bI b2))) ||| (p_X6_bit 3 (bI b3))) ||| (p_X6_bit 4 (bI b4))) ||| (p_X6_bit 5 (bI b5))) ||| (p_X6_bit 6 (bI b6))) ||| (p_X6_bit 7 (bI b7))) = nI (sgB b0 b1 b2 b3 b4 b5 b6 b7) := by
  revert b0 b1 b2 b3 b4 b5 b6 b7
  decide +kernel
def zb (b : Bool) (k : Int32) : Int32 := if b = true then k else 0
theorem sg_ref (b0 b1 b2 b3 b4 b5 b6 b7 : Bool) (h : ¬ (b1 = true ∧ b2 = true)) : (((((((zb b0 1) ||| (if b1 = true then 2 else zb b2 4)) ||| (zb b3 8)) ||| (zb b4 16)) ||| (zb b5 32)) ||| (zb b6 64)) ||| (zb b7 128)) = nI (sgB b0 b1 b2 b3 b4 b5 b6 b7) := by
  revert b0 b1 b2 b3 b4 b5 b6 b7
  decide +kernel
