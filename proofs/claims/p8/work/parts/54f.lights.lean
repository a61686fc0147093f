/-! the lights of the reference -/
def needS (w s gr : Int32) : Int32 := if (if w = 0 then 0 else ((10 * w + s) - 1) / s) ≤ gr then gr else (if w = 0 then 0 else ((10 * w + s) - 1) / s)
def CR (nd cm : Nat → Int32) (mt : Nat → Nat → Bool) (g : zGh) : Prop := (∀ s, s < 4 → g.2.1 81 s = (if 0 < nd s then 1 else 0)) ∧ (∀ s, s < 4 → 0 < nd s → needS (g.2.1 82 s) (g.2.1 83 s) (g.2.1 84 s) = nd s ∧ (g.2.1 82 s = 0 ∨ ¬ g.2.1 83 s = 0) ∧ g.2.1 85 s = cm s) ∧ (∀ s q, s < 4 → q < 4 → s ≠ q → (g.2.1 86 (4 * s + q) = 0 ↔ mt s q = false))
theorem CR_CG {nd cm : Nat → Int32} {mt : Nat → Nat → Bool} {g g' : zGh} (c : CR nd cm mt g) (p : CG g g') : CR nd cm mt g' := by
  unfold CR
  rw [p.2.1 81 (by decide) (by decide), p.2.1 82 (by decide) (by decide), p.2.1 83 (by decide) (by decide), p.2.1 84 (by decide) (by decide), p.2.1 85 (by decide) (by decide), p.2.1 86 (by decide) (by decide)]
  exact c
section LIGHTS
variable {n b L : Nat} {xs : Nat → Int32} {τ : Nat → Nat} {g : zGh} {h : zH} {nd cm : Nat → Int32} {mt : Nat → Nat → Bool} {c i : Nat} {lost : Int32} {a : Nat × (Nat → Int32)}
theorem r_needOf (w : WT n b L xs τ g h) (cr : CR nd cm mt g) (hi : i < 4) (t : 0 < nd i) : f_X12_needOf 10000 (n + 42) (nI i) h = some (nd i) := by
  obtain ⟨c1, c2, -⟩ := cr.2.1 i hi t
  apply wp_is
  unfold f_X12_needOf
  unfold needS at c1
  refine wp_eq (gR_42_58 w) ?_
  refine wp_eq (A_82 w (q4 hi).1 (q4 hi).2.1) ?_
  rw [(q4 hi).2.2]
  refine wp_eq (a := if g.2.1 82 i = 0 then 0 else ((10 * g.2.1 82 i + g.2.1 83 i) - 1) / g.2.1 83 i) ?_ ?_
  · by_cases z : g.2.1 82 i = 0
    · rw [if_pos z, if_pos z]
    · have nz : ¬ g.2.1 83 i = 0 := c2.resolve_left z
      rw [if_neg z, if_neg z]
      apply wp_is
      refine wp_eq (gR_42_58 w) ?_
      refine wp_eq (A_82 w (q4 hi).1 (q4 hi).2.1) ?_
      refine wp_eq (gR_42_59 w) ?_
      refine wp_eq (A_83 w (q4 hi).1 (q4 hi).2.1) ?_
      rw [(q4 hi).2.2]
      refine wp_eq (a := ((10 * g.2.1 82 i + g.2.1 83 i) - 1) / g.2.1 83 i) ?_ (wp_some rfl)
      apply wp_is
      unfold f_X12_upwards
      exact wp_zdiv nz (wp_some rfl)
  · refine wp_eq (gR_42_60 w) ?_
    refine wp_eq (A_84 w (q4 hi).1 (q4 hi).2.1) ?_
    rw [(q4 hi).2.2]
    by_cases z : (if g.2.1 82 i = 0 then 0 else ((10 * g.2.1 82 i + g.2.1 83 i) - 1) / g.2.1 83 i) ≤ g.2.1 84 i
    · rw [if_pos z] at c1 ⊢
      refine wp_eq (gR_42_60 w) ?_
      refine wp_eq (A_84 w (q4 hi).1 (q4 hi).2.1) ?_
      rw [(q4 hi).2.2]
      exact wp_some c1
    · rw [if_neg z] at c1 ⊢
      exact wp_some c1
theorem r_arePhases_L57 (w : WT n b L xs τ g h) (cr : CR nd cm mt g) (hi : i < 4) (hc : c < 256) : ∀ (m q : Nat), q ≤ i → i - q < m → jnS nd mt c i q = true → f_X12_arePhases_L57 10000 (n + 42) (nI c) (nI i) (nI (ph c i)) h m (nI q) = some (if jnS nd mt c i i = true then .inl () else .inr 0) := by
  intro m
  induction m with
  | zero => intro q hq hm hj; exact absurd hm (Nat.not_lt_zero _)
  | succ m ih =>
    intro q hq hm hj
    apply wp_is
    rw [f_X12_arePhases_L57.eq_2]
    by_cases e : q = i
    · rw [e] at hj ⊢
      rw [if_pos (Int32.le_refl _), if_pos hj]
      exact wp_some rfl
    · have hq4 : q < 4 := by omega
      rw [if_neg (Int32.not_le.mpr (hI_lt (by omega) (by omega)))]
      refine wp_eq (gR_42_57 w) ?_
      refine wp_eq (A_81 w (q4 hq4).1 (q4 hq4).2.1) ?_
      rw [(q4 hq4).2.2, cr.1 q hq4, nI_1]
      have nx : jnS nd mt c i (q + 1) = (jnS nd mt c i q && (if 0 < nd q ∧ ph c q = ph c i then mt i q else true)) := rfl
      rw [hj, Bool.true_and] at nx
      by_cases t : 0 < nd q
      · rw [if_pos t, if_neg ne10]
        by_cases e2 : ph c q = ph c i
        · rw [if_pos (show p_X12_phaseOf (nI c) (nI q) = nI (ph c i) by rw [ph_12 hc hq4, e2])]
          rw [if_pos (And.intro t e2)] at nx
          refine wp_eq (gR_42_62 w) ?_
          have i1 : (4 : Int32) * nI i + nI q = nI (4 * i + q) := by
            have e4 : (4 : Int32) = nI 4 := rfl
            rw [e4, hI_mul, nI_add]
          have qq := h_ix (m := 16) (j := 4 * i + q) (by omega) (by omega)
          have e16 : nI 16 = 16 := rfl
          rw [e16] at qq
          rw [i1]
          refine wp_eq (A_86 w qq.1 qq.2.1) ?_
          rw [qq.2.2]
          have mb := cr.2.2 i q hi hq4 (by omega)
          by_cases z : g.2.1 86 (4 * i + q) = 0
          · have f : jnS nd mt c i (q + 1) = false := by rw [nx]; exact mb.mp z
            rw [if_pos z, if_neg (jn_end f (by omega))]
            exact wp_some rfl
          · have f : jnS nd mt c i (q + 1) = true := by
              rw [nx]
              cases y : mt i q with
              | false => exact absurd (mb.mpr y) z
              | true => rfl
            rw [if_neg z]
            exact ⟨_, ih (q + 1) (by omega) (by omega) f, rfl⟩
        · rw [if_neg (show ¬ (0 < nd q ∧ ph c q = ph c i) from fun z => e2 z.2)] at nx
          rw [if_neg (show ¬ p_X12_phaseOf (nI c) (nI q) = nI (ph c i) from fun z => e2 (by
            rw [ph_12 hc hq4] at z
            exact nI_inj (by have := ph_lt c q; omega) (by have := ph_lt c i; omega) z))]
          exact ⟨_, ih (q + 1) (by omega) (by omega) nx, rfl⟩
      · rw [if_neg t, if_pos eq00]
        rw [if_neg (show ¬ (0 < nd q ∧ ph c q = ph c i) from fun z => t z.1)] at nx
        exact ⟨_, ih (q + 1) (by omega) (by omega) nx, rfl⟩
theorem r_arePhases_L4 (w : WT n b L xs τ g h) (cr : CR nd cm mt g) (hc : c < 256) : ∀ (m i : Nat) {a : Nat × (Nat → Int32)}, i ≤ 4 → 4 - i < m → arS nd mt c i = some a → f_X12_arePhases_L4 10000 (n + 42) (nI c) h m (nI a.1) (nI i) = some (match arS nd mt c 4 with | none => .inr 0 | some a => .inl (nI a.1)) := by
  intro m
  induction m with
  | zero => intro i a hi hm ar; exact absurd hm (Nat.not_lt_zero _)
  | succ m ih =>
    intro i a hi hm ar
    apply wp_is
    rw [f_X12_arePhases_L4.eq_2]
    by_cases e4 : i = 4
    · subst e4
      rw [if_pos (by decide), ar]
      exact wp_some rfl
    · have i4 : i < 4 := by omega
      have al := ar_le i ar
      have pl := ph_lt c i
      rw [if_neg (Int32.not_le.mpr (q4 i4).2.1)]
      refine wp_zlet ?_
      rw [ph_12 hc i4, nI_1]
      refine wp_eq (gR_42_57 w) ?_
      refine wp_eq (A_81 w (q4 i4).1 (q4 i4).2.1) ?_
      rw [(q4 i4).2.2, cr.1 i i4]
      by_cases t : 0 < nd i
      · rw [if_pos t, if_neg ne10]
        by_cases le : ph c i ≤ a.1
        · rw [if_pos (nI_r le (by omega)).2]
          refine wp_eq (a := nI (if a.1 < ph c i + 1 then ph c i + 1 else a.1)) ?_ ?_
          · by_cases ep : ph c i = a.1
            · rw [if_pos (show nI (ph c i) = nI a.1 by rw [ep]), if_pos (show a.1 < ph c i + 1 by omega), nI_1, ep]
            · rw [if_neg (show ¬ nI (ph c i) = nI a.1 from fun z => ep (nI_inj (by omega) (by omega) z)), if_neg (show ¬ a.1 < ph c i + 1 by omega)]
          · have jl : f_X12_arePhases_L57 10000 (n + 42) (nI c) (nI i) (nI (ph c i)) h 10000 0 = some (if jnS nd mt c i i = true then .inl () else .inr 0) := r_arePhases_L57 w cr i4 hc 10000 0 (by omega) (by omega) rfl
            refine wp_eq jl ?_
            by_cases j : jnS nd mt c i i = true
            · rw [if_pos j]
              refine wp_zwL ?_
              exact ⟨_, ih (i + 1) (by omega) (by omega) (ar_told ar t ⟨le, j⟩), rfl⟩
            · rw [if_neg j, ar_end (ar_f1 ar t (fun z => j z.2)) (by omega)]
              exact wp_zwR rfl
        · rw [if_neg (show ¬ nI (ph c i) ≤ nI a.1 from fun z => le (by
            by_cases y : ph c i ≤ a.1
            · exact y
            · exact absurd z (Int32.not_le.mpr (hI_lt (by omega) (by omega))))), ar_end (ar_f1 ar t (fun z => le z.1)) (by omega)]
          exact wp_some rfl
      · rw [if_neg t, if_pos eq00]
        by_cases p0 : ph c i = 0
        · rw [if_pos (show nI (ph c i) = 0 by rw [p0]; rfl)]
          exact ⟨_, ih (i + 1) (by omega) (by omega) (ar_not ar t p0), rfl⟩
        · rw [if_neg (show ¬ nI (ph c i) = 0 from fun z => p0 (nI_inj (b := 0) (by omega) (by omega) z)), ar_end (ar_f2 ar t p0) (by omega)]
          exact wp_some rfl
theorem r_arePhases (w : WT n b L xs τ g h) (cr : CR nd cm mt g) (hc : c < 256) : f_X12_arePhases 10000 (n + 42) (nI c) h = some (match arS nd mt c 4 with | none => 0 | some a => if a.1 = 0 then 0 else 1) := by
  have e : f_X12_arePhases_L4 10000 (n + 42) (nI c) h 10000 0 0 = some (match arS nd mt c 4 with | none => .inr 0 | some a => .inl (nI a.1)) := r_arePhases_L4 w cr hc 10000 0 (a := (0, fun _ => 0)) (by omega) (by omega) rfl
  unfold f_X12_arePhases
  rw [e]
  rcases ha : arS nd mt c 4 with _ | a
  · rfl
  · have l := ar_le 4 ha
    show (if nI a.1 ≤ 0 then some (0 : Int32) else some 1) = some (if a.1 = 0 then 0 else 1)
    by_cases z : a.1 = 0
    · rw [if_pos z, z]
      rfl
    · have y : (0 : Int32) < nI a.1 := hI_lt (j := 0) (by omega) (by omega)
      rw [if_neg z, if_neg (Int32.not_le.mpr y)]
theorem r_roundOf_L22 {p : Nat} (cr : CR nd cm mt g) (hp : p < 4) (hc : c < 256) {F0 : Nat → Int32} : ∀ (m s : Nat) {F : Nat → Int32} {h : zH}, WT n b L xs τ (gsA g 87 F) h → s ≤ 4 → 4 - s < m → F p = lnS nd c p s → (∀ k, k ≠ p → F k = F0 k) → wp (f_X12_roundOf_L22 10000 (n + 42) (nI c) (nI p) m (nI s) h) (fun r => ∃ F', WT n b L xs τ (gsA g 87 F') r ∧ F' p = lnS nd c p 4 ∧ ∀ k, k ≠ p → F' k = F0 k) := by
  intro m
  induction m with
  | zero => intro s F h w hs hm e1 e2; exact absurd hm (Nat.not_lt_zero _)
  | succ m ih =>
    intro s F h w hs hm e1 e2
    rw [f_X12_roundOf_L22.eq_2]
    by_cases e4 : s = 4
    · subst e4
      rw [if_pos (by decide)]
      exact wp_some ⟨F, w, e1, e2⟩
    · have s4 : s < 4 := by omega
      have cr' : CR nd cm mt (gsA g 87 F) := CR_CG cr (CG_87 g F)
      rw [if_neg (Int32.not_le.mpr (q4 s4).2.1), nI_1]
      refine wp_eq (gR_42_57 w) ?_
      refine wp_eq (A_81 w (q4 s4).1 (q4 s4).2.1) ?_
      rw [(q4 s4).2.2, cr'.1 s s4]
      refine wp_eq (a := if 0 < nd s ∧ ph c s = p then nd s else 0) ?_ ?_
      · by_cases t : 0 < nd s
        · rw [if_pos t, if_neg ne10]
          by_cases ep : ph c s = p
          · rw [if_pos (And.intro t ep), if_pos (show p_X12_phaseOf (nI c) (nI s) = nI p by rw [ph_12 hc s4, ep])]
            apply wp_is
            refine wp_zif (ob_42 w) ?_
            exact wp_eq (r_needOf w cr' s4 t) (wp_some rfl)
          · rw [if_neg (show ¬ (0 < nd s ∧ ph c s = p) from fun z => ep z.2), if_neg (show ¬ p_X12_phaseOf (nI c) (nI s) = nI p from fun z => ep (by
              rw [ph_12 hc s4] at z
              exact nI_inj (by have := ph_lt c s; omega) (by omega) z))]
        · rw [if_neg t, if_pos eq00, if_neg (show ¬ (0 < nd s ∧ ph c s = p) from fun z => t z.1)]
      · have el : lnS nd c p (s + 1) = if (if 0 < nd s ∧ ph c s = p then nd s else 0) ≤ lnS nd c p s then lnS nd c p s else (if 0 < nd s ∧ ph c s = p then nd s else 0) := rfl
        generalize (if 0 < nd s ∧ ph c s = p then nd s else 0) = x at el ⊢
        refine wp_eq (gR_42_66 w) ?_
        refine wp_eq (gR_42_66 w) ?_
        refine wp_eq (A_87 w (q4 hp).1 (q4 hp).2.1) ?_
        rw [(q4 hp).2.2]
        have ef : (gsA g 87 F).2.1 87 p = lnS nd c p s := e1
        rw [ef]
        by_cases le : x ≤ lnS nd c p s
        · rw [if_pos le] at el ⊢
          refine wp_eq (gR_42_66 w) ?_
          refine wp_eq (A_87 w (q4 hp).1 (q4 hp).2.1) ?_
          rw [(q4 hp).2.2, ef]
          refine wp_bind (sI_87 w (q4 hp).1 (q4 hp).2.1) fun h18 w18 => ?_
          rw [gA_over, (q4 hp).2.2] at w18
          refine ih (s + 1) w18 (by omega) (by omega) ?_ (fun k hk => ?_)
          · show upd F p (lnS nd c p s) p = _
            rw [hu_at, el]
          · show upd F p (lnS nd c p s) k = _
            rw [hu_ne hk]
            exact e2 k hk
        · rw [if_neg le] at el ⊢
          refine wp_bind (sI_87 w (q4 hp).1 (q4 hp).2.1) fun h19 w19 => ?_
          rw [gA_over, (q4 hp).2.2] at w19
          refine ih (s + 1) w19 (by omega) (by omega) ?_ (fun k hk => ?_)
          · show upd F p x p = _
            rw [hu_at, el]
          · show upd F p x k = _
            rw [hu_ne hk]
            exact e2 k hk
theorem r_roundOf_L5 (cr : CR nd cm mt g) (hc : c < 256) : ∀ (m p : Nat) {y : Int32} {F : Nat → Int32} {h : zH}, WT n b L xs τ (gsA g 87 F) h → p ≤ 4 → 4 - p < m → y = rrS nd c lost p → (∀ k, k < p → F k = lnS nd c k 4) → wp (f_X12_roundOf_L5 10000 (n + 42) (nI c) lost m y (nI p) h) (fun r => r.1 = rrS nd c lost 4 ∧ ∃ F', WT n b L xs τ (gsA g 87 F') r.2 ∧ ∀ k, k < 4 → F' k = lnS nd c k 4) := by
  intro m
  induction m with
  | zero => intro p y F h w hp hm e1 e2; exact absurd hm (Nat.not_lt_zero _)
  | succ m ih =>
    intro p y F h w hp hm e1 e2
    rw [f_X12_roundOf_L5.eq_2]
    by_cases e4 : p = 4
    · subst e4
      rw [if_pos (by decide)]
      exact wp_some ⟨e1, F, w, e2⟩
    · have p4 : p < 4 := by omega
      rw [if_neg (Int32.not_le.mpr (q4 p4).2.1), nI_1]
      refine wp_eq (gR_42_66 w) ?_
      refine wp_bind (sI_87 w (q4 p4).1 (q4 p4).2.1) fun h3 w3 => ?_
      rw [gA_over, (q4 p4).2.2] at w3
      refine wp_bind (r_roundOf_L22 cr p4 hc (F0 := F) 10000 0 w3 (by omega) (by omega) (hu_at _ _ _) (fun k hk => hu_ne hk)) fun m20 p20 => ?_
      obtain ⟨F', w20, f1, f2⟩ := p20
      refine wp_eq (gR_42_66 w20) ?_
      refine wp_eq (A_87 w20 (q4 p4).1 (q4 p4).2.1) ?_
      rw [(q4 p4).2.2]
      have ef : (gsA g 87 F').2.1 87 p = lnS nd c p 4 := f1
      rw [ef]
      have er : rrS nd c lost (p + 1) = rrS nd c lost p + tmS lost (lnS nd c p 4) := rfl
      unfold tmS at er
      have fk : ∀ k, k < p + 1 → F' k = lnS nd c k 4 := fun k hk => by
        by_cases ek : k = p
        · rw [ek]; exact f1
        · rw [f2 k ek]
          exact e2 k (by omega)
      by_cases z : lnS nd c p 4 = 0
      · rw [if_pos z] at er ⊢
        refine wp_zlet ?_
        exact ih (p + 1) w20 (by omega) (by omega) (by rw [e1, er]) fk
      · rw [if_neg z] at er ⊢
        refine wp_eq (gR_42_66 w20) ?_
        refine wp_eq (A_87 w20 (q4 p4).1 (q4 p4).2.1) ?_
        rw [(q4 p4).2.2, ef]
        refine wp_zlet ?_
        exact ih (p + 1) w20 (by omega) (by omega) (by rw [e1, er]) fk
theorem r_roundOf (w : WT n b L xs τ g h) (cr : CR nd cm mt g) (hc : c < 256) (ar : arS nd mt c 4 = some a) : wp (f_X12_roundOf 10000 (n + 42) (nI c) lost h) (fun r => r.1 = rdS lost a ∧ ∃ F', WT n b L xs τ (gsA g 87 F') r.2 ∧ ∀ k, k < 4 → F' k = a.2 k) := by
  have w0 : WT n b L xs τ (gsA g 87 (g.2.1 87)) h := by rw [gA_id]; exact w
  unfold f_X12_roundOf
  refine wp_bind (r_roundOf_L5 (lost := lost) cr hc 10000 0 w0 (by omega) (by omega) rfl (fun k hk => absurd hk (Nat.not_lt_zero _))) fun m28 p28 => ?_
  obtain ⟨p1, F', p2, p3⟩ := p28
  exact wp_some ⟨p1.trans (rd_eq ar).symm, F', p2, fun k hk => (p3 k hk).trans (ar_len 4 ar k).1.symm⟩
theorem r_waitingOf {rd : Int32} {l : Nat → Int32} (w : WT n b L xs τ g h) (cr : CR nd cm mt g) (hi : i < 4) (hc : c < 256) (t : 0 < nd i) (e87 : ∀ k, k < 4 → g.2.1 87 k = l k) : f_X12_waitingOf 10000 (n + 42) (nI c) rd (nI i) h = some (wtS nd cm c rd l i) := by
  apply wp_is
  unfold f_X12_waitingOf wtS
  rw [if_pos t]
  refine wp_eq (gR_42_61 w) ?_
  refine wp_eq (A_85 w (q4 hi).1 (q4 hi).2.1) ?_
  refine wp_eq (gR_42_66 w) ?_
  rw [ph_12 hc hi]
  have pl := ph_lt c i
  refine wp_eq (A_87 w (q4 pl).1 (q4 pl).2.1) ?_
  rw [(q4 pl).2.2, (q4 hi).2.2, (cr.2.1 i hi t).2.2, e87 _ pl]
  exact wp_some rfl
theorem r_findLights_L35 {rd : Int32} {l : Nat → Int32} (w : WT n b L xs τ g h) (cr : CR nd cm mt g) (hc : c < 256) (e87 : ∀ k, k < 4 → g.2.1 87 k = l k) : ∀ (m j : Nat) {y : Int32}, j ≤ 4 → 4 - j < m → y = wgS nd cm c rd l j → f_X12_findLights_L35 10000 (n + 42) (nI c) rd h m y (nI j) = some (wgS nd cm c rd l 4) := by
  intro m
  induction m with
  | zero => intro j y hj hm e; exact absurd hm (Nat.not_lt_zero _)
  | succ m ih =>
    intro j y hj hm e
    apply wp_is
    rw [f_X12_findLights_L35.eq_2]
    by_cases e4 : j = 4
    · subst e4
      rw [if_pos (by decide)]
      exact wp_some e
    · have j4 : j < 4 := by omega
      rw [if_neg (Int32.not_le.mpr (q4 j4).2.1), nI_1]
      refine wp_eq (gR_42_57 w) ?_
      refine wp_eq (A_81 w (q4 j4).1 (q4 j4).2.1) ?_
      rw [(q4 j4).2.2, cr.1 j j4]
      have es : wgS nd cm c rd l (j + 1) = wgS nd cm c rd l j + wtS nd cm c rd l j := rfl
      by_cases t : 0 < nd j
      · rw [if_pos t, if_neg ne10]
        refine wp_zif (ob_42 w) ?_
        refine wp_eq (r_waitingOf w cr j4 hc t e87) ?_
        refine wp_zlet ?_
        exact ⟨_, ih (j + 1) (by omega) (by omega) (by rw [e, es]), rfl⟩
      · rw [if_neg t, if_pos eq00]
        refine wp_zlet ?_
        have e0 : wtS nd cm c rd l j = 0 := by
          unfold wtS
          rw [if_neg t]
        rw [e0] at es
        exact ⟨_, ih (j + 1) (by omega) (by omega) (by rw [e, es]), rfl⟩
theorem r_findLights_L7 (s0 : ¬ stS nd 4 = 0) : ∀ (m c : Nat) {g : zGh} {h : zH}, WT n b L xs τ g h → CR nd cm mt g → c ≤ 256 → 256 - c < m → BQ (bsS nd cm mt lost c) (g.1 42 63) (g.1 42 64) (g.1 42 65) → wp (f_X12_findLights_L7 10000 (n + 42) lost m (nI c) h) (fun r => ∃ g', WT n b L xs τ g' r ∧ CG g g' ∧ BQ (bsS nd cm mt lost 256) (g'.1 42 63) (g'.1 42 64) (g'.1 42 65)) := by
  intro m
  induction m with
  | zero => intro c g h w cr hc hm bq; exact absurd hm (Nat.not_lt_zero _)
  | succ m ih =>
    intro c g h w cr hc hm bq
    rw [f_X12_findLights_L7.eq_2]
    by_cases e : c = 256
    · subst e
      rw [if_pos (by decide)]
      exact wp_some ⟨g, w, CG_id g, bq⟩
    · have c2 : c < 256 := by omega
      have q := h_ix (m := 256) (j := c) c2 (by omega)
      have e256 : nI 256 = 256 := rfl
      rw [e256] at q
      rw [if_neg (Int32.not_le.mpr q.2.1), nI_1]
      refine wp_zif (ob_42 w) ?_
      refine wp_eq (r_arePhases w cr c2) ?_
      have tr : ∀ {g1 : zGh} {o : Option zH}, CG g g1 → wp o (fun r => ∃ g', WT n b L xs τ g' r ∧ CG g1 g' ∧ BQ (bsS nd cm mt lost 256) (g'.1 42 63) (g'.1 42 64) (g'.1 42 65)) → wp o (fun r => ∃ g', WT n b L xs τ g' r ∧ CG g g' ∧ BQ (bsS nd cm mt lost 256) (g'.1 42 63) (g'.1 42 64) (g'.1 42 65)) := fun cg p => wp_mono p fun r q => by
        obtain ⟨g2, q1, q2, q3⟩ := q
        exact ⟨g2, q1, CG_trans cg q2, q3⟩
      rcases ha : arS nd mt c 4 with _ | a
      · show wp (if (0 : Int32) = 0 then _ else _) _
        rw [if_pos eq00]
        exact ih (c + 1) w cr (by omega) (by omega) (by rw [bs_no ha]; exact bq)
      · have nz : ¬ a.1 = 0 := fun z => s0 (st_0.mpr ((ar_0 4 ha).mp z))
        show wp (if (if a.1 = 0 then (0 : Int32) else 1) = 0 then _ else _) _
        rw [if_neg nz, if_neg ne10]
        refine wp_zif (ob_42 w) ?_
        refine wp_bind (r_roundOf (lost := lost) w cr c2 ha) fun q7 p7 => ?_
        obtain ⟨r1, F, w7, f7⟩ := p7
        have cg7 := CG_87 g F
        have cr7 := CR_CG cr cg7
        rw [r1]
        have es : f_X12_findLights_L35 10000 (n + 42) (nI c) (rdS lost a) q7.2 10000 0 0 = some (wgS nd cm c (rdS lost a) a.2 4) := r_findLights_L35 w7 cr7 c2 f7 10000 0 (by omega) (by omega) rfl
        refine wp_eq es ?_
        have bs := bs_so (cm := cm) (lost := lost) ha
        generalize rdS lost a = rd at bs ⊢
        generalize wgS nd cm c rd a.2 4 = W at bs ⊢
        have bq7 : BQ (bsS nd cm mt lost c) ((gsA g 87 F).1 42 63) ((gsA g 87 F).1 42 64) ((gsA g 87 F).1 42 65) := bq
        refine wp_eq (E_42_63 w7) ?_
        unfold nxS at bs
        have tk : BQ (bsS nd cm mt lost (c + 1)) (nI c) rd W → wp ((pF q7.2 (n + 42) 12 63 (.int (nI c))).bind fun h28 => (pF h28 (n + 42) 12 64 (.int rd)).bind fun h29 => (pF h29 (n + 42) 12 65 (.int W)).bind fun h30 => f_X12_findLights_L7 10000 (n + 42) lost m (nI (c + 1)) h30) (fun r => ∃ g', WT n b L xs τ g' r ∧ CG g g' ∧ BQ (bsS nd cm mt lost 256) (g'.1 42 63) (g'.1 42 64) (g'.1 42 65)) := fun k => by
          have rc := nI_r (show c ≤ 255 by omega) (by omega)
          refine wp_bind (pI_42_63 w7 (Int32.le_trans (by decide) rc.1) rc.2) fun h28 w28 => ?_
          refine wp_bind (pI_42_64 w28) fun h29 w29 => ?_
          refine wp_bind (pI_42_65 w29) fun h30 w30 => ?_
          have cg := CG_trans cg7 (CG_trans (CG_trans (CG_42 _ (k := 63) (nI c) (by decide) (by decide)) (CG_42 _ (k := 64) rd (by decide) (by decide))) (CG_42 _ (k := 65) W (by decide) (by decide)))
          refine tr cg (ih (c + 1) w30 (CR_CG cr cg) (by omega) (by omega) ?_)
          have e63 : (gset (gset (gset (gsA g 87 F) 42 63 (nI c)) 42 64 rd) 42 65 W).1 42 63 = nI c := by rw [gs_ne (by decide), gs_ne (by decide), gs_at]
          have e64 : (gset (gset (gset (gsA g 87 F) 42 63 (nI c)) 42 64 rd) 42 65 W).1 42 64 = rd := by rw [gs_ne (by decide), gs_at]
          have e65 : (gset (gset (gset (gsA g 87 F) 42 63 (nI c)) 42 64 rd) 42 65 W).1 42 65 = W := gs_at
          rw [e63, e64, e65]
          exact k
        have sk : BQ (bsS nd cm mt lost (c + 1)) ((gsA g 87 F).1 42 63) ((gsA g 87 F).1 42 64) ((gsA g 87 F).1 42 65) → wp (f_X12_findLights_L7 10000 (n + 42) lost m (nI (c + 1)) q7.2) (fun r => ∃ g', WT n b L xs τ g' r ∧ CG g g' ∧ BQ (bsS nd cm mt lost 256) (g'.1 42 63) (g'.1 42 64) (g'.1 42 65)) := fun k => tr cg7 (ih (c + 1) w7 cr7 (by omega) (by omega) k)
        rcases ho : bsS nd cm mt lost c with _ | x
        · rw [ho] at bq7 bs
          have b0 : (gsA g 87 F).1 42 63 = -1 := bq7
          refine wp_eq (a := (1 : Int32)) ?_ ?_
          · rw [b0]
            rfl
          · by_cases r : rd ≤ 120
            · rw [if_neg (Int32.not_lt.mpr r), if_neg ne10]
              rw [if_pos r] at bs
              exact tk (by rw [bs]; exact ⟨rfl, c2, rfl, rfl⟩)
            · rw [if_pos (Int32.not_le.mp r)]
              rw [if_neg r] at bs
              exact sk (by rw [bs]; exact b0)
        · rw [ho] at bq7 bs
          obtain ⟨b1, b2, b3, b4⟩ := bq7
          have nb : ¬ (gsA g 87 F).1 42 63 < 0 := by
            rw [b1]
            exact Int32.not_lt.mpr (nI_r (Nat.zero_le x.1) (by omega : x.1 < 2 ^ 31)).2
          refine wp_eq (a := if W < x.2.2 ∨ (W = x.2.2 ∧ rd < x.2.1) then (1 : Int32) else 0) ?_ ?_
          · rw [if_neg nb, E_42_65 w7]
            show (if W < (gsA g 87 F).1 42 65 then _ else _) = _
            rw [b4]
            by_cases q0 : W < x.2.2
            · rw [if_pos q0, if_pos (show W < x.2.2 ∨ (W = x.2.2 ∧ rd < x.2.1) from Or.inl q0)]
            · rw [if_neg q0]
              show (if W = x.2.2 then _ else _) = _
              by_cases q1 : W = x.2.2
              · rw [if_pos q1, E_42_64 w7]
                show (if (gsA g 87 F).1 42 64 ≤ rd then _ else _) = _
                rw [b3]
                by_cases q2 : x.2.1 ≤ rd
                · rw [if_pos q2, if_neg (show ¬ (W < x.2.2 ∨ (W = x.2.2 ∧ rd < x.2.1)) from fun z => z.elim q0 (fun y => absurd q2 (Int32.not_le.mpr y.2)))]
                · rw [if_neg q2, if_pos (show W < x.2.2 ∨ (W = x.2.2 ∧ rd < x.2.1) from Or.inr ⟨q1, Int32.not_le.mp q2⟩)]
              · rw [if_neg q1, if_neg (show ¬ (W < x.2.2 ∨ (W = x.2.2 ∧ rd < x.2.1)) from fun z => z.elim q0 (fun y => q1 y.1))]
          · by_cases r : rd ≤ 120
            · rw [if_neg (Int32.not_lt.mpr r)]
              rw [if_pos r] at bs
              have bs' : bsS nd cm mt lost (c + 1) = (if W < x.2.2 ∨ (W = x.2.2 ∧ rd < x.2.1) then some (c, rd, W) else some x) := bs
              by_cases qq : W < x.2.2 ∨ (W = x.2.2 ∧ rd < x.2.1)
              · rw [if_pos qq] at bs' ⊢
                rw [if_neg ne10]
                exact tk (by rw [bs']; exact ⟨rfl, c2, rfl, rfl⟩)
              · rw [if_neg qq] at bs' ⊢
                rw [if_pos eq00]
                exact sk (by rw [bs']; exact ⟨b1, b2, b3, b4⟩)
            · rw [if_pos (Int32.not_le.mp r)]
              rw [if_neg r] at bs
              exact sk (by rw [bs]; exact ⟨b1, b2, b3, b4⟩)
theorem r_findNone (s0 : stS nd 4 = 0) (w : WT n b L xs τ g h) (cr : CR nd cm mt g) : ∀ (m c : Nat), c ≤ 256 → 256 - c < m → f_X12_findLights_L7 10000 (n + 42) lost m (nI c) h = some h := by
  intro m
  induction m with
  | zero => intro c hc hm; exact absurd hm (Nat.not_lt_zero _)
  | succ m ih =>
    intro c hc hm
    apply wp_is
    rw [f_X12_findLights_L7.eq_2]
    by_cases e : c = 256
    · subst e
      rw [if_pos (by decide)]
      exact wp_some rfl
    · have c2 : c < 256 := by omega
      have q := h_ix (m := 256) (j := c) c2 (by omega)
      have e256 : nI 256 = 256 := rfl
      rw [e256] at q
      rw [if_neg (Int32.not_le.mpr q.2.1), nI_1]
      refine wp_zif (ob_42 w) ?_
      refine wp_eq (r_arePhases w cr c2) ?_
      have z : (match arS nd mt c 4 with | none => (0 : Int32) | some a => if a.1 = 0 then 0 else 1) = 0 := by
        rcases ha : arS nd mt c 4 with _ | a
        · rfl
        · exact if_pos ((ar_0 4 ha).mpr (st_0.mp s0))
      rw [if_pos z]
      exact ⟨_, ih (c + 1) (by omega) (by omega), rfl⟩
theorem r_findLights (w : WT n b L xs τ g h) (cr : CR nd cm mt g) : wp (f_X12_findLights 10000 (n + 42) lost h) (fun r => ∃ g', WT n b L xs τ g' r ∧ CG g g' ∧ BQ (beS nd cm mt lost) (g'.1 42 63) (g'.1 42 64) (g'.1 42 65)) := by
  unfold f_X12_findLights beS
  refine wp_bind (pI_42_63 w (x := -1) (by decide) (by decide)) fun h1 w1 => ?_
  have cg1 : CG g (gset g 42 63 (-1)) := CG_42 g _ (by decide) (by decide)
  have cr1 := CR_CG cr cg1
  by_cases s0 : stS nd 4 = 0
  · have e : f_X12_findLights_L7 10000 (n + 42) lost 10000 0 h1 = some h1 := r_findNone s0 w1 cr1 10000 0 (by omega) (by omega)
    refine wp_eq e ?_
    rw [if_pos s0]
    exact wp_some ⟨_, w1, cg1, gs_at⟩
  · rw [if_neg s0]
    refine wp_bind (r_findLights_L7 (lost := lost) s0 10000 0 w1 cr1 (by omega) (by omega) gs_at) fun m31 p31 => ?_
    obtain ⟨g2, w2, cg2, bq⟩ := p31
    exact wp_some ⟨g2, w2, CG_trans cg1 cg2, bq⟩
theorem v_X12_lights {v1 v2 : Int32} (w : WT n b L xs τ g h) (cr : CR nd cm mt g) : wp (f_X12_lights 10000 (n + 42) v1 v2 h) (fun r => ∃ g', WT n b L xs τ g' r.2 ∧ CG g g' ∧ (¬ ((0 ≤ v1 ∧ v1 ≤ 9) ∧ (0 ≤ v2 ∧ v2 ≤ 9)) → r.1 = -1) ∧ ((0 ≤ v1 ∧ v1 ≤ 9) ∧ (0 ≤ v2 ∧ v2 ≤ 9) → r.1 = lgS nd cm mt v1 v2)) := by
  unfold f_X12_lights
  refine wp_bind (pI_42_0 w) fun h1 w => ?_
  refine in12 (fun c => wp_some ⟨g, w, CG_id g, fun _ => rfl, fun z => absurd z.1 c⟩) (fun c1 => ?_)
  refine in12 (fun c => wp_some ⟨g, w, CG_id g, fun _ => rfl, fun z => absurd z.2 c⟩) (fun c2 => ?_)
  refine wp_mono (R := fun r => ∃ g', WT n b L xs τ g' r.2 ∧ CG g g' ∧ r.1 = lgS nd cm mt v1 v2) ?_ (fun r p => ?_)
  · refine wp_eq (a := if 4 ≤ v2 then (if v2 ≤ 5 then -1 else v2 - 6) else v2) ?_ ?_
    · by_cases q : 4 ≤ v2
      · rw [if_pos q, if_pos q]
        by_cases q5 : v2 ≤ 5
        · rw [if_pos q5, if_pos q5]
        · rw [if_neg q5, if_neg q5]
      · rw [if_neg q, if_neg q]
    refine wp_zif (ob_42 w) ?_
    refine wp_bind (r_findLights (lost := v1) w cr) fun h8 p8 => ?_
    obtain ⟨g1, w1, cg, bq⟩ := p8
    have cr1 := CR_CG cr cg
    refine wp_eq (E_42_63 w1) ?_
    unfold lgS
    rcases hb : beS nd cm mt v1 with _ | x
    · rw [hb] at bq
      have b0 : g1.1 42 63 = -1 := bq
      rw [b0, if_pos (show (-1 : Int32) < 0 by decide)]
      exact wp_some ⟨g1, w1, cg, rfl⟩
    · rw [hb] at bq
      obtain ⟨b1, b2, b3, b4⟩ := bq
      have hx : ∃ a, arS nd mt x.1 4 = some a := by
        unfold beS at hb
        by_cases s0 : stS nd 4 = 0
        · rw [if_pos s0] at hb
          cases hb
        · rw [if_neg s0] at hb
          exact (bs_ar 256 hb).2
      have nb : ¬ g1.1 42 63 < 0 := by
        rw [b1]
        exact Int32.not_lt.mpr (nI_r (Nat.zero_le x.1) (by omega : x.1 < 2 ^ 31)).2
      rw [if_neg nb]
      show wp _ (fun (r : Int32 × zH) => ∃ g', WT n b L xs τ g' r.2 ∧ CG g g' ∧ r.1 = (if v2 = 4 then x.2.1 else if v2 = 5 then x.2.2 else if 0 < nd (if 4 ≤ v2 then v2 - 6 else v2).toNatClampNeg then (if 4 ≤ v2 then (match arS nd mt x.1 4 with | none => -1 | some a => wtS nd cm x.1 (rdS v1 a) a.2 (if 4 ≤ v2 then v2 - 6 else v2).toNatClampNeg) else nI (ph x.1 (if 4 ≤ v2 then v2 - 6 else v2).toNatClampNeg)) else -1))
      by_cases e45 : v2 = 4 ∨ v2 = 5
      · have q : 4 ≤ v2 := by rcases e45 with e | e <;> rw [e] <;> decide
        have q5 : v2 ≤ 5 := by rcases e45 with e | e <;> rw [e] <;> decide
        have q6 : ¬ 6 ≤ v2 := by rcases e45 with e | e <;> rw [e] <;> decide
        rw [if_pos q, if_pos q5]
        refine wp_eq (a := .inl ()) ?_ ?_
        · rw [if_pos (by decide)]
        refine wp_zsL ?_
        rw [if_pos q, if_neg q6]
        by_cases e4 : v2 = 4
        · rw [if_pos e4, if_pos e4]
          refine wp_eq (E_42_64 w1) ?_
          exact wp_some ⟨g1, w1, cg, b3⟩
        · have e5 : v2 = 5 := e45.resolve_left e4
          rw [if_neg e4, if_neg e4, if_pos e5]
          refine wp_eq (E_42_65 w1) ?_
          exact wp_some ⟨g1, w1, cg, b4⟩
      · have e4 : ¬ v2 = 4 := fun z => e45 (Or.inl z)
        have e5 : ¬ v2 = 5 := fun z => e45 (Or.inr z)
        rw [if_neg e4, if_neg e4, if_neg e5]
        have em : (if 4 ≤ v2 then (if v2 ≤ 5 then -1 else v2 - 6) else v2) = (if 4 ≤ v2 then v2 - 6 else v2) := by
          by_cases q : 4 ≤ v2
          · rw [if_pos q, if_pos q, if_neg (show ¬ v2 ≤ 5 by lia)]
          · rw [if_neg q, if_neg q]
        rw [em]
        have sr : 0 ≤ (if 4 ≤ v2 then v2 - 6 else v2) ∧ (if 4 ≤ v2 then v2 - 6 else v2) < 4 := by
          by_cases q : 4 ≤ v2
          · rw [if_pos q]
            constructor <;> lia
          · rw [if_neg q]
            constructor <;> lia
        generalize (if 4 ≤ v2 then v2 - 6 else v2) = s at sr ⊢
        have s4 : s.toNatClampNeg < 4 := (i32_clamp sr.1 (N := 4) (by decide) sr.2).2
        have es : nI s.toNatClampNeg = s := i32_nI sr.1
        have rd81 : aZ h8 (n + 81) s = some (if 0 < nd s.toNatClampNeg then 1 else 0) := by
          rw [A_81 w1 sr.1 sr.2, cr1.1 _ s4]
        by_cases t : 0 < nd s.toNatClampNeg
        · rw [if_pos t] at rd81 ⊢
          refine wp_eq (a := .inl ()) ?_ ?_
          · rw [if_neg (Int32.not_lt.mpr sr.1), gR_42_57 w1]
            show (aZ h8 (n + 81) s).bind _ = _
            rw [rd81]
            rfl
          refine wp_zsL ?_
          by_cases q : 4 ≤ v2
          · have q6 : 6 ≤ v2 := by lia
            rw [if_pos q, if_pos q, if_pos q6]
            refine wp_eq (E_42_63 w1) ?_
            refine wp_zif (ob_42 w1) ?_
            obtain ⟨a, ha⟩ := hx
            rw [b1, ha]
            refine wp_bind (r_roundOf (lost := v1) w1 cr1 b2 ha) fun q22 p22 => ?_
            obtain ⟨r1, F, w2, f2⟩ := p22
            refine wp_eq (E_42_63 w2) ?_
            refine wp_zif (ob_42 w2) ?_
            have e63 : (gsA g1 87 F).1 42 63 = nI x.1 := b1
            rw [e63, r1]
            have ww := r_waitingOf (rd := rdS v1 a) w2 (CR_CG cr1 (CG_87 g1 F)) s4 b2 t f2
            rw [es] at ww
            refine wp_eq ww ?_
            exact wp_some ⟨_, w2, CG_trans cg (CG_87 g1 F), rfl⟩
          · rw [if_neg q, if_neg q]
            refine wp_eq (E_42_63 w1) ?_
            have pp := ph_12 b2 s4
            rw [es] at pp
            rw [b1, pp]
            exact wp_some ⟨g1, w1, cg, rfl⟩
        · rw [if_neg t] at rd81 ⊢
          refine wp_eq (a := .inr (-1, h8)) ?_ ?_
          · rw [if_neg (Int32.not_lt.mpr sr.1), gR_42_57 w1]
            show (aZ h8 (n + 81) s).bind _ = _
            rw [rd81]
            rfl
          exact wp_zsR ⟨g1, w1, cg, rfl⟩
  · obtain ⟨g', p1, p2, p3⟩ := p
    exact ⟨g', p1, p2, fun z => absurd ⟨c1, c2⟩ z, fun _ => p3⟩
end LIGHTS
