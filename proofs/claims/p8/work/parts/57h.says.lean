/-! the reference: what a kept by-law says -/
theorem stp_5 {c a : Int32} {t u : Nat} (h : stp c a t = some u) : (c = 1 ∧ u = t + 1) ∨ (c = 2 ∧ 0 ≤ a ∧ a ≤ 10 ∧ u = t + 1) ∨ (c = 3 ∧ 0 ≤ a ∧ a ≤ 7 ∧ u = t + 1) ∨ (c = 4 ∧ 1 ≤ t ∧ u = t) ∨ (5 ≤ c ∧ c ≤ 11 ∧ 2 ≤ t ∧ u = t - 1) := by
  unfold stp at h
  by_cases c1 : c = 1
  · rw [if_pos c1] at h
    cases h
    exact Or.inl ⟨c1, rfl⟩
  rw [if_neg c1] at h
  by_cases c2 : c = 2
  · rw [if_pos c2] at h
    split at h
    · rename_i q
      cases h
      exact Or.inr (Or.inl ⟨c2, q.1, q.2, rfl⟩)
    · cases h
  rw [if_neg c2] at h
  by_cases c3 : c = 3
  · rw [if_pos c3] at h
    split at h
    · rename_i q
      cases h
      exact Or.inr (Or.inr (Or.inl ⟨c3, q.1, q.2, rfl⟩))
    · cases h
  rw [if_neg c3] at h
  by_cases c4 : c = 4
  · rw [if_pos c4] at h
    split at h
    · rename_i q
      cases h
      exact Or.inr (Or.inr (Or.inr (Or.inl ⟨c4, q, rfl⟩)))
    · cases h
  rw [if_neg c4] at h
  by_cases c5 : 5 ≤ c ∧ c ≤ 11
  · rw [if_pos c5] at h
    split at h
    · rename_i q
      cases h
      exact Or.inr (Or.inr (Or.inr (Or.inr ⟨c5.1, c5.2, q, rfl⟩)))
    · cases h
  · rw [if_neg c5] at h
    cases h
theorem nI_dn {t : Nat} (h : 1 ≤ t) : nI t - 1 = nI (t - 1) := by
  have e : nI t = nI (t - 1) + 1 := by
    rw [nI_1]
    congr 1
    omega
  rw [e]
  exact Int32.add_sub_cancel _ _
theorem nI_dn' {t : Nat} (h : 1 ≤ t) : nI t + (-1) = nI (t - 1) := by
  rw [← nI_dn h, Int32.sub_eq_add_neg]
theorem cz_mono (f : Nat → Int32) (base : Nat) {j k : Nat} (h : j ≤ k) : cz f base j ≤ cz f base k := by
  induction k with
  | zero =>
    have : j = 0 := by omega
    rw [this]
    exact Nat.le_refl _
  | succ k ih =>
    by_cases e : j = k + 1
    · rw [e]
      exact Nat.le_refl _
    · have := ih (by omega)
      show _ ≤ cz f base k + _
      omega
theorem nI_ltN {j k : Nat} (h : j < k) (hk : k < 2 ^ 31) : nI j < nI k := by
  refine Int32.lt_iff_toInt_lt.mpr ?_
  show (Int32.ofNat j).toInt < (Int32.ofNat k).toInt
  rw [Int32.toInt_ofNat_of_lt (by omega), Int32.toInt_ofNat_of_lt (by omega)]
  omega
section SAYS
variable {n b L : Nat} {xs : Nat → Int32} {τ : Nat → Nat} {g : zGh} {h : zH}
set_option maxHeartbeats 4000000 in
theorem P_worth_L4 : ∀ (m k : Nat) {t i u : Nat} {h : zH}, WT n b L xs τ g h → run (g.2.1 55) (g.2.1 56) k i t = some u → g.2.1 55 (i + k) = 0 → i + k < 20400 → t + k ≤ 1199 → k < m → wp (f_X12_worth_L4 10000 (n + 42) m (nI t) (nI i) h) (fun r => WT n b L xs τ g r) := by
  intro m
  induction m with
  | zero => intro k t i u h w r z l1 l2 hm; exact absurd hm (Nat.not_lt_zero _)
  | succ m ih =>
    intro k t i u h w r z l1 l2 hm
    rw [f_X12_worth_L4.eq_2]
    have ri := nI_r (show i ≤ 20399 by omega) (by decide : 20399 < 2 ^ 31)
    have ei : nI 20399 = 20399 := rfl
    have rt := nI_r (show t ≤ 1199 by omega) (by decide : 1199 < 2 ^ 31)
    have et : nI 1199 = 1199 := rfl
    have e55 : aI h (n + 55) (nI i) = some (g.2.1 55 i) := by
      rw [A_55 w (i := nI i) ri.1 (by lia), nI_clamp (by omega)]
    have e56 : aI h (n + 56) (nI i) = some (g.2.1 56 i) := by
      rw [A_56 w (i := nI i) ri.1 (by lia), nI_clamp (by omega)]
    refine wp_eq (gR_42_20 w) ?_
    refine wp_eq e55 ?_
    cases k with
    | zero =>
      rw [Nat.add_zero] at z
      rw [if_pos z]
      exact wp_some w
    | succ k =>
      have r' : (stp (g.2.1 55 i) (g.2.1 56 i) t).bind (fun v => run (g.2.1 55) (g.2.1 56) k (i + 1) v) = some u := r
      obtain ⟨v, ev, rv⟩ := zbind r'
      have z' : g.2.1 55 (i + 1 + k) = 0 := by
        rw [show i + 1 + k = i + (k + 1) by omega]
        exact z
      have s := stp_5 ev
      generalize g.2.1 55 i = cc at s e55 ⊢
      generalize g.2.1 56 i = aa at s e56
      rw [if_neg (by rcases s with s | s | s | s | s <;> lia)]
      refine wp_eq (gR_42_20 w) ?_
      refine wp_eq e55 ?_
      rcases s with ⟨s1, s2⟩ | ⟨s1, s2, s3, s4⟩ | ⟨s1, s2, s3, s4⟩ | ⟨s1, s2, s3⟩ | ⟨s1, s2, s3, s4⟩
      · subst s2
        rw [if_neg (by lia)]
        refine wp_eq (gR_42_24 w) ?_
        rw [if_pos s1]
        refine wp_eq (gR_42_21 w) ?_
        refine wp_eq e56 ?_
        refine wp_bind (sI_59 w (i := nI t) rt.1 (by lia)) fun h35 w35 => ?_
        rw [nI_1, nI_1]
        exact ih k w35 rv z' (by omega) (by omega) (by omega)
      · subst s4
        rw [if_neg (by lia)]
        refine wp_eq (gR_42_24 w) ?_
        rw [if_neg (by lia), if_pos s1]
        refine wp_eq (gR_42_22 w) ?_
        refine wp_eq (gR_42_21 w) ?_
        refine wp_eq e56 ?_
        refine wp_bind (aI_57 w s2 (by lia)) fun x31 _ => ?_
        refine wp_bind (sI_59 w (i := nI t) rt.1 (by lia)) fun h35 w35 => ?_
        rw [nI_1, nI_1]
        exact ih k w35 rv z' (by omega) (by omega) (by omega)
      · subst s4
        rw [if_neg (by lia)]
        refine wp_eq (gR_42_24 w) ?_
        rw [if_neg (by lia), if_neg (by lia)]
        refine wp_eq (gR_42_23 w) ?_
        refine wp_eq (gR_42_21 w) ?_
        refine wp_eq e56 ?_
        refine wp_bind (aI_58 w s2 (by lia)) fun x31 _ => ?_
        refine wp_bind (sI_59 w (i := nI t) rt.1 (by lia)) fun h35 w35 => ?_
        rw [nI_1, nI_1]
        exact ih k w35 rv z' (by omega) (by omega) (by omega)
      · subst s3
        have rt1 := nI_r (show v - 1 ≤ 1199 by omega) (by decide : 1199 < 2 ^ 31)
        rw [if_pos (by lia), if_pos s1, nI_dn s2]
        refine wp_eq (gR_42_24 w) ?_
        refine wp_eq (gR_42_24 w) ?_
        refine wp_bind (aI_59 w (i := nI (v - 1)) rt1.1 (by lia)) fun x16 _ => ?_
        refine wp_ite (fun _ => ?_) (fun _ => ?_)
        · refine wp_bind (sI_59 w (i := nI (v - 1)) rt1.1 (by lia)) fun h35 w35 => ?_
          rw [nI_1]
          exact ih k w35 rv z' (by omega) (by omega) (by omega)
        · refine wp_bind (sI_59 w (i := nI (v - 1)) rt1.1 (by lia)) fun h35 w35 => ?_
          rw [nI_1]
          exact ih k w35 rv z' (by omega) (by omega) (by omega)
      · subst s4
        have rt1 := nI_r (show t - 1 ≤ 1199 by omega) (by decide : 1199 < 2 ^ 31)
        have rt2 := nI_r (show t - 1 - 1 ≤ 1199 by omega) (by decide : 1199 < 2 ^ 31)
        rw [if_pos (by lia), if_neg (by lia), nI_dn' (by omega : 1 ≤ t), nI_dn (by omega : 1 ≤ t - 1)]
        refine wp_eq (gR_42_24 w) ?_
        refine wp_eq (gR_42_24 w) ?_
        refine wp_bind (aI_59 w (i := nI (t - 1 - 1)) rt2.1 (by lia)) fun x10 _ => ?_
        refine wp_eq (gR_42_24 w) ?_
        refine wp_bind (aI_59 w (i := nI (t - 1)) rt1.1 (by lia)) fun x12 _ => ?_
        refine wp_bind (sI_59 w (i := nI (t - 1 - 1)) rt2.1 (by lia)) fun h35 w35 => ?_
        rw [nI_1]
        exact ih k w35 rv z' (by omega) (by omega) (by omega)
theorem P_worth {i e : Nat} (w : WT n b L xs τ g h) (x : EXP (g.2.1 55) (g.2.1 56) i e) (h1 : e ≤ i + 1200) (h2 : e ≤ 20400) : wp (f_X12_worth 10000 (n + 42) (nI i) h) (fun r => WT n b L xs τ g r.2) := by
  obtain ⟨k, s, z, l⟩ := x
  unfold f_X12_worth
  refine wp_bind (P_worth_L4 10000 k (t := 0) w (s 0) z (by omega) (by omega) (by omega)) fun m36 w36 => ?_
  refine wp_eq (gR_42_24 w36) ?_
  exact wp_bind (aI_59 w36 (by decide) (by decide)) fun x38 _ => wp_some w36
theorem P_lawIn_L4 {v1 : Int32} (w : WT n b L xs τ g h) : ∀ (m : Nat) {v2 v3 : Int32}, (v2 = -1 ∨ (0 ≤ v2 ∧ v2 < g.1 42 10)) → 0 ≤ v3 → (9000 - v3.toInt).toNat < m → wp (f_X12_lawIn_L4 10000 (n + 42) v1 h m v2 v3) (fun r => r = -1 ∨ (0 ≤ r ∧ r < g.1 42 10)) := by
  intro m
  induction m with
  | zero => intro v2 v3 i1 i0 hm; exact absurd hm (Nat.not_lt_zero _)
  | succ m ih =>
    intro v2 v3 i1 i0 hm
    have rr := gr_42_10 w
    rw [f_X12_lawIn_L4.eq_2]
    refine wp_eq (E_42_10 w) ?_
    refine wp_ite (fun c1 => wp_some i1) (fun c1 => ?_)
    refine wp_eq (gR_42_12 w) ?_
    refine wp_bind (aI_49 w i0 (by lia)) fun x4 _ => ?_
    refine wp_zif (ob_42 w) ?_
    refine wp_bind (t_X12_viewYear w) fun q6 _ => ?_
    refine wp_bind (R := fun _ => True) ?_ (fun m7 _ => ?_)
    · refine wp_ite (fun _ => wp_some trivial) (fun _ => ?_)
      refine wp_eq (gR_42_11 w) ?_
      refine wp_bind (aI_48 w i0 (by lia)) fun x10 _ => ?_
      exact wp_ite (fun _ => wp_some trivial) (fun _ => wp_some trivial)
    have i3 : v3 = -1 ∨ (0 ≤ v3 ∧ v3 < g.1 42 10) := Or.inr ⟨i0, by lia⟩
    refine wp_ite (fun _ => ih i1 (by lia) (mu_up i0 (by lia) hm)) (fun _ => ?_)
    refine wp_ite (fun _ => ih i3 (by lia) (mu_up i0 (by lia) hm)) (fun c2 => ?_)
    have i2 : 0 ≤ v2 ∧ v2 < g.1 42 10 := by
      rcases i1 with i1 | i1
      · rw [i1] at c2; exact absurd (by decide) c2
      · exact i1
    refine wp_eq (gR_42_11 w) ?_
    refine wp_bind (aI_48 w i0 (by lia)) fun x15 _ => ?_
    refine wp_eq (gR_42_11 w) ?_
    refine wp_bind (aI_48 w i2.1 (by lia)) fun x17 _ => ?_
    exact wp_ite (fun _ => ih i1 (by lia) (mu_up i0 (by lia) hm)) (fun _ => ih i3 (by lia) (mu_up i0 (by lia) hm))
theorem P_lawIn {v1 : Int32} (w : WT n b L xs τ g h) : wp (f_X12_lawIn 10000 (n + 42) v1 h) (fun r => r = -1 ∨ (0 ≤ r ∧ r < g.1 42 10)) := by
  unfold f_X12_lawIn
  exact wp_bind (P_lawIn_L4 w _ (Or.inl rfl) (by decide) (mu_0 (by decide))) fun r q => wp_some q
/-- the lines of a kept by-law, as the reference reads them -/
theorem P_ln {bb nl : Nat} (w : WT n b L xs τ g h) (hb : bb < 16) (e : g.2.1 50 bb = nI nl) : aI h (n + 50) (nI bb) = some (nI nl) := by
  have r := nI_r (show bb ≤ 15 by omega) (by decide : 15 < 2 ^ 31)
  have e15 : nI 15 = 15 := rfl
  rw [A_50 w (i := nI bb) r.1 (by lia), nI_clamp (by omega), e]
theorem P_ix {bb k : Nat} : (20 : Int32) * nI bb + nI k = nI (20 * bb + k) := by
  rw [show (20 : Int32) * nI bb = nI (20 * bb) from nI_mul' 20 bb, nI_add]
theorem P_kd {bb k : Nat} (w : WT n b L xs τ g h) (hb : bb < 16) (hk : k < 20) : aI h (n + 51) (nI (20 * bb + k)) = some (g.2.1 51 (20 * bb + k)) := by
  have r := nI_r (show 20 * bb + k ≤ 339 by omega) (by decide : 339 < 2 ^ 31)
  have e : nI 339 = 339 := rfl
  rw [A_51 w (i := nI (20 * bb + k)) r.1 (by lia), nI_clamp (by omega)]
theorem P_at {bb k : Nat} (w : WT n b L xs τ g h) (hb : bb < 16) (hk : k < 20) : aI h (n + 53) (nI (20 * bb + k)) = some (g.2.1 53 (20 * bb + k)) := by
  have r := nI_r (show 20 * bb + k ≤ 339 by omega) (by decide : 339 < 2 ^ 31)
  have e : nI 339 = 339 := rfl
  rw [A_53 w (i := nI (20 * bb + k)) r.1 (by lia), nI_clamp (by omega)]
theorem P_n {bb k : Nat} (w : WT n b L xs τ g h) (hb : bb < 16) (hk : k < 20) : wp (aI h (n + 52) (nI (20 * bb + k))) (fun _ => True) := by
  have r := nI_r (show 20 * bb + k ≤ 339 by omega) (by decide : 339 < 2 ^ 31)
  have e : nI 339 = 339 := rfl
  exact aI_52 w r.1 (by lia)
theorem P_says_L38 {bb nl : Nat} (hb : bb < 16) (l20 : nl ≤ 20) (e50 : g.2.1 50 bb = nI nl) (d : ∀ k, k < nl → ∃ i, g.2.1 53 (20 * bb + k) = nI i ∧ 1200 * bb ≤ i ∧ EXP (g.2.1 55) (g.2.1 56) i (1200 * bb + 1200)) (hz : cz (g.2.1 51) (20 * bb) nl ≤ 8) : ∀ (m k : Nat) {h : zH}, WT n b L xs τ g h → k ≤ nl → nl - k < m → wp (f_X12_says_L38 10000 (n + 42) (nI bb) m (nI (cz (g.2.1 51) (20 * bb) k)) (nI k) h) (fun r => WT n b L xs τ g r) := by
  intro m
  induction m with
  | zero => intro k h w hk hm; exact absurd hm (Nat.not_lt_zero _)
  | succ m ih =>
    intro k h w hk hm
    rw [f_X12_says_L38.eq_2]
    refine wp_eq (gR_42_13 w) ?_
    refine wp_eq (P_ln w hb e50) ?_
    by_cases ek : k = nl
    · subst ek
      rw [if_pos (by lia)]
      exact wp_some w
    · rw [if_neg (Int32.not_le.mpr (nI_ltN (by omega) (by omega)))]
      rw [P_ix]
      refine wp_zlet ?_
      refine wp_eq (gR_42_14 w) ?_
      refine wp_eq (P_kd w hb (by omega)) ?_
      have ecz : cz (g.2.1 51) (20 * bb) (k + 1) = cz (g.2.1 51) (20 * bb) k + (if g.2.1 51 (20 * bb + k) = 0 then 1 else 0) := rfl
      have mon := cz_mono (g.2.1 51) (20 * bb) (show k + 1 ≤ nl by omega)
      refine wp_ite (fun c1 => ?_) (fun c1 => ?_)
      · rw [if_pos c1] at ecz
        refine wp_eq (gR_42_23 w) ?_
        refine wp_eq (gR_42_16 w) ?_
        refine wp_eq (P_at w hb (by omega)) ?_
        obtain ⟨i, e53, l1, x⟩ := d k (by omega)
        rw [e53]
        refine wp_zif (ob_42 w) ?_
        refine wp_bind (P_worth w x (by omega) (by omega)) fun q20 w20 => ?_
        have r := nI_r (show cz (g.2.1 51) (20 * bb) k ≤ 7 by omega) (by decide : 7 < 2 ^ 31)
        have e7 : nI 7 = 7 := rfl
        refine wp_bind (sI_58 w20 (i := nI (cz (g.2.1 51) (20 * bb) k)) r.1 (by lia)) fun h21 w21 => ?_
        rw [nI_1, nI_1, ← ecz]
        exact ih (k + 1) w21 (by omega) (by omega)
      · have ecz' : cz (g.2.1 51) (20 * bb) (k + 1) = cz (g.2.1 51) (20 * bb) k := by
          rw [ecz, if_neg c1]
          rfl
        rw [nI_1, ← ecz']
        exact ih (k + 1) w (by omega) (by omega)
theorem P_says_L98 {bb nl : Nat} (hb : bb < 16) (l20 : nl ≤ 20) (e50 : g.2.1 50 bb = nI nl) (d : ∀ k, k < nl → ∃ i, g.2.1 53 (20 * bb + k) = nI i ∧ 1200 * bb ≤ i ∧ EXP (g.2.1 55) (g.2.1 56) i (1200 * bb + 1200)) : ∀ (m k : Nat) {h : zH}, WT n b L xs τ g h → k ≤ nl → nl - k < m → wp (f_X12_says_L98 10000 (n + 42) (nI bb) m (nI k) h) (fun r => WT n b L xs τ g r) := by
  intro m
  induction m with
  | zero => intro k h w hk hm; exact absurd hm (Nat.not_lt_zero _)
  | succ m ih =>
    intro k h w hk hm
    rw [f_X12_says_L98.eq_2]
    refine wp_eq (gR_42_13 w) ?_
    refine wp_eq (P_ln w hb e50) ?_
    by_cases ek : k = nl
    · subst ek
      rw [if_pos (by lia)]
      exact wp_some w
    · rw [if_neg (Int32.not_le.mpr (nI_ltN (by omega) (by omega)))]
      rw [P_ix, nI_1]
      refine wp_zlet ?_
      refine wp_eq (gR_42_14 w) ?_
      refine wp_eq (P_kd w hb (by omega)) ?_
      refine wp_ite (fun c1 => ?_) (fun c1 => ih (k + 1) w (by omega) (by omega))
      refine wp_bind (gI_42_48 w) fun x30 _ => ?_
      refine wp_ite (fun c2 => ?_) (fun c2 => ih (k + 1) w (by omega) (by omega))
      refine wp_eq (gR_42_16 w) ?_
      refine wp_eq (P_at w hb (by omega)) ?_
      obtain ⟨i, e53, l1, x⟩ := d k (by omega)
      rw [e53]
      refine wp_zif (ob_42 w) ?_
      refine wp_bind (P_worth w x (by omega) (by omega)) fun q35 w35 => ?_
      refine wp_ite (fun c3 => ih (k + 1) w35 (by omega) (by omega)) (fun c3 => ?_)
      refine wp_eq (gR_42_15 w35) ?_
      refine wp_bind (P_n w35 hb (by omega)) fun x38 _ => ?_
      refine wp_bind (pI_42_48 w35) fun h39 w39 => ih (k + 1) w39 (by omega) (by omega)
theorem P_says_L182 {bb nl : Nat} (hb : bb < 16) (l20 : nl ≤ 20) (e50 : g.2.1 50 bb = nI nl) (d : ∀ k, k < nl → ∃ i, g.2.1 53 (20 * bb + k) = nI i ∧ 1200 * bb ≤ i ∧ EXP (g.2.1 55) (g.2.1 56) i (1200 * bb + 1200)) : ∀ (m k : Nat) {h : zH}, WT n b L xs τ g h → k ≤ nl → nl - k < m → wp (f_X12_says_L182 10000 (n + 42) (nI bb) m (nI k) h) (fun r => WT n b L xs τ g r) := by
  intro m
  induction m with
  | zero => intro k h w hk hm; exact absurd hm (Nat.not_lt_zero _)
  | succ m ih =>
    intro k h w hk hm
    rw [f_X12_says_L182.eq_2]
    refine wp_eq (gR_42_13 w) ?_
    refine wp_eq (P_ln w hb e50) ?_
    by_cases ek : k = nl
    · subst ek
      rw [if_pos (by lia)]
      exact wp_some w
    · rw [if_neg (Int32.not_le.mpr (nI_ltN (by omega) (by omega)))]
      refine wp_bind (gI_42_47 w) fun x47 _ => ?_
      refine wp_ite (fun c0 => wp_some w) (fun c0 => ?_)
      rw [P_ix, nI_1]
      refine wp_zlet ?_
      refine wp_eq (gR_42_14 w) ?_
      refine wp_eq (P_kd w hb (by omega)) ?_
      refine wp_ite (fun c1 => ?_) (fun c1 => ih (k + 1) w (by omega) (by omega))
      refine wp_eq (gR_42_16 w) ?_
      refine wp_eq (P_at w hb (by omega)) ?_
      obtain ⟨i, e53, l1, x⟩ := d k (by omega)
      rw [e53]
      refine wp_zif (ob_42 w) ?_
      refine wp_bind (P_worth w x (by omega) (by omega)) fun q35 w35 => ?_
      refine wp_ite (fun c3 => ih (k + 1) w35 (by omega) (by omega)) (fun c3 => ?_)
      refine wp_eq (gR_42_15 w35) ?_
      refine wp_bind (P_n w35 hb (by omega)) fun x38 _ => ?_
      refine wp_bind (pI_42_46 w35) fun h60 w60 => ?_
      refine wp_bind (pI_42_47 w60) fun h61 w61 => ih (k + 1) w61 (by omega) (by omega)
theorem P_says {v1 v2 : Int32} (w : WT n b L xs τ g h) (lw : LWI g) (p0 : 0 ≤ v1) (p1 : v1 < g.1 42 27) (p2 : ∀ i : Int32, 0 ≤ i → i < g.1 42 27 → 1 ≤ g.2.1 65 i.toNatClampNeg) : wp (f_X12_says 10000 (n + 42) v1 v2 h) (fun r => WT n b L xs τ g r) := by
  unfold f_X12_says
  have r27 := gr_42_27 w
  refine wp_bind (pI_42_46 w) fun h1 w => ?_
  refine wp_bind (pI_42_47 w) fun h2 w => ?_
  refine wp_bind (pI_42_48 w) fun h3 w => ?_
  refine wp_zif (ob_42 w) ?_
  refine wp_bind (P_lawIn w) fun q5 p5 => ?_
  refine wp_ite (fun c1 => ?_) (fun c1 => wp_some w)
  obtain ⟨N, hN, e10, lws⟩ := lw
  have q5r : 0 ≤ q5 ∧ q5 < nI N := by
    rcases p5 with p5 | p5
    · rw [p5] at c1; exact absurd c1 (by decide)
    · rw [e10] at p5; exact p5
  obtain ⟨bb, hb, eb⟩ : ∃ bb, bb < N ∧ q5 = nI bb := by
    refine ⟨q5.toNatClampNeg, ?_, (i32_nI q5r.1).symm⟩
    have := clamp_lt q5r.1 q5r.2
    rw [nI_clamp (by omega)] at this
    exact this
  subst eb
  obtain ⟨nl, l20, e50, d, hz⟩ := lws bb hb
  have b16 : bb < 16 := by omega
  refine wp_zif (ob_42 w) ?_
  refine wp_bind (t_X12_knows w p0 p1 p2 r27.2) fun h8 w => ?_
  refine wp_bind (P_says_L38 b16 l20 e50 d hz 10000 0 w (by omega) (by omega)) fun m22 w => ?_
  refine wp_bind (P_says_L98 b16 l20 e50 d 10000 0 w (by omega) (by omega)) fun m40 w => ?_
  refine wp_eq (gR_42_22 w) ?_
  refine wp_bind (gI_42_48 w) fun x42 _ => ?_
  refine wp_bind (sI_57 w (by decide) (by decide)) fun h43 w => ?_
  exact wp_bind (P_says_L182 b16 l20 e50 d 10000 0 w (by omega) (by omega)) fun m62 w => wp_some w
theorem u_X12_whose {v1 v2 v3 : Int32} (w : WT n b L xs τ g h) (lw : LWI g) (p2 : ∀ i : Int32, 0 ≤ i → i < g.1 42 27 → 1 ≤ g.2.1 65 i.toNatClampNeg) : wp (f_X12_whose 10000 (n + 42) v1 v2 v3 h) (fun r => WT n b L xs τ g r.2) := by
  unfold f_X12_whose
  refine wp_bind (pI_42_0 w) fun h1 w => ?_
  refine wp_zif (ob_42 w) ?_
  refine wp_bind (t_X12_isMeeting w) fun q3 p3 => ?_
  refine wp_ite (fun c => wp_some w) (fun c => ?_)
  have c' := (p3.resolve_left (fun z => c z.1)).2
  refine wp_bind (t_X12_isYear w) fun q5 _ => ?_
  refine wp_ite (fun _ => wp_some w) (fun _ => ?_)
  refine in12 (fun _ => wp_some w) (fun _ => ?_)
  refine wp_zif (ob_42 w) ?_
  refine wp_bind (P_says w lw c'.1 c'.2 p2) fun h9 w => ?_
  refine wp_ite (fun _ => ?_) (fun _ => ?_)
  · exact wp_bind (gI_42_46 w) fun _ _ => wp_some w
  refine wp_ite (fun _ => ?_) (fun _ => ?_)
  · exact wp_bind (gI_42_47 w) fun _ _ => wp_some w
  refine wp_ite (fun _ => ?_) (fun _ => ?_)
  · exact wp_bind (gI_42_48 w) fun _ _ => wp_some w
  refine wp_zif (ob_42 w) ?_
  exact wp_bind (P_lawIn w) fun _ _ => wp_some w
theorem P_changes_L36 {v1 : Int32} (lw : LWI g) (p0 : 0 ≤ v1) (p1 : v1 < g.1 42 27) (p2 : ∀ i : Int32, 0 ≤ i → i < g.1 42 27 → 1 ≤ g.2.1 65 i.toNatClampNeg) : ∀ (m : Nat) {v3 v4 v5 : Int32} {h : zH}, WT n b L xs τ g h → 0 ≤ v5 → (9000 - v5.toInt).toNat < m → wp (f_X12_changes_L36 10000 (n + 42) v1 m v3 v4 v5 h) (fun r => match r with | .inl x => WT n b L xs τ g x | .inr x => WT n b L xs τ g x.2) := by
  intro m
  induction m with
  | zero => intro v3 v4 v5 h w i0 hm; exact absurd hm (Nat.not_lt_zero _)
  | succ m ih =>
    intro v3 v4 v5 h w i0 hm
    rw [f_X12_changes_L36.eq_2]
    refine wp_ite (fun _ => wp_some w) (fun c => ?_)
    refine wp_zif (ob_42 w) ?_
    refine wp_bind (P_says w lw p0 p1 p2) fun h11 w => ?_
    refine wp_bind (gI_42_46 w) fun x12 _ => ?_
    refine wp_ite (fun _ => ?_) (fun _ => ?_)
    · exact wp_bind (gI_42_46 w) fun x14 _ => ih w (by lia) (mu_up i0 (by lia) hm)
    · refine wp_ite (fun _ => wp_some w) (fun _ => ?_)
      exact wp_bind (gI_42_46 w) fun x14 _ => ih w (by lia) (mu_up i0 (by lia) hm)
theorem u_X12_changes {v1 v2 : Int32} (w : WT n b L xs τ g h) (lw : LWI g) (p2 : ∀ i : Int32, 0 ≤ i → i < g.1 42 27 → 1 ≤ g.2.1 65 i.toNatClampNeg) : wp (f_X12_changes 10000 (n + 42) v1 v2 h) (fun r => WT n b L xs τ g r.2) := by
  unfold f_X12_changes
  refine wp_bind (pI_42_0 w) fun h1 w => ?_
  refine wp_zif (ob_42 w) ?_
  refine wp_bind (t_X12_isMeeting w) fun q3 p3 => ?_
  refine wp_ite (fun c => wp_some w) (fun c => ?_)
  have c' := (p3.resolve_left (fun z => c z.1)).2
  refine wp_ite (fun _ => ?_) (fun _ => wp_some w)
  refine wp_zif (ob_42 w) ?_
  refine wp_bind (P_says w lw c'.1 c'.2 p2) fun h7 w => ?_
  refine wp_bind (gI_42_46 w) fun x8 _ => ?_
  refine wp_bind (P_changes_L36 lw c'.1 c'.2 p2 _ w (by decide) (mu_0 (by decide))) fun m17 p17 => ?_
  rcases m17 with s | x
  · exact wp_zsL (wp_some p17)
  · exact wp_zsR p17
end SAYS
