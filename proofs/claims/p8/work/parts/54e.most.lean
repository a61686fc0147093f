/-! which set is left: class and reference choose alike -/
def szS (s : Nat) : Int32 := p_J6_bitCount_0f7a4 (nI s)
def bitsS (s : Nat) : Nat → Int32
  | 0 => 0
  | c + 1 => bitsS s c + ((nI s >>> (nI c &&& 31)) &&& 1)
set_option maxRecDepth 100000 in
theorem bits_cnt : ∀ s, s < 512 → bitsS s 9 = szS s := by decide +kernel
set_option maxRecDepth 100000 in
theorem sz_pos : ∀ s, s < 512 → 0 ≤ szS s := by decide +kernel
/-- s stands behind m -/
def worse (y : Nat → Int32) (s m : Nat) : Prop := szS s < szS m ∨ (szS s = szS m ∧ (y s < y m ∨ (y s = y m ∧ s < m)))
theorem worse_asym {y : Nat → Int32} {s m : Nat} (a : worse y s m) (b : worse y m s) : False := by
  rcases a with a | ⟨a1, a | ⟨a2, a3⟩⟩ <;> rcases b with b | ⟨b1, b | ⟨b2, b3⟩⟩
  · lia
  · lia
  · lia
  · lia
  · lia
  · lia
  · lia
  · lia
  · omega
theorem worse_trans {y : Nat → Int32} {s m k : Nat} (a : worse y s m) (b : worse y m k) : worse y s k := by
  rcases a with a | ⟨a1, a | ⟨a2, a3⟩⟩ <;> rcases b with b | ⟨b1, b | ⟨b2, b3⟩⟩
  · exact Or.inl (by lia)
  · exact Or.inl (by lia)
  · exact Or.inl (by lia)
  · exact Or.inl (by lia)
  · exact Or.inr ⟨by lia, Or.inl (by lia)⟩
  · exact Or.inr ⟨by lia, Or.inl (by lia)⟩
  · exact Or.inl (by lia)
  · exact Or.inr ⟨by lia, Or.inl (by lia)⟩
  · exact Or.inr ⟨by lia, Or.inr ⟨by lia, by omega⟩⟩
/-- b is the best of those sets of R that P has, -1 where there is none -/
def Best (P : Nat → Prop) (y : Nat → Int32) (R : Nat → Prop) (b : Int32) : Prop := (b = -1 ∧ ∀ s, R s → ¬ P s) ∨ ∃ m, m < 512 ∧ b = nI m ∧ R m ∧ P m ∧ ∀ s, R s → P s → s = m ∨ worse y s m
theorem Best_uniq {P : Nat → Prop} {y : Nat → Int32} {R R' : Nat → Prop} {b b' : Int32} (hr : ∀ s, P s → (R s ↔ R' s)) (p : Best P y R b) (q : Best P y R' b') : b = b' := by
  rcases p with ⟨p1, p2⟩ | ⟨m, p0, p1, p2, p3, p4⟩ <;> rcases q with ⟨q1, q2⟩ | ⟨k, q0, q1, q2, q3, q4⟩
  · rw [p1, q1]
  · exact absurd q3 (p2 k ((hr k q3).mpr q2))
  · exact absurd p3 (q2 m ((hr m p3).mp p2))
  · rw [p1, q1]
    rcases p4 k ((hr k q3).mpr q2) q3 with e | e
    · rw [e]
    · rcases q4 m ((hr m p3).mp p2) p3 with e' | e'
      · rw [e']
      · exact absurd e' (fun z => worse_asym e z)
/-- sets that may be left -/
def okS (v : Int32) (H Ln : Nat → Int32) (C s : Nat) : Prop := nI s &&& (v ^^^ (-1)) = 0 ∧ ¬ yesS H Ln s C ≤ noS H Ln s C
theorem nI_prd (k : Nat) : nI (k + 1) + (-1) = nI k := by
  have e : (1 : Int32) + (-1) = 0 := by decide
  rw [← nI_1, Int32.add_assoc, e, Int32.add_zero]
section MOST
variable {n b L : Nat} {xs : Nat → Int32} {τ : Nat → Nat} {g : zGh} {h : zH}
/-- what the class knows when the sets from j up are seen -/
def CM (P : Nat → Prop) (y : Nat → Int32) (j : Nat) (v2 v3 v4 : Int32) : Prop := (v2 = -1 ∧ v3 = -1 ∧ ∀ s, j ≤ s → s < 512 → ¬ P s) ∨ ∃ k, k < 512 ∧ j ≤ k ∧ v2 = nI k ∧ v3 = szS k ∧ v4 = y k ∧ P k ∧ ∀ s, j ≤ s → s < 512 → P s → s = k ∨ worse y s k
theorem CM_skip {P : Nat → Prop} {y : Nat → Int32} {j : Nat} {v2 v3 v4 : Int32} (c : CM P y (j + 1) v2 v3 v4) (q : P j → ∀ k, k < 512 → j + 1 ≤ k → v3 = szS k → v4 = y k → worse y j k) (q0 : P j → v3 = -1 → False) : CM P y j v2 v3 v4 := by
  rcases c with ⟨c1, c2, c3⟩ | ⟨k, k0, k1, k2, k3, k4, k5, k6⟩
  · refine Or.inl ⟨c1, c2, fun s s1 s2 => ?_⟩
    by_cases e : s = j
    · subst e
      exact fun z => q0 z c2
    · exact c3 s (by omega) s2
  · refine Or.inr ⟨k, k0, by omega, k2, k3, k4, k5, fun s s1 s2 s3 => ?_⟩
    by_cases e : s = j
    · subst e
      exact Or.inr (q s3 k k0 k1 k3 k4)
    · exact k6 s (by omega) s2 s3
theorem CM_take {P : Nat → Prop} {y : Nat → Int32} {j : Nat} {v2 v3 v4 : Int32} (hj : j < 512) (c : CM P y (j + 1) v2 v3 v4) (p : P j) (q : ∀ k, v3 = szS k → v4 = y k → worse y k j) : CM P y j (nI j) (szS j) (y j) := by
  refine Or.inr ⟨j, hj, Nat.le_refl _, rfl, rfl, rfl, p, fun s s1 s2 s3 => ?_⟩
  by_cases e : s = j
  · exact Or.inl e
  · rcases c with ⟨c1, c2, c3⟩ | ⟨k, k0, k1, k2, k3, k4, k5, k6⟩
    · exact absurd s3 (c3 s (by omega) s2)
    · rcases k6 s (by omega) s2 s3 with e' | e'
      · subst e'
        exact Or.inr (q s k3 k4)
      · exact Or.inr (worse_trans e' (q k k3 k4))
theorem e_mostLeft_L12 {v1 : Int32} {C : Nat} {H Ln : Nat → Int32} (hC : C ≤ 8) : ∀ (m j : Nat) {v2 v3 v4 : Int32} {g : zGh} {h : zH}, WT n b L xs τ g h → HC g → g.1 25 6 = nI C → g.2.1 26 = H → g.2.1 27 = Ln → j ≤ 512 → j < m → CM (okS v1 H Ln C) (fun s => yesS H Ln s C) j v2 v3 v4 → wp (f_X3_mostLeft_L12 10000 (n + 25) v1 m v2 v3 v4 (nI j + (-1)) h) (fun r => ∃ g', WT n b L xs τ g' r.2 ∧ HG g g' ∧ HC g' ∧ Best (okS v1 H Ln C) (fun s => yesS H Ln s C) (fun s => s < 512) r.1) := by
  intro m
  induction m with
  | zero => intro j v2 v3 v4 g h w hc eC eH eL hj hm cm; exact absurd hm (Nat.not_lt_zero _)
  | succ m ih =>
    intro j v2 v3 v4 g h w hc eC eH eL hj hm cm
    rcases j with _ | j
    · rw [f_X3_mostLeft_L12.eq_2, if_pos (by decide)]
      refine wp_some ⟨g, w, HG_id g, hc, ?_⟩
      rcases cm with ⟨c1, c2, c3⟩ | ⟨k, k0, k1, k2, k3, k4, k5, k6⟩
      · exact Or.inl ⟨c1, fun s hs => c3 s (Nat.zero_le _) hs⟩
      · exact Or.inr ⟨k, k0, k2, k0, k5, fun s hs => k6 s (Nat.zero_le _) hs⟩
    · have j5 : j < 512 := by omega
      have q := h_ix (m := 512) (j := j) j5 (by omega)
      have sp := sz_pos j j5
      rw [nI_prd j, f_X3_mostLeft_L12.eq_2, if_neg (Int32.not_lt.mpr q.1)]
      refine wp_zlet ?_
      rw [show p_J6_bitCount_0f7a4 (nI j) = szS j from rfl]
      refine wp_ite (fun c1 => ?_) (fun c1 => ih j w hc eC eH eL (by omega) (by omega) (CM_skip cm (fun z => absurd z.1 c1) (fun z => absurd z.1 c1)))
      refine wp_ite (fun c2 => ih j w hc eC eH eL (by omega) (by omega) (CM_skip cm (fun _ k _ _ e3 _ => Or.inl (by rw [← e3]; exact c2)) (fun _ e => by rw [e] at c2; lia))) (fun c2 => ?_)
      refine wp_zif (ob_25 w) ?_
      refine wp_bind (h_yesFor j5 w hc) fun q6 p6 => ?_
      obtain ⟨g', w6, hg, hc6, k6⟩ := p6
      have e26 : g'.2.1 26 = H := (hg.2.2.1 26 (by decide) (by decide)).trans eH
      have e27 : g'.2.1 27 = Ln := (hg.2.2.1 27 (by decide) (by decide)).trans eL
      have e6 : g'.1 25 6 = nI C := (hg.2.1 6 (by decide)).trans eC
      have kv := k6 C eC hC
      rw [eH, eL] at kv
      have eA' : g'.1 25 5 = allS (g'.2.1 26) C := by
        obtain ⟨C', hC', eC', eA, _⟩ := hc6
        have z : nI C' = nI C := eC'.symm.trans e6
        have y : (nI C').toNatClampNeg = (nI C).toNatClampNeg := by rw [z]
        rw [nI_clamp (by omega), nI_clamp (by omega)] at y
        rw [← y]
        exact eA
      have im := h_isMore (s := j) w6 eA'
      rw [e26, e27] at im
      refine wp_zif (ob_25 w6) ?_
      rw [kv]
      refine wp_eq im ?_
      have tr : ∀ {o : Option (Int32 × zH)}, wp o (fun r => ∃ g2, WT n b L xs τ g2 r.2 ∧ HG g' g2 ∧ HC g2 ∧ Best (okS v1 H Ln C) (fun s => yesS H Ln s C) (fun s => s < 512) r.1) → wp o (fun r => ∃ g2, WT n b L xs τ g2 r.2 ∧ HG g g2 ∧ HC g2 ∧ Best (okS v1 H Ln C) (fun s => yesS H Ln s C) (fun s => s < 512) r.1) := fun p => wp_mono p fun r q => by
        obtain ⟨g2, q1, q2, q3, q4⟩ := q
        exact ⟨g2, q1, HG_trans hg q2, q3, q4⟩
      by_cases cc : yesS H Ln j C ≤ noS H Ln j C
      · rw [if_pos cc, if_pos (show (0 : Int32) = 0 from rfl)]
        exact tr (ih j w6 hc6 e6 e26 e27 (by omega) (by omega) (CM_skip cm (fun z => absurd cc z.2) (fun z => absurd cc z.2)))
      · rw [if_neg cc, if_neg (show ¬ (1 : Int32) = 0 by decide)]
        have ok : okS v1 H Ln C j := ⟨c1, cc⟩
        by_cases c3 : v3 < szS j
        · rw [if_pos c3]
          refine wp_bsome (wp_zsL ?_)
          exact tr (ih j w6 hc6 e6 e26 e27 (by omega) (by omega) (CM_take j5 cm ok (fun k e3 _ => Or.inl (by rw [← e3]; exact c3))))
        · rw [if_neg c3]
          have e3 : v3 = szS j := by lia
          by_cases c4 : yesS H Ln j C ≤ v4
          · rw [if_pos c4]
            refine wp_bind (R := fun r => match r with | .inl _ => False | .inr a => ∃ g2, WT n b L xs τ g2 a.2 ∧ HG g g2 ∧ HC g2 ∧ Best (okS v1 H Ln C) (fun s => yesS H Ln s C) (fun s => s < 512) a.1) ?_ (fun m10 p10 => ?_)
            · refine wp_map (tr (ih j w6 hc6 e6 e26 e27 (by omega) (by omega) (CM_skip cm (fun _ k _ kj k3 k4 => Or.inr ⟨by rw [← e3, k3], ?_⟩) (fun _ e => by rw [e] at e3; lia))))
              show yesS H Ln j C < yesS H Ln k C ∨ (yesS H Ln j C = yesS H Ln k C ∧ j < k)
              have k4' : v4 = yesS H Ln k C := k4
              rw [k4'] at c4
              by_cases c5 : yesS H Ln j C = yesS H Ln k C
              · exact Or.inr ⟨c5, by omega⟩
              · exact Or.inl (by lia)
            · rcases m10 with a | a
              · exact absurd p10 id
              · exact wp_zsR p10
          · rw [if_neg c4]
            refine wp_bsome (wp_zsL ?_)
            exact tr (ih j w6 hc6 e6 e26 e27 (by omega) (by omega) (CM_take j5 cm ok (fun k k3 k4 => Or.inr ⟨by rw [← k3, e3], Or.inl (by
              have k4' : v4 = yesS H Ln k C := k4
              show yesS H Ln k C < yesS H Ln j C
              rw [k4'] at c4
              lia)⟩)))
theorem e_X11_most {v : Int32} {C : Nat} (w : WT n b L xs τ g h) (hc : HC g) (eC : g.1 25 6 = nI C) (hC : C ≤ 8) : wp (f_X11_most 10000 n v h) (fun r => ∃ g', WT n b L xs τ g' r.2 ∧ HG g g' ∧ HC g' ∧ (¬ (0 ≤ v ∧ v ≤ 511) → r.1 = -1) ∧ (0 ≤ v ∧ v ≤ 511 → Best (okS v (g.2.1 26) (g.2.1 27) C) (fun s => yesS (g.2.1 26) (g.2.1 27) s C) (fun s => s < 512) r.1)) := by
  unfold f_X11_most
  refine in11 (fun c => wp_some ⟨g, w, HG_id g, hc, fun _ => rfl, fun z => absurd z c⟩) (fun c => ?_)
  refine wp_eq (gR_0_7 w) ?_
  refine wp_zif (ob_25 w) ?_
  refine wp_bind (R := fun r => ∃ g', WT n b L xs τ g' r.2 ∧ HG g g' ∧ HC g' ∧ Best (okS v (g.2.1 26) (g.2.1 27) C) (fun s => yesS (g.2.1 26) (g.2.1 27) s C) (fun s => s < 512) r.1) ?_ (fun q4 p4 => ?_)
  · unfold f_X3_mostLeft
    have k := e_mostLeft_L12 (v1 := v) (H := g.2.1 26) (Ln := g.2.1 27) hC 10000 512 (v2 := -1) (v3 := -1) (v4 := 0) w hc eC rfl rfl (by omega) (by omega) (Or.inl ⟨rfl, rfl, fun s s1 s2 => absurd s2 (by omega)⟩)
    exact wp_bind k fun r p => wp_some p
  obtain ⟨g', p1, p2, p3, p4⟩ := p4
  exact wp_some ⟨g', p1, p2, p3, fun z => absurd c z, fun _ => p4⟩
theorem r_bits_L4 {s : Nat} : ∀ (m c : Nat) {acc : Int32}, c ≤ 9 → 9 - c < m → acc = bitsS s c → f_X12_bits_L4 10000 (nI s) h m acc (nI c) = some (bitsS s 9) := by
  intro m
  induction m with
  | zero => intro c acc hc hm a; exact absurd hm (Nat.not_lt_zero _)
  | succ m ih =>
    intro c acc hc hm a
    rw [f_X12_bits_L4.eq_2]
    by_cases ec : c = 9
    · subst ec
      rw [if_pos (by decide), a]
    · have l9 : nI c < 9 := hI_lt (k := 9) (by omega) (by omega)
      rw [if_neg (Int32.not_le.mpr l9)]
      show f_X12_bits_L4 10000 (nI s) h m (acc + ((nI s >>> (nI c &&& 31)) &&& 1)) (nI c + 1) = _
      rw [nI_1]
      exact ih (c + 1) (by omega) (by omega) (by rw [a]; rfl)
theorem r_bits {s : Nat} (hs : s < 512) : f_X12_bits 10000 (nI s) h = some (szS s) := by
  have e : f_X12_bits_L4 10000 (nI s) h 10000 0 0 = some (bitsS s 9) := r_bits_L4 10000 0 (by omega) (by omega) rfl
  unfold f_X12_bits
  rw [e, bits_cnt s hs]
  rfl
theorem r_more {j k : Nat} (hj : j < 512) (hk : k < 512) : (if nI k < 0 then some (1 : Int32) else ((f_X12_bits 10000 (nI j) h).bind fun q11 => (f_X12_bits 10000 (nI k) h).bind fun q12 => if q11 ≤ q12 then (some 0) else (some 1))) = some (if szS j ≤ szS k then 0 else 1) := by
  have q := h_ix (m := 512) (j := k) hk (by omega)
  rw [if_neg (Int32.not_lt.mpr q.1), r_bits hj, r_bits hk]
  show (if szS j ≤ szS k then some (0 : Int32) else some 1) = _
  by_cases c : szS j ≤ szS k
  · rw [if_pos c, if_pos c]
  · rw [if_neg c, if_neg c]
theorem r_same {j k : Nat} (hj : j < 512) (hk : k < 512) : (if nI k < 0 then some (0 : Int32) else ((f_X12_bits 10000 (nI j) h).bind fun q16 => (f_X12_bits 10000 (nI k) h).bind fun q17 => if q16 = q17 then (some 1) else (some 0))) = some (if szS j = szS k then 1 else 0) := by
  have q := h_ix (m := 512) (j := k) hk (by omega)
  rw [if_neg (Int32.not_lt.mpr q.1), r_bits hj, r_bits hk]
  show (if szS j = szS k then some (1 : Int32) else some 0) = _
  by_cases c : szS j = szS k
  · rw [if_pos c, if_pos c]
  · rw [if_neg c, if_neg c]
theorem Best_skip {P : Nat → Prop} {y : Nat → Int32} {j : Nat} {v : Int32} (c : Best P y (fun s => s < j) v) (q : P j → ∃ k, v = nI k ∧ k < 512 ∧ worse y j k) : Best P y (fun s => s < j + 1) v := by
  have lt : ∀ s, s < j + 1 → s < j ∨ s = j := fun s hs => by omega
  rcases c with ⟨c1, c2⟩ | ⟨k, k0, k1, k2, k3, k4⟩
  · refine Or.inl ⟨c1, fun s hs z => ?_⟩
    rcases lt s hs with e | e
    · exact c2 s e z
    · subst e
      obtain ⟨k, e1, e2, _⟩ := q z
      have r := h_ix (m := 512) (j := k) e2 (by omega)
      rw [← e1, c1] at r
      exact absurd r.1 (by decide)
  · refine Or.inr ⟨k, k0, k1, by show k < j + 1; have : k < j := k2; omega, k3, fun s hs z => ?_⟩
    rcases lt s hs with e | e
    · exact k4 s e z
    · subst e
      obtain ⟨k', e1, e2, e3⟩ := q z
      have y2 : (nI k').toNatClampNeg = (nI k).toNatClampNeg := by rw [← e1, ← k1]
      rw [nI_clamp (by omega), nI_clamp (by omega)] at y2
      rw [y2] at e3
      exact Or.inr e3
theorem Best_take {P : Nat → Prop} {y : Nat → Int32} {j : Nat} {v : Int32} (hj : j < 512) (c : Best P y (fun s => s < j) v) (p : P j) (q : ∀ k, v = nI k → k < 512 → k < j → worse y k j) : Best P y (fun s => s < j + 1) (nI j) := by
  refine Or.inr ⟨j, hj, rfl, Nat.lt_succ_self j, p, fun s hs z => ?_⟩
  by_cases e : s = j
  · exact Or.inl e
  · have sj : s < j := by have : s < j + 1 := hs; omega
    rcases c with ⟨c1, c2⟩ | ⟨k, k0, k1, k2, k3, k4⟩
    · exact absurd z (c2 s sj)
    · rcases k4 s sj z with e' | e'
      · subst e'
        exact Or.inr (q s k1 k0 sj)
      · exact Or.inr (worse_trans e' (q k k1 k0 k2))
theorem r_most_L18 {C U : Nat} {H Ln : Nat → Int32} (eC : g.1 42 67 = nI C) (hC : C ≤ 8) (hU : U < 512) (w : WT n b L xs τ g h) (eH : g.2.1 88 = H) (eL : g.2.1 89 = Ln) : ∀ (m j : Nat) {v2 : Int32}, j ≤ U + 1 → U + 1 - j < m → Best (okS (nI U) H Ln C) (fun s => yesS H Ln s C) (fun s => s < j) v2 → wp (f_X12_most_L18 10000 (n + 42) (nI U) h m v2 (nI j)) (fun r => Best (okS (nI U) H Ln C) (fun s => yesS H Ln s C) (fun s => s < U + 1) r) := by
  intro m
  induction m with
  | zero => intro j v2 hj hm bt; exact absurd hm (Nat.not_lt_zero _)
  | succ m ih =>
    intro j v2 hj hm bt
    rw [f_X12_most_L18.eq_2]
    by_cases ej : j = U + 1
    · subst ej
      rw [if_pos (hI_lt (Nat.lt_succ_self U) (by omega))]
      exact wp_some bt
    · have j5 : j < 512 := by omega
      have jU := nI_r (show j ≤ U by omega) (by omega : U < 2 ^ 31)
      rw [if_neg (Int32.not_lt.mpr jU.2), nI_1]
      refine wp_ite (fun c1 => ?_) (fun c1 => ih (j + 1) (by omega) (by omega) (Best_skip bt (fun z => absurd z.1 c1)))
      have ip := r_isPassed eC hC j5 w
      rw [eH, eL] at ip
      refine wp_zif (ob_42 w) ?_
      refine wp_eq ip ?_
      by_cases cc : yesS H Ln j C ≤ noS H Ln j C
      · rw [if_pos cc, if_pos (show (0 : Int32) = 0 from rfl)]
        exact ih (j + 1) (by omega) (by omega) (Best_skip bt (fun z => absurd cc z.2))
      · rw [if_neg cc, if_neg (show ¬ (1 : Int32) = 0 by decide)]
        have ok : okS (nI U) H Ln C j := ⟨c1, cc⟩
        have bt0 := bt
        rcases bt with ⟨c2, c3⟩ | ⟨k, k0, k1, k2, k3, k4⟩
        · subst c2
          refine wp_eq (a := (1 : Int32)) (if_pos (by decide)) ?_
          refine wp_eq (a := (0 : Int32)) (if_pos (by decide)) ?_
          rw [if_neg (show ¬ (1 : Int32) = 0 by decide)]
          refine ih (j + 1) (by omega) (by omega) (Best_take j5 bt0 ok (fun k e l _ => ?_))
          have r := h_ix (m := 512) (j := k) l (by omega)
          rw [← e] at r
          exact absurd r.1 (by decide)
        · subst k1
          have uk : ∀ k', nI k = nI k' → k' < 512 → k' = k := fun k' e l => by
            have y2 : (nI k').toNatClampNeg = (nI k).toNatClampNeg := by rw [e]
            rwa [nI_clamp (by omega), nI_clamp (by omega)] at y2
          refine wp_eq (r_more j5 k0) ?_
          refine wp_eq (r_same j5 k0) ?_
          by_cases d1 : szS j ≤ szS k
          · rw [if_pos d1, if_pos (show (0 : Int32) = 0 from rfl)]
            by_cases d2 : szS j = szS k
            · rw [if_pos d2, if_neg (show ¬ (1 : Int32) = 0 by decide)]
              have vj := (r_votes eC hC j5 w).1
              have vk := (r_votes eC hC k0 w).1
              rw [eH, eL] at vj vk
              refine wp_zif (ob_42 w) ?_
              refine wp_eq vj ?_
              refine wp_zif (ob_42 w) ?_
              refine wp_eq vk ?_
              refine wp_ite (fun d3 => ih (j + 1) (by omega) (by omega) (Best_skip bt0 (fun _ => ⟨k, rfl, k0, Or.inr ⟨d2, Or.inl d3⟩⟩))) (fun d3 => ?_)
              refine ih (j + 1) (by omega) (by omega) (Best_take j5 bt0 ok (fun k' e l lj => ?_))
              rw [uk k' e l] at lj ⊢
              refine Or.inr ⟨d2.symm, ?_⟩
              show yesS H Ln k C < yesS H Ln j C ∨ (yesS H Ln k C = yesS H Ln j C ∧ k < j)
              by_cases d4 : yesS H Ln k C = yesS H Ln j C
              · exact Or.inr ⟨d4, lj⟩
              · exact Or.inl (by lia)
            · rw [if_neg d2, if_pos (show (0 : Int32) = 0 from rfl)]
              exact ih (j + 1) (by omega) (by omega) (Best_skip bt0 (fun _ => ⟨k, rfl, k0, Or.inl (by lia)⟩))
          · rw [if_neg d1, if_neg (show ¬ (1 : Int32) = 0 by decide)]
            refine ih (j + 1) (by omega) (by omega) (Best_take j5 bt0 ok (fun k' e l lj => ?_))
            rw [uk k' e l]
            exact Or.inl (by lia)
theorem e_X12_most {v : Int32} {C : Nat} (eC : g.1 42 67 = nI C) (hC : C ≤ 8) (w : WT n b L xs τ g h) : wp (f_X12_most 10000 (n + 42) v h) (fun r => WT n b L xs τ g r.2 ∧ (¬ (0 ≤ v ∧ v ≤ 511) → r.1 = -1) ∧ (0 ≤ v ∧ v ≤ 511 → Best (okS v (g.2.1 88) (g.2.1 89) C) (fun s => yesS (g.2.1 88) (g.2.1 89) s C) (fun s => s < v.toNatClampNeg + 1) r.1)) := by
  unfold f_X12_most
  refine wp_bind (pI_42_0 w) fun h1 w => ?_
  refine wp_bind (t_X12_isClauses w) fun q2 p2 => ?_
  refine wp_ite (fun c => wp_some ⟨w, fun _ => rfl, fun z => ?_⟩) (fun c => ?_)
  · rcases p2 with p2 | p2
    · exact absurd z p2.2
    · rw [c] at p2; exact absurd p2.1 (by decide)
  have c' := (p2.resolve_left (fun z => c z.1)).2
  have cl := i32_clamp (i := v) c'.1 (N := 512) (by decide) (by show v < 512; lia)
  have e5 : nI v.toNatClampNeg = v := i32_nI c'.1
  have k := r_most_L18 (U := v.toNatClampNeg) eC hC cl.2 w rfl rfl 10000 0 (v2 := -1) (by omega) (by omega) (Or.inl ⟨rfl, fun s hs => absurd hs (Nat.not_lt_zero _)⟩)
  rw [e5] at k
  exact wp_bind k fun r p => wp_some ⟨w, fun z => absurd c' z, fun _ => p⟩
end MOST
theorem sub_le {s U : Nat} (hs : s < 512) (hU : U < 512) (e : nI s &&& (nI U ^^^ (-1)) = 0) : s ≤ U := by
  have e1 : BitVec.ofNat 32 s &&& (BitVec.ofNat 32 U ^^^ BitVec.allOnes 32) = 0#32 := congrArg Int32.toBitVec e
  have key : s &&& U = s := by
    apply Nat.eq_of_testBit_eq
    intro i
    rw [Nat.testBit_and]
    by_cases hi : i < 32
    · have b := congrArg (fun x => BitVec.getLsbD x i) e1
      simp only [BitVec.getLsbD_and, BitVec.getLsbD_xor, BitVec.getLsbD_ofNat, BitVec.getLsbD_allOnes, hi, decide_true, Bool.true_and, BitVec.getLsbD_zero] at b
      cases h1 : s.testBit i <;> cases h2 : U.testBit i <;> simp_all
    · have : s < 2 ^ i := Nat.lt_of_lt_of_le hs (by
        have : 2 ^ 9 ≤ 2 ^ i := Nat.pow_le_pow_right (by omega) (by omega)
        omega)
      rw [Nat.testBit_lt_two_pow this]
      rfl
  have r := Nat.and_le_right (n := s) (m := U)
  rw [key] at r
  exact r
theorem okS_congr {v : Int32} {H H' Ln Ln' : Nat → Int32} {C : Nat} (e1 : ∀ u, u < C → H' u = H u) (e2 : ∀ k, k < 9 * C → Ln' k = Ln k) (s : Nat) : okS v H' Ln' C s ↔ okS v H Ln C s := by
  have z := yesS_congr (s := s) C e1 e2
  unfold okS
  rw [z.1, z.2]
