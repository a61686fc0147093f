/-! the reference's votes -/
set_option maxRecDepth 100000 in
theorem bitS : ∀ s, s < 512 → ∀ c, c < 9 → (((nI s >>> (nI c &&& 31)) &&& 1 = 1) ↔ s.testBit c = true) := by decide +kernel
section RVOTE
variable {n b L : Nat} {xs : Nat → Int32} {τ : Nat → Nat} {g : zGh} {h : zH}
theorem r_votes_L20 {v s : Nat} (hv : v < 8) (hs : s < 512) (w : WT n b L xs τ g h) : ∀ (m c : Nat) {acc : Int32}, c ≤ 9 → 9 - c < m → acc = sumS (g.2.1 89) v s c → f_X12_votes_L20 10000 (n + 42) (nI s) (nI v) h m acc (nI c) = some (sumS (g.2.1 89) v s 9) := by
  intro m
  induction m with
  | zero => intro c acc hc hm a; exact absurd hm (Nat.not_lt_zero _)
  | succ m ih =>
    intro c acc hc hm a
    rw [f_X12_votes_L20.eq_2]
    by_cases ec : c = 9
    · subst ec
      rw [if_pos (by decide), a]
    · have l9 : nI c < 9 := hI_lt (k := 9) (by omega) (by omega)
      rw [if_neg (Int32.not_le.mpr l9)]
      have es : sumS (g.2.1 89) v s (c + 1) = sumS (g.2.1 89) v s c + (if s.testBit c = true then g.2.1 89 (9 * v + c) else 0) := rfl
      by_cases cb : s.testBit c = true
      · rw [if_pos ((bitS s hs c (by omega)).mpr cb), gR_42_69 w]
        have i1 : (9 : Int32) * nI v + nI c = nI (9 * v + c) := by
          have e9 : (9 : Int32) = nI 9 := rfl
          rw [e9, hI_mul, nI_add]
        have q := h_ix (m := 72) (j := 9 * v + c) (by omega) (by omega)
        have e72 : nI 72 = 72 := rfl
        rw [e72] at q
        show (aI h (n + 89) ((9 : Int32) * nI v + nI c)).bind _ = _
        rw [i1, A_89 w (i := nI (9 * v + c)) q.1 q.2.1, q.2.2]
        show f_X12_votes_L20 10000 (n + 42) (nI s) (nI v) h m (acc + g.2.1 89 (9 * v + c)) (nI c + 1) = _
        rw [nI_1]
        rw [if_pos cb] at es
        exact ih (c + 1) (by omega) (by omega) (by rw [a, es])
      · rw [if_neg (fun z => cb ((bitS s hs c (by omega)).mp z))]
        show f_X12_votes_L20 10000 (n + 42) (nI s) (nI v) h m (acc + 0) (nI c + 1) = _
        rw [nI_1]
        rw [if_neg cb] at es
        exact ih (c + 1) (by omega) (by omega) (by rw [a, es])
theorem r_votes_L5y {C s : Nat} (eC : g.1 42 67 = nI C) (hC : C ≤ 8) (hs : s < 512) (w : WT n b L xs τ g h) : ∀ (m v : Nat) {acc : Int32}, v ≤ C → C - v < m → acc = yesS (g.2.1 88) (g.2.1 89) s v → f_X12_votes_L5 10000 (n + 42) (nI s) 1 h m acc (nI v) = some (yesS (g.2.1 88) (g.2.1 89) s C) := by
  intro m
  induction m with
  | zero => intro v acc hv hm a; exact absurd hm (Nat.not_lt_zero _)
  | succ m ih =>
    intro v acc hv hm a
    apply wp_is
    rw [f_X12_votes_L5.eq_2]
    refine wp_eq (E_42_67 w) ?_
    rw [eC]
    have rv := nI_r hv (by omega : C < 2 ^ 31)
    by_cases ev : v = C
    · subst ev
      rw [if_pos (by lia)]
      exact wp_some a
    · rw [if_neg (Int32.not_le.mpr (hI_lt (by omega) (by omega)))]
      have q8 := h_ix (m := 8) (j := v) (by omega) (by omega)
      have e8 : nI 8 = 8 := rfl
      rw [e8] at q8
      have l20' : f_X12_votes_L20 10000 (n + 42) (nI s) (nI v) h 10000 0 0 = some (sumS (g.2.1 89) v s 9) := r_votes_L20 (v := v) (by omega) hs w 10000 0 (acc := 0) (by omega) (by omega) rfl
      refine wp_eq l20' ?_
      have es : yesS (g.2.1 88) (g.2.1 89) s (v + 1) = yesS (g.2.1 88) (g.2.1 89) s v + (if sumS (g.2.1 89) v s 9 < 0 then 0 else g.2.1 88 v) := rfl
      by_cases cs : sumS (g.2.1 89) v s 9 < 0
      · refine wp_eq (a := (0 : Int32)) (if_pos cs) ?_
        rw [if_pos cs] at es
        rw [if_neg (show ¬ (0 : Int32) = 1 by decide)]
        refine wp_zlet ?_
        rw [nI_1]
        exact ⟨_, ih (v + 1) (by omega) (by omega) (by rw [a, es]), rfl⟩
      · refine wp_eq (a := (1 : Int32)) (if_neg cs) ?_
        rw [if_neg cs] at es
        rw [if_pos (show (1 : Int32) = 1 from rfl)]
        refine wp_eq (gR_42_68 w) ?_
        refine wp_eq (A_88 w (i := nI v) q8.1 q8.2.1) ?_
        rw [q8.2.2]
        refine wp_zlet ?_
        rw [nI_1]
        exact ⟨_, ih (v + 1) (by omega) (by omega) (by rw [a, es]), rfl⟩
theorem r_votes_L5n {C s : Nat} (eC : g.1 42 67 = nI C) (hC : C ≤ 8) (hs : s < 512) (w : WT n b L xs τ g h) : ∀ (m v : Nat) {acc : Int32}, v ≤ C → C - v < m → acc = noS (g.2.1 88) (g.2.1 89) s v → f_X12_votes_L5 10000 (n + 42) (nI s) 0 h m acc (nI v) = some (noS (g.2.1 88) (g.2.1 89) s C) := by
  intro m
  induction m with
  | zero => intro v acc hv hm a; exact absurd hm (Nat.not_lt_zero _)
  | succ m ih =>
    intro v acc hv hm a
    apply wp_is
    rw [f_X12_votes_L5.eq_2]
    refine wp_eq (E_42_67 w) ?_
    rw [eC]
    have rv := nI_r hv (by omega : C < 2 ^ 31)
    by_cases ev : v = C
    · subst ev
      rw [if_pos (by lia)]
      exact wp_some a
    · rw [if_neg (Int32.not_le.mpr (hI_lt (by omega) (by omega)))]
      have q8 := h_ix (m := 8) (j := v) (by omega) (by omega)
      have e8 : nI 8 = 8 := rfl
      rw [e8] at q8
      have l20' : f_X12_votes_L20 10000 (n + 42) (nI s) (nI v) h 10000 0 0 = some (sumS (g.2.1 89) v s 9) := r_votes_L20 (v := v) (by omega) hs w 10000 0 (acc := 0) (by omega) (by omega) rfl
      refine wp_eq l20' ?_
      have es : noS (g.2.1 88) (g.2.1 89) s (v + 1) = noS (g.2.1 88) (g.2.1 89) s v + (if sumS (g.2.1 89) v s 9 < 0 then g.2.1 88 v else 0) := rfl
      by_cases cs : sumS (g.2.1 89) v s 9 < 0
      · refine wp_eq (a := (0 : Int32)) (if_pos cs) ?_
        rw [if_pos cs] at es
        rw [if_pos (show (0 : Int32) = 0 from rfl)]
        refine wp_eq (gR_42_68 w) ?_
        refine wp_eq (A_88 w (i := nI v) q8.1 q8.2.1) ?_
        rw [q8.2.2]
        refine wp_zlet ?_
        rw [nI_1]
        exact ⟨_, ih (v + 1) (by omega) (by omega) (by rw [a, es]), rfl⟩
      · refine wp_eq (a := (1 : Int32)) (if_neg cs) ?_
        rw [if_neg cs] at es
        rw [if_neg (show ¬ (1 : Int32) = 0 by decide)]
        refine wp_zlet ?_
        rw [nI_1]
        exact ⟨_, ih (v + 1) (by omega) (by omega) (by rw [a, es]), rfl⟩
theorem r_votes {C s : Nat} (eC : g.1 42 67 = nI C) (hC : C ≤ 8) (hs : s < 512) (w : WT n b L xs τ g h) : f_X12_votes 10000 (n + 42) (nI s) 1 h = some (yesS (g.2.1 88) (g.2.1 89) s C) ∧ f_X12_votes 10000 (n + 42) (nI s) 0 h = some (noS (g.2.1 88) (g.2.1 89) s C) := by
  have e1 : f_X12_votes_L5 10000 (n + 42) (nI s) 1 h 10000 0 0 = some (yesS (g.2.1 88) (g.2.1 89) s C) := r_votes_L5y eC hC hs w 10000 0 (by omega) (by omega) rfl
  have e2 : f_X12_votes_L5 10000 (n + 42) (nI s) 0 h 10000 0 0 = some (noS (g.2.1 88) (g.2.1 89) s C) := r_votes_L5n eC hC hs w 10000 0 (by omega) (by omega) rfl
  unfold f_X12_votes
  rw [e1, e2]
  exact ⟨rfl, rfl⟩
theorem r_isPassed {C s : Nat} (eC : g.1 42 67 = nI C) (hC : C ≤ 8) (hs : s < 512) (w : WT n b L xs τ g h) : f_X12_isPassed 10000 (n + 42) (nI s) h = some (if yesS (g.2.1 88) (g.2.1 89) s C ≤ noS (g.2.1 88) (g.2.1 89) s C then 0 else 1) := by
  have v := r_votes eC hC hs w
  unfold f_X12_isPassed
  rw [ob_42 w, zif_t, v.1]
  show zif true ((f_X12_votes 10000 (n + 42) (nI s) 0 h).bind _) = _
  rw [zif_t, v.2]
  show (if yesS (g.2.1 88) (g.2.1 89) s C ≤ noS (g.2.1 88) (g.2.1 89) s C then some 0 else some 1) = _
  by_cases c : yesS (g.2.1 88) (g.2.1 89) s C ≤ noS (g.2.1 88) (g.2.1 89) s C
  · rw [if_pos c, if_pos c]
  · rw [if_neg c, if_neg c]
theorem v_X12_passes {v : Int32} {C : Nat} (eC : g.1 42 67 = nI C) (hC : C ≤ 8) (w : WT n b L xs τ g h) : wp (f_X12_passes 10000 (n + 42) v h) (fun r => WT n b L xs τ g r.2 ∧ (¬ (0 ≤ v ∧ v ≤ 511) → r.1 = -1) ∧ (0 ≤ v ∧ v ≤ 511 → r.1 = (if yesS (g.2.1 88) (g.2.1 89) v.toNatClampNeg C ≤ noS (g.2.1 88) (g.2.1 89) v.toNatClampNeg C then 0 else 1))) := by
  unfold f_X12_passes
  refine wp_bind (pI_42_0 w) fun h1 w => ?_
  refine wp_bind (t_X12_isClauses w) fun q2 p2 => ?_
  refine wp_ite (fun c => wp_some ⟨w, fun _ => rfl, fun z => ?_⟩) (fun c => ?_)
  · rcases p2 with p2 | p2
    · exact absurd z p2.2
    · rw [c] at p2; exact absurd p2.1 (by decide)
  have c' := (p2.resolve_left (fun z => c z.1)).2
  have cl := i32_clamp (i := v) c'.1 (N := 512) (by decide) (by show v < 512; lia)
  have e5 : nI v.toNatClampNeg = v := i32_nI c'.1
  have ip := r_isPassed eC hC cl.2 w
  rw [e5] at ip
  refine wp_zif (ob_42 w) ?_
  refine wp_eq ip ?_
  by_cases cc : yesS (g.2.1 88) (g.2.1 89) v.toNatClampNeg C ≤ noS (g.2.1 88) (g.2.1 89) v.toNatClampNeg C
  · rw [if_pos cc]
    rw [if_pos rfl]
    exact wp_some ⟨w, fun z => absurd c' z, fun _ => rfl⟩
  · rw [if_neg cc]
    rw [if_neg (by decide)]
    exact wp_some ⟨w, fun z => absurd c' z, fun _ => rfl⟩
end RVOTE
