/-! the reference's reader: tokens, exactly -/
theorem mu_gt {i j : Int32} (h0 : 0 ≤ i) (h1 : i < j) (h2 : j ≤ 9000) {m : Nat} (hm : (9000 - i.toInt).toNat < m + 1) : (9000 - j.toInt).toNat < m := by
  have a := i32_0 h0
  have c := Int32.lt_iff_toInt_lt.mp h1
  have d : j.toInt ≤ 9000 := by simpa using Int32.le_iff_toInt_le.mp h2
  omega
def gC (g : zGh) (S P : Nat → Int32) (V : Nat → Int64) : zGh := gsL (gsA (gsA g 44 S) 45 P) 46 V
theorem gC_S (g : zGh) (S S' P : Nat → Int32) (V : Nat → Int64) : gsA (gC g S P V) 44 S' = gC g S' P V := by
  refine Prod.ext rfl (Prod.ext ?_ rfl)
  funext p
  show (if p = 44 then S' else if p = 45 then P else if p = 44 then S else g.2.1 p) = (if p = 45 then P else if p = 44 then S' else g.2.1 p)
  by_cases e : p = 44
  · subst e; simp
  · simp [e]
theorem gC_P (g : zGh) (S P P' : Nat → Int32) (V : Nat → Int64) : gsA (gC g S P V) 45 P' = gC g S P' V := by
  refine Prod.ext rfl (Prod.ext ?_ rfl)
  funext p
  show (if p = 45 then P' else if p = 45 then P else if p = 44 then S else g.2.1 p) = (if p = 45 then P' else if p = 44 then S else g.2.1 p)
  by_cases e : p = 45 <;> simp [e]
theorem gC_V (g : zGh) (S P : Nat → Int32) (V V' : Nat → Int64) : gsL (gC g S P V) 46 V' = gC g S P V' := by
  refine Prod.ext rfl (Prod.ext rfl ?_)
  funext p
  show (if p = 46 then V' else if p = 46 then V else g.2.2 p) = (if p = 46 then V' else g.2.2 p)
  by_cases e : p = 46 <;> simp [e]
theorem gC_id (g : zGh) : gC g (g.2.1 44) (g.2.1 45) (g.2.2 46) = g := by
  refine Prod.ext rfl (Prod.ext ?_ ?_)
  · funext p
    show (if p = 45 then g.2.1 45 else if p = 44 then g.2.1 44 else g.2.1 p) = g.2.1 p
    by_cases e : p = 45
    · simp [e]
    · by_cases e2 : p = 44 <;> simp [e, e2]
  · funext p
    show (if p = 46 then g.2.2 46 else g.2.2 p) = g.2.2 p
    by_cases e : p = 46 <;> simp [e]
theorem endQ_go {q : Nat → Bool} {S p : Nat} (h1 : p < S) (h2 : q p = true) : endQ q S (S + 1) p = endQ q S (S + 1) (p + 1) := by
  have e : endQ q S (S + 1) p = endQ q S S (p + 1) := by
    show (if p < S ∧ q p = true then endQ q S S (p + 1) else p) = _
    rw [if_pos ⟨h1, h2⟩]
  rw [e]
  exact endQ_fuel S (S + 1) (p + 1) (by omega) (by omega) (by omega)
theorem endQ_at {q : Nat → Bool} {S p : Nat} (h : ¬ (p < S ∧ q p = true)) : endQ q S (S + 1) p = p := by
  show (if p < S ∧ q p = true then endQ q S S (p + 1) else p) = _
  rw [if_neg h]
theorem nI_sb {a b : Nat} (h : b ≤ a) : nI a - nI b = nI (a - b) := by
  have e : nI a = nI (a - b) + nI b := by rw [nI_add, Nat.sub_add_cancel h]
  rw [e]
  exact Int32.add_sub_cancel _ _
theorem oN_mul (a b : Nat) : Int64.ofNat a * Int64.ofNat b = Int64.ofNat (a * b) := (Int64.ofNat_mul a b).symm
theorem oN_add (a b : Nat) : Int64.ofNat a + Int64.ofNat b = Int64.ofNat (a + b) := (Int64.ofNat_add a b).symm
theorem oN_sb {a b : Nat} (h : b ≤ a) : Int64.ofNat a - Int64.ofNat b = Int64.ofNat (a - b) := by
  have e : Int64.ofNat a = Int64.ofNat (a - b) + Int64.ofNat b := by rw [oN_add, Nat.sub_add_cancel h]
  rw [e]
  exact Int64.add_sub_cancel _ _
theorem rank_of : ∀ x, x < 127 → 97 ≤ x → x ≤ 122 → (p_X12_rank (nI x)).toInt64 = Int64.ofNat (x - 96) := by decide +kernel
theorem to64_of : ∀ x, x < 127 → (nI x).toInt64 = Int64.ofNat x := by decide +kernel
theorem isLe_of : ∀ x, x < 127 → (p_X12_isLetter (nI x) = 0 ↔ isL x = false) := by decide +kernel
theorem isDi_of : ∀ x, x < 127 → (p_X12_isDigit (nI x) = 0 ↔ isD x = false) := by decide +kernel
theorem isSi_of : ∀ x, x < 127 → (p_X12_isSignOf (nI x) = 0 ↔ isG x = false) := by decide +kernel
theorem isBl_of : ∀ x, x < 127 → (isB x = true ↔ nI x = 10 ∨ nI x = 32) := by decide +kernel
theorem isL_D : ∀ x, x < 127 → isD x = true → isL x = false := by decide +kernel
/-- the tape as numbers -/
def TPE (g : zGh) (s : Nat → Nat) (S : Nat) : Prop := S ≤ 1000 ∧ ∀ j, j < S → g.2.1 43 j = nI (s j) ∧ s j ≤ 126
section CUT
variable {n b L : Nat} {xs : Nat → Int32} {τ : Nat → Nat} {g : zGh} {h : zH} {s : Nat → Nat} {S : Nat}
theorem c_at {j : Nat} (w : WT n b L xs τ g h) (t : TPE g s S) (hj : j < S) : aI h (n + 43) (nI j) = some (nI (s j)) := by
  have hS := t.1
  have r := nI_r (show j ≤ 999 by omega) (by decide : 999 < 2 ^ 31)
  have e : nI 999 = 999 := rfl
  rw [A_43 w r.1 (by lia), nI_clamp (by omega), (t.2 j hj).1]
theorem P_cut_L70 {q : Nat} (w : WT n b L xs τ g h) (t : TPE g s S) (eS : g.1 42 3 = nI S) : ∀ (m p : Nat), q ≤ p → p ≤ S → S - p < m → lxL s S q = endQ (fun j => isL (s j)) S (S + 1) p → f_X12_cutAll_L70 10000 (n + 42) (nI q) h m (nI p) (Int64.ofNat (enc 37 96 s q (if p - q ≤ 8 then p - q else 8))) = some (nI (lxL s S q), Int64.ofNat (enc 37 96 s q (if lxL s S q - q ≤ 8 then lxL s S q - q else 8))) := by
  have hS := t.1
  have e3 : gI h (n + 42) 12 3 = some (nI S) := by rw [E_42_3 w, eS]
  intro m
  induction m with
  | zero => intro p h1 h2 h3; exact absurd h3 (Nat.not_lt_zero _)
  | succ m ih =>
    intro p h1 h2 h3 h4
    rw [f_X12_cutAll_L70.eq_2, e3]
    show (if nI S ≤ nI p then _ else _) = _
    by_cases c : S ≤ p
    · rw [if_pos (nle c (by omega))]
      rw [endQ_at (by omega)] at h4
      rw [h4]
    · rw [if_neg (nnle (by omega) (by omega)), gR_42_1 w]
      show (aI h (n + 43) (nI p)).bind _ = _
      have hp := (t.2 p (by omega)).2
      rw [c_at w t (show p < S by omega)]
      show (if p_X12_isLetter (nI (s p)) = 0 then _ else _) = _
      by_cases c2 : isL (s p) = false
      · rw [if_pos ((isLe_of _ (by omega)).mpr c2)]
        rw [endQ_at (fun z => by rw [c2] at z; exact absurd z.2 (by decide))] at h4
        rw [h4]
      · have c3 : isL (s p) = true := by
          cases hx : isL (s p)
          · exact absurd hx c2
          · rfl
        rw [if_neg (fun z => c2 ((isLe_of _ (by omega)).mp z))]
        have h5 : lxL s S q = endQ (fun j => isL (s j)) S (S + 1) (p + 1) := h4.trans (endQ_go (by omega) c3)
        have ls : 97 ≤ s p ∧ s p ≤ 122 := of_decide_eq_true c3
        show (if (8 : Int32) ≤ nI p - nI q then _ else _) = _
        rw [nI_sb h1]
        by_cases c4 : 8 ≤ p - q
        · rw [if_pos (show (8 : Int32) ≤ nI (p - q) from nle (a := 8) c4 (by omega)), nI_1]
          have i8 := ih (p + 1) (by omega) (by omega) (by omega) h5
          have e8 : (if p - q ≤ 8 then p - q else 8) = 8 := by
            by_cases y : p - q ≤ 8
            · rw [if_pos y]; omega
            · rw [if_neg y]
          have e9 : (if p + 1 - q ≤ 8 then p + 1 - q else 8) = 8 := if_neg (by omega)
          rw [e9] at i8
          rw [e8]
          exact i8
        · rw [if_neg (show ¬ (8 : Int32) ≤ nI (p - q) from nnle (a := 8) (by omega) (by omega))]
          show (aI h (n + 43) (nI p)).bind _ = _
          rw [c_at w t (show p < S by omega)]
          show f_X12_cutAll_L70 10000 (n + 42) (nI q) h m (nI p + 1) (Int64.ofNat 37 * Int64.ofNat _ + (p_X12_rank (nI (s p))).toInt64) = _
          rw [rank_of _ (by omega) ls.1 ls.2, oN_mul, oN_add, nI_1, if_pos (show p - q ≤ 8 by omega)]
          have i8 := ih (p + 1) (by omega) (by omega) (by omega) h5
          rw [if_pos (show p + 1 - q ≤ 8 by omega), show p + 1 - q = (p - q) + 1 by omega] at i8
          have en : enc 37 96 s q (p - q + 1) = 37 * enc 37 96 s q (p - q) + (s p - 96) := by
            show enc 37 96 s q (p - q) * 37 + (s (q + (p - q)) - 96) = _
            rw [show q + (p - q) = p by omega, Nat.mul_comm]
          rw [en] at i8
          exact i8
theorem P_cut_L159 {q : Nat} (w : WT n b L xs τ g h) (t : TPE g s S) (eS : g.1 42 3 = nI S) : ∀ (m p : Nat), q ≤ p → p ≤ S → S - p < m → lxD s S q = endQ (fun j => isD (s j)) S (S + 1) p → f_X12_cutAll_L159 10000 (n + 42) (nI q) h m (nI p) (Int64.ofNat (enc 10 48 s q (if p - q ≤ 4 then p - q else 4))) = some (nI (lxD s S q), Int64.ofNat (enc 10 48 s q (if lxD s S q - q ≤ 4 then lxD s S q - q else 4))) := by
  have hS := t.1
  have e3 : gI h (n + 42) 12 3 = some (nI S) := by rw [E_42_3 w, eS]
  intro m
  induction m with
  | zero => intro p h1 h2 h3; exact absurd h3 (Nat.not_lt_zero _)
  | succ m ih =>
    intro p h1 h2 h3 h4
    rw [f_X12_cutAll_L159.eq_2, e3]
    show (if nI S ≤ nI p then _ else _) = _
    by_cases c : S ≤ p
    · rw [if_pos (nle c (by omega))]
      rw [endQ_at (by omega)] at h4
      rw [h4]
    · rw [if_neg (nnle (by omega) (by omega)), gR_42_1 w]
      show (aI h (n + 43) (nI p)).bind _ = _
      have hp := (t.2 p (by omega)).2
      rw [c_at w t (show p < S by omega)]
      show (if p_X12_isDigit (nI (s p)) = 0 then _ else _) = _
      by_cases c2 : isD (s p) = false
      · rw [if_pos ((isDi_of _ (by omega)).mpr c2)]
        rw [endQ_at (fun z => by rw [c2] at z; exact absurd z.2 (by decide))] at h4
        rw [h4]
      · have c3 : isD (s p) = true := by
          cases hx : isD (s p)
          · exact absurd hx c2
          · rfl
        rw [if_neg (fun z => c2 ((isDi_of _ (by omega)).mp z))]
        have h5 : lxD s S q = endQ (fun j => isD (s j)) S (S + 1) (p + 1) := h4.trans (endQ_go (by omega) c3)
        have ls : 48 ≤ s p ∧ s p ≤ 57 := of_decide_eq_true c3
        show (if (4 : Int32) ≤ nI p - nI q then _ else _) = _
        rw [nI_sb h1]
        by_cases c4 : 4 ≤ p - q
        · rw [if_pos (show (4 : Int32) ≤ nI (p - q) from nle (a := 4) c4 (by omega)), nI_1]
          have i8 := ih (p + 1) (by omega) (by omega) (by omega) h5
          have e8 : (if p - q ≤ 4 then p - q else 4) = 4 := by
            by_cases y : p - q ≤ 4
            · rw [if_pos y]; omega
            · rw [if_neg y]
          have e9 : (if p + 1 - q ≤ 4 then p + 1 - q else 4) = 4 := if_neg (by omega)
          rw [e9] at i8
          rw [e8]
          exact i8
        · rw [if_neg (show ¬ (4 : Int32) ≤ nI (p - q) from nnle (a := 4) (by omega) (by omega))]
          show (aI h (n + 43) (nI p)).bind _ = _
          rw [c_at w t (show p < S by omega)]
          show f_X12_cutAll_L159 10000 (n + 42) (nI q) h m (nI p + 1) (Int64.ofNat 10 * Int64.ofNat _ + (nI (s p)).toInt64 - Int64.ofNat 48) = _
          rw [to64_of _ (by omega), oN_mul, oN_add, oN_sb (by omega), nI_1, if_pos (show p - q ≤ 4 by omega)]
          have i8 := ih (p + 1) (by omega) (by omega) (by omega) h5
          rw [if_pos (show p + 1 - q ≤ 4 by omega), show p + 1 - q = (p - q) + 1 by omega] at i8
          have en : enc 10 48 s q (p - q + 1) = 10 * enc 10 48 s q (p - q) + s p - 48 := by
            show enc 10 48 s q (p - q) * 10 + (s (q + (p - q)) - 48) = _
            rw [show q + (p - q) = p by omega, Nat.mul_comm]
            omega
          rw [en] at i8
          exact i8
/-- the tokens up to one, as they are kept -/
def TKR (s : Nat → Nat) (S i : Nat) (Sf Pf : Nat → Int32) (V : Nat → Int64) : Prop := ∀ j, j < i → plc s S j < S ∧ Sf j = nI (soK s S (plc s S j)) ∧ Pf j = nI (plc s S j) ∧ (soK s S (plc s S j) ≤ 3 → V j = vaK s S (plc s S j))
theorem TKR_more {i : Nat} {Sf Pf : Nat → Int32} {V : Nat → Int64} {x : Int64} (k : TKR s S i Sf Pf V) (h1 : plc s S i < S) (h2 : soK s S (plc s S i) ≤ 3 → x = vaK s S (plc s S i)) : TKR s S (i + 1) (upd Sf i (nI (soK s S (plc s S i)))) (upd Pf i (nI (plc s S i))) (vp_updL V i x) := by
  intro j hj
  by_cases e : j = i
  · subst e
    refine ⟨h1, if_pos rfl, if_pos rfl, fun z => ?_⟩
    have e2 : vp_updL V j x j = x := if_pos rfl
    rw [e2]
    exact h2 z
  · obtain ⟨k1, k2, k3, k4⟩ := k j (by omega)
    have e1 : upd Sf i (nI (soK s S (plc s S i))) j = Sf j := if_neg e
    have e2 : upd Pf i (nI (plc s S i)) j = Pf j := if_neg e
    have e3 : vp_updL V i x j = V j := if_neg e
    rw [e1, e2, e3]
    exact ⟨k1, k2, k3, k4⟩
set_option maxHeartbeats 4000000 in
theorem P_cut_L17 (t : TPE g s S) (eS : g.1 42 3 = nI S) : ∀ (m i p : Nat) {Sf Pf : Nat → Int32} {V : Nat → Int64} {h : zH}, WT n b L xs τ (gC g Sf Pf V) h → i ≤ p → p ≤ S → S - p < m → lxQ s S p = plc s S i → TKR s S i Sf Pf V → wp (f_X12_cutAll_L17 10000 (n + 42) m (nI i) (nI p) h) (fun r => ∃ i' Sf' Pf' V', r.1 = nI i' ∧ i' ≤ S ∧ plc s S i' = S ∧ TKR s S i' Sf' Pf' V' ∧ WT n b L xs τ (gC g Sf' Pf' V') r.2) := by
  have hS := t.1
  intro m
  induction m with
  | zero => intro i p Sf Pf V h w i0 i1 hm; exact absurd hm (Nat.not_lt_zero _)
  | succ m ih =>
    intro i p Sf Pf V h w i0 i1 hm hq k
    have tC : ∀ {Sf Pf : Nat → Int32} {V : Nat → Int64}, TPE (gC g Sf Pf V) s S := t
    rw [f_X12_cutAll_L17.eq_2]
    have e3 : gI h (n + 42) 12 3 = some (nI S) := by
      rw [E_42_3 w]
      exact congrArg some eS
    refine wp_eq e3 ?_
    by_cases c : S ≤ p
    · rw [if_pos (nle c (by omega))]
      have e : p = S := by omega
      subst e
      have pe : plc s p i = p := hq.symm.trans (endQ_at (by omega))
      exact wp_some ⟨i, Sf, Pf, V, rfl, i0, pe, k, w⟩
    rw [if_neg (nnle (by omega) (by omega))]
    have hp := (t.2 p (by omega)).2
    refine wp_eq (gR_42_1 w) ?_
    refine wp_eq (c_at w tC (show p < S by omega)) ?_
    by_cases cb : isB (s p) = true
    · have hq2 : lxQ s S (p + 1) = plc s S i := (endQ_go (q := fun j => isB (s j)) (show p < S by omega) cb).symm.trans hq
      rw [nI_1]
      refine wp_ite (fun _ => ih i (p + 1) w (by omega) (by omega) (by omega) hq2 k) (fun c1 => ?_)
      refine wp_ite (fun _ => ih i (p + 1) w (by omega) (by omega) (by omega) hq2 k) (fun c2 => ?_)
      rcases (isBl_of _ (by omega)).mp cb with z | z
      · exact absurd z c1
      · exact absurd z c2
    have pq : plc s S i = p := hq.symm.trans (endQ_at (q := fun j => isB (s j)) (fun z => cb z.2))
    refine wp_ite (fun z => absurd ((isBl_of _ (by omega)).mpr (Or.inl z)) cb) (fun _ => ?_)
    refine wp_ite (fun z => absurd ((isBl_of _ (by omega)).mpr (Or.inr z)) cb) (fun _ => ?_)
    have ri := nI_r (show i ≤ 1000 by omega) (by decide : 1000 < 2 ^ 31)
    have e1000 : nI 1000 = 1000 := rfl
    have rp := nI_r (show p ≤ 1000 by omega) (by decide : 1000 < 2 ^ 31)
    refine wp_eq (gR_42_5 w) ?_
    refine wp_bind (sI_45 w (i := nI i) (x := nI p) ri.1 (by lia) rp.1 (by lia)) fun h11 w11 => ?_
    rw [nI_clamp (by omega)] at w11
    have eP : (gC g Sf Pf V).2.1 45 = Pf := rfl
    rw [eP, gC_P] at w11
    have st : ∀ x : Nat, wp (sI h11 (n + 44) (nI i) (nI x)) (fun r => WT n b L xs τ (gC g (upd Sf i (nI x)) (upd Pf i (nI p)) V) r) := fun x => by
      refine wp_mono (sI_44 w11 (i := nI i) (x := nI x) ri.1 (by lia)) fun r q => ?_
      rw [nI_clamp (by omega)] at q
      have eS4 : (gC g Sf (upd Pf i (nI p)) V).2.1 44 = Sf := rfl
      rw [eS4, gC_S] at q
      exact q
    have e37 : (0 : Int64) = Int64.ofNat (enc 37 96 s p (if p - p ≤ 8 then p - p else 8)) := by
      rw [Nat.sub_self]
      rfl
    have e10 : (0 : Int64) = Int64.ofNat (enc 10 48 s p (if p - p ≤ 4 then p - p else 4)) := by
      rw [Nat.sub_self]
      rfl
    refine wp_bind (R := fun r => r.1 = nI (lxE s S p) ∧ (soK s S p ≤ 3 → r.2.1 = vaK s S p) ∧ WT n b L xs τ (gC g (upd Sf i (nI (soK s S p))) (upd Pf i (nI p)) V) r.2.2) ?_ (fun m12 p12 => ?_)
    · by_cases cl : isL (s p) = true
      · have lE : lxE s S p = lxL s S p := by
          unfold lxE
          rw [if_neg (by omega), if_pos cl]
        rw [if_neg (fun z => by rw [(isLe_of _ (by omega)).mp z] at cl; exact absurd cl (by decide)), lE]
        have lo := P_cut_L70 (q := p) w11 tC eS 10000 p (Nat.le_refl _) i1 (by omega) rfl
        rw [← e37] at lo
        refine wp_eq lo ?_
        refine wp_eq (gR_42_4 w11) ?_
        show wp (if nI (lxL s S p) - nI p ≤ 8 then _ else _) _
        have le := lxL_l (s := s) (S := S) (q := p) i1
        rw [nI_sb le.1]
        by_cases c8 : lxL s S p - p ≤ 8
        · have so : soK s S p = 1 := by
            unfold soK
            rw [if_pos cl, if_pos c8]
          have va : vaK s S p = Int64.ofNat (enc 37 96 s p (lxL s S p - p)) := by
            unfold vaK
            rw [if_pos cl]
          rw [if_pos (show nI (lxL s S p - p) ≤ (8 : Int32) from nle (m := 8) c8 (by decide)), so, va]
          refine wp_bind (st 1) fun h18 w18 => wp_some ⟨rfl, fun _ => ?_, w18⟩
          show Int64.ofNat (enc 37 96 s p (if lxL s S p - p ≤ 8 then lxL s S p - p else 8)) = _
          rw [if_pos c8]
        · have so : soK s S p = 4 := by
            unfold soK
            rw [if_pos cl, if_neg c8]
          rw [if_neg (show ¬ nI (lxL s S p - p) ≤ (8 : Int32) from nnle (m := 8) (by omega) (by omega)), so]
          exact wp_bind (st 4) fun h18 w18 => wp_some ⟨rfl, fun z => absurd z (by decide), w18⟩
      · have cl0 : isL (s p) = false := by
          cases hx : isL (s p)
          · rfl
          · exact absurd hx cl
        rw [if_pos ((isLe_of _ (by omega)).mpr cl0)]
        by_cases cd : isD (s p) = true
        · have lE : lxE s S p = lxD s S p := by
            unfold lxE
            rw [if_neg (by omega), if_neg cl, if_pos cd]
          rw [if_neg (fun z => by rw [(isDi_of _ (by omega)).mp z] at cd; exact absurd cd (by decide)), lE]
          have lo := P_cut_L159 (q := p) w11 tC eS 10000 p (Nat.le_refl _) i1 (by omega) rfl
          rw [← e10] at lo
          refine wp_eq lo ?_
          refine wp_eq (gR_42_4 w11) ?_
          show wp (if nI (lxD s S p) - nI p ≤ 4 then _ else _) _
          have le := lxD_d (s := s) (S := S) (q := p) i1
          rw [nI_sb le.1]
          by_cases c8 : lxD s S p - p ≤ 4
          · have so : soK s S p = 2 := by
              unfold soK
              rw [if_neg cl, if_pos cd, if_pos c8]
            have va : vaK s S p = Int64.ofNat (enc 10 48 s p (lxD s S p - p)) := by
              unfold vaK
              rw [if_neg cl, if_pos cd]
            rw [if_pos (show nI (lxD s S p - p) ≤ (4 : Int32) from nle (m := 4) c8 (by decide)), so, va]
            refine wp_bind (st 2) fun h18 w18 => wp_some ⟨rfl, fun _ => ?_, w18⟩
            show Int64.ofNat (enc 10 48 s p (if lxD s S p - p ≤ 4 then lxD s S p - p else 4)) = _
            rw [if_pos c8]
          · have so : soK s S p = 4 := by
              unfold soK
              rw [if_neg cl, if_pos cd, if_neg c8]
            rw [if_neg (show ¬ nI (lxD s S p - p) ≤ (4 : Int32) from nnle (m := 4) (by omega) (by omega)), so]
            exact wp_bind (st 4) fun h18 w18 => wp_some ⟨rfl, fun z => absurd z (by decide), w18⟩
        · have cd0 : isD (s p) = false := by
            cases hx : isD (s p)
            · rfl
            · exact absurd hx cd
          have lE : lxE s S p = p + 1 := by
            unfold lxE
            rw [if_neg (by omega), if_neg cl, if_neg cd]
          rw [if_pos ((isDi_of _ (by omega)).mpr cd0), lE, nI_1]
          refine wp_zlet ?_
          refine wp_eq (gR_42_4 w11) ?_
          by_cases cg : isG (s p) = true
          · have so : soK s S p = 3 := by
              unfold soK
              rw [if_neg cl, if_neg cd, if_pos cg]
            have va : vaK s S p = (nI (s p)).toInt64 := by
              unfold vaK
              rw [if_neg cl, if_neg cd]
            rw [if_neg (fun z => by rw [(isSi_of _ (by omega)).mp z] at cg; exact absurd cg (by decide)), so, va]
            exact wp_bind (st 3) fun h18 w18 => wp_some ⟨rfl, fun _ => rfl, w18⟩
          · have cg0 : isG (s p) = false := by
              cases hx : isG (s p)
              · rfl
              · exact absurd hx cg
            have so : soK s S p = 4 := by
              unfold soK
              rw [if_neg cl, if_neg cd, if_neg cg]
            rw [if_pos ((isSi_of _ (by omega)).mpr cg0), so]
            exact wp_bind (st 4) fun h18 w18 => wp_some ⟨rfl, fun z => absurd z (by decide), w18⟩
    obtain ⟨q1, q2, w12⟩ := p12
    refine wp_eq (gR_42_6 w12) ?_
    refine wp_bind (sL_46 w12 (i := nI i) ri.1 (by lia)) fun h49 w49 => ?_
    rw [nI_clamp (by omega)] at w49
    have eV : (gC g (upd Sf i (nI (soK s S p))) (upd Pf i (nI p)) V).2.2 46 = V := rfl
    rw [eV, gC_V] at w49
    rw [q1, nI_1]
    have lE := lxE_le (s := s) i1
    have k2 := TKR_more (x := m12.2.1) k (show plc s S i < S by omega) (by rw [pq]; exact q2)
    rw [pq] at k2
    have l3 := lE.2.2 (by omega)
    refine ih (i + 1) (lxE s S p) w49 (by omega) lE.2.1 (by omega) ?_ k2
    show _ = lxQ s S (lxE s S (plc s S i))
    rw [pq]
/-- behind cutAll: an empty tape, its tokens, the reader at the first -/
theorem P_cutAll (w : WT n b L xs τ g h) (t : TPE g s S) (eS : g.1 42 2 = nI S) : wp (f_X12_cutAll 10000 (n + 42) h) (fun r => ∃ nT Sf Pf V, nT ≤ S ∧ plc s S nT = S ∧ Sf nT = 0 ∧ Pf nT = nI S ∧ TKR s S nT Sf Pf V ∧ WT n b L xs τ (gset (gset (gC (gset (gset g 42 3 (nI S)) 42 2 0) Sf Pf V) 42 7 0) 42 8 0) r) := by
  unfold f_X12_cutAll
  have hS := t.1
  have r2 := gr_42_2 w
  refine wp_eq (E_42_2 w) ?_
  refine wp_bind (pI_42_3 w (x := g.1 42 2) r2.1 r2.2) fun h2 w2 => ?_
  refine wp_bind (pI_42_2 w2 (x := 0) (by decide) (by decide)) fun h3 w3 => ?_
  rw [eS] at w3
  have w3' : WT n b L xs τ (gC (gset (gset g 42 3 (nI S)) 42 2 0) (g.2.1 44) (g.2.1 45) (g.2.2 46)) h3 := by
    have e : gC (gset (gset g 42 3 (nI S)) 42 2 0) (g.2.1 44) (g.2.1 45) (g.2.2 46) = gset (gset g 42 3 (nI S)) 42 2 0 := gC_id (gset (gset g 42 3 (nI S)) 42 2 0)
    rw [e]
    exact w3
  have t2 : TPE (gset (gset g 42 3 (nI S)) 42 2 0) s S := t
  have es2 : (gset (gset g 42 3 (nI S)) 42 2 0).1 42 3 = nI S := by
    rw [gset_in]
    unfold upd
    rw [if_neg (by decide), gset_in]
    unfold upd
    rw [if_pos rfl]
  generalize gset (gset g 42 3 (nI S)) 42 2 0 = g2 at w3' t2 es2
  refine wp_bind (P_cut_L17 t2 es2 10000 0 0 w3' (Nat.le_refl _) (Nat.zero_le _) (by omega) rfl (fun j hj => absurd hj (Nat.not_lt_zero _))) fun m50 p50 => ?_
  obtain ⟨i', Sf, Pf, V, q1, q2, q3, q4, w50⟩ := p50
  have ri := nI_r (show i' ≤ 1000 by omega) (by decide : 1000 < 2 ^ 31)
  have rS := nI_r (show S ≤ 1000 by omega) (by decide : 1000 < 2 ^ 31)
  have e1000 : nI 1000 = 1000 := rfl
  rw [q1]
  refine wp_eq (gR_42_4 w50) ?_
  refine wp_bind (sI_44 w50 (i := nI i') (x := 0) ri.1 (by lia)) fun h52 w52 => ?_
  rw [nI_clamp (by omega)] at w52
  have eS4 : (gC g2 Sf Pf V).2.1 44 = Sf := rfl
  rw [eS4, gC_S] at w52
  refine wp_eq (gR_42_5 w52) ?_
  have e54 : gI h52 (n + 42) 12 3 = some (nI S) := by
    rw [E_42_3 w52]
    exact congrArg some es2
  refine wp_eq e54 ?_
  refine wp_bind (sI_45 w52 (i := nI i') (x := nI S) ri.1 (by lia) rS.1 (by lia)) fun h55 w55 => ?_
  rw [nI_clamp (by omega)] at w55
  have eP : (gC g2 (upd Sf i' 0) Pf V).2.1 45 = Pf := rfl
  rw [eP, gC_P] at w55
  refine wp_bind (pI_42_7 w55 (x := 0) (by decide) (by decide)) fun h56 w56 => ?_
  refine wp_bind (pI_42_8 w56 (x := 0)) fun h57 w57 => ?_
  refine wp_some ⟨i', upd Sf i' 0, upd Pf i' (nI S), V, q2, q3, if_pos rfl, if_pos rfl, fun j hj => ?_, w57⟩
  obtain ⟨k1, k2, k3, k4⟩ := q4 j hj
  have a1 : upd Sf i' 0 j = Sf j := if_neg (by omega)
  have a2 : upd Pf i' (nI S) j = Pf j := if_neg (by omega)
  rw [a1, a2]
  exact ⟨k1, k2, k3, k4⟩
end CUT
/-- the reference's tokens are the class's -/
theorem RT_of {g : zGh} {s : Nat → Nat} {S nT : Nat} {Pf : Nat → Int32} (hs : ∀ j, j < S → s j ≤ 126) (W : ∀ j, j < 21 → g.2.2 47 j = Int64.ofNat (w37 (pm j))) (hT : TKR s S nT (g.2.1 44) Pf (g.2.2 46)) (hE : plc s S nT = S) (h0 : g.2.1 44 nT = 0) : RT g (tkn wk0 s S) (num s S) nT := by
  -- what a token is, by its kind
  have en : ∀ i, i ≤ nT → i = nT ∨ i < nT := fun i hi => by omega
  have tE : tkn wk0 s S nT = 202 := tkn_end (by omega)
  have key : ∀ i, i < nT → (∃ w, tkn wk0 s S i = w ∧ g.2.1 44 i = 1 ∧ (w < 21 ∨ w = 200) ∧ ∀ j, j < 21 → (w = pm j ↔ g.2.2 46 i = g.2.2 47 j)) ∨ (tkn wk0 s S i = 201 ∧ g.2.1 44 i = 2 ∧ g.2.2 46 i = Int64.ofNat (num s S i) ∧ num s S i < 10000) ∨ (∃ v, tkn wk0 s S i = v ∧ g.2.1 44 i = 3 ∧ 40 ≤ v ∧ v ≤ 61 ∧ g.2.2 46 i = (nI v).toInt64) ∨ (tkn wk0 s S i = 203 ∧ g.2.1 44 i = 4) := by
    intro i hi
    obtain ⟨k1, k2, -, k4⟩ := hT i hi
    have tk : tkn wk0 s S i = lxC wk0 s S (plc s S i) := rfl
    have nm : num s S i = enc 10 48 s (plc s S i) (lxD s S (plc s S i) - plc s S i) := rfl
    rw [tk, nm]
    generalize plc s S i = q at k1 k2 k4
    have hq := hs q k1
    unfold soK at k2 k4
    unfold vaK at k4
    unfold lxC
    rw [if_neg (show ¬ S ≤ q by omega)]
    by_cases cl : isL (s q) = true
    · rw [if_pos cl] at k2 k4
      rw [if_pos cl]
      have le := lxL_l (s := s) (S := S) (q := q) (by omega)
      by_cases c8 : lxL s S q - q ≤ 8
      · rw [if_pos c8] at k2 k4
        rw [if_pos c8]
        rw [if_pos cl] at k4
        have v := k4 (by decide)
        refine Or.inl ⟨_, rfl, k2, ?_, fun j hj => ?_⟩
        · rcases wOf_spec (wk := wk0) (key := enc 32 96 s q (lxL s S q - q)) 21 (by decide) with y | y
          · exact Or.inl y.2.1
          · exact Or.inr y.1
        · have pj := pm_le j hj
          rw [v, W j hj, lx_word le.2.2 (show pm j < 21 by omega)]
          exact ⟨fun e => by rw [e], fun e => ofN64_inj (e37_lt le.2.2 c8) (w37_lt _ (by omega)) e⟩
      · rw [if_neg c8] at k2 k4
        rw [if_neg c8]
        exact Or.inr (Or.inr (Or.inr ⟨rfl, k2⟩))
    · rw [if_neg cl] at k2 k4
      rw [if_neg cl]
      by_cases cd : isD (s q) = true
      · rw [if_pos cd] at k2 k4
        rw [if_pos cd]
        have le := lxD_d (s := s) (S := S) (q := q) (by omega)
        by_cases c4 : lxD s S q - q ≤ 4
        · rw [if_pos c4] at k2 k4
          rw [if_pos c4]
          rw [if_neg cl, if_pos cd] at k4
          exact Or.inr (Or.inl ⟨rfl, k2, k4 (by decide), e10_lt le.2.2 c4⟩)
        · rw [if_neg c4] at k2 k4
          rw [if_neg c4]
          exact Or.inr (Or.inr (Or.inr ⟨rfl, k2⟩))
      · rw [if_neg cd] at k2 k4
        rw [if_neg cd]
        by_cases cg : isG (s q) = true
        · rw [if_pos cg] at k2 k4
          rw [if_pos cg]
          rw [if_neg cl, if_neg cd] at k4
          have gg : s q = 40 ∨ s q = 41 ∨ s q = 60 ∨ s q = 61 ∨ s q = 43 ∨ s q = 45 ∨ s q = 42 ∨ s q = 59 := of_decide_eq_true cg
          exact Or.inr (Or.inr (Or.inl ⟨_, rfl, k2, by omega, by omega, k4 (by decide)⟩))
        · rw [if_neg cg] at k2 k4
          rw [if_neg cg]
          exact Or.inr (Or.inr (Or.inr ⟨rfl, k2⟩))
  refine ⟨fun i hi v v0 v1 => ?_, fun i hi j hj => ?_, fun i hi => ?_, fun i hi h1 => ?_, fun i hi => ?_, fun i hi => ?_⟩
  · rcases en i hi with e | e
    · subst e
      rw [tE, h0]
      exact ⟨fun z => absurd z (by omega), fun z => absurd z.1 (by decide)⟩
    · rcases key i e with ⟨w, a1, a2, a3, a4⟩ | ⟨a1, a2, -⟩ | ⟨w, a1, a2, a3, a4, a5⟩ | ⟨a1, a2⟩
      · rw [a1, a2]
        exact ⟨fun z => absurd z (by omega), fun z => absurd z.1 (by decide)⟩
      · rw [a1, a2]
        exact ⟨fun z => absurd z (by omega), fun z => absurd z.1 (by decide)⟩
      · rw [a1, a2, a5]
        exact ⟨fun z => ⟨rfl, by rw [z]⟩, fun z => toI64_inj _ (by omega) _ (by omega) z.2⟩
      · rw [a1, a2]
        exact ⟨fun z => absurd z (by omega), fun z => absurd z.1 (by decide)⟩
  · have pj := pm_le j hj
    rcases en i hi with e | e
    · subst e
      rw [tE, h0]
      exact ⟨fun z => absurd z (by omega), fun z => absurd z.1 (by decide)⟩
    · rcases key i e with ⟨w, a1, a2, a3, a4⟩ | ⟨a1, a2, -⟩ | ⟨w, a1, a2, a3, a4, a5⟩ | ⟨a1, a2⟩
      · rw [a1, a2]
        exact ⟨fun z => ⟨rfl, (a4 j hj).mp z⟩, fun z => (a4 j hj).mpr z.2⟩
      · rw [a1, a2]
        exact ⟨fun z => absurd z (by omega), fun z => absurd z.1 (by decide)⟩
      · rw [a1, a2]
        exact ⟨fun z => absurd z (by omega), fun z => absurd z.1 (by decide)⟩
      · rw [a1, a2]
        exact ⟨fun z => absurd z (by omega), fun z => absurd z.1 (by decide)⟩
  · rcases en i hi with e | e
    · subst e
      rw [tE, h0]
      exact ⟨fun z => absurd z (by decide), fun z => absurd z (by decide)⟩
    · rcases key i e with ⟨w, a1, a2, a3, a4⟩ | ⟨a1, a2, -⟩ | ⟨w, a1, a2, a3, a4, a5⟩ | ⟨a1, a2⟩
      · rw [a1, a2]
        exact ⟨fun z => absurd z (by omega), fun z => absurd z (by decide)⟩
      · exact ⟨fun _ => a2, fun _ => a1⟩
      · rw [a1, a2]
        exact ⟨fun z => absurd z (by omega), fun z => absurd z (by decide)⟩
      · rw [a1, a2]
        exact ⟨fun z => absurd z (by decide), fun z => absurd z (by decide)⟩
  · rcases en i hi with e | e
    · subst e
      rw [tE] at h1
      exact absurd h1 (by decide)
    · rcases key i e with ⟨w, a1, a2, a3, a4⟩ | ⟨a1, a2, a3, a4⟩ | ⟨w, a1, a2, a3, a4, a5⟩ | ⟨a1, a2⟩
      · exact absurd (a1.symm.trans h1) (by omega)
      · exact ⟨a3, a4⟩
      · exact absurd (a1.symm.trans h1) (by omega)
      · exact absurd (a1.symm.trans h1) (by decide)
  · rcases en i hi with e | e
    · subst e
      rw [tE, h0]
      exact ⟨fun z => absurd z (by decide), fun z => absurd z.1 (by decide)⟩
    · rcases key i e with ⟨w, a1, a2, a3, a4⟩ | ⟨a1, a2, -⟩ | ⟨w, a1, a2, a3, a4, a5⟩ | ⟨a1, a2⟩
      · rw [a1, a2]
        refine ⟨fun z => ⟨rfl, fun j hj y => ?_⟩, fun z => ?_⟩
        · have := (a4 j hj).mpr y
          have pj := pm_le j hj
          omega
        · rcases a3 with a3 | a3
          · obtain ⟨j, hj, ej⟩ := pm_sur w a3
            exact absurd ((a4 j hj).mp ej.symm) (z.2 j hj)
          · exact a3
      · rw [a1, a2]
        exact ⟨fun z => absurd z (by decide), fun z => absurd z.1 (by decide)⟩
      · rw [a1, a2]
        exact ⟨fun z => absurd z (by omega), fun z => absurd z.1 (by decide)⟩
      · rw [a1, a2]
        exact ⟨fun z => absurd z (by decide), fun z => absurd z.1 (by decide)⟩
  · rcases en i hi with e | e
    · subst e
      exact ⟨fun _ => h0, fun _ => tE⟩
    · rcases key i e with ⟨w, a1, a2, a3, a4⟩ | ⟨a1, a2, -⟩ | ⟨w, a1, a2, a3, a4, a5⟩ | ⟨a1, a2⟩
      · rw [a1, a2]
        exact ⟨fun z => absurd z (by omega), fun z => absurd z (by decide)⟩
      · rw [a1, a2]
        exact ⟨fun z => absurd z (by decide), fun z => absurd z (by decide)⟩
      · rw [a1, a2]
        exact ⟨fun z => absurd z (by omega), fun z => absurd z (by decide)⟩
      · rw [a1, a2]
        exact ⟨fun z => absurd z (by decide), fun z => absurd z (by decide)⟩
