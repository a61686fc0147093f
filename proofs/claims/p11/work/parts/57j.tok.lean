/-! the tape's tokens -/
theorem i64_inj {a b : Nat} (ha : a < 2 ^ 40) (hb : b < 2 ^ 40) : (Int64.ofNat a = Int64.ofNat b) = (a = b) := by
  apply propext
  constructor
  · intro e
    have e2 := congrArg Int64.toInt e
    rw [Int64.toInt_ofNat_of_lt (by omega), Int64.toInt_ofNat_of_lt (by omega)] at e2
    omega
  · intro e
    rw [e]
theorem wOf_r {wk : Nat → Nat} {key : Nat} : ∀ k, wOf wk key k < k ∨ wOf wk key k = 200 := by
  intro k
  induction k with
  | zero => exact Or.inr rfl
  | succ k ih =>
    show (if wOf wk key k < 200 then wOf wk key k else if wk k = key then k else 200) < k + 1 ∨ (if wOf wk key k < 200 then wOf wk key k else if wk k = key then k else 200) = 200
    by_cases c : wOf wk key k < 200
    · rw [if_pos c]
      rcases ih with h | h <;> omega
    · rw [if_neg c]
      by_cases d : wk k = key
      · rw [if_pos d]
        exact Or.inl (by omega)
      · rw [if_neg d]
        exact Or.inr rfl
theorem wOf_keep {wk : Nat → Nat} {key j : Nat} (h : wOf wk key j < 200) : ∀ d, wOf wk key (j + d) = wOf wk key j := by
  intro d
  induction d with
  | zero => rfl
  | succ d ih =>
    show (if wOf wk key (j + d) < 200 then wOf wk key (j + d) else if wk (j + d) = key then (j + d) else 200) = _
    rw [ih, if_pos h]
def TKs (wk s : Nat → Nat) (S i : Nat) (t : Nat → Int32) (l : Nat → Int64) : Prop := t 2 = nI S ∧ t 3 = nI (pos s S (i + 1)) ∧ t 4 = nI (tkn wk s S i) ∧ t 5 = nI (plc s S i) ∧ (tkn wk s S i = 201 → t 6 = nI (num s S i)) ∧ (tkn wk s S i ≤ 20 ∨ tkn wk s S i = 200 → l 7 = Int64.ofNat (kyO s S i))
theorem upd_self {f : Nat → Int32} {k : Nat} {x : Int32} (h : f k = x) : upd f k x = f := by
  funext j
  by_cases e : j = k
  · rw [e, ← h]
    exact if_pos rfl
  · exact if_neg e
section TOK
variable {h0 : zH} {n : Nat} {t : Nat → Int32} {l : Nat → Int64} {q : Nat → Int32} {nm : Nat → Int64} {cd wt : Nat → Int32} {s wk : Nat → Nat} {S : Nat}
theorem e_wordOf_L {N key : Nat} (ts : TKT h0 n s wk) (hk : key < 2 ^ 40) : ∀ (m j : Nat), j ≤ 21 → 21 - j < m → wOf wk key j = 200 → f_X9_wordOf_L2 N (n + 3) (Int64.ofNat key) (QH h0 n t l q nm cd wt) m (nI j) = some (if wOf wk key 21 < 200 then .inr (nI (wOf wk key 21)) else .inl ()) := by
  intro m
  induction m with
  | zero => intro j h1 h2; exact absurd h2 (by omega)
  | succ m ih =>
    intro j h1 h2 h3
    rw [f_X9_wordOf_L2.eq_2]
    simp only [Q_r1, Q_nk, ts.2.2.1, Option.bind_some]
    by_cases c : 21 ≤ j
    · have e : j = 21 := by omega
      rw [if_pos (show (21 : Int32) ≤ nI j from nle (a := 21) c (by omega)), ← e, h3, if_neg (by decide)]
    · obtain ⟨b1, b2⟩ := ts.2.1 j (by omega)
      rw [if_neg (show ¬ (21 : Int32) ≤ nI j from nnle (a := 21) (by omega) (by omega))]
      simp only [Q_k, b1, Option.bind_some]
      have up : wOf wk key (j + 1) = if wk j = key then j else 200 := by
        show (if wOf wk key j < 200 then wOf wk key j else if wk j = key then j else 200) = _
        rw [h3, if_neg (by decide)]
      by_cases d : wk j = key
      · rw [if_pos ((lg_cmp_eq _ _).mpr (by rw [d]))]
        rw [if_pos d] at up
        have k := wOf_keep (wk := wk) (key := key) (j := j + 1) (by omega) (21 - (j + 1))
        rw [show j + 1 + (21 - (j + 1)) = 21 by omega, up] at k
        rw [k, if_pos (by omega)]
      · rw [if_neg d] at up
        rw [if_neg (fun z => d (by
          have z2 := (lg_cmp_eq _ _).mp z
          rwa [i64_inj b2 hk] at z2)), nI_1]
        exact ih (j + 1) (by omega) (by omega) up
theorem e_wordOf {key : Nat} (ts : TKT h0 n s wk) (hk : key < 2 ^ 40) : f_X9_wordOf 10000 (n + 3) (Int64.ofNat key) (QH h0 n t l q nm cd wt) = some (nI (wOf wk key 21)) := by
  unfold f_X9_wordOf
  have l := e_wordOf_L (t := t) (l := l) (q := q) (nm := nm) (cd := cd) (wt := wt) (N := 10000) ts hk 10000 0 (by omega) (by omega) rfl
  rw [nI_0] at l
  rw [l, Option.bind_some]
  by_cases c : wOf wk key 21 < 200
  · rw [if_pos c]
    rfl
  · rw [if_neg c]
    have e : wOf wk key 21 = 200 := (wOf_r 21).resolve_left (fun z => by omega)
    rw [e]
    rfl
theorem enc_40 {q0 k : Nat} (hk : k ≤ 8) (h : ∀ j, j < k → s (q0 + j) ≤ 126) : enc 32 96 s q0 k < 2 ^ 40 := by
  have a := enc_lt (B := 32) (o := 96) (s := s) (q := q0) k (fun j hj => by have := h j hj; omega)
  have b : (32 : Nat) ^ k ≤ 32 ^ 8 := Nat.pow_le_pow_right (by decide) hk
  have c : (32 : Nat) ^ 8 = 2 ^ 40 := by decide
  omega
theorem e_takeWord {q0 : Nat} (ts : TKT h0 n s wk) (hS : S ≤ 1000) (t2 : t 2 = nI S) (t3 : t 3 = nI q0) (t5 : t 5 = nI q0) (hq : q0 ≤ S) : f_X9_takeWord 10000 (n + 3) (QH h0 n t l q nm cd wt) = some (QH h0 n (upd (upd t 3 (nI (lxL s S q0))) 4 (nI (if lxL s S q0 - q0 ≤ 8 then wOf wk (enc 32 96 s q0 (lxL s S q0 - q0)) 21 else 203))) (vp_updL l 7 (Int64.ofNat (enc 32 96 s q0 (min 8 (lxL s S q0 - q0))))) q nm cd wt) := by
  unfold f_X9_takeWord
  rw [Q_L, Option.bind_some]
  have z0 : vp_updL l 7 0 = vp_updL l 7 (Int64.ofNat (enc 32 96 s q0 (min 8 (q0 - q0)))) := by
    rw [Nat.sub_self]
    rfl
  have lp := e_takeWord_L (N := 10000) (l := l) (q := q) (nm := nm) (cd := cd) (wt := wt) ts hS t2 t5 10000 q0 (Nat.le_refl _) hq (by omega)
  rw [upd_self t3] at lp
  have ef : endQ (fun j => isL (s j)) S 10000 q0 = lxL s S q0 := endQ_fuel 10000 (S + 1) q0 hq (by omega) (by omega)
  rw [ef] at lp
  have sp := endQ_spec (q := fun j => isL (s j)) (S + 1) q0 hq (by omega)
  have e1 : q0 ≤ lxL s S q0 := sp.1
  have e2 : lxL s S q0 ≤ S := sp.2.1
  have u3 : upd t 3 (nI (lxL s S q0)) 3 = nI (lxL s S q0) := rfl
  have u5 : upd t 3 (nI (lxL s S q0)) 5 = nI q0 := t5
  rw [z0, lp]
  simp only [Q_t3, Q_t5, Option.bind_some, u3, u5, pk_sub e1]
  by_cases c : lxL s S q0 - q0 ≤ 8
  · have mm : min 8 (lxL s S q0 - q0) = lxL s S q0 - q0 := by omega
    have k0 : vp_updL l 7 (Int64.ofNat (enc 32 96 s q0 (lxL s S q0 - q0))) 7 = Int64.ofNat (enc 32 96 s q0 (lxL s S q0 - q0)) := by simp [vp_updL]
    rw [if_pos (show nI (lxL s S q0 - q0) ≤ 8 from nle (m := 8) c (by decide)), if_pos c, mm]
    simp only [Q_l, k0, Option.bind_some, Q_zT, zif_t, e_wordOf ts (enc_40 c (fun j hj => (ts.1 (q0 + j) (by omega)).2)), Q_T4]
  · rw [if_neg (show ¬ nI (lxL s S q0 - q0) ≤ 8 from nnle (m := 8) (by omega) (by omega)), if_neg c, show (203 : Int32) = nI 203 from rfl]
    simp only [Q_T4, Option.bind_some]
theorem dig_n {K x : Nat} (h1 : 48 ≤ x) (h2 : x ≤ 57) : nI K * 10 + nI x - 48 = nI (K * 10 + (x - 48)) := by
  have e : nI (K * 10 + (x - 48)) + 48 = nI K * 10 + nI x := by
    rw [show (48 : Int32) = nI 48 from rfl, show nI K * (10 : Int32) = nI (K * 10) from nI_mul' K 10, nI_add, nI_add]
    congr 1
    omega
  rw [← e]
  lia
theorem e_takeNumber_L {N q0 : Nat} (ts : TKT h0 n s wk) (hS : S ≤ 1000) (t2 : t 2 = nI S) (t5 : t 5 = nI q0) : ∀ (m p : Nat), q0 ≤ p → p ≤ S → S - p < m → f_X9_takeNumber_L5 N (n + 3) m (QH h0 n (upd (upd t 6 (nI (enc 10 48 s q0 (min 4 (p - q0))))) 3 (nI p)) l q nm cd wt) = some (QH h0 n (upd (upd t 6 (nI (enc 10 48 s q0 (min 4 (endQ (fun j => isD (s j)) S m p - q0))))) 3 (nI (endQ (fun j => isD (s j)) S m p))) l q nm cd wt) := by
  intro m
  induction m with
  | zero => intro p h1 h2 h3; exact absurd h3 (by omega)
  | succ m ih =>
    intro p h1 h2 h3
    generalize hv : nI (enc 10 48 s q0 (min 4 (p - q0))) = v
    have u2 : upd (upd t 6 v) 3 (nI p) 2 = nI S := t2
    have u3 : upd (upd t 6 v) 3 (nI p) 3 = nI p := rfl
    have u5 : upd (upd t 6 v) 3 (nI p) 5 = nI q0 := t5
    have u6 : upd (upd t 6 v) 3 (nI p) 6 = v := rfl
    have eq : endQ (fun j => isD (s j)) S (m + 1) p = if p < S ∧ isD (s p) = true then endQ (fun j => isD (s j)) S m (p + 1) else p := rfl
    rw [f_X9_takeNumber_L5.eq_2]
    simp only [Q_t3, Q_t2, Option.bind_some, u2, u3]
    by_cases c : p < S
    · rw [if_neg (nnle c (by omega))]
      simp only [Q_zT, zif_t, e_isDigit ts hS h2 u2, Option.bind_some, decide_eq_true c, Bool.true_and]
      by_cases c2 : isD (s p) = true
      · obtain ⟨b1, b2⟩ := ts.1 p (by omega)
        have lr := of_decide_eq_true c2
        have sub : nI p - nI q0 = nI (p - q0) := pk_sub (by omega)
        have nx1 : upd (upd (upd t 6 v) 3 (nI p)) 3 (nI (p + 1)) = upd (upd t 6 v) 3 (nI (p + 1)) := upd_over _ _ _ _
        rw [eq.trans (if_pos ⟨c, c2⟩), c2, if_neg (by decide : ¬ bI true = 0)]
        simp only [Q_t5, u5, Option.bind_some, sub]
        by_cases c3 : 4 ≤ p - q0
        · rw [if_pos (show (4 : Int32) ≤ nI (p - q0) from nle (a := 4) c3 (by omega))]
          simp only [Option.bind_some, Q_t3, u3, nI_1, Q_T3, nx1]
          have mm : min 4 (p - q0) = min 4 (p + 1 - q0) := by omega
          rw [← hv, mm]
          exact ih (p + 1) (by omega) (by omega) (by omega)
        · rw [if_neg (show ¬ (4 : Int32) ≤ nI (p - q0) from nnle (a := 4) (by omega) (by omega))]
          have m1 : min 4 (p - q0) = p - q0 := by omega
          have m2 : min 4 (p + 1 - q0) = (p - q0) + 1 := by omega
          have st : enc 10 48 s q0 (p - q0) * 10 + (s p - 48) = enc 10 48 s q0 (min 4 (p + 1 - q0)) := by
            rw [m2]
            show _ = enc 10 48 s q0 (p - q0) * 10 + (s (q0 + (p - q0)) - 48)
            rw [show q0 + (p - q0) = p by omega]
          have val : v * 10 + nI (s p) - 48 = nI (enc 10 48 s q0 (min 4 (p + 1 - q0))) := by rw [← hv, m1, dig_n lr.1 lr.2, st]
          have w3 : upd (upd (upd t 6 v) 3 (nI p)) 6 (nI (enc 10 48 s q0 (min 4 (p + 1 - q0)))) 3 = nI p := rfl
          have nx : upd (upd (upd (upd t 6 v) 3 (nI p)) 6 (nI (enc 10 48 s q0 (min 4 (p + 1 - q0))))) 3 (nI (p + 1)) = upd (upd t 6 (nI (enc 10 48 s q0 (min 4 (p + 1 - q0))))) 3 (nI (p + 1)) := by
            funext j
            by_cases j3 : j = 3
            · simp [upd, j3]
            · by_cases j6 : j = 6
              · simp [upd, j6]
              · simp [upd, j3, j6]
          simp only [Q_t6, u6, Q_r0, Q_t3, u3, Q_b, b1, Option.bind_some, val, Q_T6, w3, nI_1, Q_T3, nx]
          exact ih (p + 1) (by omega) (by omega) (by omega)
      · rw [Bool.not_eq_true] at c2
        rw [eq.trans (if_neg (fun z => by rw [c2] at z; exact absurd z.2 (by decide))), c2, if_pos (by decide : bI false = 0), hv]
    · rw [if_pos (nle (show S ≤ p by omega) (by omega)), eq.trans (if_neg (fun z => c z.1)), hv]
theorem e_takeNumber {q0 : Nat} (ts : TKT h0 n s wk) (hS : S ≤ 1000) (t2 : t 2 = nI S) (t3 : t 3 = nI q0) (t5 : t 5 = nI q0) (hq : q0 ≤ S) : f_X9_takeNumber 10000 (n + 3) (QH h0 n t l q nm cd wt) = some (QH h0 n (upd (upd (upd t 6 (nI (enc 10 48 s q0 (min 4 (lxD s S q0 - q0))))) 3 (nI (lxD s S q0))) 4 (nI (if lxD s S q0 - q0 ≤ 4 then 201 else 203))) l q nm cd wt) := by
  unfold f_X9_takeNumber
  rw [Q_T6, Option.bind_some]
  have z0 : upd t 6 0 = upd (upd t 6 (nI (enc 10 48 s q0 (min 4 (q0 - q0))))) 3 (nI q0) := by
    rw [Nat.sub_self]
    exact (upd_self (f := upd t 6 0) (k := 3) t3).symm
  have lp := e_takeNumber_L (N := 10000) (l := l) (q := q) (nm := nm) (cd := cd) (wt := wt) ts hS t2 t5 10000 q0 (Nat.le_refl _) hq (by omega)
  have ef : endQ (fun j => isD (s j)) S 10000 q0 = lxD s S q0 := endQ_fuel 10000 (S + 1) q0 hq (by omega) (by omega)
  rw [ef] at lp
  have sp := endQ_spec (q := fun j => isD (s j)) (S + 1) q0 hq (by omega)
  have e1 : q0 ≤ lxD s S q0 := sp.1
  have e2 : lxD s S q0 ≤ S := sp.2.1
  rw [z0, lp]
  generalize nI (enc 10 48 s q0 (min 4 (lxD s S q0 - q0))) = v
  have u3 : upd (upd t 6 v) 3 (nI (lxD s S q0)) 3 = nI (lxD s S q0) := rfl
  have u5 : upd (upd t 6 v) 3 (nI (lxD s S q0)) 5 = nI q0 := t5
  simp only [Q_t3, Q_t5, Option.bind_some, u3, u5, pk_sub e1]
  by_cases c : lxD s S q0 - q0 ≤ 4
  · rw [if_pos (show nI (lxD s S q0 - q0) ≤ 4 from nle (m := 4) c (by decide)), if_pos c, show (201 : Int32) = nI 201 from rfl]
    simp only [Q_T4, Option.bind_some]
  · rw [if_neg (show ¬ nI (lxD s S q0 - q0) ≤ 4 from nnle (m := 4) (by omega) (by omega)), if_neg c, show (203 : Int32) = nI 203 from rfl]
    simp only [Q_T4, Option.bind_some]
theorem e_skip {N : Nat} (ts : TKT h0 n s wk) (hS : S ≤ 1000) (t2 : t 2 = nI S) : ∀ (m p : Nat), p ≤ S → S - p < m → f_X9_advance_L0 N (n + 3) m (QH h0 n (upd t 3 (nI p)) l q nm cd wt) = some (QH h0 n (upd t 3 (nI (endQ (fun j => isB (s j)) S m p))) l q nm cd wt) := by
  intro m
  induction m with
  | zero => intro p h1 h2; exact absurd h2 (by omega)
  | succ m ih =>
    intro p h1 h2
    have u2 : upd t 3 (nI p) 2 = nI S := t2
    have u3 : upd t 3 (nI p) 3 = nI p := rfl
    have eq : endQ (fun j => isB (s j)) S (m + 1) p = if p < S ∧ isB (s p) = true then endQ (fun j => isB (s j)) S m (p + 1) else p := rfl
    rw [f_X9_advance_L0.eq_2]
    simp only [Q_t3, Q_t2, Option.bind_some, u2, u3]
    by_cases c : p < S
    · obtain ⟨b1, b2⟩ := ts.1 p (by omega)
      have nx : upd (upd t 3 (nI p)) 3 (nI (p + 1)) = upd t 3 (nI (p + 1)) := upd_over _ _ _ _
      have x10 : (nI (s p) = 10) ↔ (s p = 10) := by
        rw [show (10 : Int32) = nI 10 from rfl]
        exact ⟨fun z => nI_inj (by omega) (by omega) z, fun z => by rw [z]⟩
      have x32 : (nI (s p) = 32) ↔ (s p = 32) := by
        rw [show (32 : Int32) = nI 32 from rfl]
        exact ⟨fun z => nI_inj (by omega) (by omega) z, fun z => by rw [z]⟩
      have go := ih (p + 1) (by omega) (by omega)
      rw [if_neg (nnle c (by omega))]
      simp only [Q_r0, Q_b, b1, Option.bind_some]
      by_cases d1 : s p = 10
      · rw [if_pos (x10.mpr d1), eq.trans (if_pos ⟨c, decide_eq_true (Or.inl d1)⟩), ← go]
        simp only [Option.bind_some, nI_1, Q_T3, nx]
        rfl
      · rw [if_neg (fun z => d1 (x10.mp z))]
        by_cases d2 : s p = 32
        · rw [if_pos (x32.mpr d2), eq.trans (if_pos ⟨c, decide_eq_true (Or.inr d2)⟩), ← go]
          simp only [Option.bind_some, nI_1, Q_T3, nx]
          rfl
        · rw [if_neg (fun z => d2 (x32.mp z)), eq, if_neg (fun z => by
            rcases of_decide_eq_true z.2 with z9 | z9
            · exact d1 z9
            · exact d2 z9)]
          rfl
    · rw [if_pos (nle (show S ≤ p by omega) (by omega)), eq.trans (if_neg (fun z => c z.1))]
/-! a sign that may stand -/
theorem sg_v : ∀ j, j < 8 → zSg j = nI (([40, 41, 60, 61, 43, 45, 42, 59] : List Nat).getD j 0) := by decide
theorem e_idx_L {h : zH} {x : Nat} (hx : x ≤ 126) (e : h.2 (h.1.2 5) = some (.inl (9, 8, .inl zSg))) : ∀ (m j : Nat), j ≤ 8 → 8 - j < m → ∃ r, f_J1_indexOfChar_4cfef_L7 10000 (h.1.2 5) 8 (nI x) h m (nI j) = some r ∧ ((r = .inl () ∧ ∀ k, j ≤ k → k < 8 → ¬ zSg k = nI x) ∨ ∃ k, j ≤ k ∧ k < 8 ∧ zSg k = nI x ∧ r = .inr (nI k)) := by
  intro m
  induction m with
  | zero => intro j h1 h2; exact absurd h2 (by omega)
  | succ m ih =>
    intro j h1 h2
    rw [f_J1_indexOfChar_4cfef_L7.eq_2]
    by_cases c : 8 ≤ j
    · rw [if_pos (show (8 : Int32) ≤ nI j from nle (a := 8) c (by omega))]
      exact ⟨_, rfl, Or.inl ⟨rfl, fun k h3 h4 => absurd h4 (by omega)⟩⟩
    · obtain ⟨i0, i1, i2⟩ := h_ix (m := 8) (j := j) (by omega) (by omega)
      have ab : aB h (h.1.2 5) (nI j) = some (zSg j) := by
        simp [aB, e, Int32.not_lt.mpr i0, i2, show j < 8 by omega]
      rw [if_neg (show ¬ (8 : Int32) ≤ nI j from nnle (a := 8) (by omega) (by omega)), ab, Option.bind_some]
      by_cases d : zSg j = nI x
      · rw [if_pos d]
        exact ⟨_, rfl, Or.inr ⟨j, Nat.le_refl _, by omega, d, rfl⟩⟩
      · rw [if_neg d, nI_1]
        obtain ⟨r, e1, e2⟩ := ih (j + 1) (by omega) (by omega)
        have e1' : f_J1_indexOfChar_4cfef_L7 10000 (h.1.2 5) 8 (nI x) h m (nI (j + 1)) = some r := e1
        refine ⟨r, e1', ?_⟩
        rcases e2 with ⟨r1, r2⟩ | ⟨k, r1, r2, r3, r4⟩
        · refine Or.inl ⟨r1, fun k h3 h4 => ?_⟩
          by_cases ek : k = j
          · rw [ek]; exact d
          · exact r2 k (by omega) h4
        · exact Or.inr ⟨k, by omega, r2, r3, r4⟩
theorem e_idx {h : zH} {x : Nat} (hx : x ≤ 126) (e : h.2 (h.1.2 5) = some (.inl (9, 8, .inl zSg))) (ne : h.1.2 1 ≠ h.1.2 2) : ∃ r, f_J0_indexOf_0f7a4 10000 (h.1.2 2) (nI x) h = some (r, h) ∧ ((r < 0) = (isG x = false)) := by
  have sv : gSv h (h.1.2 2) = some (h.1.2 5) := by
    unfold gSv
    rw [if_neg (Ne.symm ne), if_pos rfl]
  have sc : gSc h (h.1.2 2) = some 0 := by
    unfold gSc
    rw [if_neg (Ne.symm ne), if_pos rfl]
  have eN : aN h (h.1.2 5) = some 8 := aN_of e (by decide)
  have eL : f_J0_isLatin1_aae02 10000 (h.1.2 2) h = some 1 := by
    unfold f_J0_isLatin1_aae02
    rw [if_neg (by decide), sc]
    rfl
  have eC : f_J0_coder_7d493 10000 (h.1.2 2) h = some 0 := by
    unfold f_J0_coder_7d493
    rw [if_neg (by decide), sc]
    rfl
  have eLen : f_J0_length_8abf5 10000 (h.1.2 2) h = some 8 := by
    unfold f_J0_length_8abf5
    rw [sv]
    show (aN h (h.1.2 5)).bind _ = _
    rw [eN]
    show (f_J0_coder_7d493 10000 (h.1.2 2) h).bind (fun q4 => some ((8 : Int32) >>> (q4 &&& 31))) = _
    rw [eC]
    rfl
  obtain ⟨r, e1, e2⟩ := e_idx_L hx e 10000 0 (by omega) (by omega)
  rw [nI_0] at e1
  have x8 : (nI x).toInt8.toInt32 = nI x := by
    have key : ∀ m : Fin 127, (nI m.1).toInt8.toInt32 = nI m.1 := by decide +kernel
    exact key ⟨x, by omega⟩
  have can : ¬ p_J1_canEncode_9a6ad (nI x) = 0 := by
    unfold p_J1_canEncode_9a6ad
    rw [if_neg (nI_pos (by omega)), if_neg (by rw [show (255 : Int32) = nI 255 from rfl, n0_lt (by omega) (by decide)]; omega)]
    decide
  have inG : isG x = true ↔ ∃ k, k < 8 ∧ zSg k = nI x := by
    have key : ∀ m : Fin 127, (isG m.1 = true ↔ ∃ k : Fin 8, zSg k.1 = nI m.1) := by decide +kernel
    have k := key ⟨x, by omega⟩
    constructor
    · intro z
      obtain ⟨a, b⟩ := k.mp z
      exact ⟨a.1, a.2, b⟩
    · rintro ⟨a, b, c⟩
      exact k.mpr ⟨⟨a, b⟩, c⟩
  have fin : ∀ v, f_J1_indexOfChar_4cfef 10000 (h.1.2 5) (nI x) 0 8 h = some v → f_J0_indexOf_0f7a4 10000 (h.1.2 2) (nI x) h = some (v, h) := by
    intro v ev
    refine wp_is ?_
    unfold f_J0_indexOf_0f7a4
    refine wp_eq sv ?_
    refine wp_bind (R := fun r => r = (v, h)) ?_ (fun q2 p2 => wp_some (by rw [p2]))
    unfold f_J0_indexOf_7cf53
    refine wp_eq sv ?_
    refine wp_eq eL ?_
    rw [if_neg (by decide)]
    refine wp_eq sv ?_
    refine wp_eq sv ?_
    refine wp_eq eLen ?_
    refine wp_bind (R := fun r => r = (v, h)) ?_ (fun q2 p2 => wp_some (by rw [p2]))
    unfold f_J1_indexOf_4cfef
    rw [if_neg can]
    refine wp_zlet ?_
    refine wp_eq eN ?_
    refine wp_zlet ?_
    show wp (if (0 : Int32) < 8 then _ else _) _
    rw [if_pos (by decide)]
    refine wp_eq ev ?_
    exact wp_some rfl
  rcases e2 with ⟨r1, r2⟩ | ⟨k, -, k2, k3, k4⟩
  · refine ⟨-1, fin (-1) ?_, ?_⟩
    · unfold f_J1_indexOfChar_4cfef zlet
      show (f_J1_indexOfChar_4cfef_L7 10000 (h.1.2 5) 8 (nI x).toInt8.toInt32 h 10000 0).bind _ = _
      rw [x8, e1, r1]
      rfl
    · apply propext
      refine ⟨fun _ => ?_, fun _ => by decide⟩
      cases hh : isG x
      · rfl
      · obtain ⟨k, a, b⟩ := inG.mp hh
        exact absurd b (r2 k (by omega) a)
  · refine ⟨nI k, fin (nI k) ?_, ?_⟩
    · unfold f_J1_indexOfChar_4cfef zlet
      show (f_J1_indexOfChar_4cfef_L7 10000 (h.1.2 5) 8 (nI x).toInt8.toInt32 h 10000 0).bind _ = _
      rw [x8, e1, k4]
      rfl
    · apply propext
      refine ⟨fun z => absurd z (nI_pos (by omega)), fun z => ?_⟩
      rw [inG.mpr ⟨k, k2, k3⟩] at z
      exact absurd z (by decide)
set_option maxHeartbeats 1000000 in
theorem e_adv {p : Nat} (ts : TKT h0 n s wk) (hS : S ≤ 1000) (t2 : t 2 = nI S) (t3 : t 3 = nI p) (hp : p ≤ S) : ∃ t' l', f_X9_advance 10000 (n + 3) (QH h0 n t l q nm cd wt) = some (QH h0 n t' l' q nm cd wt) ∧ t' 2 = nI S ∧ t' 3 = nI (lxE s S (lxQ s S p)) ∧ t' 4 = nI (lxC wk s S (lxQ s S p)) ∧ t' 5 = nI (lxQ s S p) ∧ (lxC wk s S (lxQ s S p) = 201 → t' 6 = nI (enc 10 48 s (lxQ s S p) (lxD s S (lxQ s S p) - lxQ s S p))) ∧ (lxC wk s S (lxQ s S p) ≤ 20 ∨ lxC wk s S (lxQ s S p) = 200 → l' 7 = Int64.ofNat (enc 32 96 s (lxQ s S p) (lxL s S (lxQ s S p) - lxQ s S p))) := by
  have sk := e_skip (N := 10000) (l := l) (q := q) (nm := nm) (cd := cd) (wt := wt) ts hS t2 10000 p hp (by omega)
  rw [upd_self t3] at sk
  have ef : endQ (fun j => isB (s j)) S 10000 p = lxQ s S p := endQ_fuel 10000 (S + 1) p hp (by omega) (by omega)
  rw [ef] at sk
  have sp := endQ_spec (q := fun j => isB (s j)) (S + 1) p hp (by omega)
  have hq : lxQ s S p ≤ S := sp.2.1
  generalize lxQ s S p = a at sk hq ⊢
  have u2 : upd (upd t 3 (nI a)) 5 (nI a) 2 = nI S := t2
  have u3 : upd (upd t 3 (nI a)) 5 (nI a) 3 = nI a := rfl
  have u5 : upd (upd t 3 (nI a)) 5 (nI a) 5 = nI a := rfl
  have w3 : upd t 3 (nI a) 3 = nI a := rfl
  unfold f_X9_advance
  rw [sk]
  simp only [Option.bind_some, Q_t3, w3, Q_T5, Q_t2, u2, u3]
  by_cases c : a < S
  · obtain ⟨b1, b2⟩ := ts.1 a (by omega)
    have nS : ¬ S ≤ a := by omega
    rw [if_pos (nlt c (by omega))]
    simp only [Q_zT, zif_t, e_isLetter ts hS hq u2, Option.bind_some, decide_eq_true c, Bool.true_and]
    by_cases cl : isL (s a) = true
    · rw [cl, if_neg (by decide : ¬ bI true = 0), e_takeWord ts hS u2 u3 u5 hq, Option.bind_some]
      have eC : lxC wk s S a = if lxL s S a - a ≤ 8 then wOf wk (enc 32 96 s a (lxL s S a - a)) 21 else 203 := by
        unfold lxC
        rw [if_neg nS, if_pos cl]
      have eE : lxE s S a = lxL s S a := by
        unfold lxE
        rw [if_neg nS, if_pos cl]
      refine ⟨_, _, rfl, u2, by rw [eE]; rfl, by rw [eC]; rfl, rfl, fun z => ?_, fun z => ?_⟩
      · rw [eC] at z
        by_cases d : lxL s S a - a ≤ 8
        · rw [if_pos d] at z
          rcases wOf_r (wk := wk) (key := enc 32 96 s a (lxL s S a - a)) 21 with h9 | h9 <;> omega
        · rw [if_neg d] at z
          exact absurd z (by decide)
      · rw [eC] at z
        by_cases d : lxL s S a - a ≤ 8
        · have mm : min 8 (lxL s S a - a) = lxL s S a - a := by omega
          rw [mm]
          simp [vp_updL]
        · rw [if_neg d] at z
          omega
    · rw [Bool.not_eq_true] at cl
      have cl' : ¬ isL (s a) = true := by rw [cl]; decide
      rw [cl, if_pos (by decide : bI false = 0)]
      simp only [e_isDigit ts hS hq u2, Option.bind_some, decide_eq_true c, Bool.true_and]
      by_cases cd' : isD (s a) = true
      · rw [cd', if_neg (by decide : ¬ bI true = 0), e_takeNumber ts hS u2 u3 u5 hq, Option.bind_some]
        have eC : lxC wk s S a = if lxD s S a - a ≤ 4 then 201 else 203 := by
          unfold lxC
          rw [if_neg nS, if_neg cl', if_pos cd']
        have eE : lxE s S a = lxD s S a := by
          unfold lxE
          rw [if_neg nS, if_neg cl', if_pos cd']
        refine ⟨_, _, rfl, u2, by rw [eE]; rfl, by rw [eC]; rfl, rfl, fun z => ?_, fun z => ?_⟩
        · rw [eC] at z
          by_cases d : lxD s S a - a ≤ 4
          · have mm : min 4 (lxD s S a - a) = lxD s S a - a := by omega
            rw [mm]
            rfl
          · rw [if_neg d] at z
            exact absurd z (by decide)
        · rw [eC] at z
          by_cases d : lxD s S a - a ≤ 4
          · rw [if_pos d] at z; omega
          · rw [if_neg d] at z; omega
      · rw [Bool.not_eq_true] at cd'
        have cd9 : ¬ isD (s a) = true := by rw [cd']; decide
        have ch : ((nI (s a)).toUInt32 % 65536).toInt32 = nI (s a) := chr_id (nI_r (Nat.le_refl (s a)) (by omega)).1 (show nI (s a) ≤ 126 from (nI_r b2 (by decide)).2)
        have gs : gSv (QH h0 n (upd (upd t 3 (nI a)) 5 (nI a)) l q nm cd wt) ((QH h0 n (upd (upd t 3 (nI a)) 5 (nI a)) l q nm cd wt).1.2 2) = some (h0.1.2 5) := by
          unfold gSv
          rw [Q_1, if_neg (Ne.symm ts.2.2.2.2.2), if_pos rfl]
        obtain ⟨r, e1, e2⟩ := e_idx (h := QH h0 n (upd (upd t 3 (nI a)) 5 (nI a)) l q nm cd wt) b2 (by rw [Q_1, Q_2 ts.2.2.2.2.1]; exact ts.2.2.2.1) (by rw [Q_1]; exact ts.2.2.2.2.2)
        rw [cd', if_pos (by decide : bI false = 0)]
        simp only [Q_r0, Q_b, b1, Option.bind_some, zlet, ch, gs, e1]
        have eC : lxC wk s S a = if isG (s a) = true then s a else 203 := by
          unfold lxC
          rw [if_neg nS, if_neg cl', if_neg cd9]
        have eE : lxE s S a = a + 1 := by
          unfold lxE
          rw [if_neg nS, if_neg cl', if_neg cd9]
        have y3 : upd (upd (upd t 3 (nI a)) 5 (nI a)) 4 (nI (lxC wk s S a)) 3 = nI a := rfl
        have val : (if r < 0 then some (203 : Int32) else some (nI (s a))) = some (nI (lxC wk s S a)) := by
          rw [eC]
          cases hg : isG (s a)
          · rw [if_pos (show r < 0 by rw [e2]; exact hg)]
            rfl
          · rw [if_neg (show ¬ r < 0 by rw [e2, hg]; decide)]
            rfl
        rw [val]
        simp only [Option.bind_some, Q_T4, Q_t3, y3, nI_1, Q_T3]
        have gk : ∀ k, isG k = true → ¬ k ≤ 20 ∧ ¬ k = 200 ∧ ¬ k = 201 := fun k hk => by
          have := of_decide_eq_true hk
          omega
        refine ⟨_, _, rfl, u2, by rw [eE]; rfl, rfl, rfl, fun z => ?_, fun z => ?_⟩
        · rw [eC] at z
          by_cases d : isG (s a) = true
          · rw [if_pos d] at z
            exact absurd z (gk _ d).2.2
          · rw [if_neg d] at z
            exact absurd z (by decide)
        · rw [eC] at z
          by_cases d : isG (s a) = true
          · rw [if_pos d] at z
            rcases z with z | z
            · exact absurd z (gk _ d).1
            · exact absurd z (gk _ d).2.1
          · rw [if_neg d] at z
            omega
  · have e : a = S := by omega
    have eC : lxC wk s S a = 202 := by
      unfold lxC
      rw [if_pos (by omega)]
    have eE : lxE s S a = a := by
      unfold lxE
      rw [if_pos (by omega)]
    rw [if_neg (nnlt (show S ≤ a by omega) (by omega)), show (202 : Int32) = nI 202 from rfl]
    simp only [Q_T5, Option.bind_some, Q_T4]
    exact ⟨_, _, rfl, u2, by rw [eE]; rfl, by rw [eC]; rfl, by rw [e]; rfl, fun z => by rw [eC] at z; omega, fun z => by rw [eC] at z; omega⟩
/-- the next token -/
theorem e_next {i : Nat} (ts : TKT h0 n s wk) (hS : S ≤ 1000) (k : TKs wk s S i t l) : ∃ t' l', f_X9_advance 10000 (n + 3) (QH h0 n t l q nm cd wt) = some (QH h0 n t' l' q nm cd wt) ∧ TKs wk s S (i + 1) t' l' := by
  obtain ⟨t', l', e, a2, a3, a4, a5, a6, a7⟩ := e_adv (l := l) (q := q) (nm := nm) (cd := cd) (wt := wt) ts hS k.1 k.2.1 (pos_le s S (i + 1)).1
  exact ⟨t', l', e, a2, a3, a4, a5, a6, a7⟩
theorem e_start (ts : TKT h0 n s wk) (hS : S ≤ 1000) (t2 : t 2 = nI S) : ∃ t' l', f_X9_start 10000 (n + 3) (QH h0 n t l q nm cd wt) = some (QH h0 n t' l' q nm cd wt) ∧ TKs wk s S 0 t' l' := by
  obtain ⟨t', l', e, a2, a3, a4, a5, a6, a7⟩ := e_adv (t := upd t 3 (nI 0)) (l := l) (q := q) (nm := nm) (cd := cd) (wt := wt) (p := 0) ts hS t2 rfl (Nat.zero_le _)
  refine ⟨t', l', ?_, a2, a3, a4, a5, a6, a7⟩
  unfold f_X9_start
  rw [Q_T3, Option.bind_some, Q_zT, zif_t]
  rw [nI_0] at e
  rw [e]
  rfl
end TOK
