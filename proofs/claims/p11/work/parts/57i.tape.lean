/-! the class's reader: its own heap, exactly -/
def rT (n : Nat) (k : Nat) : Nat := ([n + 4, n + 5] : List Nat).getD k 0
def rR (n : Nat) (k : Nat) : Nat := ([n + 7, n + 8, n + 9, n + 3] : List Nat).getD k 0
def QH (h0 : zH) (n : Nat) (t : Nat → Int32) (l : Nat → Int64) (q : Nat → Int32) (nm : Nat → Int64) (cd wt : Nat → Int32) : zH := zset (zset (zset (zset (zset h0 (n + 3) (oX9 (rT n) t l)) (n + 6) (oX7 (rR n) q)) (n + 7) (.inl (1, 8, .inr (.inl nm)))) (n + 8) (.inl (0, 1000, .inl cd))) (n + 9) (.inl (0, 32, .inl wt))
theorem aB_zn {h : zH} {o b : Nat} {c : zE} (hne : b ≠ o) (i : Int32) : aB (zset h o c) b i = aB h b i := by simp [aB, zs_ne hne]
theorem aL_zn {h : zH} {o b : Nat} {c : zE} (hne : b ≠ o) (i : Int32) : aL (zset h o c) b i = aL h b i := by simp [aL, zs_ne hne]
theorem aL_zsN {h : zH} {a m : Nat} {f : Nat → Int64} {j : Nat} (hj : j < m) (hm : m < 2 ^ 31) : aL (zset h a (.inl (1, m, .inr (.inl f)))) a (nI j) = some (f j) := by
  have h1 : ¬ nI j < 0 := nI_pos (by omega)
  have h2 : (nI j).toNatClampNeg = j := nI_clamp (by omega)
  simp [aL, zs_same, h1, h2, hj]
theorem sL_zn {h : zH} {o a : Nat} {c : zE} (hne : o ≠ a) (i : Int32) (x : Int64) : sL (zset h a c) o i x = (sL h o i x).map (fun g => zset g a c) := by
  unfold sL
  rw [zs_ne hne]
  split
  · split
    · simp [zs_comm (Ne.symm hne)]
    · rfl
  · rfl
theorem sL_zsN {h : zH} {a m : Nat} {f : Nat → Int64} {j : Nat} {x : Int64} (hj : j < m) (hm : m < 2 ^ 31) : sL (zset h a (.inl (1, m, .inr (.inl f)))) a (nI j) x = some (zset h a (.inl (1, m, .inr (.inl (vp_updL f j x))))) := by
  have h1 : ¬ nI j < 0 := nI_pos (by omega)
  have h2 : (nI j).toNatClampNeg = j := nI_clamp (by omega)
  simp [sL, zs_same, zs_zs, h1, h2, hj]
section QHS
variable {h0 : zH} {n : Nat} {t : Nat → Int32} {l : Nat → Int64} {q : Nat → Int32} {nm : Nat → Int64} {cd wt : Nat → Int32}
theorem Q_t2 : gI (QH h0 n t l q nm cd wt) (n + 3) 9 2 = some (t 2) := by unfold QH; rw [gI_zn (by omega), gI_zn (by omega), gI_zn (by omega), gI_zn (by omega), gX9_2]
theorem Q_T2 (z : Int32) : pF (QH h0 n t l q nm cd wt) (n + 3) 9 2 (.int z) = some (QH h0 n (upd t 2 z) l q nm cd wt) := by unfold QH; rw [pF_zn (by omega), pF_zn (by omega), pF_zn (by omega), pF_zn (by omega), pX9_2]; rfl
theorem Q_t3 : gI (QH h0 n t l q nm cd wt) (n + 3) 9 3 = some (t 3) := by unfold QH; rw [gI_zn (by omega), gI_zn (by omega), gI_zn (by omega), gI_zn (by omega), gX9_3]
theorem Q_T3 (z : Int32) : pF (QH h0 n t l q nm cd wt) (n + 3) 9 3 (.int z) = some (QH h0 n (upd t 3 z) l q nm cd wt) := by unfold QH; rw [pF_zn (by omega), pF_zn (by omega), pF_zn (by omega), pF_zn (by omega), pX9_3]; rfl
theorem Q_t4 : gI (QH h0 n t l q nm cd wt) (n + 3) 9 4 = some (t 4) := by unfold QH; rw [gI_zn (by omega), gI_zn (by omega), gI_zn (by omega), gI_zn (by omega), gX9_4]
theorem Q_T4 (z : Int32) : pF (QH h0 n t l q nm cd wt) (n + 3) 9 4 (.int z) = some (QH h0 n (upd t 4 z) l q nm cd wt) := by unfold QH; rw [pF_zn (by omega), pF_zn (by omega), pF_zn (by omega), pF_zn (by omega), pX9_4]; rfl
theorem Q_t5 : gI (QH h0 n t l q nm cd wt) (n + 3) 9 5 = some (t 5) := by unfold QH; rw [gI_zn (by omega), gI_zn (by omega), gI_zn (by omega), gI_zn (by omega), gX9_5]
theorem Q_T5 (z : Int32) : pF (QH h0 n t l q nm cd wt) (n + 3) 9 5 (.int z) = some (QH h0 n (upd t 5 z) l q nm cd wt) := by unfold QH; rw [pF_zn (by omega), pF_zn (by omega), pF_zn (by omega), pF_zn (by omega), pX9_5]; rfl
theorem Q_t6 : gI (QH h0 n t l q nm cd wt) (n + 3) 9 6 = some (t 6) := by unfold QH; rw [gI_zn (by omega), gI_zn (by omega), gI_zn (by omega), gI_zn (by omega), gX9_6]
theorem Q_T6 (z : Int32) : pF (QH h0 n t l q nm cd wt) (n + 3) 9 6 (.int z) = some (QH h0 n (upd t 6 z) l q nm cd wt) := by unfold QH; rw [pF_zn (by omega), pF_zn (by omega), pF_zn (by omega), pF_zn (by omega), pX9_6]; rfl
theorem Q_l : gL (QH h0 n t l q nm cd wt) (n + 3) 9 7 = some (l 7) := by unfold QH; rw [gL_zn (by omega), gL_zn (by omega), gL_zn (by omega), gL_zn (by omega), gX9_7]
theorem Q_L (z : Int64) : pF (QH h0 n t l q nm cd wt) (n + 3) 9 7 (.long z) = some (QH h0 n t (vp_updL l 7 z) q nm cd wt) := by unfold QH; rw [pF_zn (by omega), pF_zn (by omega), pF_zn (by omega), pF_zn (by omega), pX9_7]; rfl
theorem Q_r0 : gR (QH h0 n t l q nm cd wt) (n + 3) 9 0 = some (n + 4) := by unfold QH; rw [gR_zn (by omega), gR_zn (by omega), gR_zn (by omega), gR_zn (by omega), gX9_0]; rfl
theorem Q_r1 : gR (QH h0 n t l q nm cd wt) (n + 3) 9 1 = some (n + 5) := by unfold QH; rw [gR_zn (by omega), gR_zn (by omega), gR_zn (by omega), gR_zn (by omega), gX9_1]; rfl
theorem Q_q4 : gI (QH h0 n t l q nm cd wt) (n + 6) 7 4 = some (q 4) := by unfold QH; rw [gI_zn (by omega), gI_zn (by omega), gI_zn (by omega), gX7_4]
theorem Q_Q4 (z : Int32) : pF (QH h0 n t l q nm cd wt) (n + 6) 7 4 (.int z) = some (QH h0 n t l (upd q 4 z) nm cd wt) := by unfold QH; rw [pF_zn (by omega), pF_zn (by omega), pF_zn (by omega), pX7_4]; rfl
theorem Q_q5 : gI (QH h0 n t l q nm cd wt) (n + 6) 7 5 = some (q 5) := by unfold QH; rw [gI_zn (by omega), gI_zn (by omega), gI_zn (by omega), gX7_5]
theorem Q_Q5 (z : Int32) : pF (QH h0 n t l q nm cd wt) (n + 6) 7 5 (.int z) = some (QH h0 n t l (upd q 5 z) nm cd wt) := by unfold QH; rw [pF_zn (by omega), pF_zn (by omega), pF_zn (by omega), pX7_5]; rfl
theorem Q_q6 : gI (QH h0 n t l q nm cd wt) (n + 6) 7 6 = some (q 6) := by unfold QH; rw [gI_zn (by omega), gI_zn (by omega), gI_zn (by omega), gX7_6]
theorem Q_Q6 (z : Int32) : pF (QH h0 n t l q nm cd wt) (n + 6) 7 6 (.int z) = some (QH h0 n t l (upd q 6 z) nm cd wt) := by unfold QH; rw [pF_zn (by omega), pF_zn (by omega), pF_zn (by omega), pX7_6]; rfl
theorem Q_q7 : gI (QH h0 n t l q nm cd wt) (n + 6) 7 7 = some (q 7) := by unfold QH; rw [gI_zn (by omega), gI_zn (by omega), gI_zn (by omega), gX7_7]
theorem Q_Q7 (z : Int32) : pF (QH h0 n t l q nm cd wt) (n + 6) 7 7 (.int z) = some (QH h0 n t l (upd q 7 z) nm cd wt) := by unfold QH; rw [pF_zn (by omega), pF_zn (by omega), pF_zn (by omega), pX7_7]; rfl
theorem Q_q8 : gI (QH h0 n t l q nm cd wt) (n + 6) 7 8 = some (q 8) := by unfold QH; rw [gI_zn (by omega), gI_zn (by omega), gI_zn (by omega), gX7_8]
theorem Q_Q8 (z : Int32) : pF (QH h0 n t l q nm cd wt) (n + 6) 7 8 (.int z) = some (QH h0 n t l (upd q 8 z) nm cd wt) := by unfold QH; rw [pF_zn (by omega), pF_zn (by omega), pF_zn (by omega), pX7_8]; rfl
theorem Q_s0 : gR (QH h0 n t l q nm cd wt) (n + 6) 7 0 = some (n + 7) := by unfold QH; rw [gR_zn (by omega), gR_zn (by omega), gR_zn (by omega), gX7_0]; rfl
theorem Q_s1 : gR (QH h0 n t l q nm cd wt) (n + 6) 7 1 = some (n + 8) := by unfold QH; rw [gR_zn (by omega), gR_zn (by omega), gR_zn (by omega), gX7_1]; rfl
theorem Q_s2 : gR (QH h0 n t l q nm cd wt) (n + 6) 7 2 = some (n + 9) := by unfold QH; rw [gR_zn (by omega), gR_zn (by omega), gR_zn (by omega), gX7_2]; rfl
theorem Q_s3 : gR (QH h0 n t l q nm cd wt) (n + 6) 7 3 = some (n + 3) := by unfold QH; rw [gR_zn (by omega), gR_zn (by omega), gR_zn (by omega), gX7_3]; rfl
theorem Q_zT : zob (QH h0 n t l q nm cd wt) (n + 3) 9 = true := by unfold QH; rw [zob_zn (by omega), zob_zn (by omega), zob_zn (by omega), zob_zn (by omega), zo_X9]
theorem Q_zR : zob (QH h0 n t l q nm cd wt) (n + 6) 7 = true := by unfold QH; rw [zob_zn (by omega), zob_zn (by omega), zob_zn (by omega), zo_X7]
theorem Q_nm {j : Nat} (hj : j < 8) : aL (QH h0 n t l q nm cd wt) (n + 7) (nI j) = some (nm j) := by unfold QH; rw [aL_zn (by omega), aL_zn (by omega), aL_zsN hj (by decide)]
theorem Q_NM {j : Nat} (hj : j < 8) (x : Int64) : sL (QH h0 n t l q nm cd wt) (n + 7) (nI j) x = some (QH h0 n t l q (vp_updL nm j x) cd wt) := by unfold QH; rw [sL_zn (by omega), sL_zn (by omega), sL_zsN hj (by decide)]; rfl
theorem Q_ncd : aN (QH h0 n t l q nm cd wt) (n + 8) = some 1000 := by unfold QH; rw [aN_zn (by omega)]; exact aN_of (zs_same _ _ _) (by decide)
theorem Q_CD {j : Nat} (hj : j < 1000) (x : Int32) : sI (QH h0 n t l q nm cd wt) (n + 8) (nI j) x = some (QH h0 n t l q nm (upd cd j x) wt) := by unfold QH; rw [sI_zn (by omega), sI_zsN hj (by decide)]; rfl
theorem Q_nwt : aN (QH h0 n t l q nm cd wt) (n + 9) = some 32 := by unfold QH; exact aN_of (zs_same _ _ _) (by decide)
theorem Q_wt {j : Nat} (hj : j < 32) : aI (QH h0 n t l q nm cd wt) (n + 9) (nI j) = some (wt j) := by unfold QH; rw [aI_zsN hj (by decide)]
theorem Q_WT {j : Nat} (hj : j < 32) (x : Int32) : sI (QH h0 n t l q nm cd wt) (n + 9) (nI j) x = some (QH h0 n t l q nm cd (upd wt j x)) := by unfold QH; rw [sI_zsN hj (by decide)]
theorem Q_b (i : Int32) : aB (QH h0 n t l q nm cd wt) (n + 4) i = aB h0 (n + 4) i := by unfold QH; rw [aB_zn (by omega), aB_zn (by omega), aB_zn (by omega), aB_zn (by omega), aB_zn (by omega)]
theorem Q_k (i : Int32) : aL (QH h0 n t l q nm cd wt) (n + 5) i = aL h0 (n + 5) i := by unfold QH; rw [aL_zn (by omega), aL_zn (by omega), aL_zn (by omega), aL_zn (by omega), aL_zn (by omega)]
theorem Q_nk : aN (QH h0 n t l q nm cd wt) (n + 5) = aN h0 (n + 5) := by unfold QH; rw [aN_zn (by omega), aN_zn (by omega), aN_zn (by omega), aN_zn (by omega), aN_zn (by omega)]
theorem Q_1 : (QH h0 n t l q nm cd wt).1 = h0.1 := rfl
theorem Q_2 {a : Nat} (ha : a < n) : (QH h0 n t l q nm cd wt).2 a = h0.2 a := by unfold QH; rw [zs_ne (by omega), zs_ne (by omega), zs_ne (by omega), zs_ne (by omega), zs_ne (by omega)]
/-- the tape's signs, the words' keys, the signs that may stand -/
def TKT (h0 : zH) (n : Nat) (s wk : Nat → Nat) : Prop := (∀ j, j < 1000 → aB h0 (n + 4) (nI j) = some (nI (s j)) ∧ s j ≤ 126) ∧ (∀ j, j < 21 → aL h0 (n + 5) (nI j) = some (Int64.ofNat (wk j)) ∧ wk j < 2 ^ 40) ∧ aN h0 (n + 5) = some 21 ∧ (h0.2 (h0.1.2 5) = some (.inl (9, 8, .inl zSg)) ∧ h0.1.2 5 < n ∧ h0.1.2 1 ≠ h0.1.2 2)
theorem e_isR {lo hi : Nat} {s : Nat → Nat} {S j : Nat} {x : Int32} (hlo : lo < 1000) (hhi : hi < 1000) (hx : x = nI (s j)) (hs : s j ≤ 126) (hS : S ≤ 1000) (hj : j ≤ S) : (if nI j < 0 then some (0 : Int32) else if nI S ≤ nI j then some 0 else if 1000 ≤ nI j then some 0 else if x < nI lo then some 0 else if nI hi < x then some 0 else some 1) = some (bI (decide (j < S) && decide (lo ≤ s j ∧ s j ≤ hi))) := by
  by_cases c1 : S ≤ j
  · rw [if_neg (nI_pos (by omega)), if_pos (nle c1 (by omega)), decide_eq_false (show ¬ j < S by omega)]
    rfl
  · rw [if_neg (nI_pos (by omega)), if_neg (nnle (show j < S by omega) (by omega)), if_neg (show ¬ (1000 : Int32) ≤ nI j from nnle (a := 1000) (by omega) (by omega)), decide_eq_true (show j < S by omega)]
    by_cases c2 : s j < lo
    · rw [if_pos (show x < nI lo by rw [hx]; exact nlt c2 (by omega)), decide_eq_false (show ¬ (lo ≤ s j ∧ s j ≤ hi) by omega)]
      rfl
    · rw [if_neg (show ¬ x < nI lo by rw [hx]; exact nnlt (by omega) (by omega))]
      by_cases c3 : hi < s j
      · rw [if_pos (show nI hi < x by rw [hx]; exact nlt c3 (by omega)), decide_eq_false (show ¬ (lo ≤ s j ∧ s j ≤ hi) by omega)]
        rfl
      · rw [if_neg (show ¬ nI hi < x by rw [hx]; exact nnlt (by omega) (by omega)), decide_eq_true (show lo ≤ s j ∧ s j ≤ hi by omega)]
        rfl
theorem e_isLetter {N : Nat} {s wk : Nat → Nat} {S j : Nat} (ts : TKT h0 n s wk) (hS : S ≤ 1000) (hj : j ≤ S) (t2 : t 2 = nI S) : f_X9_isLetter N (n + 3) (nI j) (QH h0 n t l q nm cd wt) = some (bI (decide (j < S) && isL (s j))) := by
  unfold f_X9_isLetter isL
  by_cases c : j < S
  · obtain ⟨b1, b2⟩ := ts.1 j (by omega)
    simp only [Q_t2, t2, Q_r0, Q_b, b1, Option.bind_some]
    exact e_isR (lo := 97) (hi := 122) (x := nI (s j)) (by decide) (by decide) rfl b2 hS hj
  · simp only [Q_t2, t2, Option.bind_some]
    rw [if_neg (nI_pos (by omega)), if_pos (nle (show S ≤ j by omega) (by omega)), decide_eq_false c]
    rfl
theorem e_isDigit {N : Nat} {s wk : Nat → Nat} {S j : Nat} (ts : TKT h0 n s wk) (hS : S ≤ 1000) (hj : j ≤ S) (t2 : t 2 = nI S) : f_X9_isDigit N (n + 3) (nI j) (QH h0 n t l q nm cd wt) = some (bI (decide (j < S) && isD (s j))) := by
  unfold f_X9_isDigit isD
  by_cases c : j < S
  · obtain ⟨b1, b2⟩ := ts.1 j (by omega)
    simp only [Q_t2, t2, Q_r0, Q_b, b1, Option.bind_some]
    exact e_isR (lo := 48) (hi := 57) (x := nI (s j)) (by decide) (by decide) rfl b2 hS hj
  · simp only [Q_t2, t2, Option.bind_some]
    rw [if_neg (nI_pos (by omega)), if_pos (nle (show S ≤ j by omega) (by omega)), decide_eq_false c]
    rfl
theorem let_key {K x : Nat} (h1 : 97 ≤ x) (h2 : x ≤ 122) : p_X9_withLetter (Int64.ofNat K) (nI x) = Int64.ofNat (K * 32 + (x - 96)) := by
  have key : ∀ m : Fin 27, ((nI (m.1 + 96) - 97) + 1).toInt64 = Int64.ofNat m.1 := by decide +kernel
  unfold p_X9_withLetter
  have k := key ⟨x - 96, by omega⟩
  have e : x - 96 + 96 = x := by omega
  simp only [e] at k
  rw [k, Int64.ofNat_add, Int64.ofNat_mul]
  rfl
theorem upd_over (f : Nat → Int32) (k : Nat) (x y : Int32) : upd (upd f k x) k y = upd f k y := upd_upd f k x y
theorem updL_over (f : Nat → Int64) (k : Nat) (x y : Int64) : vp_updL (vp_updL f k x) k y = vp_updL f k y := by
  funext j
  by_cases hj : j = k <;> simp [vp_updL, hj]
theorem e_takeWord_L {N : Nat} {s wk : Nat → Nat} {S q0 : Nat} (ts : TKT h0 n s wk) (hS : S ≤ 1000) (t2 : t 2 = nI S) (t5 : t 5 = nI q0) : ∀ (m p : Nat), q0 ≤ p → p ≤ S → S - p < m → f_X9_takeWord_L5 N (n + 3) m (QH h0 n (upd t 3 (nI p)) (vp_updL l 7 (Int64.ofNat (enc 32 96 s q0 (min 8 (p - q0))))) q nm cd wt) = some (QH h0 n (upd t 3 (nI (endQ (fun j => isL (s j)) S m p))) (vp_updL l 7 (Int64.ofNat (enc 32 96 s q0 (min 8 (endQ (fun j => isL (s j)) S m p - q0))))) q nm cd wt) := by
  intro m
  induction m with
  | zero => intro p h1 h2 h3; exact absurd h3 (by omega)
  | succ m ih =>
    intro p h1 h2 h3
    have u2 : upd t 3 (nI p) 2 = nI S := t2
    have u3 : upd t 3 (nI p) 3 = nI p := rfl
    have u5 : upd t 3 (nI p) 5 = nI q0 := t5
    have eq : endQ (fun j => isL (s j)) S (m + 1) p = if p < S ∧ isL (s p) = true then endQ (fun j => isL (s j)) S m (p + 1) else p := rfl
    rw [f_X9_takeWord_L5.eq_2]
    simp only [Q_t3, Q_t2, Option.bind_some, u2, u3]
    by_cases c : p < S
    · rw [if_neg (nnle c (by omega))]
      simp only [Q_zT, zif_t, e_isLetter ts hS h2 u2, Option.bind_some, decide_eq_true c, Bool.true_and]
      by_cases c2 : isL (s p) = true
      · obtain ⟨b1, b2⟩ := ts.1 p (by omega)
        have lr := of_decide_eq_true c2
        have sub : nI p - nI q0 = nI (p - q0) := pk_sub (by omega)
        have nx : (upd (upd t 3 (nI p)) 3 (nI (p + 1))) = upd t 3 (nI (p + 1)) := upd_over _ _ _ _
        rw [eq.trans (if_pos ⟨c, c2⟩), c2, if_neg (by decide : ¬ bI true = 0)]
        simp only [Q_t5, u5, Option.bind_some, sub]
        by_cases c3 : 8 ≤ p - q0
        · rw [if_pos (show (8 : Int32) ≤ nI (p - q0) from nle (a := 8) c3 (by omega))]
          simp only [Option.bind_some, Q_t3, u3, nI_1, Q_T3, nx]
          have mm : min 8 (p - q0) = min 8 (p + 1 - q0) := by omega
          rw [mm]
          exact ih (p + 1) (by omega) (by omega) (by omega)
        · rw [if_neg (show ¬ (8 : Int32) ≤ nI (p - q0) from nnle (a := 8) (by omega) (by omega))]
          have k0 : vp_updL l 7 (Int64.ofNat (enc 32 96 s q0 (min 8 (p - q0)))) 7 = Int64.ofNat (enc 32 96 s q0 (min 8 (p - q0))) := by simp [vp_updL]
          have m1 : min 8 (p - q0) = p - q0 := by omega
          have m2 : min 8 (p + 1 - q0) = (p - q0) + 1 := by omega
          have st : enc 32 96 s q0 (p - q0) * 32 + (s p - 96) = enc 32 96 s q0 (min 8 (p + 1 - q0)) := by
            rw [m2]
            show _ = enc 32 96 s q0 (p - q0) * 32 + (s (q0 + (p - q0)) - 96)
            rw [show q0 + (p - q0) = p by omega]
          have ky : p_X9_withLetter (Int64.ofNat (enc 32 96 s q0 (min 8 (p - q0)))) (nI (s p)) = Int64.ofNat (enc 32 96 s q0 (min 8 (p + 1 - q0))) := by rw [m1, let_key lr.1 lr.2, st]
          have ch : ((nI (s p)).toUInt32 % 65536).toInt32 = nI (s p) := chr_id (nI_r (Nat.le_refl (s p)) (by omega)).1 (show nI (s p) ≤ 126 from (nI_r b2 (by decide)).2)
          simp only [Q_l, k0, Q_r0, Q_t3, u3, Q_b, b1, Option.bind_some, ch, ky, Q_L, updL_over, Q_T3, nI_1, nx]
          exact ih (p + 1) (by omega) (by omega) (by omega)
      · rw [Bool.not_eq_true] at c2
        rw [eq.trans (if_neg (fun z => by rw [c2] at z; exact absurd z.2 (by decide))), c2, if_pos (by decide : bI false = 0)]
    · rw [if_pos (nle (show S ≤ p by omega) (by omega)), eq.trans (if_neg (fun z => c z.1))]
end QHS
