/-! the class's working of a by-law: its own heap, exactly -/
def rBk (n : Nat) (k : Nat) : Nat := ([n + 11, n + 12, n + 13] : List Nat).getD k 0
def BH (h0 : zH) (n : Nat) (q nm st : Nat → Int32) : zH := zset (zset (zset h0 (n + 10) (oX1 (rBk n) q)) (n + 12) (.inl (0, 8, .inl nm))) (n + 13) (.inl (0, 32, .inl st))
section BHS
variable {h0 : zH} {n : Nat} {q nm st : Nat → Int32}
theorem B_q3 : gI (BH h0 n q nm st) (n + 10) 1 3 = some (q 3) := by unfold BH; rw [gI_zn (by omega), gI_zn (by omega), gX1_3]
theorem B_Q3 (z : Int32) : pF (BH h0 n q nm st) (n + 10) 1 3 (.int z) = some (BH h0 n (upd q 3 z) nm st) := by unfold BH; rw [pF_zn (by omega), pF_zn (by omega), pX1_3]; rfl
theorem B_q4 : gI (BH h0 n q nm st) (n + 10) 1 4 = some (q 4) := by unfold BH; rw [gI_zn (by omega), gI_zn (by omega), gX1_4]
theorem B_Q4 (z : Int32) : pF (BH h0 n q nm st) (n + 10) 1 4 (.int z) = some (BH h0 n (upd q 4 z) nm st) := by unfold BH; rw [pF_zn (by omega), pF_zn (by omega), pX1_4]; rfl
theorem B_q5 : gI (BH h0 n q nm st) (n + 10) 1 5 = some (q 5) := by unfold BH; rw [gI_zn (by omega), gI_zn (by omega), gX1_5]
theorem B_Q5 (z : Int32) : pF (BH h0 n q nm st) (n + 10) 1 5 (.int z) = some (BH h0 n (upd q 5 z) nm st) := by unfold BH; rw [pF_zn (by omega), pF_zn (by omega), pX1_5]; rfl
theorem B_q6 : gI (BH h0 n q nm st) (n + 10) 1 6 = some (q 6) := by unfold BH; rw [gI_zn (by omega), gI_zn (by omega), gX1_6]
theorem B_Q6 (z : Int32) : pF (BH h0 n q nm st) (n + 10) 1 6 (.int z) = some (BH h0 n (upd q 6 z) nm st) := by unfold BH; rw [pF_zn (by omega), pF_zn (by omega), pX1_6]; rfl
theorem B_q7 : gI (BH h0 n q nm st) (n + 10) 1 7 = some (q 7) := by unfold BH; rw [gI_zn (by omega), gI_zn (by omega), gX1_7]
theorem B_Q7 (z : Int32) : pF (BH h0 n q nm st) (n + 10) 1 7 (.int z) = some (BH h0 n (upd q 7 z) nm st) := by unfold BH; rw [pF_zn (by omega), pF_zn (by omega), pX1_7]; rfl
theorem B_q8 : gI (BH h0 n q nm st) (n + 10) 1 8 = some (q 8) := by unfold BH; rw [gI_zn (by omega), gI_zn (by omega), gX1_8]
theorem B_Q8 (z : Int32) : pF (BH h0 n q nm st) (n + 10) 1 8 (.int z) = some (BH h0 n (upd q 8 z) nm st) := by unfold BH; rw [pF_zn (by omega), pF_zn (by omega), pX1_8]; rfl
theorem B_q9 : gI (BH h0 n q nm st) (n + 10) 1 9 = some (q 9) := by unfold BH; rw [gI_zn (by omega), gI_zn (by omega), gX1_9]
theorem B_Q9 (z : Int32) : pF (BH h0 n q nm st) (n + 10) 1 9 (.int z) = some (BH h0 n (upd q 9 z) nm st) := by unfold BH; rw [pF_zn (by omega), pF_zn (by omega), pX1_9]; rfl
theorem B_q10 : gI (BH h0 n q nm st) (n + 10) 1 10 = some (q 10) := by unfold BH; rw [gI_zn (by omega), gI_zn (by omega), gX1_10]
theorem B_Q10 (z : Int32) : pF (BH h0 n q nm st) (n + 10) 1 10 (.int z) = some (BH h0 n (upd q 10 z) nm st) := by unfold BH; rw [pF_zn (by omega), pF_zn (by omega), pX1_10]; rfl
theorem B_s0 : gR (BH h0 n q nm st) (n + 10) 1 0 = some (n + 11) := by unfold BH; rw [gR_zn (by omega), gR_zn (by omega), gX1_0]; rfl
theorem B_s1 : gR (BH h0 n q nm st) (n + 10) 1 1 = some (n + 12) := by unfold BH; rw [gR_zn (by omega), gR_zn (by omega), gX1_1]; rfl
theorem B_s2 : gR (BH h0 n q nm st) (n + 10) 1 2 = some (n + 13) := by unfold BH; rw [gR_zn (by omega), gR_zn (by omega), gX1_2]; rfl
theorem B_z : zob (BH h0 n q nm st) (n + 10) 1 = true := by unfold BH; rw [zob_zn (by omega), zob_zn (by omega), zo_X1]
theorem B_nn : aN (BH h0 n q nm st) (n + 12) = some 8 := by unfold BH; rw [aN_zn (by omega)]; exact aN_of (zs_same _ _ _) (by decide)
theorem B_ns : aN (BH h0 n q nm st) (n + 13) = some 32 := by unfold BH; exact aN_of (zs_same _ _ _) (by decide)
theorem B_nm {j : Nat} (hj : j < 8) : aI (BH h0 n q nm st) (n + 12) (nI j) = some (nm j) := by unfold BH; rw [aI_zn (by omega), aI_zsN hj (by decide)]
theorem B_NM {j : Nat} (hj : j < 8) (x : Int32) : sI (BH h0 n q nm st) (n + 12) (nI j) x = some (BH h0 n q (upd nm j x) st) := by unfold BH; rw [sI_zn (by omega), sI_zsN hj (by decide)]; rfl
theorem B_st {j : Nat} (hj : j < 32) : aI (BH h0 n q nm st) (n + 13) (nI j) = some (st j) := by unfold BH; rw [aI_zsN hj (by decide)]
theorem B_ST {j : Nat} (hj : j < 32) (x : Int32) : sI (BH h0 n q nm st) (n + 13) (nI j) x = some (BH h0 n q nm (upd st j x)) := by unfold BH; rw [sI_zsN hj (by decide)]
theorem B_aI {a : Nat} (ha : n + 14 ≤ a) (i : Int32) : aI (BH h0 n q nm st) a i = aI h0 a i := by unfold BH; rw [aI_zn (by omega), aI_zn (by omega), aI_zn (by omega)]
theorem B_aN {a : Nat} (ha : n + 14 ≤ a) : aN (BH h0 n q nm st) a = aN h0 a := by unfold BH; rw [aN_zn (by omega), aN_zn (by omega), aN_zn (by omega)]
theorem B_gI {a : Nat} (ha : n + 14 ≤ a) (c k : Nat) : gI (BH h0 n q nm st) a c k = gI h0 a c k := by unfold BH; rw [gI_zn (by omega), gI_zn (by omega), gI_zn (by omega)]
theorem B_gR {a : Nat} (ha : n + 14 ≤ a) (c k : Nat) : gR (BH h0 n q nm st) a c k = gR h0 a c k := by unfold BH; rw [gR_zn (by omega), gR_zn (by omega), gR_zn (by omega)]
theorem B_zo {a : Nat} (ha : n + 14 ≤ a) (c : Nat) : zob (BH h0 n q nm st) a c = zob h0 a c := by unfold BH; rw [zob_zn (by omega), zob_zn (by omega), zob_zn (by omega)]
theorem B_aQ (i : Int32) : aQ (BH h0 n q nm st) (n + 11) i = aQ h0 (n + 11) i := by
  unfold BH aQ
  rw [zs_ne (by omega), zs_ne (by omega), zs_ne (by omega)]
theorem B_seen {a : Nat} (ha : n + 14 ≤ a) : f_X6_seen 10000 a (BH h0 n q nm st) = f_X6_seen 10000 a h0 := by
  unfold f_X6_seen f_X6_end
  simp only [B_gI ha, B_zo ha]
theorem B_fact {a : Nat} (ha : n + 14 ≤ a) (v : Int32) : f_X6_fact 10000 a v (BH h0 n q nm st) = f_X6_fact 10000 a v h0 := by
  unfold f_X6_fact
  simp only [B_gI ha, B_zo ha, B_seen ha]
/-! the stack -/
def stAt : List Int32 → Nat → Int32
  | [], _ => 0
  | x :: L, j => if j = L.length then x else stAt L j
def STK (st : Nat → Int32) (L : List Int32) : Prop := ∀ j, j < L.length → st j = stAt L j
theorem STK_push {L : List Int32} (h : STK st L) (x : Int32) : STK (upd st L.length x) (x :: L) := by
  intro j hj
  have hj' : j < L.length + 1 := hj
  show upd st L.length x j = if j = L.length then x else stAt L j
  by_cases e : j = L.length
  · rw [if_pos e, e]
    exact if_pos rfl
  · rw [if_neg e]
    exact (if_neg e).trans (h j (by omega))
theorem STK_pop {L : List Int32} {x : Int32} (h : STK st (x :: L)) : st L.length = x ∧ STK st L := by
  constructor
  · have := h L.length (by show L.length < L.length + 1; omega)
    rw [this]
    exact if_pos rfl
  · intro j hj
    have := h j (by show j < L.length + 1; omega)
    rw [this]
    exact if_neg (by omega)
theorem b_push {L : List Int32} {x : Int32} (h8 : q 8 = nI L.length) (hs : STK st L) (hl : L.length < 32) : ∃ q' st', f_X1_push 10000 (n + 10) x (BH h0 n q nm st) = some (BH h0 n q' nm st') ∧ q' 8 = nI (x :: L).length ∧ STK st' (x :: L) ∧ ∀ k, k ≠ 8 → q' k = q k := by
  unfold f_X1_push
  simp only [B_q8, B_s2, B_ns, Option.bind_some, h8]
  rw [if_neg (show ¬ (32 : Int32) ≤ nI L.length from nnle (a := 32) hl (by decide))]
  simp only [B_ST hl, Option.bind_some, B_q8, h8, nI_1, B_Q8]
  exact ⟨_, _, rfl, rfl, STK_push hs x, fun k hk => if_neg hk⟩
theorem b_pop {L : List Int32} {x : Int32} (h8 : q 8 = nI (x :: L).length) (hs : STK st (x :: L)) (hl : L.length < 32) : ∃ q', f_X1_pop 10000 (n + 10) (BH h0 n q nm st) = some (x, BH h0 n q' nm st) ∧ q' 8 = nI L.length ∧ ∀ k, k ≠ 8 → q' k = q k := by
  unfold f_X1_pop
  have dn : nI (x :: L).length - 1 = nI L.length := by
    show nI (L.length + 1) - 1 = _
    rw [← nI_1]
    lia
  have u8 : upd q 8 (nI L.length) 8 = nI L.length := rfl
  simp only [B_q8, Option.bind_some, h8]
  rw [if_pos (show (0 : Int32) < nI (x :: L).length from nlt (a := 0) (by show 0 < L.length + 1; omega) (by show L.length + 1 < 2 ^ 31; omega))]
  simp only [dn, B_Q8, Option.bind_some, B_s2, B_q8, u8, B_st hl, (STK_pop hs).1]
  exact ⟨_, rfl, rfl, fun k hk => if_neg hk⟩

theorem b_oper {x : Nat} {L L' : List Int32} {F V : Nat → Int32} (hx : x = 30009 ∨ isB2 x = true) (e : evS F V x L = some L') (h8 : q 8 = nI L.length) (hs : STK st L) (hl : L.length ≤ 32) : ∃ q' st', f_X1_operate 10000 (n + 10) (nI (x - 30000)) (BH h0 n q nm st) = some (BH h0 n q' nm st') ∧ q' 8 = nI L'.length ∧ STK st' L' ∧ ∀ k, k ≠ 8 → q' k = q k := by
  have h3 : ¬ x < 10000 ∧ ¬ x < 20000 ∧ ¬ x < 30000 := by
    rcases hx with h | h
    · omega
    · have := of_decide_eq_true h
      omega
  unfold evS at e
  rw [if_neg h3.1, if_neg h3.2.1, if_neg h3.2.2] at e
  unfold f_X1_operate
  by_cases h9 : x = 30009
  · subst h9
    rw [if_pos rfl] at e
    match L, e, h8, hs, hl with
    | b :: L, e, h8, hs, hl =>
      have hl' : L.length + 1 ≤ 32 := hl
      obtain ⟨q1, e1, f8, fk⟩ := b_pop (h0 := h0) (n := n) (nm := nm) h8 hs (by omega)
      obtain ⟨q2, st2, e2, g8, gs, gk⟩ := b_push (h0 := h0) (n := n) (nm := nm) (x := if b = 0 then 1 else 0) f8 (STK_pop hs).2 (by omega)
      have e' : L' = (if b = 0 then 1 else 0) :: L := (Option.some.inj e).symm
      subst e'
      refine ⟨q2, st2, ?_, g8, gs, fun k hk => (gk k hk).trans (fk k hk)⟩
      rw [B_z, zif_t, e1, Option.bind_some, if_pos (show nI (30009 - 30000) = 9 from rfl)]
      by_cases z : b = 0
      · rw [if_pos z] at e2 ⊢
        rw [Option.bind_some, B_z, zif_t, e2]
        rfl
      · rw [if_neg z] at e2 ⊢
        rw [Option.bind_some, B_z, zif_t, e2]
        rfl
  · rw [if_neg h9] at e
    have hb := of_decide_eq_true (hx.resolve_left h9)
    match L, e, h8, hs, hl with
    | b :: a :: L, e, h8, hs, hl =>
      have hl' : L.length + 1 + 1 ≤ 32 := hl
      obtain ⟨q1, e1, f8, fk⟩ := b_pop (h0 := h0) (n := n) (nm := nm) h8 hs (by show L.length + 1 < 32; omega)
      obtain ⟨q2, e2, g8, gk⟩ := b_pop (h0 := h0) (n := n) (nm := nm) f8 (STK_pop hs).2 (by omega)
      obtain ⟨q3, st3, e3, k8, ks, kk⟩ := b_push (h0 := h0) (n := n) (nm := nm) (x := bin2 x a b) g8 (STK_pop (STK_pop hs).2).2 (by omega)
      have e' : L' = bin2 x a b :: L := (Option.some.inj e).symm
      subst e'
      refine ⟨q3, st3, ?_, k8, ks, fun k hk => (kk k hk).trans ((gk k hk).trans (fk k hk))⟩
      have n9 : ¬ nI (x - 30000) = 9 := fun z => by
        have := nI_inj (by omega) (by decide) (show nI (x - 30000) = nI 9 from z)
        omega
      rw [B_z, zif_t, e1, Option.bind_some, if_neg n9, B_z, zif_t, e2, Option.bind_some]
      unfold bin2 at e3
      rcases hb with h | h | h | h | h | h | h
      · subst h
        rw [if_pos (show nI (30007 - 30000) = 7 from rfl)]
        rw [if_neg (by decide), if_neg (by decide), if_neg (by decide), if_neg (by decide), if_neg (by decide), if_pos rfl] at e3
        by_cases z : a = 0
        · rw [if_pos z] at e3 ⊢
          rw [Option.bind_some, B_z, zif_t, e3]; rfl
        · rw [if_neg z] at e3 ⊢
          by_cases y : b = 0
          · rw [if_pos y] at e3 ⊢
            rw [Option.bind_some, B_z, zif_t, e3]; rfl
          · rw [if_neg y] at e3 ⊢
            rw [Option.bind_some, B_z, zif_t, e3]; rfl
      · subst h
        rw [if_neg (show ¬ nI (30008 - 30000) = 7 by decide), if_pos (show nI (30008 - 30000) = 8 from rfl)]
        rw [if_neg (by decide), if_neg (by decide), if_neg (by decide), if_neg (by decide), if_neg (by decide), if_neg (by decide)] at e3
        by_cases z : a = 0
        · rw [if_pos z] at e3 ⊢
          by_cases y : b = 0
          · rw [if_pos y] at e3 ⊢
            rw [Option.bind_some, B_z, zif_t, e3]; rfl
          · rw [if_neg y] at e3 ⊢
            rw [Option.bind_some, B_z, zif_t, e3]; rfl
        · rw [if_neg z] at e3 ⊢
          rw [Option.bind_some, B_z, zif_t, e3]; rfl
      · subst h
        rw [if_neg (show ¬ nI (30042 - 30000) = 7 by decide), if_neg (show ¬ nI (30042 - 30000) = 8 by decide), if_neg (show ¬ nI (30042 - 30000) = 43 by decide), if_neg (show ¬ nI (30042 - 30000) = 45 by decide), if_neg (show ¬ nI (30042 - 30000) = 60 by decide), if_neg (show ¬ nI (30042 - 30000) = 61 by decide)]
        rw [if_neg (by decide), if_neg (by decide), if_pos rfl] at e3
        rw [B_z, zif_t, e3]; rfl
      · subst h
        rw [if_neg (show ¬ nI (30043 - 30000) = 7 by decide), if_neg (show ¬ nI (30043 - 30000) = 8 by decide), if_pos (show nI (30043 - 30000) = 43 from rfl)]
        rw [if_pos rfl] at e3
        rw [B_z, zif_t, e3]; rfl
      · subst h
        rw [if_neg (show ¬ nI (30045 - 30000) = 7 by decide), if_neg (show ¬ nI (30045 - 30000) = 8 by decide), if_neg (show ¬ nI (30045 - 30000) = 43 by decide), if_pos (show nI (30045 - 30000) = 45 from rfl)]
        rw [if_neg (by decide), if_pos rfl] at e3
        rw [B_z, zif_t, e3]; rfl
      · subst h
        rw [if_neg (show ¬ nI (30060 - 30000) = 7 by decide), if_neg (show ¬ nI (30060 - 30000) = 8 by decide), if_neg (show ¬ nI (30060 - 30000) = 43 by decide), if_neg (show ¬ nI (30060 - 30000) = 45 by decide), if_pos (show nI (30060 - 30000) = 60 from rfl)]
        rw [if_neg (by decide), if_neg (by decide), if_neg (by decide), if_pos rfl] at e3
        by_cases z : b ≤ a
        · rw [if_pos z] at e3 ⊢
          rw [Option.bind_some, B_z, zif_t, e3]; rfl
        · rw [if_neg z] at e3 ⊢
          rw [Option.bind_some, B_z, zif_t, e3]; rfl
      · subst h
        rw [if_neg (show ¬ nI (30061 - 30000) = 7 by decide), if_neg (show ¬ nI (30061 - 30000) = 8 by decide), if_neg (show ¬ nI (30061 - 30000) = 43 by decide), if_neg (show ¬ nI (30061 - 30000) = 45 by decide), if_neg (show ¬ nI (30061 - 30000) = 60 by decide), if_pos (show nI (30061 - 30000) = 61 from rfl)]
        rw [if_neg (by decide), if_neg (by decide), if_neg (by decide), if_neg (by decide), if_pos rfl] at e3
        by_cases z : a = b
        · rw [if_pos z] at e3 ⊢
          rw [Option.bind_some, B_z, zif_t, e3]; rfl
        · rw [if_neg z] at e3 ⊢
          rw [Option.bind_some, B_z, zif_t, e3]; rfl
/-- the facts that a code sees -/
def FC (q : Nat → Int32) (fm : Nat → Int32) (x : Nat) : Int32 := if x = 19 then q 9 else if x = 20 then q 10 else fm x
theorem FC_q {q q' fm : Nat → Int32} (h : ∀ k, k ≠ 8 → q' k = q k) : FC q' fm = FC q fm := by
  funext x
  unfold FC
  rw [h 9 (by decide), h 10 (by decide)]
theorem b_work_L {A M len Mx : Nat} {fm : Nat → Int32} (hMx : Mx ≤ 8) (hA : n + 14 ≤ A) (hM : n + 14 ≤ M) (eN : aN h0 A = some (nI len)) (hlen : len ≤ 1000) (oM : zob h0 M 6 = true) (eF : ∀ x, 10 ≤ x → x ≤ 18 → f_X6_fact 10000 M (nI x) h0 = some (fm x)) : ∀ (c : List Nat) (p m : Nat) (q st : Nat → Int32) (L L' : List Int32), (∀ j, j < c.length → aI h0 A (nI (p + j)) = some (nI (c.getD j 0))) → p + c.length ≤ len → (∀ x, x ∈ c → VC Mx x) → pd c L.length → L.length ≤ 32 → ev (FC q fm) nm c L = some L' → c.length < m → q 8 = nI L.length → STK st L → ∃ q' st', f_X1_work_L8 10000 (n + 10) A (nI (p + c.length)) M m (nI p) (BH h0 n q nm st) = some (BH h0 n q' nm st') ∧ q' 8 = nI L'.length ∧ STK st' L' ∧ ∀ k, k ≠ 8 → q' k = q k := by
  intro c
  induction c with
  | nil =>
    intro p m q st L L' hc hp hv hd hl e hm h8 hs
    obtain ⟨m, rfl⟩ : ∃ m', m = m' + 1 := ⟨m - 1, by omega⟩
    have e' : L' = L := (Option.some.inj e).symm
    subst e'
    refine ⟨q, st, ?_, h8, hs, fun _ _ => rfl⟩
    rw [f_X1_work_L8.eq_2, show p + ([] : List Nat).length = p from rfl, if_pos (nle (Nat.le_refl p) (by have : p ≤ len := hp; omega))]
  | cons x c ih =>
    intro p m q st L L' hc hp hv hd hl e hm h8 hs
    have hp' : p + (c.length + 1) ≤ len := hp
    have hm' : c.length + 1 < m := hm
    obtain ⟨m, rfl⟩ : ∃ m', m = m' + 1 := ⟨m - 1, by omega⟩
    have a0 := hc 0 (by show 0 < c.length + 1; omega)
    rw [Nat.add_zero, show (x :: c).getD 0 0 = x from rfl] at a0
    obtain ⟨L1, e1, e2⟩ : ∃ L1, evS (FC q fm) nm x L = some L1 ∧ ev (FC q fm) nm c L1 = some L' := by
      have e9 : (evS (FC q fm) nm x L).bind (ev (FC q fm) nm c) = some L' := e
      cases h : evS (FC q fm) nm x L with
      | none => rw [h] at e9; cases e9
      | some L1 => rw [h] at e9; exact ⟨L1, rfl, e9⟩
    have el : (x :: c).length = c.length + 1 := rfl
    have hx := hv x List.mem_cons_self
    have d1 := hd.1
    have len1 : L1.length = dp x L.length := by
      obtain ⟨s', y1, y2⟩ := ev_pd (FC q fm) nm [x] L ⟨d1, trivial⟩
      have y3 : (evS (FC q fm) nm x L).bind (ev (FC q fm) nm []) = some s' := y1
      rw [e1] at y3
      have y4 : L1 = s' := Option.some.inj y3
      rw [y4]
      exact y2
    have nx : ∀ q1 st1, q1 8 = nI L1.length → STK st1 L1 → (∀ k, k ≠ 8 → q1 k = q k) → ∃ q' st', f_X1_work_L8 10000 (n + 10) A (nI (p + (x :: c).length)) M m (nI p + 1) (BH h0 n q1 nm st1) = some (BH h0 n q' nm st') ∧ q' 8 = nI L'.length ∧ STK st' L' ∧ ∀ k, k ≠ 8 → q' k = q k := by
      intro q1 st1 g8 gs gk
      have go := ih (p + 1) m q1 st1 L1 L' (fun j hj => by
        have := hc (j + 1) (by show j + 1 < c.length + 1; omega)
        rw [show p + 1 + j = p + (j + 1) by omega]
        exact this) (by omega) (fun y hy => hv y (List.mem_cons_of_mem _ hy)) (by rw [len1]; exact hd.2) (by rw [len1]; exact d1.2) (by rw [FC_q gk]; exact e2) (by omega) g8 gs
      rw [nI_1, el, show p + (c.length + 1) = p + 1 + c.length by omega]
      obtain ⟨q', st', f1, f2, f3, f4⟩ := go
      exact ⟨q', st', f1, f2, f3, fun k hk => (f4 k hk).trans (gk k hk)⟩
    rw [f_X1_work_L8.eq_2, if_neg (show ¬ nI (p + (x :: c).length) ≤ nI p from nnle (by rw [el]; omega) (by rw [el]; omega)), B_aN hA, eN, Option.bind_some, if_neg (show ¬ nI len ≤ nI p from nnle (by omega) (by omega)), B_aI hA, a0, Option.bind_some]
    have dL : x < 30000 → L.length < 32 := fun h => by
      have := d1.2
      unfold dp at this
      rw [if_pos h] at this
      omega
    have x3 : x < 40000 := by
      rcases hx with h | h | h | h | h
      · omega
      · omega
      · omega
      · omega
      · have := of_decide_eq_true h
        omega
    have l30 : nI x < 30000 ↔ x < 30000 := by rw [show (30000 : Int32) = nI 30000 from rfl, n0_lt (by decide) (by omega)]
    have l20 : nI x < 20000 ↔ x < 20000 := by rw [show (20000 : Int32) = nI 20000 from rfl, n0_lt (by decide) (by omega)]
    have l10 : nI x < 10000 ↔ x < 10000 := by rw [show (10000 : Int32) = nI 10000 from rfl, n0_lt (by decide) (by omega)]
    unfold evS at e1
    by_cases h1 : x < 10000
    · rw [if_pos h1] at e1
      have e9 := (Option.some.inj e1).symm
      subst e9
      rw [if_pos (l30.mpr (by omega)), if_pos (l20.mpr (by omega)), if_pos (l10.mpr h1), B_z, zif_t]
      obtain ⟨q1, st1, f1, f8, fs, fk⟩ := b_push (h0 := h0) (n := n) (nm := nm) (x := nI x) h8 hs (dL (by omega))
      rw [f1, Option.bind_some]
      exact nx q1 st1 f8 fs fk
    · rw [if_neg h1] at e1
      by_cases h2 : x < 20000
      · rw [if_pos h2] at e1
        have e9 := (Option.some.inj e1).symm
        subst e9
        have hr : 10010 ≤ x ∧ x ≤ 10020 := by
          rcases hx with h | h | h | h | h
          · omega
          · exact h
          · omega
          · omega
          · have := of_decide_eq_true h
            omega
        have es : nI x - 10000 = nI (x - 10000) := pk_sub (a := x) (b := 10000) (by omega)
        have ef : f_X1_fact 10000 (n + 10) (nI (x - 10000)) M (BH h0 n q nm st) = some (FC q fm (x - 10000)) := by
          unfold f_X1_fact FC
          by_cases y1 : x - 10000 = 19
          · rw [y1, if_pos (show nI 19 = 19 from rfl), if_pos rfl, B_q9]
            rfl
          · rw [if_neg (show ¬ nI (x - 10000) = 19 from fun z => y1 (nI_inj (by omega) (by decide) (show nI (x - 10000) = nI 19 from z))), if_neg y1]
            by_cases y2 : x - 10000 = 20
            · rw [y2, if_pos (show nI 20 = 20 from rfl), if_pos rfl, B_q10]
              rfl
            · rw [if_neg (show ¬ nI (x - 10000) = 20 from fun z => y2 (nI_inj (by omega) (by decide) (show nI (x - 10000) = nI 20 from z))), if_neg y2, B_zo hM, oM, zif_t, B_fact hM, eF (x - 10000) (by omega) (by omega)]
              rfl
        rw [if_pos (l30.mpr (by omega)), if_pos (l20.mpr h2), if_neg (fun z => h1 (l10.mp z)), B_z, zif_t, es, ef, Option.bind_some, zif_t]
        obtain ⟨q1, st1, f1, f8, fs, fk⟩ := b_push (h0 := h0) (n := n) (nm := nm) (x := FC q fm (x - 10000)) h8 hs (dL (by omega))
        rw [f1, Option.bind_some]
        exact nx q1 st1 f8 fs fk
      · rw [if_neg h2] at e1
        by_cases h3 : x < 30000
        · rw [if_pos h3] at e1
          obtain ⟨y, rfl⟩ : ∃ y, x = 20000 + y := ⟨x - 20000, by omega⟩
          rw [Nat.add_sub_cancel_left] at e1
          have e9 := (Option.some.inj e1).symm
          subst e9
          have hr : y < 8 := by
            rcases hx with h | h | h | h | h
            · omega
            · omega
            · omega
            · omega
            · have := of_decide_eq_true h
              omega
          have es : nI (20000 + y) - 20000 = nI y := by
            rw [show nI (20000 + y) = 20000 + nI y from (nI_add 20000 y).symm]
            lia
          rw [if_pos (l30.mpr h3), if_neg (fun z => h2 (l20.mp z))]
          simp only [zlet, es, B_s1, B_nn, Option.bind_some]
          rw [if_neg (show ¬ (8 : Int32) ≤ nI y from nnle (a := 8) hr (by decide))]
          simp only [B_nm hr, Option.bind_some, B_z, zif_t]
          obtain ⟨q1, st1, f1, f8, fs, fk⟩ := b_push (h0 := h0) (n := n) (nm := nm) (x := nm y) h8 hs (dL (by omega))
          rw [f1, Option.bind_some]
          exact nx q1 st1 f8 fs fk
        · have hop : x = 30009 ∨ isB2 x = true := by
            rcases hx with h | h | h | h | h
            · omega
            · omega
            · omega
            · exact Or.inl h
            · exact Or.inr h
          have e1' : evS (FC q fm) nm x L = some L1 := by
            unfold evS
            rw [if_neg h1, if_neg h2]
            exact e1
          have es : nI x - 30000 = nI (x - 30000) := pk_sub (a := x) (b := 30000) (by omega)
          obtain ⟨q1, st1, f1, f8, fs, fk⟩ := b_oper (h0 := h0) (n := n) (nm := nm) hop e1' h8 hs hl
          rw [if_neg (fun z => h3 (l30.mp z)), B_z, zif_t, es, f1, Option.bind_some]
          exact nx q1 st1 f8 fs fk
theorem b_work {A M len p Mx : Nat} {fm : Nat → Int32} {c : List Nat} {v : Int32} (hMx : Mx ≤ 8) (hA : n + 14 ≤ A) (hM : n + 14 ≤ M) (eN : aN h0 A = some (nI len)) (hlen : len ≤ 1000) (oM : zob h0 M 6 = true) (eF : ∀ x, 10 ≤ x → x ≤ 18 → f_X6_fact 10000 M (nI x) h0 = some (fm x)) (hc : ∀ j, j < c.length → aI h0 A (nI (p + j)) = some (nI (c.getD j 0))) (hp : p + c.length ≤ len) (hv : ∀ x, x ∈ c → VC Mx x) (hd : pd c 0) (e : ev (FC q fm) nm c [] = some [v]) : ∃ q' st', f_X1_work 10000 (n + 10) A (nI p) (nI (p + c.length)) M (BH h0 n q nm st) = some (v, BH h0 n q' nm st') ∧ ∀ k, k ≠ 8 → q' k = q k := by
  unfold f_X1_work
  rw [B_Q8, Option.bind_some]
  have ku : ∀ k, k ≠ 8 → upd q 8 0 k = q k := fun k hk => if_neg hk
  obtain ⟨q1, st1, f1, f8, fs, fk⟩ := b_work_L (nm := nm) hMx hA hM eN hlen oM eF c p 10000 (upd q 8 0) st [] [v] hc hp hv hd (Nat.zero_le _) (by rw [FC_q ku]; exact e) (by omega) rfl (fun j hj => absurd hj (Nat.not_lt_zero _))
  obtain ⟨q2, g1, g8, gk⟩ := b_pop (h0 := h0) (n := n) (nm := nm) f8 fs (by decide)
  rw [f1, Option.bind_some, B_z, zif_t, g1]
  exact ⟨q2, st1, rfl, fun k hk => (gk k hk).trans ((fk k hk).trans (ku k hk))⟩
end BHS
