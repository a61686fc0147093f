/-! the class's reading of an expression is rdSt -/
def wtAt : List Nat → Nat → Nat
  | [], _ => 0
  | t :: W, j => if j = W.length then t else wtAt W j
def lastV : List Nat → Int32
  | [] => -1
  | t :: _ => nI t
theorem rank_n : ∀ t : Fin 204, p_X7_rank (nI t.1) = nI (rk t.1) := by decide +kernel
/-- the codes written: as far as there is room -/
def CDX (q cd : Nat → Int32) (o : List Nat) : Prop := q 5 = nI (min o.length 1000) ∧ (o.length ≤ 1000 → ∀ j, j < o.length → cd j = nI (o.getD j 0))
def CDF (f : Nat) (q cd : Nat → Int32) (o : List Nat) : Prop := ∃ o', (f = 0 → o' = o) ∧ CDX q cd o'
theorem CDF_any {f : Nat} {q cd : Nat → Int32} {o o2 : List Nat} (h : ¬ f = 0) (c : CDF f q cd o) : CDF f q cd o2 := by
  obtain ⟨o', -, c⟩ := c
  exact ⟨o', fun e => absurd e h, c⟩
theorem CDF_f {f f' : Nat} {q cd : Nat → Int32} {o o2 : List Nat} (h : ¬ f' = 0) (c : CDF f q cd o) : CDF f' q cd o2 := by
  obtain ⟨o', -, c⟩ := c
  exact ⟨o', fun e => absurd e h, c⟩
theorem CDF_q {f : Nat} {q q' cd : Nat → Int32} {o : List Nat} (h : q' 5 = q 5) (c : CDF f q cd o) : CDF f q' cd o := by
  obtain ⟨o', e, c1, c2⟩ := c
  exact ⟨o', e, h.trans c1, c2⟩
/-- at token i, W waiting, f the fault -/
def XS (wk s : Nat → Nat) (S i : Nat) (W : List Nat) (f : Nat) (t : Nat → Int32) (l : Nat → Int64) (q wt cd : Nat → Int32) (o : List Nat) : Prop := TKs wk s S i t l ∧ q 6 = nI W.length ∧ q 7 = nI (opens W) ∧ (∀ j, j < W.length → wt j = nI (wtAt W j)) ∧ q 8 = nI (if f = 0 then 0 else f + 16 * plc s S i) ∧ CDF f q cd o ∧ (∀ u, u ∈ W → u ≤ 203) ∧ f ≤ 5
/-- the names told -/
def XN (M : Nat) (nk : Nat → Nat) (q : Nat → Int32) (nm : Nat → Int64) : Prop := M ≤ 8 ∧ q 4 = nI M ∧ ∀ j, j < M → nm j = Int64.ofNat (nk j) ∧ nk j < 2 ^ 40
theorem lkw {W : List Nat} {t : Nat} {wt : Nat → Int32} (h : ∀ j, j < (t :: W).length → wt j = nI (wtAt (t :: W) j)) : wt W.length = nI t ∧ ∀ j, j < W.length → wt j = nI (wtAt W j) := by
  constructor
  · have := h W.length (by show W.length < W.length + 1; omega)
    rw [this]
    show nI (if W.length = W.length then t else wtAt W W.length) = _
    rw [if_pos rfl]
  · intro j hj
    have := h j (by show j < W.length + 1; omega)
    rw [this]
    show nI (if j = W.length then t else wtAt W j) = _
    rw [if_neg (by omega)]
section READ
variable {h0 : zH} {n : Nat} {t : Nat → Int32} {l : Nat → Int64} {q : Nat → Int32} {nm : Nat → Int64} {cd wt : Nat → Int32} {s wk : Nat → Nat} {S i f M : Nat} {nk : Nat → Nat} {W o : List Nat}
theorem e_last (hW : W.length ≤ 32) (q6 : q 6 = nI W.length) (hw : ∀ j, j < W.length → wt j = nI (wtAt W j)) : f_X7_lastWaiting 10000 (n + 6) (QH h0 n t l q nm cd wt) = some (lastV W) := by
  unfold f_X7_lastWaiting
  simp only [Q_q6, Option.bind_some, q6]
  cases W with
  | nil =>
    rw [if_pos (show nI ([] : List Nat).length ≤ 0 from nle (m := 0) (Nat.le_refl 0) (by decide))]
    rfl
  | cons u W =>
    have hl : W.length + 1 ≤ 32 := hW
    have dn : nI (u :: W).length - 1 = nI W.length := by
      show nI (W.length + 1) - 1 = _
      rw [← nI_1]
      lia
    rw [if_neg (show ¬ nI (u :: W).length ≤ 0 from nnle (m := 0) (by show 0 < W.length + 1; omega) (by show W.length + 1 < 2 ^ 31; omega))]
    simp only [Q_s2, Q_nwt, Option.bind_some]
    rw [if_neg (show ¬ (32 : Int32) < nI (u :: W).length from nnlt (a := 32) hW (by decide))]
    simp only [dn, Q_wt (show W.length < 32 by omega), Option.bind_some, (lkw hw).1]
    rfl
theorem rank_l (h : ∀ u, u ∈ W → u ≤ 203) : p_X7_rank (lastV W) = nI (rkT W) := by
  cases W with
  | nil => rfl
  | cons u W => exact rank_n ⟨u, by have := h u List.mem_cons_self; omega⟩
theorem e_writeX {v : Nat} {o : List Nat} (c5 : CDX q cd o) : ∃ q' cd', f_X7_write 10000 (n + 6) (nI v) (QH h0 n t l q nm cd wt) = some (QH h0 n t l q' nm cd' wt) ∧ (∀ k, ¬ k = 5 → q' k = q k) ∧ CDX q' cd' (o ++ [v]) := by
  obtain ⟨q5, hc⟩ := c5
  have el : (o ++ [v]).length = o.length + 1 := by simp
  unfold f_X7_write
  simp only [Q_q5, Q_s1, Q_ncd, Option.bind_some, q5]
  by_cases c : 1000 ≤ o.length
  · have m1 : min o.length 1000 = 1000 := by omega
    rw [if_pos (show (1000 : Int32) ≤ nI (min o.length 1000) by rw [m1]; decide)]
    refine ⟨q, cd, rfl, fun _ _ => rfl, ?_, fun h => absurd h (by omega)⟩
    rw [q5, el, m1, show min (o.length + 1) 1000 = 1000 by omega]
  · have m1 : min o.length 1000 = o.length := by omega
    rw [m1] at q5 ⊢
    rw [if_neg (show ¬ (1000 : Int32) ≤ nI o.length from nnle (a := 1000) (by omega) (by decide))]
    simp only [Q_CD (show o.length < 1000 by omega), Option.bind_some, Q_q5, q5, nI_1, Q_Q5]
    refine ⟨_, _, rfl, fun k hk => if_neg hk, ?_, fun h j hj => ?_⟩
    · rw [el, show min (o.length + 1) 1000 = o.length + 1 by omega]
      rfl
    · rw [el] at hj
      by_cases ej : j = o.length
      · subst ej
        rw [List.getD_eq_getElem?_getD, List.getElem?_append_right (Nat.le_refl _), Nat.sub_self]
        exact if_pos rfl
      · have hj' : j < o.length := by omega
        rw [List.getD_eq_getElem?_getD, List.getElem?_append_left hj', ← List.getD_eq_getElem?_getD]
        exact (if_neg ej).trans (hc (by omega) j hj')
theorem e_write {v : Nat} {f : Nat} {o : List Nat} (c5 : CDF f q cd o) : ∃ q' cd', f_X7_write 10000 (n + 6) (nI v) (QH h0 n t l q nm cd wt) = some (QH h0 n t l q' nm cd' wt) ∧ (∀ k, ¬ k = 5 → q' k = q k) ∧ CDF f q' cd' (o ++ [v]) := by
  obtain ⟨o', e, c⟩ := c5
  obtain ⟨q', cd', e1, e2, e3⟩ := e_writeX (h0 := h0) (n := n) (t := t) (l := l) (nm := nm) (wt := wt) (v := v) c
  exact ⟨q', cd', e1, e2, o' ++ [v], fun z => by rw [e z], e3⟩
theorem e_wrong {k : Nat} {o o2 : List Nat} (hS : S ≤ 1000) (x : XS wk s S i W f t l q wt cd o) (hk : ¬ k = 0) (h5 : k ≤ 5) : ∃ q', f_X7_wrong 10000 (n + 6) (nI k) (QH h0 n t l q nm cd wt) = some (QH h0 n t l q' nm cd wt) ∧ (∀ j, ¬ j = 8 → q' j = q j) ∧ XS wk s S i W (if f = 0 then k else f) t l q' wt cd o2 := by
  obtain ⟨tk, x6, x7, xw, x8, x5, xm, xf⟩ := x
  have pl := (pos_le s S i).2.2
  unfold f_X7_wrong
  simp only [Q_q8, Option.bind_some]
  by_cases c : f = 0
  · rw [if_pos c] at x8 ⊢
    have e : nI k + 16 * nI (plc s S i) = nI (k + 16 * plc s S i) := by
      rw [show (16 : Int32) * nI (plc s S i) = nI (16 * plc s S i) from nI_mul' 16 _, nI_add]
    rw [if_pos (show q 8 = 0 from x8)]
    simp only [Q_s3, Option.bind_some, Q_t5, tk.2.2.2.1, e, Q_Q8]
    refine ⟨_, rfl, fun j hj => if_neg hj, tk, x6, x7, xw, ?_, CDF_q (q := q) rfl (CDF_f hk x5), xm, h5⟩
    rw [if_neg hk]
    rfl
  · rw [if_neg c] at x8 ⊢
    rw [if_neg (show ¬ q 8 = 0 from fun z => by
      have := nI_inj (by omega) (by decide) ((x8.symm.trans z).trans nI_0.symm)
      omega)]
    refine ⟨q, rfl, fun _ _ => rfl, tk, x6, x7, xw, ?_, CDF_any c x5, xm, xf⟩
    rw [if_neg c]
    exact x8
/-- what waits with this rank at least is written -/
theorem e_popR {r : Nat} (h1 : 1 ≤ r) (hr : r ≤ 5) : ∀ (m v : Nat) (W : List Nat) (q cd : Nat → Int32) (o : List Nat), W.length + v ≤ 32 → W.length < m → XS wk s S i W f t l q wt cd o → ∃ q' cd', f_X7_writeWaiting_L2 10000 (n + 6) (nI r) m (nI v) (QH h0 n t l q nm cd wt) = some (QH h0 n t l q' nm cd' wt) ∧ q' 4 = q 4 ∧ XS wk s S i (popR r W) f t l q' wt cd' (o ++ oR r W) := by
  intro m
  induction m with
  | zero => intro v W q cd o h2 h3; exact absurd h3 (by omega)
  | succ m ih =>
    intro v W q cd o h2 h3 x
    have x0 := x
    obtain ⟨tk, x6, x7, xw, x8, x5, xm, xf⟩ := x
    have la := e_last (h0 := h0) (n := n) (t := t) (l := l) (nm := nm) (cd := cd) (show W.length ≤ 32 by omega) x6 xw
    rw [f_X7_writeWaiting_L2.eq_2]
    simp only [Q_s2, Q_nwt, Option.bind_some]
    by_cases c : 32 ≤ v
    · have e0 : W = [] := List.length_eq_zero_iff.mp (by omega)
      subst e0
      rw [if_pos (show (32 : Int32) ≤ nI v from nle (a := 32) c (by omega)), show oR r [] = [] from rfl, List.append_nil]
      exact ⟨q, cd, rfl, rfl, x0⟩
    · rw [if_neg (show ¬ (32 : Int32) ≤ nI v from nnle (a := 32) (by omega) (by decide))]
      simp only [Q_zR, zif_t, la, Option.bind_some, rank_l xm]
      cases W with
      | nil =>
        rw [if_pos (show nI (rkT []) < nI r from nlt (a := 0) h1 (by omega)), show oR r [] = [] from rfl, List.append_nil]
        exact ⟨q, cd, rfl, rfl, x0⟩
      | cons u W =>
        have r4 := rk_4 u
        have h2' : W.length + 1 + v ≤ 32 := h2
        have h3' : W.length + 1 < m + 1 := h3
        by_cases d : rk u < r
        · rw [if_pos (show nI (rkT (u :: W)) < nI r from nlt d (by omega)), popR_stop (show rkT (u :: W) < r from d), show oR r (u :: W) = [] from if_neg (by omega), List.append_nil]
          exact ⟨q, cd, rfl, rfl, x0⟩
        · rw [if_neg (show ¬ nI (rkT (u :: W)) < nI r from nnlt (by show r ≤ rk u; omega) (by show rk u < 2 ^ 31; omega))]
          obtain ⟨q1, cd1, e1, e2, e3⟩ := e_write (h0 := h0) (n := n) (t := t) (l := l) (nm := nm) (cd := cd) (wt := wt) (v := 30000 + u) x5
          have ev : (30000 : Int32) + lastV (u :: W) = nI (30000 + u) := nI_add 30000 u
          have dn : nI (u :: W).length - 1 = nI W.length := by
            show nI (W.length + 1) - 1 = _
            rw [← nI_1]
            lia
          have y6 : q1 6 = nI (u :: W).length := (e2 6 (by decide)).trans x6
          simp only [ev, e1, Option.bind_some, Q_q6, y6, dn, Q_Q6, nI_1]
          have x' : XS wk s S i W f t l (upd q1 6 (nI W.length)) wt cd1 (o ++ [30000 + u]) := by
            refine ⟨tk, rfl, ?_, (lkw xw).2, ?_, CDF_q (q := q1) rfl e3, fun y hy => xm y (List.mem_cons_of_mem _ hy), xf⟩
            · show q1 7 = nI (opens W)
              rw [e2 7 (by decide), x7, opens_op (by omega)]
            · show q1 8 = _
              rw [e2 8 (by decide)]
              exact x8
          obtain ⟨q', cd', e5, e6, e8⟩ := ih (v + 1) W (upd q1 6 (nI W.length)) cd1 _ (by omega) (by omega) x'
          have pp : popR r (u :: W) = popR r W := by
            show (if r ≤ rk u then popR r W else u :: W) = _
            rw [if_pos (by omega)]
          have po : o ++ oR r (u :: W) = (o ++ [30000 + u]) ++ oR r W := by
            rw [show oR r (u :: W) = (30000 + u) :: oR r W from if_pos (by omega)]
            simp
          rw [pp, po]
          exact ⟨q', cd', e5, e6.trans (e2 4 (by decide)), e8⟩
theorem e_waiting {r : Nat} (h1 : 1 ≤ r) (hr : r ≤ 5) (hW : W.length ≤ 32) (x : XS wk s S i W f t l q wt cd o) : ∃ q' cd', f_X7_writeWaiting 10000 (n + 6) (nI r) (QH h0 n t l q nm cd wt) = some (QH h0 n t l q' nm cd' wt) ∧ q' 4 = q 4 ∧ XS wk s S i (popR r W) f t l q' wt cd' (o ++ oR r W) := by
  obtain ⟨q', cd', e1, e2, e3⟩ := e_popR (h0 := h0) (n := n) (nm := nm) h1 hr 10000 0 W q cd o (by omega) (by omega) x
  rw [nI_0] at e1
  refine ⟨q', cd', ?_, e2, e3⟩
  unfold f_X7_writeWaiting
  rw [e1]
  rfl
/-- the nots right ahead are written -/
theorem e_nots_L : ∀ (m v : Nat) (W : List Nat) (q cd : Nat → Int32) (o : List Nat), W.length ≤ 32 → opens W + v ≤ 4 → 4 - v < m → XS wk s S i W f t l q wt cd o → ∃ q' cd', f_X7_writeNots_L2 10000 (n + 6) m (nI v) (QH h0 n t l q nm cd wt) = some (QH h0 n t l q' nm cd' wt) ∧ q' 4 = q 4 ∧ XS wk s S i (popN W) f t l q' wt cd' (o ++ oN W) := by
  intro m
  induction m with
  | zero => intro v W q cd o h1 h2 h3; exact absurd h3 (by omega)
  | succ m ih =>
    intro v W q cd o h1 h2 h3 x
    have x0 := x
    obtain ⟨tk, x6, x7, xw, x8, x5, xm, xf⟩ := x
    have la := e_last (h0 := h0) (n := n) (t := t) (l := l) (nm := nm) (cd := cd) h1 x6 xw
    rw [f_X7_writeNots_L2.eq_2]
    by_cases c : 4 ≤ v
    · have n9 : popN W = W := by
        cases W with
        | nil => rfl
        | cons u W =>
          show (if u = 9 then popN W else u :: W) = _
          rw [if_neg (fun z9 => by
            have o : opens (u :: W) = (if u = 9 ∨ u = 40 then 1 else 0) + opens W := rfl
            rw [if_pos (Or.inl z9)] at o
            omega)]
      have o9 : oN W = [] := by
        cases W with
        | nil => rfl
        | cons u W =>
          show (if u = 9 then 30009 :: oN W else []) = _
          rw [if_neg (fun z9 => by
            have o : opens (u :: W) = (if u = 9 ∨ u = 40 then 1 else 0) + opens W := rfl
            rw [if_pos (Or.inl z9)] at o
            omega)]
      rw [if_pos (show (4 : Int32) ≤ nI v from nle (a := 4) c (by omega)), n9, o9, List.append_nil]
      exact ⟨q, cd, rfl, rfl, x0⟩
    · rw [if_neg (show ¬ (4 : Int32) ≤ nI v from nnle (a := 4) (by omega) (by decide))]
      simp only [Q_zR, zif_t, la, Option.bind_some]
      cases W with
      | nil =>
        rw [if_neg (show ¬ lastV [] = 9 by decide), show oN [] = [] from rfl, List.append_nil]
        exact ⟨q, cd, rfl, rfl, x0⟩
      | cons u W =>
        have hl : W.length + 1 ≤ 32 := h1
        have u203 := xm u List.mem_cons_self
        by_cases d : u = 9
        · subst d
          have oo : opens (9 :: W) = 1 + opens W := rfl
          rw [if_pos (show lastV (9 :: W) = 9 from rfl)]
          obtain ⟨q1, cd1, e1, e2, e3⟩ := e_write (h0 := h0) (n := n) (t := t) (l := l) (nm := nm) (cd := cd) (wt := wt) (v := 30009) x5
          have ev : (30009 : Int32) = nI 30009 := rfl
          have dn : nI (9 :: W).length - 1 = nI W.length := by
            show nI (W.length + 1) - 1 = _
            rw [← nI_1]
            lia
          have dn7 : nI (opens (9 :: W)) - 1 = nI (opens W) := by
            rw [oo, Nat.add_comm, ← nI_1]
            lia
          have y6 : q1 6 = nI (9 :: W).length := (e2 6 (by decide)).trans x6
          have y7 : upd q1 6 (nI W.length) 7 = nI (opens (9 :: W)) := (e2 7 (by decide)).trans x7
          simp only [ev, e1, Option.bind_some, Q_q6, y6, dn, Q_Q6, Q_q7, y7, dn7, Q_Q7, nI_1]
          have x' : XS wk s S i W f t l (upd (upd q1 6 (nI W.length)) 7 (nI (opens W))) wt cd1 (o ++ [30009]) := by
            refine ⟨tk, rfl, rfl, (lkw xw).2, ?_, CDF_q (q := q1) rfl e3, fun y hy => xm y (List.mem_cons_of_mem _ hy), xf⟩
            show q1 8 = _
            rw [e2 8 (by decide)]
            exact x8
          obtain ⟨q', cd', e5, e6, e8⟩ := ih (v + 1) W _ cd1 _ (by omega) (by omega) (by omega) x'
          have po : o ++ oN (9 :: W) = (o ++ [30009]) ++ oN W := by
            rw [show oN (9 :: W) = 30009 :: oN W from rfl]
            simp
          rw [po]
          exact ⟨q', cd', e5, e6.trans (e2 4 (by decide)), e8⟩
        · rw [if_neg (show ¬ lastV (u :: W) = 9 from fun z9 => d (nI_inj (by omega) (by decide) (show nI u = nI 9 from z9)))]
          have n9 : popN (u :: W) = u :: W := by
            show (if u = 9 then popN W else u :: W) = _
            rw [if_neg d]
          rw [n9, show oN (u :: W) = [] from if_neg d, List.append_nil]
          exact ⟨q, cd, rfl, rfl, x0⟩
theorem e_nots (hW : W.length ≤ 32) (ho : opens W ≤ 4) (x : XS wk s S i W f t l q wt cd o) : ∃ q' cd', f_X7_writeNots 10000 (n + 6) (QH h0 n t l q nm cd wt) = some (QH h0 n t l q' nm cd' wt) ∧ q' 4 = q 4 ∧ XS wk s S i (popN W) f t l q' wt cd' (o ++ oN W) := by
  obtain ⟨q', cd', e1, e2, e3⟩ := e_nots_L (h0 := h0) (n := n) (nm := nm) 10000 0 W q cd o hW (by omega) (by omega) x
  rw [nI_0] at e1
  refine ⟨q', cd', ?_, e2, e3⟩
  unfold f_X7_writeNots
  rw [e1]
  rfl
/-- one more waits; around is set by hand -/
theorem e_hold {u : Nat} (hu : u ≤ 203) (hW : W.length < 32) (x : XS wk s S i W f t l q wt cd o) : ∃ q' wt', f_X7_hold 10000 (n + 6) (nI u) (QH h0 n t l q nm cd wt) = some (QH h0 n t l q' nm cd wt') ∧ q' 6 = nI (u :: W).length ∧ (∀ k, ¬ k = 6 → q' k = q k) ∧ (∀ j, j < (u :: W).length → wt' j = nI (wtAt (u :: W) j)) := by
  obtain ⟨tk, x6, x7, xw, x8, x5, xm, xf⟩ := x
  unfold f_X7_hold
  simp only [Q_q6, Q_s2, Q_nwt, Option.bind_some, x6]
  rw [if_neg (show ¬ (32 : Int32) ≤ nI W.length from nnle (a := 32) hW (by decide))]
  simp only [Q_WT hW, Option.bind_some, Q_q6, x6, nI_1, Q_Q6]
  refine ⟨_, _, rfl, rfl, fun k hk => if_neg hk, fun j hj => ?_⟩
  show upd wt W.length (nI u) j = nI (if j = W.length then u else wtAt W j)
  by_cases e : j = W.length
  · rw [e, if_pos rfl]
    exact if_pos rfl
  · have hj' : j < W.length + 1 := hj
    rw [if_neg e]
    exact (if_neg e).trans (xw j (by omega))
theorem e_nameOf_L {key : Nat} (xn : XN M nk q nm) (hk : key < 2 ^ 40) : ∀ (m j : Nat), j ≤ M → M - j < m → f_X7_nameOf_L2 10000 (n + 6) (Int64.ofNat key) (QH h0 n t l q nm cd wt) m (nI j) = some (match fIx nk key (M - j) j with | none => .inl () | some k => .inr (nI k)) := by
  obtain ⟨n8, n4, nn⟩ := xn
  intro m
  induction m with
  | zero => intro j h1 h2; exact absurd h2 (by omega)
  | succ m ih =>
    intro j h1 h2
    rw [f_X7_nameOf_L2.eq_2]
    simp only [Q_q4, Option.bind_some, n4]
    by_cases c : M ≤ j
    · have e : M - j = 0 := by omega
      rw [if_pos (nle c (by omega)), e]
      rfl
    · obtain ⟨b1, b2⟩ := nn j (by omega)
      obtain ⟨d, hd⟩ : ∃ d, M - j = d + 1 := ⟨M - j - 1, by omega⟩
      rw [if_neg (nnle (show j < M by omega) (by omega)), if_neg (show ¬ (8 : Int32) ≤ nI j from nnle (a := 8) (by omega) (by decide))]
      simp only [Q_s0, Q_nm (show j < 8 by omega), b1, Option.bind_some]
      have fx : fIx nk key (d + 1) j = if nk j = key then some j else fIx nk key d (j + 1) := rfl
      rw [hd, fx]
      by_cases z : nk j = key
      · rw [if_pos ((lg_cmp_eq _ _).mpr (by rw [z])), if_pos z]
      · rw [if_neg (fun y => z (by
          have y2 := (lg_cmp_eq _ _).mp y
          rwa [i64_inj b2 hk] at y2)), if_neg z, nI_1, ih (j + 1) (by omega) (by omega), show M - (j + 1) = d by omega]
theorem e_nameOf {key : Nat} (xn : XN M nk q nm) (hk : key < 2 ^ 40) : f_X7_nameOf 10000 (n + 6) (Int64.ofNat key) (QH h0 n t l q nm cd wt) = some (match fIx nk key M 0 with | none => -1 | some k => nI k) := by
  unfold f_X7_nameOf
  have l := e_nameOf_L (h0 := h0) (n := n) (t := t) (l := l) (cd := cd) (wt := wt) xn hk 10000 0 (by omega) (by have := xn.1; omega)
  rw [nI_0, Nat.sub_zero] at l
  rw [l, Option.bind_some]
  cases fIx nk key M 0 with
  | none => rfl
  | some k => rfl
end READ
