/-! the class's lines -/
theorem okW_rn {c : Nat → Nat} {kn : Nat → Bool} : ∀ (m : Nat) (s : RdS), okW s.2.1 → opens s.2.1 ≤ 4 → okW (rn c kn m s).2.1 ∧ opens (rn c kn m s).2.1 ≤ 4 := by
  intro m
  induction m with
  | zero => exact fun s a b => ⟨a, b⟩
  | succ m ih =>
    intro s a b
    cases e : rdSt c kn s with
    | none =>
      rw [rn_none e]
      exact ⟨a, b⟩
    | some s' =>
      rw [rn_some e]
      have o := okW_step e a b
      exact ih s' o.1 o.2
/-- at token i, the fault f, the names nk -/
def LX (wk s : Nat → Nat) (S i f M : Nat) (nk : Nat → Nat) (t : Nat → Int32) (l : Nat → Int64) (q : Nat → Int32) (nm : Nat → Int64) (cd : Nat → Int32) (o : List Nat) : Prop := TKs wk s S i t l ∧ q 8 = nI (if f = 0 then 0 else f + 16 * plc s S i) ∧ CDF f q cd o ∧ XN M nk q nm ∧ f ≤ 5 ∧ i ≤ S
/-- an outcome -/
def LO (h0 : zH) (n : Nat) (nm : Nat → Int64) (wk s : Nat → Nat) (S M : Nat) (nk : Nat → Nat) (r : RfS) (o : List Nat) (h : zH) : Prop := ∃ t l q cd wt, h = QH h0 n t l q nm cd wt ∧ LX wk s S r.1 r.2 M nk t l q nm cd o
section LINE
variable {h0 : zH} {n : Nat} {t : Nat → Int32} {l : Nat → Int64} {q : Nat → Int32} {nm : Nat → Int64} {cd wt : Nat → Int32} {s wk : Nat → Nat} {S i f M : Nat} {nk : Nat → Nat} {o : List Nat}
theorem i_S (hi : i ≤ S) (h : ¬ tkn wk s S i = 202) : i + 1 ≤ S := by
  have a := pos_le s S i
  by_cases z : S ≤ plc s S i
  · exact absurd (tkn_end z) h
  · rcases pos_i s S i with b | b <;> omega
theorem LX_wrong {k : Nat} {o o2 : List Nat} (hS : S ≤ 1000) (x : LX wk s S i f M nk t l q nm cd o) (hk : ¬ k = 0) (h5 : k ≤ 5) : ∃ q', f_X7_wrong 10000 (n + 6) (nI k) (QH h0 n t l q nm cd wt) = some (QH h0 n t l q' nm cd wt) ∧ LX wk s S i (if f = 0 then k else f) M nk t l q' nm cd o2 := by
  obtain ⟨tk, x8, x5, xn, xf, hi⟩ := x
  have pl := (pos_le s S i).2.2
  unfold f_X7_wrong
  simp only [Q_q8, Option.bind_some]
  by_cases c : f = 0
  · rw [if_pos c] at x8 ⊢
    have e : nI k + 16 * nI (plc s S i) = nI (k + 16 * plc s S i) := by
      rw [show (16 : Int32) * nI (plc s S i) = nI (16 * plc s S i) from nI_mul' 16 _, nI_add]
    rw [if_pos (show q 8 = 0 from x8)]
    simp only [Q_s3, Option.bind_some, Q_t5, tk.2.2.2.1, e, Q_Q8]
    refine ⟨_, rfl, tk, ?_, CDF_q (q := q) rfl (CDF_f hk x5), xn, h5, hi⟩
    rw [if_neg hk]
    rfl
  · rw [if_neg c] at x8 ⊢
    rw [if_neg (show ¬ q 8 = 0 from fun z => by
      have := nI_inj (by omega) (by decide) ((x8.symm.trans z).trans nI_0.symm)
      omega)]
    refine ⟨q, rfl, tk, ?_, CDF_any c x5, xn, xf, hi⟩
    rw [if_neg c]
    exact x8
theorem LX_write {v : Nat} (x : LX wk s S i f M nk t l q nm cd o) : ∃ q' cd', f_X7_write 10000 (n + 6) (nI v) (QH h0 n t l q nm cd wt) = some (QH h0 n t l q' nm cd' wt) ∧ LX wk s S i f M nk t l q' nm cd' (o ++ [v]) := by
  obtain ⟨tk, x8, x5, xn, xf, hi⟩ := x
  obtain ⟨q1, cd1, e1, e2, e3⟩ := e_write (h0 := h0) (n := n) (t := t) (l := l) (nm := nm) (cd := cd) (wt := wt) (v := v) x5
  exact ⟨q1, cd1, e1, tk, (e2 8 (by decide)).trans x8, e3, XN_q xn (e2 4 (by decide)), xf, hi⟩
theorem LX_next (ts : TKT h0 n s wk) (hS : S ≤ 1000) (x : LX wk s S i 0 M nk t l q nm cd o) (h : ¬ tkn wk s S i = 202) : ∃ t' l', f_X9_advance 10000 (n + 3) (QH h0 n t l q nm cd wt) = some (QH h0 n t' l' q nm cd wt) ∧ LX wk s S (i + 1) 0 M nk t' l' q nm cd o := by
  obtain ⟨tk, x8, x5, xn, xf, hi⟩ := x
  obtain ⟨t', l', e1, e2⟩ := e_next (h0 := h0) (n := n) (q := q) (nm := nm) (cd := cd) (wt := wt) ts hS tk
  exact ⟨t', l', e1, e2, x8, x5, xn, xf, i_S hi h⟩
theorem e_expect {u : Nat} (ts : TKT h0 n s wk) (hS : S ≤ 1000) (x : LX wk s S i f M nk t l q nm cd o) (hu : u < 202) : wp (f_X7_expect 10000 (n + 6) (nI u) (QH h0 n t l q nm cd wt)) (fun r => LO h0 n nm wk s S M nk (exQ (tkn wk s S) u (i, f)) o r) := by
  have tk4 := x.1.2.2.1
  have c203 : tkn wk s S i ≤ 203 := tkn_le
  have x8 := x.2.1
  have f5 := x.2.2.2.2.1
  have pl := (pos_le s S i).2.2
  unfold f_X7_expect
  refine wp_eq Q_s3 ?_
  refine wp_eq (Q_t4.trans (congrArg some tk4)) ?_
  by_cases c : tkn wk s S i = u
  · rw [if_pos (show nI (tkn wk s S i) = nI u by rw [c])]
    refine wp_eq (Q_q8.trans (congrArg some x8)) ?_
    by_cases f0 : f = 0
    · subst f0
      rw [if_pos (show nI (if (0 : Nat) = 0 then 0 else 0 + 16 * plc s S i) = 0 from rfl)]
      refine wp_eq Q_s3 ?_
      refine wp_zif Q_zT ?_
      obtain ⟨t', l', e1, e2⟩ := LX_next (h0 := h0) (n := n) (cd := cd) (wt := wt) ts hS x (by omega)
      refine wp_eq e1 ?_
      have e : exQ (tkn wk s S) u (i, 0) = (i + 1, 0) := by
        unfold exQ
        rw [if_neg (by simp), if_pos c]
      rw [e]
      exact wp_some ⟨t', l', q, cd, wt, rfl, e2⟩
    · rw [if_neg (show ¬ nI (if f = 0 then 0 else f + 16 * plc s S i) = 0 from fun z => by
        rw [if_neg f0] at z
        have := nI_inj (by omega) (by decide) (z.trans nI_0.symm)
        omega)]
      have e : exQ (tkn wk s S) u (i, f) = (i, f) := by
        unfold exQ
        rw [if_pos f0]
      rw [e]
      exact wp_some ⟨t, l, q, cd, wt, rfl, x⟩
  · rw [if_neg (show ¬ nI (tkn wk s S i) = nI u from fun z => c (nI_inj (by omega) (by omega) z))]
    refine wp_zif Q_zR ?_
    obtain ⟨q', e1, e2⟩ := LX_wrong (o2 := o) (h0 := h0) (n := n) (cd := cd) (wt := wt) (k := 1) hS x (by decide) (by decide)
    refine wp_eq e1 ?_
    have e : exQ (tkn wk s S) u (i, f) = (i, if f = 0 then 1 else f) := by
      unfold exQ
      by_cases f0 : f = 0
      · rw [if_neg (by simp [f0]), if_neg c, if_pos f0]
      · rw [if_pos f0, if_neg f0]
    rw [e]
    exact wp_some ⟨t, l, q', cd, wt, rfl, e2⟩
set_option maxHeartbeats 1000000 in
theorem e_expr (ts : TKT h0 n s wk) (hS : S ≤ 1000) (x : LX wk s S i f M nk t l q nm cd o) : wp (f_X7_readExpression 10000 (n + 6) (QH h0 n t l q nm cd wt)) (fun r => LO h0 n nm wk s S M nk (eQ (tkn wk s S) (fun j => knB nk M (kyO s S j)) (i, f)) (o ++ qAllO (tkn wk s S) (qPart (tkn wk s S) (fun j => knB nk M (kyO s S j)) 10000 6 0) (qPartO (tkn wk s S) (fun j => knB nk M (kyO s S j)) (lfC wk s S M nk) 10000 6 0) 10000 i) r) := by
  obtain ⟨tk, x8, x5, xn, xf, hi⟩ := x
  unfold f_X7_readExpression
  refine wp_eq (Q_Q6 _) ?_
  refine wp_eq (Q_Q7 _) ?_
  have x0 : XS wk s S i [] f t l (upd (upd q 6 0) 7 0) wt cd o := ⟨tk, rfl, rfl, fun j hj => absurd hj (by show ¬ j < 0; omega), x8, CDF_q (q := q) rfl x5, (fun u hu => nomatch hu), xf⟩
  have lp := e_loop (h0 := h0) (n := n) (nm := nm) (M := M) (nk := nk) ts hS 10000 0 (i, [], true, f) true t l (upd (upd q 6 0) 7 0) cd wt o (by omega) (by omega) (fun _ => rfl) trivial (show opens ([] : List Nat) ≤ 4 by decide) x0 (XN_q xn rfl)
  rw [nI_0] at lp
  have lp' : wp (f_X7_readExpression_L14 10000 (n + 6) 10000 1 0 (QH h0 n t l (upd (upd q 6 0) 7 0) nm cd wt)) _ := lp
  refine wp_bind lp' fun m24 xo => ?_
  have ok := okW_rn (c := tkn wk s S) (kn := fun j => knB nk M (kyO s S j)) (1001 - 0) (i, [], true, f) trivial (show opens ([] : List Nat) ≤ 4 by decide)
  have hE : tkn wk s S S = 202 := tkn_S wk s S
  -- what the steps come to
  have fin : eQ (tkn wk s S) (fun j => knB nk M (kyO s S j)) (i, f) = ((rn (tkn wk s S) (fun j => knB nk M (kyO s S j)) (1001 - 0) (i, [], true, f)).1, if opens (rn (tkn wk s S) (fun j => knB nk M (kyO s S j)) (1001 - 0) (i, [], true, f)).2.1 = 0 then (rn (tkn wk s S) (fun j => knB nk M (kyO s S j)) (1001 - 0) (i, [], true, f)).2.2.2 else if (rn (tkn wk s S) (fun j => knB nk M (kyO s S j)) (1001 - 0) (i, [], true, f)).2.2.2 = 0 then 1 else (rn (tkn wk s S) (fun j => knB nk M (kyO s S j)) (1001 - 0) (i, [], true, f)).2.2.2) ∧ (rn (tkn wk s S) (fun j => knB nk M (kyO s S j)) (1001 - 0) (i, [], true, f)).1 ≤ S := by
    by_cases f0 : f = 0
    · subst f0
      have ex := rdl_expr (c := tkn wk s S) (kn := fun j => knB nk M (kyO s S j)) (K := S) (F := 10000) hE (by omega) hi
      unfold eQ
      rw [if_neg (by simp)]
      show (if ¬ (qAll (tkn wk s S) (qPart (tkn wk s S) (fun j => knB nk M (kyO s S j)) 10000 6 0) 10000 (i, 0)).2 = 0 then _ else _) = _ ∧ _
      generalize qAll (tkn wk s S) (qPart (tkn wk s S) (fun j => knB nk M (kyO s S j)) 10000 6 0) 10000 (i, 0) = z at ex ⊢
      by_cases e0 : z.2 = 0
      · obtain ⟨b1, b2, k, X, b3, b4, b5⟩ := ex.1 e0
        rw [if_neg (by simp [e0])]
        have ek : 1001 - 0 = (1001 - k) + k := by omega
        rcases b5 with ⟨r0, e⟩ | ⟨r0, e⟩
        · have e' := e (1001 - k)
          rw [← ek] at e'
          rw [e', if_pos r0]
          refine ⟨?_, b2⟩
          rw [if_pos b4]
          exact Prod.ext rfl e0
        · have e' := e (1001 - k)
          rw [← ek] at e'
          rw [e', if_neg r0]
          refine ⟨?_, b2⟩
          rw [if_pos b4]
      · obtain ⟨⟨le, k, s', b1, b2, b3, b4⟩, b5⟩ := ex.2 e0
        have le' : i ≤ z.1 := le
        have b1' : k ≤ z.1 - i + 1 := b1
        rw [if_pos e0]
        have ek : 1001 - 0 = (1001 - k) + k := by omega
        have e' := b2 (1001 - k)
        rw [← ek] at e'
        rw [e', b3]
        refine ⟨Prod.ext rfl ?_, b5⟩
        show z.2 = if opens s'.2.1 = 0 then s'.2.2.2 else if s'.2.2.2 = 0 then 1 else s'.2.2.2
        rcases b4 with b4 | ⟨b4, b6, b7⟩
        · rw [b4, if_neg e0]
          by_cases o : opens s'.2.1 = 0
          · rw [if_pos o]
          · rw [if_neg o]
        · rw [if_neg (by omega), if_pos b4, b7]
    · have nn : rdSt (tkn wk s S) (fun j => knB nk M (kyO s S j)) (i, [], true, f) = none := by
        unfold rdSt
        rw [if_pos f0]
      rw [rn_none nn]
      refine ⟨?_, hi⟩
      unfold eQ
      rw [if_pos f0]
      rfl
  have outs : (eQ (tkn wk s S) (fun j => knB nk M (kyO s S j)) (i, f)).2 = 0 → wR (tkn wk s S) (fun j => knB nk M (kyO s S j)) (lfC wk s S M nk) (1001 - 0) (i, [], true, f) ++ oR 1 (rn (tkn wk s S) (fun j => knB nk M (kyO s S j)) (1001 - 0) (i, [], true, f)).2.1 = qAllO (tkn wk s S) (qPart (tkn wk s S) (fun j => knB nk M (kyO s S j)) 10000 6 0) (qPartO (tkn wk s S) (fun j => knB nk M (kyO s S j)) (lfC wk s S M nk) 10000 6 0) 10000 i := by
    intro e0
    have f0 : f = 0 := eQ_0 e0
    subst f0
    unfold eQ at e0
    rw [if_neg (by simp)] at e0
    have e0' : (if ¬ (qAll (tkn wk s S) (qPart (tkn wk s S) (fun j => knB nk M (kyO s S j)) 10000 6 0) 10000 (i, 0)).2 = 0 then qAll (tkn wk s S) (qPart (tkn wk s S) (fun j => knB nk M (kyO s S j)) 10000 6 0) 10000 (i, 0) else if rk (tkn wk s S (qAll (tkn wk s S) (qPart (tkn wk s S) (fun j => knB nk M (kyO s S j)) 10000 6 0) 10000 (i, 0)).1) = 0 then qAll (tkn wk s S) (qPart (tkn wk s S) (fun j => knB nk M (kyO s S j)) 10000 6 0) 10000 (i, 0) else ((qAll (tkn wk s S) (qPart (tkn wk s S) (fun j => knB nk M (kyO s S j)) 10000 6 0) 10000 (i, 0)).1, 1)).2 = 0 := e0
    by_cases z : (qAll (tkn wk s S) (qPart (tkn wk s S) (fun j => knB nk M (kyO s S j)) 10000 6 0) 10000 (i, 0)).2 = 0
    · rw [if_neg (fun y => y z)] at e0'
      by_cases r0 : rk (tkn wk s S (qAll (tkn wk s S) (qPart (tkn wk s S) (fun j => knB nk M (kyO s S j)) 10000 6 0) 10000 (i, 0)).1) = 0
      · obtain ⟨k, X, o9, b1, b2, b3⟩ := rdo_expr (c := tkn wk s S) (kn := fun j => knB nk M (kyO s S j)) (lf := lfC wk s S M nk) (K := S) (F := 10000) hE (by omega) hi z r0
        have bb := (rdl_expr (c := tkn wk s S) (kn := fun j => knB nk M (kyO s S j)) (K := S) (F := 10000) hE (by omega) hi).1 z
        have b2' := b2 (1001 - k)
        rw [show 1001 - k + k = 1001 - 0 by have := bb.2.1; omega] at b2'
        rw [b2'.1, b2'.2, b3]
      · rw [if_neg r0] at e0'
        exact absurd e0' (by simp)
    · rw [if_pos z] at e0'
      exact absurd e0' z
  rw [fin.1] at outs
  generalize wR (tkn wk s S) (fun j => knB nk M (kyO s S j)) (lfC wk s S M nk) (1001 - 0) (i, [], true, f) = w9 at xo outs
  generalize rn (tkn wk s S) (fun j => knB nk M (kyO s S j)) (1001 - 0) (i, [], true, f) = st at xo ok fin outs
  rw [fin.1]
  obtain ⟨t1, l1, q1, cd1, wt1, rfl, e4, x1⟩ := xo
  have len := len_24 ok.1 ok.2
  refine wp_eq (Q_q7.trans (congrArg some x1.2.2.1)) ?_
  refine wp_bind (R := fun h => ∃ q2, h = QH h0 n t1 l1 q2 nm cd1 wt1 ∧ q2 4 = q1 4 ∧ XS wk s S st.1 st.2.1 (if opens st.2.1 = 0 then st.2.2.2 else if st.2.2.2 = 0 then 1 else st.2.2.2) t1 l1 q2 wt1 cd1 (o ++ w9)) ?_ (fun m26 p26 => ?_)
  · by_cases oq : opens st.2.1 = 0
    · rw [if_pos oq, if_pos (show nI (opens st.2.1) ≤ 0 by rw [oq]; decide)]
      exact wp_some ⟨q1, rfl, rfl, x1⟩
    · rw [if_neg oq, if_neg (show ¬ nI (opens st.2.1) ≤ 0 from nnle (m := 0) (by omega) (by have := ok.2; omega))]
      refine wp_zif Q_zR ?_
      obtain ⟨q2, w1, w2, w3⟩ := e_wrong (o2 := o ++ w9) (h0 := h0) (n := n) (nm := nm) (cd := cd1) (k := 1) hS x1 (by decide) (by decide)
      refine wp_eq w1 ?_
      exact wp_some ⟨q2, rfl, w2 4 (by decide), w3⟩
  obtain ⟨q2, rfl, f4, x2⟩ := p26
  refine wp_zif Q_zR ?_
  obtain ⟨q3, cd3, g1, g2, g3⟩ := e_waiting (h0 := h0) (n := n) (nm := nm) (cd := cd1) (r := 1) (by decide) (by decide) (show st.2.1.length ≤ 32 by omega) x2
  have g1' : f_X7_writeWaiting 10000 (n + 6) 1 (QH h0 n t1 l1 q2 nm cd1 wt1) = some (QH h0 n t1 l1 q3 nm cd3 wt1) := g1
  refine wp_eq g1' ?_
  obtain ⟨y1, y6, y7, yw, y8, y5, ym, yf⟩ := g3
  have y5' : CDF (if opens st.2.1 = 0 then st.2.2.2 else if st.2.2.2 = 0 then 1 else st.2.2.2) q3 cd3 (o ++ qAllO (tkn wk s S) (qPart (tkn wk s S) (fun j => knB nk M (kyO s S j)) 10000 6 0) (qPartO (tkn wk s S) (fun j => knB nk M (kyO s S j)) (lfC wk s S M nk) 10000 6 0) 10000 i) := by
    obtain ⟨o', ee, c9⟩ := y5
    refine ⟨o', fun z => ?_, c9⟩
    rw [ee z, List.append_assoc, outs z]
  exact wp_some ⟨t1, l1, q3, cd3, wt1, rfl, y1, y8, y5', XN_q xn (g2.trans (f4.trans e4)), yf, fin.2⟩
theorem num_lt (ts : TKT h0 n s wk) (hS : S ≤ 1000) (h : tkn wk s S i = 201) : num s S i < 10000 := by
  have pl := (pos_le s S i).2.2
  have sp := endQ_spec (q := fun j => isD (s j)) (S := S) (S + 1) (plc s S i) pl (by omega)
  have e2 : lxD s S (plc s S i) ≤ S := sp.2.1
  have len : lxD s S (plc s S i) - plc s S i ≤ 4 := by
    unfold tkn lxC at h
    by_cases a : S ≤ plc s S i
    · rw [if_pos a] at h; omega
    · rw [if_neg a] at h
      by_cases b : isL (s (plc s S i)) = true
      · rw [if_pos b] at h
        by_cases c : lxL s S (plc s S i) - plc s S i ≤ 8
        · rw [if_pos c] at h
          rcases wOf_r (wk := wk) (key := enc 32 96 s (plc s S i) (lxL s S (plc s S i) - plc s S i)) 21 with h9 | h9 <;> omega
        · rw [if_neg c] at h; omega
      · rw [if_neg b] at h
        by_cases d : isD (s (plc s S i)) = true
        · rw [if_pos d] at h
          by_cases e : lxD s S (plc s S i) - plc s S i ≤ 4
          · exact e
          · rw [if_neg e] at h; omega
        · rw [if_neg d] at h
          by_cases e : isG (s (plc s S i)) = true
          · rw [if_pos e] at h
            have := of_decide_eq_true e
            omega
          · rw [if_neg e] at h; omega
  unfold num
  have dg : ∀ j, j < lxD s S (plc s S i) - plc s S i → s (plc s S i + j) - 48 < 10 := fun j hj => by
    have z := sp.2.2.1 (plc s S i + j) (by omega) (by show plc s S i + j < lxD s S (plc s S i); omega)
    have := of_decide_eq_true z
    omega
  have a := enc_lt (B := 10) (o := 48) (s := s) (q := plc s S i) _ dg
  have b : (10 : Nat) ^ (lxD s S (plc s S i) - plc s S i) ≤ 10 ^ 4 := Nat.pow_le_pow_right (by decide) len
  have c : (10 : Nat) ^ 4 = 10000 := by decide
  omega
set_option maxHeartbeats 1000000 in
theorem e_what {w : Nat} (ts : TKT h0 n s wk) (hS : S ≤ 1000) (x : LX wk s S i 0 M nk t l q nm cd o) (hw : w ≤ 203) : wp (f_X7_readWhatFor 10000 (n + 6) (nI w) (QH h0 n t l q nm cd wt)) (fun r => ∃ nm', LO h0 n nm' wk s S M nk (wfQ (tkn wk s S) (num s S) (fun j => knB nk M (kyO s S j)) M w i) (o ++ [(if w = 4 then M else if w = 20 then num s S i else tkn wk s S i)]) r ∧ (w = 4 → (wfQ (tkn wk s S) (num s S) (fun j => knB nk M (kyO s S j)) M w i).2 = 0 → nm' M = Int64.ofNat (kyO s S i) ∧ kyO s S i < 2 ^ 40)) := by
  have tk4 := x.1.2.2.1
  have tk6 := x.1.2.2.2.2.1
  have tk7 := x.1.2.2.2.2.2
  have c203 : tkn wk s S i ≤ 203 := tkn_le
  have klt := kyO_lt (i := i) ts hS
  have xn := x.2.2.2.1
  unfold f_X7_readWhatFor wfQ
  by_cases w4 : w = 4
  · rw [if_pos w4, if_pos w4, if_pos (show nI w = 4 by rw [w4]; rfl)]
    refine wp_zif Q_zR ?_
    refine wp_bind (R := fun r => ∃ nm', LO h0 n nm' wk s S M nk (if ¬ tkn wk s S i = 200 then (i, 1) else if knB nk M (kyO s S i) = true then (i, 3) else if 8 ≤ M then (i, 5) else (i + 1, 0)) (o ++ [M]) r ∧ (w = 4 → (if ¬ tkn wk s S i = 200 then (i, 1) else if knB nk M (kyO s S i) = true then (i, 3) else if 8 ≤ M then (i, 5) else (i + 1, 0) : RfS).2 = 0 → nm' M = Int64.ofNat (kyO s S i) ∧ kyO s S i < 2 ^ 40)) ?_ (fun h8 p8 => wp_some p8)
    unfold f_X7_readNewName
    refine wp_eq Q_s3 ?_
    refine wp_eq (Q_t4.trans (congrArg some tk4)) ?_
    by_cases c : tkn wk s S i = 200
    · rw [if_pos (show nI (tkn wk s S i) = 200 by rw [c]; rfl), if_neg (by simp [c])]
      refine wp_eq Q_s3 ?_
      refine wp_eq (Q_l.trans (congrArg some (tk7 (Or.inr c)))) ?_
      refine wp_zif Q_zR ?_
      refine wp_eq (e_nameOf xn (klt (Or.inr c))) ?_
      by_cases k : knB nk M (kyO s S i) = true
      · have ne : ¬ (match fIx nk (kyO s S i) M 0 with | none => (-1 : Int32) | some k => nI k) = -1 := by
          unfold knB at k
          cases hf : fIx nk (kyO s S i) M 0 with
          | none => rw [hf] at k; exact absurd k (by decide)
          | some j =>
            intro y
            have r := (fIx_some M 0 j hf).2.1
            have n8 := xn.1
            exact absurd (show nI j < 0 by rw [show nI j = -1 from y]; decide) (nI_pos (by omega))
        refine wp_ite (fun z => absurd z ne) (fun _ => ?_)
        rw [if_pos k]
        refine wp_zif Q_zR ?_
        obtain ⟨q', e1, e2⟩ := LX_wrong (o2 := o ++ [M]) (h0 := h0) (n := n) (cd := cd) (wt := wt) (k := 3) hS x (by decide) (by decide)
        refine wp_eq e1 ?_
        exact wp_some ⟨nm, ⟨t, l, q', cd, wt, rfl, e2⟩, fun _ z => absurd z (by simp)⟩
      · have ee : (match fIx nk (kyO s S i) M 0 with | none => (-1 : Int32) | some k => nI k) = -1 := by
          unfold knB at k
          cases hf : fIx nk (kyO s S i) M 0 with
          | none => rfl
          | some j => rw [hf] at k; exact absurd rfl k
        refine wp_ite (fun _ => ?_) (fun z => absurd ee z)
        rw [if_neg k]
        refine wp_eq (Q_q4.trans (congrArg some xn.2.1)) ?_
        by_cases m8 : 8 ≤ M
        · rw [if_neg (show ¬ nI M < 8 from nnlt (m := 8) m8 (by have := xn.1; omega)), if_pos m8]
          refine wp_zif Q_zR ?_
          obtain ⟨q', e1, e2⟩ := LX_wrong (o2 := o ++ [M]) (h0 := h0) (n := n) (cd := cd) (wt := wt) (k := 5) hS x (by decide) (by decide)
          refine wp_eq e1 ?_
          exact wp_some ⟨nm, ⟨t, l, q', cd, wt, rfl, e2⟩, fun _ z => absurd z (by simp)⟩
        · rw [if_pos (show nI M < 8 from nlt (m := 8) (by omega) (by decide)), if_neg m8]
          refine wp_eq Q_s0 ?_
          refine wp_eq (Q_q4.trans (congrArg some xn.2.1)) ?_
          refine wp_eq Q_s3 ?_
          refine wp_eq (Q_l.trans (congrArg some (tk7 (Or.inr c)))) ?_
          refine wp_eq (Q_NM (by omega) _) ?_
          refine wp_eq (Q_q4.trans (congrArg some xn.2.1)) ?_
          refine wp_zif Q_zR ?_
          have x1 : LX wk s S i 0 M nk t l q (vp_updL nm M (Int64.ofNat (kyO s S i))) cd o := by
            obtain ⟨tk, x8, x5, xn', xf, hi⟩ := x
            refine ⟨tk, x8, x5, ⟨xn'.1, xn'.2.1, fun j hj => ?_⟩, xf, hi⟩
            have := xn'.2.2 j hj
            refine ⟨?_, this.2⟩
            rw [← this.1]
            simp [vp_updL, show j ≠ M by omega]
          obtain ⟨q1, cd1, e1, e2⟩ := LX_write (h0 := h0) (n := n) (cd := cd) (wt := wt) (v := M) x1
          refine wp_eq e1 ?_
          refine wp_eq Q_s3 ?_
          refine wp_zif Q_zT ?_
          obtain ⟨t', l', f1, f2⟩ := LX_next (h0 := h0) (n := n) (cd := cd1) (wt := wt) ts hS e2 (by omega)
          refine wp_eq f1 ?_
          exact wp_some ⟨_, ⟨t', l', q1, cd1, wt, rfl, f2⟩, fun _ _ => ⟨by simp [vp_updL], klt (Or.inr c)⟩⟩
    · rw [if_neg (show ¬ nI (tkn wk s S i) = 200 from fun z => c ((nI_is (by omega) (by decide)).mp (show nI (tkn wk s S i) = nI 200 from z))), if_pos c]
      refine wp_zif Q_zR ?_
      obtain ⟨q', e1, e2⟩ := LX_wrong (o2 := o ++ [M]) (h0 := h0) (n := n) (cd := cd) (wt := wt) (k := 1) hS x (by decide) (by decide)
      refine wp_eq e1 ?_
      exact wp_some ⟨nm, ⟨t, l, q', cd, wt, rfl, e2⟩, fun _ z => absurd z (by simp)⟩
  · rw [if_neg w4, if_neg w4, if_neg (show ¬ nI w = 4 from fun z => w4 ((nI_is (by omega) (by decide)).mp (show nI w = nI 4 from z)))]
    by_cases w20 : w = 20
    · rw [if_pos w20, if_pos w20, if_pos (show nI w = 20 by rw [w20]; rfl)]
      refine wp_zif Q_zR ?_
      refine wp_bind (R := fun r => LO h0 n nm wk s S M nk (if ¬ tkn wk s S i = 201 then (i, 1) else if ¬ (1 ≤ num s S i ∧ num s S i ≤ 999) then (i, 4) else (i + 1, 0)) (o ++ [num s S i]) r) ?_ (fun h6 p6 => wp_some ⟨nm, p6, fun z => absurd z w4⟩)
      unfold f_X7_readLimit
      refine wp_eq Q_s3 ?_
      refine wp_eq (Q_t4.trans (congrArg some tk4)) ?_
      by_cases c : tkn wk s S i = 201
      · rw [if_pos (show nI (tkn wk s S i) = 201 by rw [c]; rfl), if_neg (by simp [c])]
        have nl := num_lt ts hS c
        refine wp_eq Q_s3 ?_
        refine wp_eq (Q_t6.trans (congrArg some (tk6 c))) ?_
        refine in11 (fun z => ?_) (fun z => ?_)
        · have z' : ¬ (1 ≤ num s S i ∧ num s S i ≤ 999) := fun y => z ⟨nle (a := 1) y.1 (by omega), nle (m := 999) y.2 (by decide)⟩
          rw [if_pos z']
          refine wp_zif Q_zR ?_
          obtain ⟨q', e1, e2⟩ := LX_wrong (o2 := o ++ [num s S i]) (h0 := h0) (n := n) (cd := cd) (wt := wt) (k := 4) hS x (by decide) (by decide)
          refine wp_eq e1 ?_
          exact wp_some ⟨t, l, q', cd, wt, rfl, e2⟩
        · have z1 := z.1
          have z2 := z.2
          rw [show (1 : Int32) = nI 1 from rfl, nI_leI (by decide) (by omega)] at z1
          rw [show (999 : Int32) = nI 999 from rfl, nI_leI (by omega) (by decide)] at z2
          rw [if_neg (by simp [z1, z2])]
          refine wp_eq Q_s3 ?_
          refine wp_eq (Q_t6.trans (congrArg some (tk6 c))) ?_
          refine wp_zif Q_zR ?_
          obtain ⟨q1, cd1, e1, e2⟩ := LX_write (h0 := h0) (n := n) (cd := cd) (wt := wt) (v := num s S i) x
          refine wp_eq e1 ?_
          refine wp_eq Q_s3 ?_
          refine wp_zif Q_zT ?_
          obtain ⟨t', l', f1, f2⟩ := LX_next (h0 := h0) (n := n) (cd := cd1) (wt := wt) ts hS e2 (by omega)
          refine wp_eq f1 ?_
          exact wp_some ⟨t', l', q1, cd1, wt, rfl, f2⟩
      · rw [if_neg (show ¬ nI (tkn wk s S i) = 201 from fun z => c ((nI_is (by omega) (by decide)).mp (show nI (tkn wk s S i) = nI 201 from z))), if_pos c]
        refine wp_zif Q_zR ?_
        obtain ⟨q', e1, e2⟩ := LX_wrong (o2 := o ++ [num s S i]) (h0 := h0) (n := n) (cd := cd) (wt := wt) (k := 1) hS x (by decide) (by decide)
        refine wp_eq e1 ?_
        exact wp_some ⟨t, l, q', cd, wt, rfl, e2⟩
    · rw [if_neg w20, if_neg w20, if_neg (show ¬ nI w = 20 from fun z => w20 ((nI_is (by omega) (by decide)).mp (show nI w = nI 20 from z)))]
      refine wp_zif Q_zR ?_
      refine wp_bind (R := fun r => LO h0 n nm wk s S M nk (if ¬ tkn wk s S i ≤ 3 then (i, 1) else (i + 1, 0)) (o ++ [tkn wk s S i]) r) ?_ (fun h4 p4 => wp_some ⟨nm, p4, fun z => absurd z w4⟩)
      unfold f_X7_readWho
      refine wp_eq Q_s3 ?_
      refine wp_eq (Q_t4.trans (congrArg some tk4)) ?_
      refine in11 (fun z => ?_) (fun z => ?_)
      · have z' : ¬ tkn wk s S i ≤ 3 := fun y => z ⟨nle (a := 0) (Nat.zero_le _) (by omega), nle (m := 3) y (by decide)⟩
        rw [if_pos z']
        refine wp_zif Q_zR ?_
        obtain ⟨q', e1, e2⟩ := LX_wrong (o2 := o ++ [tkn wk s S i]) (h0 := h0) (n := n) (cd := cd) (wt := wt) (k := 1) hS x (by decide) (by decide)
        refine wp_eq e1 ?_
        exact wp_some ⟨t, l, q', cd, wt, rfl, e2⟩
      · have z2 := z.2
        rw [show (3 : Int32) = nI 3 from rfl, nI_leI (by omega) (by decide)] at z2
        rw [if_neg (by simp [z2])]
        refine wp_eq Q_s3 ?_
        refine wp_eq (Q_t4.trans (congrArg some tk4)) ?_
        refine wp_zif Q_zR ?_
        obtain ⟨q1, cd1, e1, e2⟩ := LX_write (h0 := h0) (n := n) (cd := cd) (wt := wt) (v := tkn wk s S i) x
        refine wp_eq e1 ?_
        refine wp_eq Q_s3 ?_
        refine wp_zif Q_zT ?_
        obtain ⟨t', l', f1, f2⟩ := LX_next (h0 := h0) (n := n) (cd := cd1) (wt := wt) ts hS e2 (by omega)
        refine wp_eq f1 ?_
        exact wp_some ⟨t', l', q1, cd1, wt, rfl, f2⟩
end LINE
