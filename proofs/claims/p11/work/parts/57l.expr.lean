/-! the class's reading of an expression, step by step -/
theorem rZ_b (b : Bool) (h : zH) : rZ (bI b) h = some (bI b, h) := by
  unfold rZ
  cases b
  · exact if_pos (Or.inl rfl)
  · exact if_pos (Or.inr rfl)
theorem nI_is {a m : Nat} (ha : a < 2 ^ 31) (hm : m < 2 ^ 31) : nI a = nI m ↔ a = m := ⟨fun z => nI_inj ha hm z, fun z => by rw [z]⟩
theorem tkn_le {wk s : Nat → Nat} {S i : Nat} : tkn wk s S i ≤ 203 := by
  unfold tkn lxC
  by_cases a : S ≤ plc s S i
  · rw [if_pos a]; omega
  · rw [if_neg a]
    by_cases b : isL (s (plc s S i)) = true
    · rw [if_pos b]
      by_cases c : lxL s S (plc s S i) - plc s S i ≤ 8
      · rw [if_pos c]
        rcases wOf_r (wk := wk) (key := enc 32 96 s (plc s S i) (lxL s S (plc s S i) - plc s S i)) 21 with h | h <;> omega
      · rw [if_neg c]; omega
    · rw [if_neg b]
      by_cases c : isD (s (plc s S i)) = true
      · rw [if_pos c]
        by_cases d : lxD s S (plc s S i) - plc s S i ≤ 4
        · rw [if_pos d]; omega
        · rw [if_neg d]; omega
      · rw [if_neg c]
        by_cases d : isG (s (plc s S i)) = true
        · rw [if_pos d]
          have := of_decide_eq_true d
          omega
        · rw [if_neg d]; omega
section EXPR
variable {h0 : zH} {n : Nat} {t : Nat → Int32} {l : Nat → Int64} {q : Nat → Int32} {nm : Nat → Int64} {cd wt : Nat → Int32} {s wk : Nat → Nat} {S i M : Nat} {nk : Nat → Nat} {W o : List Nat}
theorem kyO_lt (ts : TKT h0 n s wk) (hS : S ≤ 1000) (h : tkn wk s S i ≤ 20 ∨ tkn wk s S i = 200) : kyO s S i < 2 ^ 40 := by
  have pl := (pos_le s S i).2.2
  have sp := endQ_spec (q := fun j => isL (s j)) (S := S) (S + 1) (plc s S i) pl (by omega)
  have e2 : lxL s S (plc s S i) ≤ S := sp.2.1
  unfold kyO
  by_cases c : lxL s S (plc s S i) - plc s S i ≤ 8
  · exact enc_40 c (fun j hj => (ts.1 _ (by omega)).2)
  · exfalso
    unfold tkn lxC at h
    by_cases a : S ≤ plc s S i
    · rw [if_pos a] at h; omega
    · rw [if_neg a] at h
      by_cases b : isL (s (plc s S i)) = true
      · rw [if_pos b, if_neg c] at h; omega
      · rw [if_neg b] at h
        by_cases d : isD (s (plc s S i)) = true
        · rw [if_pos d] at h
          by_cases e : lxD s S (plc s S i) - plc s S i ≤ 4
          · rw [if_pos e] at h; omega
          · rw [if_neg e] at h; omega
        · rw [if_neg d] at h
          by_cases e : isG (s (plc s S i)) = true
          · rw [if_pos e] at h
            have := of_decide_eq_true e
            omega
          · rw [if_neg e] at h; omega
theorem XS_next {t' : Nat → Int32} {l' : Nat → Int64} (x : XS wk s S i W 0 t l q wt cd o) (k : TKs wk s S (i + 1) t' l') : XS wk s S (i + 1) W 0 t' l' q wt cd o := by
  obtain ⟨tk, x6, x7, xw, x8, x5, xm, xf⟩ := x
  exact ⟨k, x6, x7, xw, x8, x5, xm, xf⟩
theorem len_24 (ok : okW W) (ho : opens W ≤ 4) : W.length ≤ 24 := by
  have a := okW_len W ok
  have b : rkT W ≤ 4 := by
    cases W with
    | nil => exact Nat.zero_le _
    | cons u W => exact rk_4 u
  omega
/-- a step's outcome -/
def XO (h0 : zH) (n : Nat) (nm : Nat → Int64) (wk s : Nat → Nat) (S : Nat) (q4 : Int32) (st : RdS) (o : List Nat) (h : zH) : Prop := ∃ t l q cd wt, h = QH h0 n t l q nm cd wt ∧ q 4 = q4 ∧ XS wk s S st.1 st.2.1 st.2.2.2 t l q wt cd o
/-- a part's code as the class writes it -/
abbrev lfC (wk s : Nat → Nat) (S M : Nat) (nk : Nat → Nat) : Nat → Nat := lfN (tkn wk s S) (num s S) (fun j => ixN nk M (kyO s S j))
set_option maxHeartbeats 2000000 in
theorem e_part (ts : TKT h0 n s wk) (hS : S ≤ 1000) (x : XS wk s S i W 0 t l q wt cd o) (xn : XN M nk q nm) (ok : okW W) (ho : opens W ≤ 4) : wp (f_X7_readPart 10000 (n + 6) (QH h0 n t l q nm cd wt)) (fun r => r.1 = bI (isO (tkn wk s S i)) ∧ ∃ st, rdSt (tkn wk s S) (fun j => knB nk M (kyO s S j)) (i, W, true, 0) = some st ∧ (st.2.2.2 = 0 → st.2.2.1 = isO (tkn wk s S i)) ∧ XO h0 n nm wk s S (q 4) st (o ++ wSt (tkn wk s S) (lfC wk s S M nk) (i, W, true, 0)) r.2) := by
  have es : rdSt (tkn wk s S) (fun j => knB nk M (kyO s S j)) (i, W, true, 0) = some (if isO (tkn wk s S i) = false ∧ isE (tkn wk s S i) = false then (i, W, true, 1) else if tkn wk s S i = 200 ∧ knB nk M (kyO s S i) = false then (i, W, true, 2) else if 4 ≤ opens W then (i, W, true, 5) else if isO (tkn wk s S i) = true then (i + 1, tkn wk s S i :: W, true, 0) else (i + 1, popN W, false, 0)) := by
    unfold rdSt
    rw [if_neg (by simp), if_pos rfl]
  have ew : wSt (tkn wk s S) (lfC wk s S M nk) (i, W, true, 0) = if isO (tkn wk s S i) = true then [] else lfC wk s S M nk i :: oN W := by
    unfold wSt
    rw [if_pos rfl]
  have elf : lfC wk s S M nk i = if tkn wk s S i = 201 then num s S i else if tkn wk s S i = 200 then 20000 + ixN nk M (kyO s S i) else 10000 + tkn wk s S i := rfl
  have c203 : tkn wk s S i ≤ 203 := tkn_le
  have tk4 := x.1.2.2.1
  have tk6 := x.1.2.2.2.2.1
  have tk7 := x.1.2.2.2.2.2
  have klt := kyO_lt (i := i) ts hS
  have len := len_24 ok ho
  generalize lfC wk s S M nk i = lfi at ew elf
  generalize hc : tkn wk s S i = c at es ew elf c203 tk4 tk6 tk7 klt ⊢
  rw [es, ew]
  unfold f_X7_readPart
  refine wp_eq Q_s3 ?_
  refine wp_eq (Q_t4.trans (congrArg some tk4)) ?_
  refine wp_bind (R := fun r => r = bI (isO c)) ?_ (fun m3 p3 => ?_)
  · refine wp_ite (fun z => wp_some ?_) (fun z => wp_ite (fun z2 => wp_some ?_) (fun z2 => wp_some ?_))
    · have e := (nI_is (by omega) (by decide)).mp (show nI c = nI 9 from z)
      rw [e]
      rfl
    · have e := (nI_is (by omega) (by decide)).mp (show nI c = nI 40 from z2)
      rw [e]
      rfl
    · have e : isO c = false := decide_eq_false (fun y => y.elim (fun y => z (by rw [y]; rfl)) (fun y => z2 (by rw [y]; rfl)))
      rw [e]
      rfl
  refine wp_bind (R := fun r => c = 200 → r = (match fIx nk (kyO s S i) M 0 with | none => -1 | some k => nI k)) ?_ (fun m6 p6 => ?_)
  · refine wp_ite (fun z => ?_) (fun z => wp_some (fun y => absurd (by rw [y]; rfl) z))
    have e := (nI_is (by omega) (by decide)).mp (show nI c = nI 200 from z)
    refine wp_eq Q_s3 ?_
    refine wp_eq (Q_l.trans (congrArg some (tk7 (Or.inr e)))) ?_
    refine wp_zif Q_zR ?_
    refine wp_eq (e_nameOf xn (klt (Or.inr e))) ?_
    exact wp_some (fun _ => rfl)
  refine wp_bind (R := fun r => r = bI (isE c)) ?_ (fun m12 p12 => ?_)
  · refine in11 (fun z => ?_) (fun z => wp_some ?_)
    · refine wp_ite (fun z2 => wp_some ?_) (fun z2 => wp_ite (fun z3 => wp_some ?_) (fun z3 => wp_some ?_))
      · have e := (nI_is (by omega) (by decide)).mp (show nI c = nI 200 from z2)
        rw [e]
        rfl
      · have e := (nI_is (by omega) (by decide)).mp (show nI c = nI 201 from z3)
        rw [e]
        rfl
      · have e : isE c = false := decide_eq_false (fun y => by
          rcases y with y | y | y
          · exact z ⟨nle (a := 10) y.1 (by omega), nle (m := 20) y.2 (by decide)⟩
          · exact z2 (by rw [y]; rfl)
          · exact z3 (by rw [y]; rfl))
        rw [e]
        rfl
    · have e : isE c = true := decide_eq_true (Or.inl ⟨by
        have := z.1
        rw [show (10 : Int32) = nI 10 from rfl, nI_leI (by decide) (by omega)] at this
        exact this, by
        have := z.2
        rw [show (20 : Int32) = nI 20 from rfl, nI_leI (by omega) (by decide)] at this
        exact this⟩)
      rw [e]
      rfl
  by_cases z1 : isO c = false ∧ isE c = false
  · rw [if_pos z1, p3, z1.1, p12, z1.2, if_pos (show bI false = 0 from rfl), if_pos (show bI false = 0 from rfl)]
    refine wp_bzif Q_zR ?_
    refine wp_assoc ?_
    obtain ⟨q', e1, e2, e3⟩ := e_wrong (o2 := o ++ (if isO c = true then [] else lfi :: oN W)) (h0 := h0) (n := n) (nm := nm) (cd := cd) (k := 1) hS x (by decide) (by decide)
    refine wp_eq e1 ?_
    rw [rZ_b]
    refine wp_bmap ?_
    refine wp_bsome ?_
    rw [z1.1] at e3
    exact wp_zsR ⟨rfl, _, rfl, fun z => absurd z (by simp), t, l, q', cd, wt, rfl, e2 4 (by decide), e3⟩
  · have s16 : (if m3 = 0 then (if m12 = 0 then (zif (zob (QH h0 n t l q nm cd wt) (n + 6) 7) ((f_X7_wrong 10000 (n + 6) 1 (QH h0 n t l q nm cd wt)).bind fun h21 => (rZ m3 h21).map .inr)) else some (.inl (QH h0 n t l q nm cd wt))) else some (.inl (QH h0 n t l q nm cd wt)) : Option (zH ⊕ (Int32 × zH))) = some (.inl (QH h0 n t l q nm cd wt)) := by
      rw [p3, p12]
      cases hO : isO c
      · cases hE : isE c
        · exact absurd ⟨hO, hE⟩ z1
        · rw [if_pos (show bI false = 0 from rfl), if_neg (show ¬ bI true = 0 by decide)]
      · rw [if_neg (show ¬ bI true = 0 by decide)]
    rw [if_neg z1, s16]
    refine wp_bsome ?_
    refine wp_zsL ?_
    by_cases z2 : c = 200 ∧ knB nk M (kyO s S i) = false
    · have m6e : m6 = -1 := by
        rw [p6 z2.1]
        have kn := z2.2
        unfold knB at kn
        cases hf : fIx nk (kyO s S i) M 0 with
        | none => rfl
        | some k => rw [hf] at kn; exact absurd kn (by simp)
      rw [if_pos z2, if_pos (show nI c = 200 by rw [z2.1]; rfl), if_pos m6e]
      refine wp_bzif Q_zR ?_
      refine wp_assoc ?_
      obtain ⟨q', e1, e2, e3⟩ := e_wrong (o2 := o ++ (if isO c = true then [] else lfi :: oN W)) (h0 := h0) (n := n) (nm := nm) (cd := cd) (k := 2) hS x (by decide) (by decide)
      refine wp_eq e1 ?_
      rw [p3, rZ_b]
      refine wp_bmap ?_
      refine wp_bsome ?_
      exact wp_zsR ⟨rfl, _, rfl, fun z => absurd z (by simp), t, l, q', cd, wt, rfl, e2 4 (by decide), e3⟩
    · have s23 : (if nI c = 200 then (if m6 = -1 then (zif (zob (QH h0 n t l q nm cd wt) (n + 6) 7) ((f_X7_wrong 10000 (n + 6) 2 (QH h0 n t l q nm cd wt)).bind fun h28 => (rZ m3 h28).map .inr)) else some (.inl (QH h0 n t l q nm cd wt))) else some (.inl (QH h0 n t l q nm cd wt)) : Option (zH ⊕ (Int32 × zH))) = some (.inl (QH h0 n t l q nm cd wt)) := by
        by_cases e : nI c = 200
        · have e' := (nI_is (by omega) (by decide)).mp (show nI c = nI 200 from e)
          have m6e : ¬ m6 = -1 := by
            rw [p6 e']
            have kn : ¬ knB nk M (kyO s S i) = false := fun y => z2 ⟨e', y⟩
            unfold knB at kn
            cases hf : fIx nk (kyO s S i) M 0 with
            | none => rw [hf] at kn; exact absurd rfl kn
            | some k =>
              intro y
              have r := (fIx_some M 0 k hf).2.1
              have n8 := xn.1
              exact absurd (show nI k < 0 by rw [show nI k = -1 from y]; decide) (nI_pos (by omega))
          rw [if_pos e, if_neg m6e]
        · rw [if_neg e]
      rw [if_neg z2, s23]
      refine wp_bsome ?_
      refine wp_zsL ?_
      refine wp_eq (Q_q7.trans (congrArg some x.2.2.1)) ?_
      by_cases z3 : 4 ≤ opens W
      · rw [if_pos z3, if_neg (show ¬ nI (opens W) < 4 from nnlt (m := 4) z3 (by omega))]
        refine wp_zif Q_zR ?_
        obtain ⟨q', e1, e2, e3⟩ := e_wrong (o2 := o ++ (if isO c = true then [] else lfi :: oN W)) (h0 := h0) (n := n) (nm := nm) (cd := cd) (k := 5) hS x (by decide) (by decide)
        refine wp_eq e1 ?_
        rw [p3, rZ_b]
        exact wp_some ⟨rfl, _, rfl, fun z => absurd z (by simp), t, l, q', cd, wt, rfl, e2 4 (by decide), e3⟩
      · rw [if_neg z3, if_pos (show nI (opens W) < 4 from nlt (m := 4) (by omega) (by decide))]
        cases hO : isO c
        · rw [p3, hO, if_pos (show bI false = 0 from rfl), if_neg (show ¬ false = true by decide), if_neg (show ¬ false = true by decide)]
          have iE : isE c = true := by
            cases h9 : isE c
            · exact absurd ⟨hO, h9⟩ z1
            · rfl
          refine wp_bind (R := fun r => r = nI lfi) ?_ (fun m33 p33 => ?_)
          · refine wp_ite (fun y => ?_) (fun y => wp_ite (fun y2 => wp_some ?_) (fun y2 => wp_some ?_))
            · have e := (nI_is (by omega) (by decide)).mp (show nI c = nI 201 from y)
              refine wp_eq Q_s3 ?_
              refine wp_eq (Q_t6.trans (congrArg some (tk6 e))) ?_
              rw [elf, if_pos e]
              exact wp_some rfl
            · have e := (nI_is (by omega) (by decide)).mp (show nI c = nI 200 from y2)
              have kn : ¬ knB nk M (kyO s S i) = false := fun y => z2 ⟨e, y⟩
              rw [elf, if_neg (by omega), if_pos e, p6 e]
              unfold knB at kn
              unfold ixN
              cases hf : fIx nk (kyO s S i) M 0 with
              | none => rw [hf] at kn; exact absurd rfl kn
              | some k => exact nI_add 20000 k
            · have n1 : ¬ c = 201 := fun h => y (by rw [h]; rfl)
              have n2 : ¬ c = 200 := fun h => y2 (by rw [h]; rfl)
              rw [elf, if_neg n1, if_neg n2]
              exact nI_add 10000 c
          rw [p33]
          refine wp_zif Q_zR ?_
          obtain ⟨tk, x6, x7, xw, x8, x5, xm, xf⟩ := x
          obtain ⟨q1, cd1, e1, e2, e3⟩ := e_write (h0 := h0) (n := n) (t := t) (l := l) (nm := nm) (cd := cd) (wt := wt) (v := lfi) x5
          refine wp_eq e1 ?_
          have x1 : XS wk s S i W 0 t l q1 wt cd1 (o ++ [lfi]) := ⟨tk, (e2 6 (by decide)).trans x6, (e2 7 (by decide)).trans x7, xw, (e2 8 (by decide)).trans x8, e3, xm, xf⟩
          refine wp_zif Q_zR ?_
          obtain ⟨q2, cd2, f1, f2, f3⟩ := e_nots (h0 := h0) (n := n) (nm := nm) (cd := cd1) (show W.length ≤ 32 by omega) ho x1
          refine wp_eq f1 ?_
          refine wp_eq Q_s3 ?_
          refine wp_zif Q_zT ?_
          obtain ⟨t', l', g1, g2⟩ := e_next (h0 := h0) (n := n) (q := q2) (nm := nm) (cd := cd2) (wt := wt) ts hS f3.1
          refine wp_eq g1 ?_
          rw [rZ_b]
          have po : o ++ (lfi :: oN W) = (o ++ [lfi]) ++ oN W := by simp
          rw [po]
          exact wp_some ⟨rfl, _, rfl, fun _ => rfl, t', l', q2, cd2, wt, rfl, f2.trans (e2 4 (by decide)), XS_next f3 g2⟩
        · rw [p3, hO, if_neg (show ¬ bI true = 0 by decide), if_pos rfl, if_pos rfl, List.append_nil]
          refine wp_zif Q_zR ?_
          obtain ⟨q1, wt1, e1, e2, e3, e4⟩ := e_hold (h0 := h0) (n := n) (nm := nm) (cd := cd) c203 (show W.length < 32 by omega) x
          obtain ⟨tk, x6, x7, xw, x8, x5, xm, xf⟩ := x
          refine wp_eq e1 ?_
          refine wp_eq (Q_q7.trans (congrArg some ((e3 7 (by decide)).trans x7))) ?_
          rw [nI_1]
          refine wp_eq (Q_Q7 _) ?_
          refine wp_eq Q_s3 ?_
          refine wp_zif Q_zT ?_
          obtain ⟨t', l', g1, g2⟩ := e_next (h0 := h0) (n := n) (q := upd q1 7 (nI (opens W + 1))) (nm := nm) (cd := cd) (wt := wt1) ts hS tk
          refine wp_eq g1 ?_
          rw [rZ_b]
          refine wp_some ⟨rfl, _, rfl, fun _ => rfl, t', l', _, cd, wt1, rfl, e3 4 (by decide), g2, e2, ?_, e4, (e3 8 (by decide)).trans x8, CDF_q (q := q) (e3 5 (by decide)) x5, ?_, xf⟩
          · show nI (opens W + 1) = nI ((if c = 9 ∨ c = 40 then 1 else 0) + opens W)
            rw [if_pos (of_decide_eq_true hO), Nat.add_comm]
          · intro u hu
            rcases List.mem_cons.mp hu with e | e
            · rw [e]; exact c203
            · exact xm u e
theorem e_close (ts : TKT h0 n s wk) (hS : S ≤ 1000) (x : XS wk s S i W 0 t l q wt cd o) (ok : okW W) (ho : opens W ≤ 4) : wp (f_X7_closeBracket 10000 (n + 6) (QH h0 n t l q nm cd wt)) (fun r => XO h0 n nm wk s S (q 4) (i + 1, popN (clB (popR 1 W)), false, 0) (o ++ (oR 1 W ++ oN (clB (popR 1 W)))) r) := by
  have len := len_24 ok ho
  unfold f_X7_closeBracket
  refine wp_zif Q_zR ?_
  obtain ⟨q1, cd1, e1, e2, e3⟩ := e_waiting (h0 := h0) (n := n) (nm := nm) (cd := cd) (r := 1) (by decide) (by decide) (show W.length ≤ 32 by omega) x
  refine wp_eq e1 ?_
  have ok1 := (okW_popR (r := 1) W ok).1
  have ho1 : opens (popR 1 W) ≤ 4 := by rw [opens_popR (by decide)]; exact ho
  generalize popR 1 W = X at e3 ok1 ho1 ⊢
  rw [← List.append_assoc]
  generalize o ++ oR 1 W = o1 at e3 ⊢
  have len1 := len_24 ok1 ho1
  obtain ⟨tk, x6, x7, xw, x8, x5, xm, xf⟩ := e3
  refine wp_zif Q_zR ?_
  refine wp_eq (e_last (show X.length ≤ 32 by omega) x6 xw) ?_
  refine wp_bind (R := fun h => ∃ q2, h = QH h0 n t l q2 nm cd1 wt ∧ q2 4 = q1 4 ∧ XS wk s S i (clB X) 0 t l q2 wt cd1 o1) ?_ (fun m5 p5 => ?_)
  · cases X with
    | nil =>
      rw [if_neg (show ¬ lastV [] = 40 by decide)]
      exact wp_some ⟨q1, rfl, rfl, tk, x6, x7, xw, x8, x5, xm, xf⟩
    | cons u X =>
      have u203 := xm u List.mem_cons_self
      by_cases d : u = 40
      · subst d
        have dn : nI (40 :: X).length - 1 = nI X.length := by
          show nI (X.length + 1) - 1 = _
          rw [← nI_1]
          lia
        have o : opens (40 :: X) = 1 + opens X := rfl
        have dn7 : nI (opens (40 :: X)) - 1 = nI (opens X) := by
          rw [o, Nat.add_comm, ← nI_1]
          lia
        rw [if_pos (show lastV (40 :: X) = 40 from rfl)]
        refine wp_eq (Q_q6.trans (congrArg some x6)) ?_
        rw [dn]
        refine wp_eq (Q_Q6 _) ?_
        refine wp_eq (Q_q7.trans (congrArg some x7)) ?_
        rw [dn7]
        refine wp_eq (Q_Q7 _) ?_
        exact wp_some ⟨_, rfl, rfl, tk, rfl, rfl, (lkw xw).2, x8, CDF_q (q := q1) rfl x5, fun y hy => xm y (List.mem_cons_of_mem _ hy), xf⟩
      · rw [if_neg (show ¬ lastV (u :: X) = 40 from fun z9 => d (nI_inj (by omega) (by decide) (show nI u = nI 40 from z9)))]
        have cc : clB (u :: X) = u :: X := by
          show (if u = 40 then X else u :: X) = _
          rw [if_neg d]
        rw [cc]
        exact wp_some ⟨q1, rfl, rfl, tk, x6, x7, xw, x8, x5, xm, xf⟩
  obtain ⟨q2, rfl, f2, f3⟩ := p5
  have ok2 := okW_clB X ok1
  have ho2 : opens (clB X) ≤ 4 := by
    cases X with
    | nil => exact ho1
    | cons u X =>
      have o : opens (u :: X) = (if u = 9 ∨ u = 40 then 1 else 0) + opens X := rfl
      show opens (if u = 40 then X else u :: X) ≤ 4
      by_cases d : u = 40
      · rw [if_pos d]; omega
      · rw [if_neg d]; exact ho1
  have len2 := len_24 ok2 ho2
  refine wp_zif Q_zR ?_
  obtain ⟨q3, cd3, g1, g2, g3⟩ := e_nots (h0 := h0) (n := n) (nm := nm) (cd := cd1) (show (clB X).length ≤ 32 by omega) ho2 f3
  refine wp_eq g1 ?_
  refine wp_eq Q_s3 ?_
  refine wp_zif Q_zT ?_
  obtain ⟨t', l', k1, k2⟩ := e_next (h0 := h0) (n := n) (q := q3) (nm := nm) (cd := cd3) (wt := wt) ts hS g3.1
  refine wp_eq k1 ?_
  exact wp_some ⟨t', l', q3, cd3, wt, rfl, g2.trans (f2.trans e2), XS_next g3 k2⟩
theorem oR_two {r : Nat} : ∀ W, oR (r + 1) W ++ oR r (popR (r + 1) W) = oR r W := by
  intro W
  induction W with
  | nil => rfl
  | cons u W ih =>
    show (if r + 1 ≤ rk u then (30000 + u) :: oR (r + 1) W else []) ++ oR r (if r + 1 ≤ rk u then popR (r + 1) W else u :: W) = (if r ≤ rk u then (30000 + u) :: oR r W else [])
    by_cases z : r + 1 ≤ rk u
    · rw [if_pos z, if_pos z, if_pos (by omega), ← ih]
      rfl
    · rw [if_neg z, if_neg z]
      rfl
theorem e_oper (ts : TKT h0 n s wk) (hS : S ≤ 1000) (x : XS wk s S i W 0 t l q wt cd o) (ok : okW W) (ho : opens W ≤ 4) (hr : 0 < rk (tkn wk s S i)) : wp (f_X7_readOperator 10000 (n + 6) (QH h0 n t l q nm cd wt)) (fun r => XO h0 n nm wk s S (q 4) (if rk (tkn wk s S i) = 2 ∧ rkT (popR 3 W) = 2 then (i, popR 3 W, false, 1) else (i + 1, tkn wk s S i :: popR (rk (tkn wk s S i)) W, true, 0)) (o ++ oR (rk (tkn wk s S i)) W) r) := by
  have len := len_24 ok ho
  have c203 : tkn wk s S i ≤ 203 := tkn_le
  have tk4 := x.1.2.2.1
  generalize hc : tkn wk s S i = c at c203 tk4 hr ⊢
  have r4 := rk_4 c
  unfold f_X7_readOperator
  refine wp_eq Q_s3 ?_
  refine wp_eq (Q_t4.trans (congrArg some tk4)) ?_
  refine wp_zlet ?_
  rw [rank_n ⟨c, by omega⟩]
  show wp (zif (zob (QH h0 n t l q nm cd wt) (n + 6) 7) ((f_X7_writeWaiting 10000 (n + 6) (nI (rk c) + 1) (QH h0 n t l q nm cd wt)).bind _)) _
  rw [nI_1]
  refine wp_zif Q_zR ?_
  obtain ⟨q1, cd1, e1, e2, e3⟩ := e_waiting (h0 := h0) (n := n) (nm := nm) (cd := cd) (r := rk c + 1) (by omega) (by omega) (show W.length ≤ 32 by omega) x
  refine wp_eq e1 ?_
  have ok1 := okW_popR (r := rk c + 1) W ok
  have ho1 : opens (popR (rk c + 1) W) ≤ 4 := by rw [opens_popR (by omega)]; exact ho
  have len1 := len_24 ok1.1 ho1
  have fin : ¬ (rk c = 2 ∧ rkT (popR 3 W) = 2) → wp (zif (zob (QH h0 n t l q1 nm cd1 wt) (n + 6) 7) ((f_X7_writeWaiting 10000 (n + 6) (nI (rk c)) (QH h0 n t l q1 nm cd1 wt)).bind fun h16 => zif (zob h16 (n + 6) 7) ((f_X7_hold 10000 (n + 6) (nI c) h16).bind fun h18 => (gR h18 (n + 6) 7 3).bind fun r19 => zif (zob h18 r19 9) ((f_X9_advance 10000 r19 h18).bind fun h21 => some h21)))) (fun r => XO h0 n nm wk s S (q 4) (i + 1, c :: popR (rk c) W, true, 0) (o ++ oR (rk c) W) r) := by
    intro nn
    refine wp_zif Q_zR ?_
    obtain ⟨q2, cd2, f1, f2, f3⟩ := e_waiting (h0 := h0) (n := n) (nm := nm) (cd := cd1) (r := rk c) (by omega) (by omega) (show (popR (rk c + 1) W).length ≤ 32 by omega) e3
    have pp : popR (rk c) (popR (rk c + 1) W) = popR (rk c) W := by
      clear ok1 ho1 len1 e3 f3 x ok ho len nn
      induction W with
      | nil => rfl
      | cons u W ih =>
        show popR (rk c) (if rk c + 1 ≤ rk u then popR (rk c + 1) W else u :: W) = (if rk c ≤ rk u then popR (rk c) W else u :: W)
        by_cases z : rk c + 1 ≤ rk u
        · rw [if_pos z, if_pos (by omega)]
          exact ih
        · rw [if_neg z]
          rfl
    rw [pp, List.append_assoc, oR_two] at f3
    refine wp_eq f1 ?_
    refine wp_zif Q_zR ?_
    have ok2 := okW_popR (r := rk c) W ok
    have ho2 : opens (popR (rk c) W) ≤ 4 := by rw [opens_popR (by omega)]; exact ho
    have len2 := len_24 ok2.1 ho2
    obtain ⟨q3, wt3, g1, g2, g3, g4⟩ := e_hold (h0 := h0) (n := n) (nm := nm) (cd := cd2) c203 (show (popR (rk c) W).length < 32 by omega) f3
    obtain ⟨tk, x6, x7, xw, x8, x5, xm, xf⟩ := f3
    refine wp_eq g1 ?_
    refine wp_eq Q_s3 ?_
    refine wp_zif Q_zT ?_
    obtain ⟨t', l', k1, k2⟩ := e_next (h0 := h0) (n := n) (q := q3) (nm := nm) (cd := cd2) (wt := wt3) ts hS tk
    refine wp_eq k1 ?_
    refine wp_some ⟨t', l', q3, cd2, wt3, rfl, (g3 4 (by decide)).trans (f2.trans e2), k2, g2, ?_, g4, (g3 8 (by decide)).trans x8, CDF_q (q := q2) (g3 5 (by decide)) x5, ?_, xf⟩
    · rw [g3 7 (by decide), x7, opens_op hr]
    · intro u hu
      rcases List.mem_cons.mp hu with e | e
      · rw [e]; exact c203
      · exact xm u e
  by_cases z : nI (rk c) = 2
  · have z' : rk c = 2 := (nI_is (by omega) (by decide)).mp (show nI (rk c) = nI 2 from z)
    rw [if_pos z]
    refine wp_bzif Q_zR ?_
    refine wp_assoc ?_
    obtain ⟨tk, x6, x7, xw, x8, x5, xm, xf⟩ := id e3
    refine wp_eq (e_last (show (popR (rk c + 1) W).length ≤ 32 by omega) x6 xw) ?_
    have e13 : popR (rk c + 1) W = popR 3 W := by rw [z']
    have rl := rank_l (W := popR (rk c + 1) W) xm
    by_cases y : rkT (popR 3 W) = 2
    · rw [if_pos (show rk c = 2 ∧ rkT (popR 3 W) = 2 from ⟨z', y⟩), if_pos (show p_X7_rank (lastV (popR (rk c + 1) W)) = 2 by rw [rl, e13, y]; rfl)]
      refine wp_bzif Q_zR ?_
      refine wp_assoc ?_
      obtain ⟨q2, w1, w2, w3⟩ := e_wrong (o2 := o ++ oR (rk c) W) (h0 := h0) (n := n) (nm := nm) (cd := cd1) (k := 1) hS e3 (by decide) (by decide)
      refine wp_eq w1 ?_
      refine wp_bmap ?_
      refine wp_bsome ?_
      rw [e13] at w3
      exact wp_zsR ⟨t, l, q2, cd1, wt, rfl, (w2 4 (by decide)).trans e2, w3⟩
    · have r3 : rkT (popR 3 W) ≤ 4 := by
        cases popR 3 W with
        | nil => exact Nat.zero_le _
        | cons u X => exact rk_4 u
      rw [if_neg (show ¬ (rk c = 2 ∧ rkT (popR 3 W) = 2) from fun h => y h.2), if_neg (show ¬ p_X7_rank (lastV (popR (rk c + 1) W)) = 2 by
        rw [rl, e13]
        exact fun h => y ((nI_is (by omega) (by decide)).mp (show nI (rkT (popR 3 W)) = nI 2 from h)))]
      refine wp_bsome ?_
      exact wp_zsL (fin (fun h => y h.2))
  · have z' : ¬ rk c = 2 := fun h => z (by rw [h]; rfl)
    rw [if_neg z, if_neg (show ¬ (rk c = 2 ∧ rkT (popR 3 W) = 2) from fun h => z' h.1)]
    refine wp_bsome ?_
    exact wp_zsL (fin (fun h => z' h.1))
theorem XN_q {q' : Nat → Int32} (x : XN M nk q nm) (e : q' 4 = q 4) : XN M nk q' nm := ⟨x.1, e.trans x.2.1, x.2.2⟩
set_option maxHeartbeats 2000000 in
theorem e_loop (ts : TKT h0 n s wk) (hS : S ≤ 1000) : ∀ (m v : Nat) (st : RdS) (due : Bool) (t : Nat → Int32) (l : Nat → Int64) (q cd wt : Nat → Int32) (o : List Nat), v ≤ 1001 → 1001 - v < m → (st.2.2.2 = 0 → due = st.2.2.1) → okW st.2.1 → opens st.2.1 ≤ 4 → XS wk s S st.1 st.2.1 st.2.2.2 t l q wt cd o → XN M nk q nm → wp (f_X7_readExpression_L14 10000 (n + 6) m (bI due) (nI v) (QH h0 n t l q nm cd wt)) (fun r => XO h0 n nm wk s S (q 4) (rn (tkn wk s S) (fun j => knB nk M (kyO s S j)) (1001 - v) st) (o ++ wR (tkn wk s S) (fun j => knB nk M (kyO s S j)) (lfC wk s S M nk) (1001 - v) st) r) := by
  intro m
  induction m with
  | zero => intro v st due t l q cd wt o h1 h2; exact absurd h2 (by omega)
  | succ m ih =>
    intro v st due t l q cd wt o h1 h2 hdue ok ho x xn
    obtain ⟨i, W, dd, f⟩ := st
    have hdue' : f = 0 → due = dd := hdue
    rw [f_X7_readExpression_L14.eq_2]
    by_cases c : v = 1001
    · subst c
      rw [if_pos (show (1000 : Int32) < nI 1001 by decide), show wR (tkn wk s S) (fun j => knB nk M (kyO s S j)) (lfC wk s S M nk) (1001 - 1001) (i, W, dd, f) = [] from rfl, List.append_nil]
      exact wp_some ⟨t, l, q, cd, wt, rfl, rfl, x⟩
    · rw [if_neg (show ¬ (1000 : Int32) < nI v from nnlt (a := 1000) (by omega) (by decide))]
      refine wp_eq Q_q8 ?_
      have pl := (pos_le s S i).2.2
      have x8 : q 8 = nI (if f = 0 then 0 else f + 16 * plc s S i) := x.2.2.2.2.1
      have f5 : f ≤ 5 := x.2.2.2.2.2.2.2
      by_cases f0 : f = 0
      · subst f0
        have dd' := hdue' rfl
        subst dd'
        rw [if_pos rfl] at x8
        rw [if_pos (show q 8 = 0 from x8)]
        obtain ⟨k, hk⟩ : ∃ k, 1001 - v = k + 1 := ⟨1001 - v - 1, by omega⟩
        have hk' : 1001 - (v + 1) = k := by omega
        rw [hk]
        -- the next round
        have nx : ∀ {st' : RdS} {h' : zH} {due' : Bool}, rdSt (tkn wk s S) (fun j => knB nk M (kyO s S j)) (i, W, due, 0) = some st' → (st'.2.2.2 = 0 → due' = st'.2.2.1) → XO h0 n nm wk s S (q 4) st' (o ++ wSt (tkn wk s S) (lfC wk s S M nk) (i, W, due, 0)) h' → wp (f_X7_readExpression_L14 10000 (n + 6) m (bI due') (nI v + 1) h') (fun r => XO h0 n nm wk s S (q 4) (rn (tkn wk s S) (fun j => knB nk M (kyO s S j)) (k + 1) (i, W, due, 0)) (o ++ wR (tkn wk s S) (fun j => knB nk M (kyO s S j)) (lfC wk s S M nk) (k + 1) (i, W, due, 0)) r) := by
          intro st' h' due' e hd xo
          obtain ⟨t', l', q', cd', wt', rfl, e4, x'⟩ := xo
          have o := okW_step e ok ho
          rw [nI_1, rn_some e, wR_some e, ← List.append_assoc, ← hk', ← e4]
          exact ih (v + 1) st' due' t' l' q' cd' wt' _ (by omega) (by omega) hd o.1 o.2 x' (XN_q xn e4)
        have tk4 := x.1.2.2.1
        have c203 : tkn wk s S i ≤ 203 := tkn_le
        cases due
        · rw [if_pos (show bI false = 0 from rfl)]
          refine wp_eq Q_s3 ?_
          refine wp_eq (Q_t4.trans (congrArg some tk4)) ?_
          have rest : ¬ (tkn wk s S i = 41 ∧ 0 < opens W) → wp ((gR (QH h0 n t l q nm cd wt) (n + 6) 7 3).bind fun r17 => (gI (QH h0 n t l q nm cd wt) r17 9 4).bind fun x18 => if (p_X7_rank x18) ≤ 0 then (some (QH h0 n t l q nm cd wt)) else (zif (zob (QH h0 n t l q nm cd wt) (n + 6) 7) <| (f_X7_readOperator 10000 (n + 6) (QH h0 n t l q nm cd wt)).bind fun h21 => f_X7_readExpression_L14 10000 (n + 6) m 1 (nI v + 1) h21)) (fun r => XO h0 n nm wk s S (q 4) (rn (tkn wk s S) (fun j => knB nk M (kyO s S j)) (k + 1) (i, W, false, 0)) (o ++ wR (tkn wk s S) (fun j => knB nk M (kyO s S j)) (lfC wk s S M nk) (k + 1) (i, W, false, 0)) r) := by
            intro no
            have ewO : wSt (tkn wk s S) (lfC wk s S M nk) (i, W, false, 0) = oR (rk (tkn wk s S i)) W := by
              unfold wSt
              rw [if_neg (by simp), if_neg no]
            refine wp_eq Q_s3 ?_
            refine wp_eq (Q_t4.trans (congrArg some tk4)) ?_
            rw [rank_n ⟨tkn wk s S i, by omega⟩]
            have r4 := rk_4 (tkn wk s S i)
            by_cases z : rk (tkn wk s S i) = 0
            · rw [if_pos (show nI (rk (tkn wk s S i)) ≤ 0 by rw [z]; decide)]
              have nn : rdSt (tkn wk s S) (fun j => knB nk M (kyO s S j)) (i, W, false, 0) = none := by
                unfold rdSt
                rw [if_neg (by simp), if_neg (by simp), if_neg no, if_neg (show ¬ 0 < rk (tkn wk s S i) by omega)]
              rw [rn_none nn, wR_none nn, List.append_nil]
              exact wp_some ⟨t, l, q, cd, wt, rfl, rfl, x⟩
            · rw [if_neg (show ¬ nI (rk (tkn wk s S i)) ≤ 0 from nnle (m := 0) (by omega) (by omega))]
              refine wp_zif Q_zR ?_
              refine wp_bind (e_oper ts hS x ok ho (show 0 < rk (tkn wk s S i) by omega)) fun h21 xo => ?_
              rw [← ewO] at xo
              refine nx (due' := true) ?_ ?_ xo
              · unfold rdSt
                rw [if_neg (by simp), if_neg (by simp), if_neg no, if_pos (show 0 < rk (tkn wk s S i) by omega)]
              · intro e0
                by_cases y : rk (tkn wk s S i) = 2 ∧ rkT (popR 3 W) = 2
                · rw [if_pos y] at e0
                  exact absurd e0 (by simp)
                · rw [if_neg y]
          by_cases z41 : nI (tkn wk s S i) = 41
          · have z41' : tkn wk s S i = 41 := (nI_is (by omega) (by decide)).mp (show nI (tkn wk s S i) = nI 41 from z41)
            rw [if_pos z41]
            refine wp_assoc ?_
            refine wp_eq (Q_q7.trans (congrArg some x.2.2.1)) ?_
            by_cases o0 : 0 < opens W
            · rw [if_neg (show ¬ nI (opens W) ≤ 0 from nnle (m := 0) o0 (by have : opens W ≤ 4 := ho; omega))]
              refine wp_bzif Q_zR ?_
              refine wp_assoc ?_
              refine wp_bind (e_close ts hS x ok ho) fun h15 xo => ?_
              refine wp_bmap ?_
              have ewC : wSt (tkn wk s S) (lfC wk s S M nk) (i, W, false, 0) = oR 1 W ++ oN (clB (popR 1 W)) := by
                unfold wSt
                rw [if_neg (by simp), if_pos (show tkn wk s S i = 41 ∧ 0 < opens W from ⟨z41', o0⟩)]
              have xo : XO h0 n nm wk s S (q 4) (i + 1, popN (clB (popR 1 W)), false, 0) (o ++ wSt (tkn wk s S) (lfC wk s S M nk) (i, W, false, 0)) h15 := by
                rw [ewC]
                exact xo
              refine wp_bind (nx (due' := false) ?_ (fun _ => rfl) xo) fun r xr => wp_zsR xr
              unfold rdSt
              rw [if_neg (by simp), if_neg (by simp), if_pos (show tkn wk s S i = 41 ∧ 0 < opens W from ⟨z41', o0⟩)]
            · rw [if_pos (show nI (opens W) ≤ 0 by rw [show opens W = 0 by omega]; decide)]
              refine wp_bsome ?_
              exact wp_zsL (rest (fun h => o0 h.2))
          · rw [if_neg z41]
            refine wp_bsome ?_
            exact wp_zsL (rest (fun h => z41 (by rw [h.1]; rfl)))
        · rw [if_neg (show ¬ bI true = 0 by decide)]
          refine wp_zif Q_zR ?_
          refine wp_bind (e_part ts hS x xn ok ho) fun q23 p => ?_
          obtain ⟨p1, st', p2, p3, p4⟩ := p
          rw [p1]
          exact nx p2 (fun e0 => (p3 e0).symm) p4
      · rw [if_neg f0] at x8
        rw [if_neg (show ¬ q 8 = 0 from fun z => by
          have := nI_inj (by omega) (by decide) ((x8.symm.trans z).trans nI_0.symm)
          omega)]
        have nn : rdSt (tkn wk s S) (fun j => knB nk M (kyO s S j)) (i, W, dd, f) = none := by
          unfold rdSt
          rw [if_pos f0]
        rw [rn_none nn, wR_none nn, List.append_nil]
        exact wp_some ⟨t, l, q, cd, wt, rfl, rfl, x⟩
end EXPR
