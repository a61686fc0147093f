/-! the class's by-law, line by line -/
section LAW
variable {h0 : zH} {n : Nat} {t : Nat → Int32} {l : Nat → Int64} {q : Nat → Int32} {nm : Nat → Int64} {cd wt : Nat → Int32} {s wk : Nat → Nat} {S i M : Nat} {nk : Nat → Nat} {o : List Nat}
/-- a line's codes -/
def ccN (x : LnT) : List Nat := x.1 :: x.2.1 :: x.2.2.length :: x.2.2
def ccL : List LnT → List Nat
  | [] => []
  | x :: ls => ccN x ++ ccL ls
/-- a line's length is told behind it -/
theorem CDX_len {q cd : Nat → Int32} {o c : List Nat} {a b : Nat} (h : CDX q cd (o ++ [a] ++ [b] ++ [0] ++ c)) : CDX q (upd cd (o.length + 2) (nI c.length)) (o ++ (a :: b :: c.length :: c)) := by
  have eo : o ++ [a] ++ [b] ++ [0] ++ c = o ++ (a :: b :: 0 :: c) := by simp
  rw [eo] at h
  obtain ⟨h1, h2⟩ := h
  have l1 : (o ++ (a :: b :: 0 :: c)).length = o.length + 3 + c.length := by simp; omega
  have l2 : (o ++ (a :: b :: c.length :: c)).length = o.length + 3 + c.length := by simp; omega
  unfold CDX
  rw [l2]
  rw [l1] at h1 h2
  refine ⟨h1, fun hl j hj => ?_⟩
  by_cases e : j = o.length + 2
  · subst e
    rw [upd_at, List.getD_eq_getElem?_getD, List.getElem?_append_right (by omega), show o.length + 2 - o.length = 2 by omega]
    rfl
  · rw [upd_ne e, h2 hl j hj]
    congr 1
    rw [List.getD_eq_getElem?_getD, List.getD_eq_getElem?_getD]
    congr 1
    by_cases e1 : j < o.length
    · rw [List.getElem?_append_left e1, List.getElem?_append_left e1]
    · rw [List.getElem?_append_right (by omega), List.getElem?_append_right (by omega)]
      have ed : j - o.length = 0 ∨ j - o.length = 1 ∨ ∃ k, j - o.length = k + 3 := by
        by_cases e2 : j = o.length
        · exact Or.inl (by omega)
        · by_cases e3 : j = o.length + 1
          · exact Or.inr (Or.inl (by omega))
          · exact Or.inr (Or.inr ⟨j - o.length - 3, by omega⟩)
      rcases ed with ed | ed | ⟨k, ed⟩ <;> rw [ed] <;> rfl
set_option maxHeartbeats 2000000 in
theorem e_line {line : Nat} (ts : TKT h0 n s wk) (hS : S ≤ 1000) (x : LX wk s S i 0 M nk t l q nm cd o) (hl : line ≤ 1000) : wp (f_X7_readLine 10000 (n + 6) (nI line) (QH h0 n t l q nm cd wt)) (fun r => ∃ nm', ((lnQ (tkn wk s S) (num s S) (fun j => knB nk M (kyO s S j)) M line i).2 = 0 → LO h0 n nm' wk s S (lnM (tkn wk s S) M i) (lnK (tkn wk s S) (kyO s S) M i nk) (lnQ (tkn wk s S) (num s S) (fun j => knB nk M (kyO s S j)) M line i) (o ++ ccN (lnD (tkn wk s S) (num s S) (fun j => knB nk M (kyO s S j)) (fun j => ixN nk M (kyO s S j)) M i)) r) ∧ (¬ (lnQ (tkn wk s S) (num s S) (fun j => knB nk M (kyO s S j)) M line i).2 = 0 → LO h0 n nm' wk s S M nk (lnQ (tkn wk s S) (num s S) (fun j => knB nk M (kyO s S j)) M line i) o r)) := by
  have tk4 := x.1.2.2.1
  have c203 : tkn wk s S i ≤ 203 := tkn_le
  have xn := x.2.2.2.1
  unfold f_X7_readLine
  refine wp_eq Q_s3 ?_
  refine wp_eq (Q_t4.trans (congrArg some tk4)) ?_
  have is (u : Nat) (hu : u < 300) : nI (tkn wk s S i) = nI u ↔ tkn wk s S i = u := nI_is (by omega) (by omega)
  by_cases z1 : tkn wk s S i = 4 ∨ tkn wk s S i = 20 ∨ tkn wk s S i = 5
  · have s3 : (if nI (tkn wk s S i) = 4 then some (.inl (QH h0 n t l q nm cd wt)) else (if nI (tkn wk s S i) = 20 then some (.inl (QH h0 n t l q nm cd wt)) else (if nI (tkn wk s S i) = 5 then some (.inl (QH h0 n t l q nm cd wt)) else (zif (zob (QH h0 n t l q nm cd wt) (n + 6) 7) <| (f_X7_wrong 10000 (n + 6) 1 (QH h0 n t l q nm cd wt)).bind fun h9 => (some h9).map .inr))) : Option (zH ⊕ zH)) = some (.inl (QH h0 n t l q nm cd wt)) := by
      by_cases a : nI (tkn wk s S i) = 4
      · rw [if_pos a]
      · rw [if_neg a]
        by_cases b : nI (tkn wk s S i) = 20
        · rw [if_pos b]
        · rw [if_neg b]
          rcases z1 with z | z | z
          · exact absurd (by rw [z]; rfl) a
          · exact absurd (by rw [z]; rfl) b
          · rw [if_pos (by rw [z]; rfl)]
    rw [s3]
    refine wp_bsome ?_
    refine wp_zsL ?_
    by_cases z2 : 20 ≤ line
    · have e : lnQ (tkn wk s S) (num s S) (fun j => knB nk M (kyO s S j)) M line i = (i, 5) := by
        unfold lnQ
        rw [if_neg (fun y => y z1), if_pos z2]
      rw [e, if_neg (show ¬ nI line < 20 from nnlt (m := 20) z2 (by omega))]
      refine wp_zif Q_zR ?_
      obtain ⟨q', e1, e2⟩ := LX_wrong (o2 := o) (h0 := h0) (n := n) (cd := cd) (wt := wt) (k := 5) hS x (by decide) (by decide)
      refine wp_eq e1 ?_
      exact wp_some ⟨nm, fun z => absurd z (by simp), fun _ => ⟨t, l, q', cd, wt, rfl, e2⟩⟩
    · have e : lnQ (tkn wk s S) (num s S) (fun j => knB nk M (kyO s S j)) M line i = exQ (tkn wk s S) 59 (eQ (tkn wk s S) (fun j => knB nk M (kyO s S j)) (exQ (tkn wk s S) (if tkn wk s S i = 4 then 61 else 6) (wfQ (tkn wk s S) (num s S) (fun j => knB nk M (kyO s S j)) M (tkn wk s S i) (i + 1)))) := by
        unfold lnQ
        rw [if_neg (fun y => y z1), if_neg z2]
      rw [e, if_pos (show nI line < 20 from nlt (m := 20) (by omega) (by decide))]
      obtain ⟨o0, ho0, x5⟩ := x.2.2.1
      have ho0 : o = o0 := (ho0 rfl).symm
      subst ho0
      refine wp_eq (Q_q5.trans (congrArg some x5.1)) ?_
      refine wp_zif Q_zR ?_
      obtain ⟨q1, cd1, a1, a2⟩ := LX_write (h0 := h0) (n := n) (cd := cd) (wt := wt) (v := tkn wk s S i) x
      refine wp_eq a1 ?_
      refine wp_eq Q_s3 ?_
      refine wp_zif Q_zT ?_
      obtain ⟨t2, l2, b1, b2⟩ := LX_next (h0 := h0) (n := n) (cd := cd1) (wt := wt) ts hS a2 (by omega)
      refine wp_eq b1 ?_
      refine wp_zif Q_zR ?_
      refine wp_bind (e_what (w := tkn wk s S i) ts hS b2 c203) fun h19 p19 => ?_
      obtain ⟨nm3, ⟨t3, l3, q3, cd3, wt3, rfl, x3⟩, p19⟩ := p19
      refine wp_zif Q_zR ?_
      obtain ⟨q4, cd4, d1, d2⟩ := LX_write (h0 := h0) (n := n) (cd := cd3) (wt := wt3) (v := 0) x3
      have d1 : f_X7_write 10000 (n + 6) 0 (QH h0 n t3 l3 q3 nm3 cd3 wt3) = some (QH h0 n t3 l3 q4 nm3 cd4 wt3) := d1
      refine wp_eq d1 ?_
      refine wp_bind (R := fun r => r = nI (if tkn wk s S i = 4 then 61 else 6)) ?_ (fun m22 p22 => ?_)
      · refine wp_ite (fun y => wp_some ?_) (fun y => wp_some ?_)
        · rw [if_pos ((is 4 (by decide)).mp (show nI (tkn wk s S i) = nI 4 from y))]
          rfl
        · rw [if_neg (fun y2 => y (by rw [y2]; rfl))]
          rfl
      rw [p22]
      refine wp_zif Q_zR ?_
      refine wp_bind (e_expect (u := if tkn wk s S i = 4 then 61 else 6) ts hS d2 (by by_cases y : tkn wk s S i = 4 <;> simp [y])) fun h25 p25 => ?_
      obtain ⟨t5, l5, q5, cd5, wt5, rfl, x5'⟩ := p25
      refine wp_zif Q_zR ?_
      refine wp_bind (e_expr ts hS x5') fun h27 p27 => ?_
      obtain ⟨t6, l6, q6, cd6, wt6, rfl, x6⟩ := p27
      refine wp_zif Q_zR ?_
      refine wp_bind (e_expect (u := 59) ts hS x6 (by decide)) fun h29 p29 => ?_
      obtain ⟨t7, l7, q7, cd7, wt7, rfl, x7⟩ := p29
      -- names and length behind it
      have f4 : (exQ (tkn wk s S) 59 (eQ (tkn wk s S) (fun j => knB nk M (kyO s S j)) (exQ (tkn wk s S) (if tkn wk s S i = 4 then 61 else 6) (wfQ (tkn wk s S) (num s S) (fun j => knB nk M (kyO s S j)) M (tkn wk s S i) (i + 1))))).2 = 0 → (wfQ (tkn wk s S) (num s S) (fun j => knB nk M (kyO s S j)) M (tkn wk s S i) (i + 1)).2 = 0 := fun y => exQ_0 (eQ_0 (exQ_0 y))
      have wf8 : tkn wk s S i = 4 → (wfQ (tkn wk s S) (num s S) (fun j => knB nk M (kyO s S j)) M (tkn wk s S i) (i + 1)).2 = 0 → M < 8 := by
        intro y1 y2
        unfold wfQ at y2
        rw [if_pos y1] at y2
        by_cases k1 : ¬ tkn wk s S (i + 1) = 200
        · rw [if_pos k1] at y2; exact absurd y2 (by simp)
        · rw [if_neg k1] at y2
          by_cases k2 : knB nk M (kyO s S (i + 1)) = true
          · rw [if_pos k2] at y2; exact absurd y2 (by simp)
          · rw [if_neg k2] at y2
            by_cases k3 : 8 ≤ M
            · rw [if_pos k3] at y2; exact absurd y2 (by simp)
            · omega
      -- where its expression begins
      have at3 : (exQ (tkn wk s S) 59 (eQ (tkn wk s S) (fun j => knB nk M (kyO s S j)) (exQ (tkn wk s S) (if tkn wk s S i = 4 then 61 else 6) (wfQ (tkn wk s S) (num s S) (fun j => knB nk M (kyO s S j)) M (tkn wk s S i) (i + 1))))).2 = 0 → (exQ (tkn wk s S) (if tkn wk s S i = 4 then 61 else 6) (wfQ (tkn wk s S) (num s S) (fun j => knB nk M (kyO s S j)) M (tkn wk s S i) (i + 1))).1 = i + 3 := fun y => by
        have y1 := eQ_0 (exQ_0 y)
        have y2 := exQ_ok y1
        rw [y2]
        have y3 := exQ_0 y1
        have y4 : (wfQ (tkn wk s S) (num s S) (fun j => knB nk M (kyO s S j)) M (tkn wk s S i) (i + 1)).1 = i + 1 + 1 := by
          revert y3
          unfold wfQ
          by_cases a1 : tkn wk s S i = 4
          · rw [if_pos a1]
            by_cases a2 : ¬ tkn wk s S (i + 1) = 200
            · rw [if_pos a2]; intro y3; exact absurd y3 (by simp)
            · rw [if_neg a2]
              by_cases a3 : knB nk M (kyO s S (i + 1)) = true
              · rw [if_pos a3]; intro y3; exact absurd y3 (by simp)
              · rw [if_neg a3]
                by_cases a4 : 8 ≤ M
                · rw [if_pos a4]; intro y3; exact absurd y3 (by simp)
                · rw [if_neg a4]; intro _; rfl
          · rw [if_neg a1]
            by_cases a2 : tkn wk s S i = 20
            · rw [if_pos a2]
              by_cases a3 : ¬ tkn wk s S (i + 1) = 201
              · rw [if_pos a3]; intro y3; exact absurd y3 (by simp)
              · rw [if_neg a3]
                by_cases a4 : ¬ (1 ≤ num s S (i + 1) ∧ num s S (i + 1) ≤ 999)
                · rw [if_pos a4]; intro y3; exact absurd y3 (by simp)
                · rw [if_neg a4]; intro _; rfl
            · rw [if_neg a2]
              by_cases a3 : ¬ tkn wk s S (i + 1) ≤ 3
              · rw [if_pos a3]; intro y3; exact absurd y3 (by simp)
              · rw [if_neg a3]; intro _; rfl
        rw [y4]
      generalize exQ (tkn wk s S) (if tkn wk s S i = 4 then 61 else 6) (wfQ (tkn wk s S) (num s S) (fun j => knB nk M (kyO s S j)) M (tkn wk s S i) (i + 1)) = R3 at x7 f4 at3 ⊢
      generalize exQ (tkn wk s S) 59 (eQ (tkn wk s S) (fun j => knB nk M (kyO s S j)) R3) = R at x7 f4 at3 ⊢
      generalize wfQ (tkn wk s S) (num s S) (fun j => knB nk M (kyO s S j)) M (tkn wk s S i) (i + 1) = Rw at p19 f4 wf8
      obtain ⟨tk, x8, ⟨o7, ho7, y5⟩, xn7, xf7, hi7⟩ := x7
      have pl := (pos_le s S R.1).2.2
      refine wp_eq (Q_q8.trans (congrArg some x8)) ?_
      by_cases r0 : R.2 = 0
      · have e8 : nI (if R.2 = 0 then 0 else R.2 + 16 * plc s S R.1) = 0 := by
          rw [if_pos r0]
          rfl
        rw [e8, if_pos rfl]
        have e7 := ho7 r0
        rw [at3 r0] at e7
        have fin7 : ∃ cd8, CDX q7 cd8 (o ++ ccN (lnD (tkn wk s S) (num s S) (fun j => knB nk M (kyO s S j)) (fun j => ixN nk M (kyO s S j)) M i)) ∧ wp ((gI (QH h0 n t7 l7 q7 nm3 cd7 wt7) (n + 6) 7 5).bind fun x31 => if x31 < nI (min o.length 1000) + 3 then some (QH h0 n t7 l7 q7 nm3 cd7 wt7) else (gR (QH h0 n t7 l7 q7 nm3 cd7 wt7) (n + 6) 7 1).bind fun r33 => (gI (QH h0 n t7 l7 q7 nm3 cd7 wt7) (n + 6) 7 5).bind fun x34 => (sI (QH h0 n t7 l7 q7 nm3 cd7 wt7) r33 (nI (min o.length 1000) + 3 - 1) (x34 - nI (min o.length 1000) - 3)).bind fun h35 => some h35) (fun h => h = QH h0 n t7 l7 q7 nm3 cd8 wt7) := by
          have ecc : ccN (lnD (tkn wk s S) (num s S) (fun j => knB nk M (kyO s S j)) (fun j => ixN nk M (kyO s S j)) M i) = tkn wk s S i :: (if tkn wk s S i = 4 then M else if tkn wk s S i = 20 then num s S (i + 1) else tkn wk s S (i + 1)) :: (lnD (tkn wk s S) (num s S) (fun j => knB nk M (kyO s S j)) (fun j => ixN nk M (kyO s S j)) M i).2.2.length :: (lnD (tkn wk s S) (num s S) (fun j => knB nk M (kyO s S j)) (fun j => ixN nk M (kyO s S j)) M i).2.2 := rfl
          have e7' : o7 = o ++ [tkn wk s S i] ++ [if tkn wk s S i = 4 then M else if tkn wk s S i = 20 then num s S (i + 1) else tkn wk s S (i + 1)] ++ [0] ++ (lnD (tkn wk s S) (num s S) (fun j => knB nk M (kyO s S j)) (fun j => ixN nk M (kyO s S j)) M i).2.2 := e7
          rw [ecc]
          generalize (lnD (tkn wk s S) (num s S) (fun j => knB nk M (kyO s S j)) (fun j => ixN nk M (kyO s S j)) M i).2.2 = c9 at e7' ⊢
          generalize (if tkn wk s S i = 4 then M else if tkn wk s S i = 20 then num s S (i + 1) else tkn wk s S (i + 1)) = b9 at e7' ⊢
          generalize tkn wk s S i = a9 at e7' ⊢
          subst e7'
          have y50 := y5
          obtain ⟨y1, y2⟩ := y5
          have l1 : (o ++ [a9] ++ [b9] ++ [0] ++ c9).length = o.length + 3 + c9.length := by simp; omega
          rw [l1] at y1 y2
          by_cases hl : o.length + 3 + c9.length ≤ 1000
          · refine ⟨_, CDX_len y50, ?_⟩
            rw [show min o.length 1000 = o.length by omega]
            rw [show min (o.length + 3 + c9.length) 1000 = o.length + 3 + c9.length by omega] at y1
            refine wp_eq (Q_q5.trans (congrArg some y1)) ?_
            have e3 : nI o.length + 3 = nI (o.length + 3) := by rw [show (3 : Int32) = nI 3 from rfl, nI_add]
            rw [e3, if_neg (nnlt (by omega) (by omega))]
            refine wp_eq Q_s1 ?_
            refine wp_eq (Q_q5.trans (congrArg some y1)) ?_
            have e2 : nI (o.length + 3) - 1 = nI (o.length + 2) := by
              rw [show o.length + 3 = (o.length + 2) + 1 by omega, ← nI_1]
              lia
            have ev : nI (o.length + 3 + c9.length) - nI o.length - 3 = nI c9.length := by
              rw [pk_sub (by omega), show (3 : Int32) = nI 3 from rfl, pk_sub (by omega)]
              congr 1
              omega
            rw [e2, ev]
            refine wp_eq (Q_CD (show o.length + 2 < 1000 by omega) _) ?_
            exact wp_some rfl
          · have ccx : ∀ cd8 : Nat → Int32, CDX q7 cd8 (o ++ (a9 :: b9 :: c9.length :: c9)) := fun cd8 => by
              have l2 : (o ++ (a9 :: b9 :: c9.length :: c9)).length = o.length + 3 + c9.length := by simp; omega
              unfold CDX
              rw [l2]
              exact ⟨y1, fun h => absurd h hl⟩
            rw [show min (o.length + 3 + c9.length) 1000 = 1000 by omega] at y1
            have e3 : nI (min o.length 1000) + 3 = nI (min o.length 1000 + 3) := by rw [show (3 : Int32) = nI 3 from rfl, nI_add]
            by_cases k : 1000 < min o.length 1000 + 3
            · refine ⟨cd7, ccx cd7, ?_⟩
              refine wp_eq (Q_q5.trans (congrArg some y1)) ?_
              rw [e3, if_pos (nlt k (by omega))]
              exact wp_some rfl
            · refine ⟨upd cd7 (min o.length 1000 + 2) (nI 1000 - nI (min o.length 1000) - 3), ccx _, ?_⟩
              refine wp_eq (Q_q5.trans (congrArg some y1)) ?_
              rw [e3, if_neg (nnlt (by omega) (by omega))]
              refine wp_eq Q_s1 ?_
              refine wp_eq (Q_q5.trans (congrArg some y1)) ?_
              have e2 : nI (min o.length 1000 + 3) - 1 = nI (min o.length 1000 + 2) := by
                rw [show min o.length 1000 + 3 = (min o.length 1000 + 2) + 1 by omega, ← nI_1]
                lia
              rw [e2]
              refine wp_eq (Q_CD (show min o.length 1000 + 2 < 1000 by omega) _) ?_
              exact wp_some rfl
        obtain ⟨cd8, c8, w8⟩ := fin7
        refine wp_bind w8 (fun m31 p31 => ?_)
        subst p31
        refine wp_eq (Q_q8.trans (congrArg some (x8.trans e8))) ?_
        rw [if_pos rfl]
        by_cases w4 : tkn wk s S i = 4
        · rw [if_pos (show nI (tkn wk s S i) = 4 by rw [w4]; rfl)]
          refine wp_eq (Q_q4.trans (congrArg some xn7.2.1)) ?_
          rw [nI_1]
          refine wp_eq (Q_Q4 _) ?_
          obtain ⟨n1, n2⟩ := p19 w4 (f4 r0)
          have m8 := wf8 w4 (f4 r0)
          refine wp_some ⟨nm3, fun _ => ⟨t7, l7, _, cd8, wt7, rfl, tk, x8, ⟨_, fun _ => rfl, c8⟩, ⟨?_, ?_, fun j hj => ?_⟩, xf7, hi7⟩, fun y => absurd r0 y⟩
          · unfold lnM
            rw [if_pos w4]
            omega
          · unfold lnM
            rw [if_pos w4]
            rfl
          · unfold lnM at hj
            unfold lnK
            rw [if_pos w4] at hj ⊢
            by_cases ej : j = M
            · rw [ej]
              show nm3 M = Int64.ofNat (if M = M then kyO s S (i + 1) else nk M) ∧ (if M = M then kyO s S (i + 1) else nk M) < 2 ^ 40
              rw [if_pos rfl]
              exact ⟨n1, n2⟩
            · show nm3 j = Int64.ofNat (if j = M then kyO s S (i + 1) else nk j) ∧ (if j = M then kyO s S (i + 1) else nk j) < 2 ^ 40
              rw [if_neg ej]
              exact xn7.2.2 j (by omega)
        · rw [if_neg (show ¬ nI (tkn wk s S i) = 4 from fun y => w4 ((is 4 (by decide)).mp (show nI (tkn wk s S i) = nI 4 from y)))]
          refine wp_some ⟨nm3, fun _ => ⟨t7, l7, q7, cd8, wt7, rfl, tk, x8, ⟨_, fun _ => rfl, c8⟩, ?_, xf7, hi7⟩, fun y => absurd r0 y⟩
          unfold lnM lnK
          rw [if_neg w4, if_neg w4]
          exact xn7
      · have e8 : ¬ nI (if R.2 = 0 then 0 else R.2 + 16 * plc s S R.1) = 0 := fun y => by
          rw [if_neg r0] at y
          have := nI_inj (by omega) (by decide) (y.trans nI_0.symm)
          omega
        rw [if_neg e8]
        refine wp_bsome ?_
        refine wp_eq (Q_q8.trans (congrArg some x8)) ?_
        rw [if_neg e8]
        exact wp_some ⟨nm3, fun y => absurd y r0, fun _ => ⟨t7, l7, q7, cd7, wt7, rfl, tk, x8, ⟨o7, fun y => absurd y r0, y5⟩, xn7, xf7, hi7⟩⟩
  · have e : lnQ (tkn wk s S) (num s S) (fun j => knB nk M (kyO s S j)) M line i = (i, 1) := by
      unfold lnQ
      rw [if_pos z1]
    rw [e, if_neg (show ¬ nI (tkn wk s S i) = 4 from fun y => z1 (Or.inl ((is 4 (by decide)).mp (show nI (tkn wk s S i) = nI 4 from y)))), if_neg (show ¬ nI (tkn wk s S i) = 20 from fun y => z1 (Or.inr (Or.inl ((is 20 (by decide)).mp (show nI (tkn wk s S i) = nI 20 from y))))), if_neg (show ¬ nI (tkn wk s S i) = 5 from fun y => z1 (Or.inr (Or.inr ((is 5 (by decide)).mp (show nI (tkn wk s S i) = nI 5 from y)))))]
    refine wp_bzif Q_zR ?_
    refine wp_assoc ?_
    obtain ⟨q', e1, e2⟩ := LX_wrong (o2 := o) (h0 := h0) (n := n) (cd := cd) (wt := wt) (k := 1) hS x (by decide) (by decide)
    refine wp_eq e1 ?_
    refine wp_bmap ?_
    refine wp_bsome ?_
    exact wp_zsR ⟨nm, fun z => absurd z (by simp), fun _ => ⟨t, l, q', cd, wt, rfl, e2⟩⟩
theorem e_lines (ts : TKT h0 n s wk) (hS : S ≤ 1000) : ∀ (d m line i M : Nat) (nk : Nat → Nat) (t : Nat → Int32) (l : Nat → Int64) (q : Nat → Int32) (nm : Nat → Int64) (cd wt : Nat → Int32) (o : List Nat), line + d = 21 → d < m → LX wk s S i 0 M nk t l q nm cd o → wp (f_X7_read_L29 10000 (n + 6) m (nI line) (QH h0 n t l q nm cd wt)) (fun r => ∃ nm' M' nk', LO h0 n nm' wk s S M' nk' (lwQ (tkn wk s S) (num s S) (kyO s S) d line i M nk) (o ++ ccL (lwL (tkn wk s S) (num s S) (kyO s S) d line i M nk)) r) := by
  intro d
  induction d with
  | zero =>
    intro m line i M nk t l q nm cd wt o h1 h2 x
    obtain ⟨m, rfl⟩ : ∃ m', m = m' + 1 := ⟨m - 1, by omega⟩
    have e : line = 21 := by omega
    subst e
    rw [f_X7_read_L29.eq_2, if_pos (show (20 : Int32) < nI 21 by decide), show ccL (lwL (tkn wk s S) (num s S) (kyO s S) 0 21 i M nk) = [] from rfl, List.append_nil]
    exact wp_some ⟨nm, M, nk, t, l, q, cd, wt, rfl, x⟩
  | succ d ih =>
    intro m line i M nk t l q nm cd wt o h1 h2 x
    obtain ⟨m, rfl⟩ : ∃ m', m = m' + 1 := ⟨m - 1, by omega⟩
    have c203 : tkn wk s S i ≤ 203 := tkn_le
    have tk4 := x.1.2.2.1
    rw [f_X7_read_L29.eq_2, if_neg (show ¬ (20 : Int32) < nI line from nnlt (a := 20) (by omega) (by decide))]
    refine wp_eq (Q_q8.trans (congrArg some x.2.1)) ?_
    rw [if_pos (show nI (if (0 : Nat) = 0 then 0 else 0 + 16 * plc s S i) = 0 from rfl)]
    refine wp_eq Q_s3 ?_
    refine wp_eq (Q_t4.trans (congrArg some tk4)) ?_
    show wp _ (fun r => ∃ nm' M' nk', LO h0 n nm' wk s S M' nk' (if tkn wk s S i = 202 then (i, 0) else if ¬ (lnQ (tkn wk s S) (num s S) (fun j => knB nk M (kyO s S j)) M line i).2 = 0 then lnQ (tkn wk s S) (num s S) (fun j => knB nk M (kyO s S j)) M line i else lwQ (tkn wk s S) (num s S) (kyO s S) d (line + 1) (lnQ (tkn wk s S) (num s S) (fun j => knB nk M (kyO s S j)) M line i).1 (lnM (tkn wk s S) M i) (lnK (tkn wk s S) (kyO s S) M i nk)) (o ++ ccL (if tkn wk s S i = 202 then [] else lnD (tkn wk s S) (num s S) (fun j => knB nk M (kyO s S j)) (fun j => ixN nk M (kyO s S j)) M i :: lwL (tkn wk s S) (num s S) (kyO s S) d (line + 1) (lnQ (tkn wk s S) (num s S) (fun j => knB nk M (kyO s S j)) M line i).1 (lnM (tkn wk s S) M i) (lnK (tkn wk s S) (kyO s S) M i nk))) r)
    by_cases z : tkn wk s S i = 202
    · rw [if_pos (show nI (tkn wk s S i) = 202 by rw [z]; rfl), if_pos z, if_pos z, show ccL [] = [] from rfl, List.append_nil]
      exact wp_some ⟨nm, M, nk, t, l, q, cd, wt, rfl, x⟩
    · rw [if_neg (show ¬ nI (tkn wk s S i) = 202 from fun y => z ((nI_is (by omega) (by decide)).mp (show nI (tkn wk s S i) = nI 202 from y))), if_neg z, if_neg z]
      refine wp_zif Q_zR ?_
      refine wp_bind (e_line (line := line) ts hS x (by omega)) fun h15 p15 => ?_
      obtain ⟨nm', p1, p2⟩ := p15
      generalize lnQ (tkn wk s S) (num s S) (fun j => knB nk M (kyO s S j)) M line i = R at p1 p2 ⊢
      by_cases r0 : R.2 = 0
      · rw [if_neg (by simp [r0]), nI_1]
        obtain ⟨t', l', q', cd', wt', rfl, x'⟩ := p1 r0
        rw [r0] at x'
        have ap : ∀ (x9 : LnT) (l9 : List LnT), o ++ ccL (x9 :: l9) = (o ++ ccN x9) ++ ccL l9 := fun x9 l9 => by
          show o ++ (ccN x9 ++ ccL l9) = _
          rw [List.append_assoc]
        rw [ap]
        exact ih m (line + 1) R.1 _ _ t' l' q' nm' cd' wt' _ (by omega) (by omega) x'
      · rw [if_pos r0]
        obtain ⟨t', l', q', cd', wt', rfl, x'⟩ := p2 r0
        have x' : ∀ o2 : List Nat, LX wk s S R.1 R.2 M nk t' l' q' nm' cd' o2 := fun o2 => ⟨x'.1, x'.2.1, CDF_any r0 x'.2.2.1, x'.2.2.2⟩
        obtain ⟨m, rfl⟩ : ∃ m', m = m' + 1 := ⟨m - 1, by omega⟩
        have pl := (pos_le s S R.1).2.2
        have xf := (x' []).2.2.2.2.1
        rw [f_X7_read_L29.eq_2]
        refine wp_ite (fun _ => wp_some ⟨nm', M, nk, t', l', q', cd', wt', rfl, x' _⟩) (fun _ => ?_)
        refine wp_eq (Q_q8.trans (congrArg some (x' []).2.1)) ?_
        rw [if_neg (show ¬ nI (if R.2 = 0 then 0 else R.2 + 16 * plc s S R.1) = 0 from fun y => by
          rw [if_neg r0] at y
          have := nI_inj (by omega) (by decide) (y.trans nI_0.symm)
          omega)]
        exact wp_some ⟨nm', M, nk, t', l', q', cd', wt', rfl, x' _⟩
end LAW
