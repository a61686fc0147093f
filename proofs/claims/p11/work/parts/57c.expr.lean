/-! the reference's reader: expressions -/
def PQ (c0 a c : Nat) (f : Nat) (op one : Nat → Int32) (a' c' f' : Nat) (op' one' : Nat → Int32) (o : List Nat) : Prop := a ≤ a' ∧ c0 ≤ c' ∧ c' + a ≤ c + a' ∧ (∀ i, i < 19200 + c0 → op' i = op i ∧ one' i = one i) ∧ (f' = 0 → f = 0 ∧ SEG op' one' (19200 + c0) (c' - c0) ∧ LST op' one' (19200 + c0) o ∧ c' = c0 + o.length)
def PE (n b L : Nat) (xs : Nat → Int32) (τ : Nat → Nat) (g : zGh) (nT c0 a c k : Nat) (op one : Nat → Int32) (s : RfS) (o : List Nat) (r : zH) : Prop := ∃ c' op' one', PW n b L xs τ g nT s.1 s.2 c' op' one' r ∧ PQ c0 a c k op one s.1 c' s.2 op' one' o
theorem PQ_trans {c0 a c a2 c2 a3 c3 : Nat} {f f2 f3 : Nat} {op one op2 one2 op3 one3 : Nat → Int32} {o1 o2 : List Nat} (q : PQ c0 a c f op one a2 c2 f2 op2 one2 o1) (r : PQ c0 a2 c2 f2 op2 one2 a3 c3 f3 op3 one3 o2) : PQ c0 a c f op one a3 c3 f3 op3 one3 o2 := by
  obtain ⟨q1, q2, q3, q4, q5⟩ := q
  obtain ⟨r1, r2, r3, r4, r5⟩ := r
  refine ⟨by omega, r2, by omega, fun i hi => ?_, fun e => ?_⟩
  · obtain ⟨x1, x2⟩ := r4 i hi
    obtain ⟨y1, y2⟩ := q4 i hi
    exact ⟨x1.trans y1, x2.trans y2⟩
  · obtain ⟨x1, x2⟩ := r5 e
    exact ⟨(q5 x1).1, x2⟩
theorem PQ_refl {c0 a c : Nat} {f : Nat} {op one : Nat → Int32} {o : List Nat} (h0 : c0 ≤ c) (s : f = 0 → SEG op one (19200 + c0) (c - c0) ∧ LST op one (19200 + c0) o ∧ c = c0 + o.length) : PQ c0 a c f op one a c f op one o := ⟨Nat.le_refl _, h0, by omega, fun _ _ => ⟨rfl, rfl⟩, fun e => ⟨e, s e⟩⟩
theorem PQ_any {c0 a c a2 c2 : Nat} {f f2 : Nat} {op one op2 one2 : Nat → Int32} {o o' : List Nat} (hf : ¬ f = 0) (q : PQ c0 a c f op one a2 c2 f2 op2 one2 o) : PQ c0 a c f op one a2 c2 f2 op2 one2 o' := ⟨q.1, q.2.1, q.2.2.1, q.2.2.2.1, fun e => absurd (q.2.2.2.2 e).1 hf⟩
theorem PE_k {n b L : Nat} {xs : Nat → Int32} {τ : Nat → Nat} {g : zGh} {nT c0 a c k : Nat} {op one : Nat → Int32} {s : RfS} {o o' : List Nat} {r : zH} (hf : ¬ k = 0) (p : PE n b L xs τ g nT c0 a c k op one s o r) : PE n b L xs τ g nT c0 a c k op one s o' r := by
  obtain ⟨c', op', one', p1, p2⟩ := p
  exact ⟨c', op', one', p1, PQ_any hf p2⟩
theorem o64_32 {x : Nat} (h : x < 10000) : (Int64.ofNat x).toInt32 = nI x := by
  apply Int32.toInt_inj.mp
  rw [Int64.toInt_toInt32, Int64.toInt_ofNat_of_lt (by omega)]
  show _ = (Int32.ofNat x).toInt
  rw [Int32.toInt_ofNat_of_lt (by omega)]
  exact Int.bmod_eq_of_le (by omega) (by omega)
theorem upd_lt {f : Nat → Int32} {k i : Nat} {x : Int32} (h : i < k) : upd f k x i = f i := by
  unfold upd
  rw [if_neg (by omega)]
theorem upd_at (f : Nat → Int32) (k : Nat) (x : Int32) : upd f k x k = x := by
  unfold upd
  rw [if_pos rfl]
theorem PQ_step {c0 a c a2 c2 : Nat} {f f2 : Nat} {k : Int32} {op one op2 one2 : Nat → Int32} {x : Nat} {o0 o1 : List Nat} (hx : k = rcO x ∧ 0 = rcA x) (hk : 5 ≤ k ∧ k ≤ 11) (h0 : c0 ≤ c) (s : f = 0 → SEG op one (19200 + c0) (c - c0) ∧ LST op one (19200 + c0) o0 ∧ c = c0 + o0.length) (q : PQ c (a + 1) c f op one a2 c2 f2 op2 one2 o1) : PQ c0 a c f op one a2 (c2 + 1) f2 (upd op2 (19200 + c2) k) (upd one2 (19200 + c2) 0) (o0 ++ o1 ++ [x]) := by
  obtain ⟨q1, q2, q3, q4, q5⟩ := q
  refine ⟨by omega, by omega, by omega, fun i hi => ?_, fun e => ?_⟩
  · rw [upd_lt (by omega), upd_lt (by omega)]
    exact q4 i (by omega)
  · obtain ⟨e1, s2, l2, n2⟩ := q5 e
    obtain ⟨s0, l0, n0⟩ := s e1
    refine ⟨e1, ?_, ?_, by simp; omega⟩
    rotate_left
    · refine LST_app _ _ _ (LST_app _ _ _ (LST_congr o0 _ _ l0 (fun j hj => ?_)) (LST_congr o1 _ _ l2 (fun j hj => ?_))) ⟨⟨?_, ?_⟩, trivial⟩
      · rw [upd_lt (by omega), upd_lt (by omega)]
        exact q4 _ (by omega)
      · rw [show 19200 + c0 + o0.length + j = 19200 + c + j by omega, upd_lt (by omega), upd_lt (by omega)]
        exact ⟨rfl, rfl⟩
      · rw [show 19200 + c0 + (o0 ++ o1).length = 19200 + c2 by simp; omega, upd_at]
        exact hx.1
      · rw [show 19200 + c0 + (o0 ++ o1).length = 19200 + c2 by simp; omega, upd_at]
        exact hx.2
    have s1 : SEG (upd op2 (19200 + c2) k) (upd one2 (19200 + c2) 0) (19200 + c0) (c - c0) := SEG_congr s0 (fun j j1 j2 => by
      rw [upd_lt (by omega), upd_lt (by omega)]
      exact q4 j (by omega))
    have s2' : SEG (upd op2 (19200 + c2) k) (upd one2 (19200 + c2) 0) (19200 + c0 + (c - c0)) (c2 - c) := by
      rw [show 19200 + c0 + (c - c0) = 19200 + c by omega]
      exact SEG_congr s2 (fun j j1 j2 => by
        rw [upd_lt (by omega), upd_lt (by omega)]
        exact ⟨rfl, rfl⟩)
    have e9 : 19200 + c0 + (c - c0) + (c2 - c) = 19200 + c2 := by omega
    have s3 := SEG_bin s1 s2' (by rw [e9, upd_at]; exact hk)
    rw [show c2 + 1 - c0 = (c - c0) + (c2 - c) + 1 by omega]
    exact s3
theorem exQ_le {tk : Nat → Nat} {v : Nat} {s : RfS} : s.1 ≤ (exQ tk v s).1 := by
  unfold exQ
  by_cases z : ¬ s.2 = 0
  · rw [if_pos z]
    exact Nat.le_refl _
  · rw [if_neg z]
    by_cases y : tk s.1 = v
    · rw [if_pos y]
      exact Nat.le_succ _
    · rw [if_neg y]
      exact Nat.le_refl _
section EXPR
variable {n b L : Nat} {xs : Nat → Int32} {τ : Nat → Nat} {g : zGh} {nT : Nat} {tp : Nat → Int32 → zH → Option zH} {v1 : Int32} {tk nu : Nat → Nat} {Q : RfS → RfS} {O : Nat → List Nat}
def TPok (n b L : Nat) (xs : Nat → Int32) (τ : Nat → Nat) (g : zGh) (nT : Nat) (tp : Nat → Int32 → zH → Option zH) (v1 : Int32) (Q : RfS → RfS) (O : Nat → List Nat) : Prop := ∀ (a k c : Nat) (op one : Nat → Int32) (h : zH), PW n b L xs τ g nT a k c op one h → c + 1 ≤ a → wp (tp (n + 42) v1 h) (fun r => PE n b L xs τ g nT c a c k op one (Q (a, k)) (O a) r)
theorem qStarO_yes {a m : Nat} (h : tk a = 42) : qStarO tk Q O (m + 1) (a, 0) = O (a + 1) ++ [30042] ++ qStarO tk Q O m (Q (a + 1, 0)) := if_pos ⟨rfl, h⟩
theorem qStarO_no {a k m : Nat} (h : ¬ (k = 0 ∧ tk a = 42)) : qStarO tk Q O (m + 1) (a, k) = [] := if_neg h
theorem qPlusO_yes {a m F : Nat} (h : tk a = 43 ∨ tk a = 45) : qPlusO tk Q O F (m + 1) (a, 0) = qProdO tk Q O F (a + 1) ++ [30000 + tk a] ++ qPlusO tk Q O F m (qProd tk Q F (a + 1, 0)) := if_pos ⟨rfl, h⟩
theorem qPlusO_no {a k m F : Nat} (h : ¬ (k = 0 ∧ (tk a = 43 ∨ tk a = 45))) : qPlusO tk Q O F (m + 1) (a, k) = [] := if_neg h
theorem qAndO_yes {a m F : Nat} (h : tk a = 7 ∨ tk a = 8) : qAndO tk Q O F (m + 1) (a, 0) = qTestO tk Q O F (a + 1) ++ [30000 + tk a] ++ qAndO tk Q O F m (qTest tk Q F (a + 1, 0)) := if_pos ⟨rfl, h⟩
theorem qAndO_no {a k m F : Nat} (h : ¬ (k = 0 ∧ (tk a = 7 ∨ tk a = 8))) : qAndO tk Q O F (m + 1) (a, k) = [] := if_neg h
theorem ap3 (o0 A : List Nat) (x : Nat) (B : List Nat) : o0 ++ (A ++ [x] ++ B) = (o0 ++ A ++ [x]) ++ B := by simp
theorem qStar_yes {a m : Nat} (h : tk a = 42) : qStar tk Q (m + 1) (a, 0) = qStar tk Q m (Q (a + 1, 0)) := by
  show (if (0 : Nat) = 0 ∧ tk a = 42 then qStar tk Q m (Q (a + 1, 0)) else (a, 0)) = _
  rw [if_pos ⟨rfl, h⟩]
theorem qStar_no {a k m : Nat} (h : ¬ (k = 0 ∧ tk a = 42)) : qStar tk Q (m + 1) (a, k) = (a, k) := by
  show (if k = 0 ∧ tk a = 42 then qStar tk Q m (Q (a + 1, 0)) else (a, k)) = _
  rw [if_neg h]
theorem qPlus_yes {a m F : Nat} (h : tk a = 43 ∨ tk a = 45) : qPlus tk Q F (m + 1) (a, 0) = qPlus tk Q F m (qProd tk Q F (a + 1, 0)) := by
  show (if (0 : Nat) = 0 ∧ (tk a = 43 ∨ tk a = 45) then qPlus tk Q F m (qProd tk Q F (a + 1, 0)) else (a, 0)) = _
  rw [if_pos ⟨rfl, h⟩]
theorem qPlus_no {a k m F : Nat} (h : ¬ (k = 0 ∧ (tk a = 43 ∨ tk a = 45))) : qPlus tk Q F (m + 1) (a, k) = (a, k) := by
  show (if k = 0 ∧ (tk a = 43 ∨ tk a = 45) then qPlus tk Q F m (qProd tk Q F (a + 1, 0)) else (a, k)) = _
  rw [if_neg h]
theorem qAnd_yes {a m F : Nat} (h : tk a = 7 ∨ tk a = 8) : qAnd tk Q F (m + 1) (a, 0) = qAnd tk Q F m (qTest tk Q F (a + 1, 0)) := by
  show (if (0 : Nat) = 0 ∧ (tk a = 7 ∨ tk a = 8) then qAnd tk Q F m (qTest tk Q F (a + 1, 0)) else (a, 0)) = _
  rw [if_pos ⟨rfl, h⟩]
theorem qAnd_no {a k m F : Nat} (h : ¬ (k = 0 ∧ (tk a = 7 ∨ tk a = 8))) : qAnd tk Q F (m + 1) (a, k) = (a, k) := by
  show (if k = 0 ∧ (tk a = 7 ∨ tk a = 8) then qAnd tk Q F m (qTest tk Q F (a + 1, 0)) else (a, k)) = _
  rw [if_neg h]
theorem P_products_L5 (R : RT g tk nu nT) (T : TPok n b L xs τ g nT tp v1 Q O) {c0 : Nat} : ∀ (m : Nat) {a k c : Nat} {op one : Nat → Int32} {o0 : List Nat} {h : zH}, PW n b L xs τ g nT a k c op one h → c0 ≤ c → (k = 0 → SEG op one (19200 + c0) (c - c0) ∧ LST op one (19200 + c0) o0 ∧ c = c0 + o0.length) → c + 1 ≤ a → nT - a < m → wp (f_X12_products_L5 10000 tp (n + 42) v1 m h) (fun r => PE n b L xs τ g nT c0 a c k op one (qStar tk Q m (a, k)) (o0 ++ qStarO tk Q O m (a, k)) r) := by
  intro m
  induction m with
  | zero => intro a k c op one o0 h p h0 s hc hm; exact absurd hm (Nat.not_lt_zero _)
  | succ m ih =>
    intro a k c op one o0 h p h0 s hc hm
    rw [f_X12_products_L5.eq_2]
    refine wp_zif (ob_42 p.1) ?_
    refine wp_bind (P_hasSign (v := 42) R p (by decide) (by decide)) fun q4 p4 => ?_
    rcases p4 with ⟨e4, n4, p5⟩ | ⟨e4, k4, t4, p5⟩
    · refine wp_ite (fun _ => ?_) (fun c1 => absurd e4 c1)
      rw [qStar_no n4, qStarO_no n4, List.append_nil]
      exact wp_some ⟨c, op, one, p5, PQ_refl h0 s⟩
    · refine wp_ite (fun c1 => absurd (e4.symm.trans c1) (by decide)) (fun _ => ?_)
      subst k4
      rw [qStar_yes t4, qStarO_yes t4, ap3]
      refine wp_zif (ob_42 p5.1) ?_
      refine wp_bind (T _ _ _ _ _ _ p5 (by omega)) fun h7 p7 => ?_
      obtain ⟨c2, op2, one2, p7, q7⟩ := p7
      generalize Q (a + 1, 0) = s2 at p7 q7
      have b1 := q7.1
      have b3 := q7.2.2.1
      have b2 := q7.2.1
      refine wp_zif (ob_42 p7.1) ?_
      refine wp_bind (P_emit p7 (by omega)) fun h9 p9 => ?_
      have st := PQ_step (k := 7) (x := 30042) ⟨rfl, rfl⟩ (by decide) h0 s q7
      have an : s2.1 ≤ nT := p7.2.1
      refine wp_mono (ih p9 (by omega) (fun e => (st.2.2.2.2 e).2) (by omega) (by omega)) fun r pr => ?_
      obtain ⟨c3, op3, one3, p3, q3⟩ := pr
      exact ⟨c3, op3, one3, p3, PQ_trans st q3⟩
theorem P_products (R : RT g tk nu nT) (T : TPok n b L xs τ g nT tp v1 Q O) : TPok n b L xs τ g nT (fun v0 v1 h => f_X12_products 10000 tp v0 v1 h) v1 (qProd tk Q 10000) (qProdO tk Q O 10000) := by
  intro a k c op one h p hc
  show wp (f_X12_products 10000 tp (n + 42) v1 h) (fun r => PE n b L xs τ g nT c a c k op one (qStar tk Q 10000 (Q (a, k))) (qProdO tk Q O 10000 a) r)
  unfold f_X12_products
  refine wp_zif (ob_42 p.1) ?_
  refine wp_bind (T _ _ _ _ _ _ p hc) fun h2 p2 => ?_
  obtain ⟨c2, op2, one2, p2, q2⟩ := p2
  generalize hs : Q (a, k) = s2 at p2 q2
  have b1 := q2.1
  have b3 := q2.2.2.1
  have b9 := p2.2.2.2.2.1
  refine wp_bind (P_products_L5 R T 10000 p2 q2.2.1 (fun e => (q2.2.2.2.2 e).2) (by omega) (by omega)) fun r pr => ?_
  obtain ⟨c3, op3, one3, p3, q3⟩ := pr
  refine wp_some ?_
  by_cases hk : k = 0
  · subst hk
    have e : qProdO tk Q O 10000 a = O a ++ qStarO tk Q O 10000 s2 := by
      unfold qProdO
      rw [hs]
    rw [e]
    exact ⟨c3, op3, one3, p3, PQ_trans q2 q3⟩
  · exact PE_k hk ⟨c3, op3, one3, p3, PQ_trans q2 q3⟩
theorem P_sums_L5 (R : RT g tk nu nT) (T : TPok n b L xs τ g nT tp v1 Q O) {c0 : Nat} : ∀ (m : Nat) {a k c : Nat} {op one : Nat → Int32} {o0 : List Nat} {h : zH}, PW n b L xs τ g nT a k c op one h → c0 ≤ c → (k = 0 → SEG op one (19200 + c0) (c - c0) ∧ LST op one (19200 + c0) o0 ∧ c = c0 + o0.length) → c + 1 ≤ a → nT - a < m → wp (f_X12_sums_L5 10000 tp (n + 42) v1 m h) (fun r => PE n b L xs τ g nT c0 a c k op one (qPlus tk Q 10000 m (a, k)) (o0 ++ qPlusO tk Q O 10000 m (a, k)) r) := by
  intro m
  induction m with
  | zero => intro a k c op one o0 h p h0 s hc hm; exact absurd hm (Nat.not_lt_zero _)
  | succ m ih =>
    intro a k c op one o0 h p h0 s hc hm
    rw [f_X12_sums_L5.eq_2]
    refine wp_zif (ob_42 p.1) ?_
    refine wp_eq (P_isSign (v := 43) R p (by decide) (by decide)) ?_
    refine wp_bind (R := fun r => match r with | .inl _ => k = 0 ∧ (tk a = 43 ∨ tk a = 45) | .inr x => x = h ∧ ¬ (k = 0 ∧ (tk a = 43 ∨ tk a = 45))) ?_ (fun m5 p5 => ?_)
    · refine wp_ite (fun c1 => ?_) (fun c1 => wp_some ⟨(tS_1 c1).1, Or.inl (tS_1 c1).2⟩)
      refine wp_zif (ob_42 p.1) ?_
      refine wp_eq (P_isSign (v := 45) R p (by decide) (by decide)) ?_
      refine wp_ite (fun c2 => wp_map (wp_some ⟨rfl, fun z => ?_⟩)) (fun c2 => wp_some ⟨(tS_1 c2).1, Or.inr (tS_1 c2).2⟩)
      rcases z.2 with y | y
      · exact tS_0 c1 ⟨z.1, y⟩
      · exact tS_0 c2 ⟨z.1, y⟩
    rcases m5 with s5 | x5
    · obtain ⟨k5, t5⟩ := p5
      subst k5
      rw [qPlus_yes t5, qPlusO_yes t5, ap3]
      refine wp_zsL ?_
      refine wp_zif (ob_42 p.1) ?_
      refine wp_eq (P_isSign (v := 43) R p (by decide) (by decide)) ?_
      refine wp_eq (P_7 p) ?_
      refine wp_bind (P_go R p (by omega)) fun h15 p15 => ?_
      refine wp_zif (ob_42 p15.1) ?_
      refine wp_bind (P_products R T _ _ _ _ _ _ p15 (by omega)) fun h17 p17 => ?_
      obtain ⟨c2, op2, one2, p17, q17⟩ := p17
      generalize qProd tk Q 10000 (a + 1, 0) = s2 at p17 q17
      have b1 := q17.1
      have b3 := q17.2.2.1
      have b2 := q17.2.1
      refine wp_bind (R := fun r => (r = rcO (30000 + tk a) ∧ 0 = rcA (30000 + tk a)) ∧ 5 ≤ r ∧ r ≤ 11) ?_ (fun k pk => ?_)
      · refine wp_ite (fun z => wp_some ?_) (fun z => wp_some ?_)
        · have e := t5.resolve_left (fun y => tS_0 z ⟨rfl, y⟩)
          rw [e]
          exact ⟨⟨rfl, rfl⟩, by decide⟩
        · rw [(tS_1 z).2]
          exact ⟨⟨rfl, rfl⟩, by decide⟩
      refine wp_zif (ob_42 p17.1) ?_
      refine wp_bind (P_emit p17 (by omega)) fun h21 p21 => ?_
      have st := PQ_step pk.1 pk.2 h0 s q17
      have an : s2.1 ≤ nT := p17.2.1
      refine wp_mono (ih p21 (by omega) (fun e => (st.2.2.2.2 e).2) (by omega) (by omega)) fun r pr => ?_
      obtain ⟨c3, op3, one3, p3, q3⟩ := pr
      exact ⟨c3, op3, one3, p3, PQ_trans st q3⟩
    · obtain ⟨e5, n5⟩ := p5
      subst e5
      rw [qPlus_no n5, qPlusO_no n5, List.append_nil]
      exact wp_zsR ⟨c, op, one, p, PQ_refl h0 s⟩
theorem P_sums (R : RT g tk nu nT) (T : TPok n b L xs τ g nT tp v1 Q O) : TPok n b L xs τ g nT (fun v0 v1 h => f_X12_sums 10000 tp v0 v1 h) v1 (qSum tk Q 10000) (qSumO tk Q O 10000) := by
  intro a k c op one h p hc
  show wp (f_X12_sums 10000 tp (n + 42) v1 h) (fun r => PE n b L xs τ g nT c a c k op one (qPlus tk Q 10000 10000 (qProd tk Q 10000 (a, k))) (qSumO tk Q O 10000 a) r)
  unfold f_X12_sums
  refine wp_zif (ob_42 p.1) ?_
  refine wp_bind (P_products R T _ _ _ _ _ _ p hc) fun h2 p2 => ?_
  obtain ⟨c2, op2, one2, p2, q2⟩ := p2
  generalize hs : qProd tk Q 10000 (a, k) = s2 at p2 q2
  have b1 := q2.1
  have b3 := q2.2.2.1
  have b9 := p2.2.2.2.2.1
  refine wp_bind (P_sums_L5 R T 10000 p2 q2.2.1 (fun e => (q2.2.2.2.2 e).2) (by omega) (by omega)) fun r pr => ?_
  obtain ⟨c3, op3, one3, p3, q3⟩ := pr
  refine wp_some ?_
  by_cases hk : k = 0
  · subst hk
    have e : qSumO tk Q O 10000 a = qProdO tk Q O 10000 a ++ qPlusO tk Q O 10000 10000 s2 := by
      unfold qSumO
      rw [hs]
    rw [e]
    exact ⟨c3, op3, one3, p3, PQ_trans q2 q3⟩
  · exact PE_k hk ⟨c3, op3, one3, p3, PQ_trans q2 q3⟩
theorem P_test (R : RT g tk nu nT) (T : TPok n b L xs τ g nT tp v1 Q O) : TPok n b L xs τ g nT (fun v0 v1 h => f_X12_test 10000 tp v0 v1 h) v1 (qTest tk Q 10000) (qTestO tk Q O 10000) := by
  intro a k c op one h p hc
  show wp (f_X12_test 10000 tp (n + 42) v1 h) (fun r => PE n b L xs τ g nT c a c k op one (if (qSum tk Q 10000 (a, k)).2 = 0 ∧ (tk (qSum tk Q 10000 (a, k)).1 = 60 ∨ tk (qSum tk Q 10000 (a, k)).1 = 61) then qSum tk Q 10000 ((qSum tk Q 10000 (a, k)).1 + 1, 0) else qSum tk Q 10000 (a, k)) (qTestO tk Q O 10000 a) r)
  unfold f_X12_test
  refine wp_zif (ob_42 p.1) ?_
  refine wp_bind (P_sums R T _ _ _ _ _ _ p hc) fun h2 p2 => ?_
  obtain ⟨c2, op2, one2, p2, q2⟩ := p2
  have eo : k = 0 → qTestO tk Q O 10000 a = if (qSum tk Q 10000 (a, k)).2 = 0 ∧ (tk (qSum tk Q 10000 (a, k)).1 = 60 ∨ tk (qSum tk Q 10000 (a, k)).1 = 61) then qSumO tk Q O 10000 a ++ qSumO tk Q O 10000 ((qSum tk Q 10000 (a, k)).1 + 1) ++ [30000 + tk (qSum tk Q 10000 (a, k)).1] else qSumO tk Q O 10000 a := fun e => by
    rw [e]
    rfl
  generalize qSum tk Q 10000 (a, k) = s2 at p2 q2 eo
  obtain ⟨a2, k2⟩ := s2
  have p2 : PW n b L xs τ g nT a2 k2 c2 op2 one2 h2 := p2
  have q2 : PQ c a c k op one a2 c2 k2 op2 one2 (qSumO tk Q O 10000 a) := q2
  have eo : k = 0 → qTestO tk Q O 10000 a = if k2 = 0 ∧ (tk a2 = 60 ∨ tk a2 = 61) then qSumO tk Q O 10000 a ++ qSumO tk Q O 10000 (a2 + 1) ++ [30000 + tk a2] else qSumO tk Q O 10000 a := eo
  show wp _ (fun r => PE n b L xs τ g nT c a c k op one (if k2 = 0 ∧ (tk a2 = 60 ∨ tk a2 = 61) then qSum tk Q 10000 (a2 + 1, 0) else (a2, k2)) (qTestO tk Q O 10000 a) r)
  have b1 := q2.1
  have b3 := q2.2.2.1
  have b2 := q2.2.1
  have sg := fun (e : k2 = 0) => (q2.2.2.2.2 e).2
  refine wp_zif (ob_42 p2.1) ?_
  refine wp_eq (P_isSign (v := 60) R p2 (by decide) (by decide)) ?_
  refine wp_zif (ob_42 p2.1) ?_
  refine wp_bind (P_hasSign (v := 60) R p2 (by decide) (by decide)) fun q6 p6 => ?_
  refine wp_bind (R := fun r => match r with | .inl x => k2 = 0 ∧ (tk a2 = 60 ∨ tk a2 = 61) ∧ PW n b L xs τ g nT (a2 + 1) 0 c2 op2 one2 x | .inr x => ¬ (k2 = 0 ∧ (tk a2 = 60 ∨ tk a2 = 61)) ∧ PW n b L xs τ g nT a2 k2 c2 op2 one2 x) ?_ (fun m7 p7 => ?_)
  · rcases p6 with ⟨e6, n6, p8⟩ | ⟨e6, k6, t6, p8⟩
    · refine wp_ite (fun _ => ?_) (fun c1 => absurd e6 c1)
      refine wp_zif (ob_42 p8.1) ?_
      refine wp_bind (P_hasSign (v := 61) R p8 (by decide) (by decide)) fun q11 p11 => ?_
      rcases p11 with ⟨e11, n11, p12⟩ | ⟨e11, k11, t11, p12⟩
      · refine wp_ite (fun _ => wp_map (wp_some ⟨fun z => ?_, p12⟩)) (fun c1 => absurd e11 c1)
        rcases z.2 with y | y
        · exact n6 ⟨z.1, y⟩
        · exact n11 ⟨z.1, y⟩
      · exact wp_ite (fun c1 => absurd (e11.symm.trans c1) (by decide)) (fun _ => wp_some ⟨k11, Or.inr t11, p12⟩)
    · exact wp_ite (fun c1 => absurd (e6.symm.trans c1) (by decide)) (fun _ => wp_some ⟨k6, Or.inl t6, p8⟩)
  rcases m7 with s8 | x8
  · obtain ⟨k7, t7, p8⟩ := p7
    rw [if_pos (show k2 = 0 ∧ (tk a2 = 60 ∨ tk a2 = 61) from ⟨k7, t7⟩)]
    subst k7
    refine wp_zsL ?_
    refine wp_zif (ob_42 p8.1) ?_
    refine wp_bind (P_sums R T _ _ _ _ _ _ p8 (by omega)) fun h15 p15 => ?_
    obtain ⟨c3, op3, one3, p15, q15⟩ := p15
    generalize qSum tk Q 10000 (a2 + 1, 0) = s3 at p15 q15
    have d1 := q15.1
    have d3 := q15.2.2.1
    have d2 := q15.2.1
    refine wp_bind (R := fun r => (r = rcO (30000 + tk a2) ∧ 0 = rcA (30000 + tk a2)) ∧ 5 ≤ r ∧ r ≤ 11) ?_ (fun k9 pk => ?_)
    · refine wp_ite (fun z => wp_some ?_) (fun z => wp_some ?_)
      · have e := t7.resolve_left (fun y => tS_0 z ⟨rfl, y⟩)
        rw [e]
        exact ⟨⟨rfl, rfl⟩, by decide⟩
      · rw [(tS_1 z).2]
        exact ⟨⟨rfl, rfl⟩, by decide⟩
    refine wp_zif (ob_42 p15.1) ?_
    refine wp_bind (P_emit p15 (by omega)) fun h19 p19 => ?_
    refine wp_some ?_
    by_cases hk : k = 0
    · rw [eo hk, if_pos ⟨rfl, t7⟩]
      exact ⟨_, _, _, p19, PQ_trans q2 (PQ_step pk.1 pk.2 b2 sg q15)⟩
    · exact PE_k hk ⟨_, _, _, p19, PQ_trans q2 (PQ_step pk.1 pk.2 b2 sg q15)⟩
  · obtain ⟨n7, p8⟩ := p7
    rw [if_neg n7]
    refine wp_zsR ?_
    by_cases hk : k = 0
    · rw [eo hk, if_neg n7]
      exact ⟨c2, op2, one2, p8, q2⟩
    · exact PE_k hk ⟨c2, op2, one2, p8, q2⟩
theorem P_all_L5 (R : RT g tk nu nT) (T : TPok n b L xs τ g nT tp v1 Q O) {c0 : Nat} : ∀ (m : Nat) {a k c : Nat} {op one : Nat → Int32} {o0 : List Nat} {h : zH}, PW n b L xs τ g nT a k c op one h → c0 ≤ c → (k = 0 → SEG op one (19200 + c0) (c - c0) ∧ LST op one (19200 + c0) o0 ∧ c = c0 + o0.length) → c + 1 ≤ a → nT - a < m → wp (f_X12_all_L5 10000 tp (n + 42) v1 m h) (fun r => PE n b L xs τ g nT c0 a c k op one (qAnd tk Q 10000 m (a, k)) (o0 ++ qAndO tk Q O 10000 m (a, k)) r) := by
  intro m
  induction m with
  | zero => intro a k c op one o0 h p h0 s hc hm; exact absurd hm (Nat.not_lt_zero _)
  | succ m ih =>
    intro a k c op one o0 h p h0 s hc hm
    rw [f_X12_all_L5.eq_2]
    refine wp_zif (ob_42 p.1) ?_
    have w7 : f_X12_isWord 10000 (n + 42) 7 h = some (tS tk a k 7) := P_isWord (j := 7) R p (by decide)
    have w8 : f_X12_isWord 10000 (n + 42) 8 h = some (tS tk a k 8) := P_isWord (j := 8) R p (by decide)
    refine wp_eq w7 ?_
    refine wp_bind (R := fun r => match r with | .inl _ => k = 0 ∧ (tk a = 7 ∨ tk a = 8) | .inr x => x = h ∧ ¬ (k = 0 ∧ (tk a = 7 ∨ tk a = 8))) ?_ (fun m5 p5 => ?_)
    · refine wp_ite (fun c1 => ?_) (fun c1 => wp_some ⟨(tS_1 c1).1, Or.inl (tS_1 c1).2⟩)
      refine wp_zif (ob_42 p.1) ?_
      refine wp_eq w8 ?_
      refine wp_ite (fun c2 => wp_map (wp_some ⟨rfl, fun z => ?_⟩)) (fun c2 => wp_some ⟨(tS_1 c2).1, Or.inr (tS_1 c2).2⟩)
      rcases z.2 with y | y
      · exact tS_0 c1 ⟨z.1, y⟩
      · exact tS_0 c2 ⟨z.1, y⟩
    rcases m5 with s5 | x5
    · obtain ⟨k5, t5⟩ := p5
      subst k5
      rw [qAnd_yes t5, qAndO_yes t5, ap3]
      refine wp_zsL ?_
      refine wp_zif (ob_42 p.1) ?_
      refine wp_eq w7 ?_
      refine wp_eq (P_7 p) ?_
      refine wp_bind (P_go R p (by omega)) fun h15 p15 => ?_
      refine wp_zif (ob_42 p15.1) ?_
      refine wp_bind (P_test R T _ _ _ _ _ _ p15 (by omega)) fun h17 p17 => ?_
      obtain ⟨c2, op2, one2, p17, q17⟩ := p17
      generalize qTest tk Q 10000 (a + 1, 0) = s2 at p17 q17
      have b1 := q17.1
      have b3 := q17.2.2.1
      have b2 := q17.2.1
      refine wp_bind (R := fun r => (r = rcO (30000 + tk a) ∧ 0 = rcA (30000 + tk a)) ∧ 5 ≤ r ∧ r ≤ 11) ?_ (fun k pk => ?_)
      · refine wp_ite (fun z => wp_some ?_) (fun z => wp_some ?_)
        · have e := t5.resolve_left (fun y => tS_0 z ⟨rfl, y⟩)
          rw [e]
          exact ⟨⟨rfl, rfl⟩, by decide⟩
        · rw [(tS_1 z).2]
          exact ⟨⟨rfl, rfl⟩, by decide⟩
      refine wp_zif (ob_42 p17.1) ?_
      refine wp_bind (P_emit p17 (by omega)) fun h21 p21 => ?_
      have st := PQ_step pk.1 pk.2 h0 s q17
      have an : s2.1 ≤ nT := p17.2.1
      refine wp_mono (ih p21 (by omega) (fun e => (st.2.2.2.2 e).2) (by omega) (by omega)) fun r pr => ?_
      obtain ⟨c3, op3, one3, p3, q3⟩ := pr
      exact ⟨c3, op3, one3, p3, PQ_trans st q3⟩
    · obtain ⟨e5, n5⟩ := p5
      subst e5
      rw [qAnd_no n5, qAndO_no n5, List.append_nil]
      exact wp_zsR ⟨c, op, one, p, PQ_refl h0 s⟩
theorem P_all (R : RT g tk nu nT) (T : TPok n b L xs τ g nT tp v1 Q O) : TPok n b L xs τ g nT (fun v0 v1 h => f_X12_all 10000 tp v0 v1 h) v1 (qAll tk Q 10000) (qAllO tk Q O 10000) := by
  intro a k c op one h p hc
  show wp (f_X12_all 10000 tp (n + 42) v1 h) (fun r => PE n b L xs τ g nT c a c k op one (qAnd tk Q 10000 10000 (qTest tk Q 10000 (a, k))) (qAllO tk Q O 10000 a) r)
  unfold f_X12_all
  refine wp_zif (ob_42 p.1) ?_
  refine wp_bind (P_test R T _ _ _ _ _ _ p hc) fun h2 p2 => ?_
  obtain ⟨c2, op2, one2, p2, q2⟩ := p2
  generalize hs : qTest tk Q 10000 (a, k) = s2 at p2 q2
  have b1 := q2.1
  have b3 := q2.2.2.1
  have b9 := p2.2.2.2.2.1
  refine wp_bind (P_all_L5 R T 10000 p2 q2.2.1 (fun e => (q2.2.2.2.2 e).2) (by omega) (by omega)) fun r pr => ?_
  obtain ⟨c3, op3, one3, p3, q3⟩ := pr
  refine wp_some ?_
  by_cases hk : k = 0
  · subst hk
    have e : qAllO tk Q O 10000 a = qTestO tk Q O 10000 a ++ qAndO tk Q O 10000 10000 s2 := by
      unfold qAllO
      rw [hs]
    rw [e]
    exact ⟨c3, op3, one3, p3, PQ_trans q2 q3⟩
  · exact PE_k hk ⟨c3, op3, one3, p3, PQ_trans q2 q3⟩
/-- a part that stands alone: its code is written, and it is taken -/
theorem PQ_one {a c : Nat} {f : Nat} {k x : Int32} {op one : Nat → Int32} {y : Nat} (hy : k = rcO y ∧ x = rcA y) (hf : f = 0) (hk : k = 1 ∨ (k = 2 ∧ 0 ≤ x ∧ x ≤ 10) ∨ (k = 3 ∧ 0 ≤ x ∧ x ≤ 7)) : PQ c a c f op one (a + 1) (c + 1) f (upd op (19200 + c) k) (upd one (19200 + c) x) [y] := by
  refine ⟨by omega, by omega, by omega, fun i hi => ?_, fun e => ⟨e, ?_, ⟨⟨by rw [upd_at]; exact hy.1, by rw [upd_at]; exact hy.2⟩, trivial⟩, rfl⟩⟩
  · rw [upd_lt hi, upd_lt hi]; exact ⟨rfl, rfl⟩
  · rw [show c + 1 - c = 1 by omega]
    refine SEG_one ?_
    rw [upd_at, upd_at]
    exact hk
theorem PQ_not {a c a2 c2 : Nat} {f f2 : Nat} {op one op2 one2 : Nat → Int32} {o : List Nat} (q : PQ c (a + 1) c f op one a2 c2 f2 op2 one2 o) : PQ c a c f op one a2 (c2 + 1) f2 (upd op2 (19200 + c2) 4) (upd one2 (19200 + c2) 0) (o ++ [30009]) := by
  obtain ⟨q1, q2, q3, q4, q5⟩ := q
  refine ⟨by omega, by omega, by omega, fun i hi => ?_, fun e => ?_⟩
  · rw [upd_lt (by omega), upd_lt (by omega)]
    exact q4 i hi
  · obtain ⟨e1, s2, l2, n2⟩ := q5 e
    refine ⟨e1, ?_, ?_, by simp; omega⟩
    rotate_left
    · refine LST_app _ _ _ (LST_congr o _ _ l2 (fun j hj => ?_)) ⟨⟨?_, ?_⟩, trivial⟩
      · rw [upd_lt (by omega), upd_lt (by omega)]
        exact ⟨rfl, rfl⟩
      · rw [show 19200 + c + o.length = 19200 + c2 by omega, upd_at]
        rfl
      · rw [show 19200 + c + o.length = 19200 + c2 by omega, upd_at]
        rfl
    have s2' : SEG (upd op2 (19200 + c2) 4) (upd one2 (19200 + c2) 0) (19200 + c) (c2 - c) := SEG_congr s2 (fun j j1 j2 => by
      rw [upd_lt (by omega), upd_lt (by omega)]
      exact ⟨rfl, rfl⟩)
    rw [show c2 + 1 - c = (c2 - c) + 1 by omega]
    refine SEG_not s2' ?_
    rw [show 19200 + c + (c2 - c) = 19200 + c2 by omega, upd_at]
/-- what a part's token says: 0 where it can be taken -/
def ptW (tk : Nat → Nat) (kn : Nat → Bool) (d a : Nat) : Nat := if isO (tk a) = false ∧ isE (tk a) = false then 1 else if tk a = 200 ∧ kn a = false then 2 else if d = 4 then 5 else 0
theorem qPart_w {kn : Nat → Bool} {F q d a : Nat} (h : ¬ ptW tk kn d a = 0) : qPart tk kn F (q + 1) d (a, 0) = (a, ptW tk kn d a) := by
  unfold ptW at h ⊢
  show (if ¬ (0 : Nat) = 0 then ((a, 0) : RfS) else if isO (tk a) = false ∧ isE (tk a) = false then (a, 1) else if tk a = 200 ∧ kn a = false then (a, 2) else if d = 4 then (a, 5) else _) = _
  rw [if_neg (by decide)]
  by_cases z1 : isO (tk a) = false ∧ isE (tk a) = false
  · rw [if_pos z1, if_pos z1]
  · rw [if_neg z1] at h
    rw [if_neg z1, if_neg z1]
    by_cases z2 : tk a = 200 ∧ kn a = false
    · rw [if_pos z2, if_pos z2]
    · rw [if_neg z2] at h
      rw [if_neg z2, if_neg z2]
      by_cases z3 : d = 4
      · rw [if_pos z3, if_pos z3]
      · rw [if_neg z3] at h
        exact absurd rfl h
theorem qPart_g {kn : Nat → Bool} {F q d a : Nat} (h : ptW tk kn d a = 0) : qPart tk kn F (q + 1) d (a, 0) = if tk a = 9 then qPart tk kn F q (d + 1) (a + 1, 0) else if tk a = 40 then exQ tk 41 (qAll tk (qPart tk kn F q (d + 1)) F (a + 1, 0)) else (a + 1, 0) := by
  unfold ptW at h
  show (if ¬ (0 : Nat) = 0 then ((a, 0) : RfS) else if isO (tk a) = false ∧ isE (tk a) = false then (a, 1) else if tk a = 200 ∧ kn a = false then (a, 2) else if d = 4 then (a, 5) else if tk a = 9 then qPart tk kn F q (d + 1) (a + 1, 0) else if tk a = 40 then exQ tk 41 (qAll tk (qPart tk kn F q (d + 1)) F (a + 1, 0)) else (a + 1, 0)) = _
  by_cases z1 : isO (tk a) = false ∧ isE (tk a) = false
  · rw [if_pos z1] at h
    exact absurd h (by decide)
  · rw [if_neg z1] at h
    by_cases z2 : tk a = 200 ∧ kn a = false
    · rw [if_pos z2] at h
      exact absurd h (by decide)
    · rw [if_neg z2] at h
      by_cases z3 : d = 4
      · rw [if_pos z3] at h
        exact absurd h (by decide)
      · rw [if_neg (by decide), if_neg z1, if_neg z2, if_neg z3]
theorem qPart_k {kn : Nat → Bool} {F q d a k : Nat} (h : ¬ k = 0) : qPart tk kn F (q + 1) d (a, k) = (a, k) := by
  show (if ¬ k = 0 then ((a, k) : RfS) else _) = _
  rw [if_pos h]
theorem isE_iff (t : Nat) : isE t = true ↔ (10 ≤ t ∧ t ≤ 20) ∨ t = 200 ∨ t = 201 := decide_eq_true_iff
theorem isO_iff (t : Nat) : isO t = true ↔ t = 9 ∨ t = 40 := decide_eq_true_iff
theorem ptW_0 {kn : Nat → Bool} {d a : Nat} (h : ptW tk kn d a = 0) : (tk a = 9 ∨ tk a = 40 ∨ (10 ≤ tk a ∧ tk a ≤ 20) ∨ tk a = 200 ∨ tk a = 201) ∧ (tk a = 200 → kn a = true) ∧ ¬ d = 4 := by
  unfold ptW at h
  by_cases z1 : isO (tk a) = false ∧ isE (tk a) = false
  · rw [if_pos z1] at h
    exact absurd h (by decide)
  · rw [if_neg z1] at h
    by_cases z2 : tk a = 200 ∧ kn a = false
    · rw [if_pos z2] at h
      exact absurd h (by decide)
    · rw [if_neg z2] at h
      by_cases z3 : d = 4
      · rw [if_pos z3] at h
        exact absurd h (by decide)
      · refine ⟨?_, fun e => ?_, z3⟩
        · cases ho : isO (tk a)
          · cases he : isE (tk a)
            · exact absurd ⟨ho, he⟩ z1
            · rcases (isE_iff _).mp he with y | y | y
              · exact Or.inr (Or.inr (Or.inl y))
              · exact Or.inr (Or.inr (Or.inr (Or.inl y)))
              · exact Or.inr (Or.inr (Or.inr (Or.inr y)))
          · rcases (isO_iff _).mp ho with y | y
            · exact Or.inl y
            · exact Or.inr (Or.inl y)
        · cases hk : kn a
          · exact absurd ⟨e, hk⟩ z2
          · rfl
theorem ptW_1 {kn : Nat → Bool} {d a : Nat} (h : ¬ (tk a = 9 ∨ tk a = 40 ∨ (10 ≤ tk a ∧ tk a ≤ 20) ∨ tk a = 200 ∨ tk a = 201)) : ptW tk kn d a = 1 := by
  unfold ptW
  rw [if_pos]
  constructor
  · cases ho : isO (tk a)
    · rfl
    · rcases (isO_iff _).mp ho with y | y
      · exact absurd (Or.inl y) h
      · exact absurd (Or.inr (Or.inl y)) h
  · cases he : isE (tk a)
    · rfl
    · rcases (isE_iff _).mp he with y | y | y
      · exact absurd (Or.inr (Or.inr (Or.inl y))) h
      · exact absurd (Or.inr (Or.inr (Or.inr (Or.inl y)))) h
      · exact absurd (Or.inr (Or.inr (Or.inr (Or.inr y)))) h
theorem ptW_n1 {a : Nat} (h : tk a = 9 ∨ tk a = 40 ∨ (10 ≤ tk a ∧ tk a ≤ 20) ∨ tk a = 200 ∨ tk a = 201) : ¬ (isO (tk a) = false ∧ isE (tk a) = false) := by
  intro ⟨z1, z2⟩
  rcases h with h | h | h | h | h
  · rw [(isO_iff _).mpr (Or.inl h)] at z1; cases z1
  · rw [(isO_iff _).mpr (Or.inr h)] at z1; cases z1
  · rw [(isE_iff _).mpr (Or.inl h)] at z2; cases z2
  · rw [(isE_iff _).mpr (Or.inr (Or.inl h))] at z2; cases z2
  · rw [(isE_iff _).mpr (Or.inr (Or.inr h))] at z2; cases z2
theorem ptW_2 {kn : Nat → Bool} {d a : Nat} (h1 : tk a = 200) (h2 : kn a = false) : ptW tk kn d a = 2 := by
  unfold ptW
  rw [if_neg (ptW_n1 (Or.inr (Or.inr (Or.inr (Or.inl h1))))), if_pos ⟨h1, h2⟩]
theorem ptW_5 {kn : Nat → Bool} {d a : Nat} (h : tk a = 9 ∨ tk a = 40 ∨ (10 ≤ tk a ∧ tk a ≤ 20) ∨ tk a = 200 ∨ tk a = 201) (h2 : tk a = 200 → kn a = true) : ptW tk kn d a = if d = 4 then 5 else 0 := by
  unfold ptW
  rw [if_neg (ptW_n1 h), if_neg (fun z => by rw [h2 z.1] at z; exact absurd z.2 (by decide))]
/-- a part's code -/
def lfN (tk nu ix : Nat → Nat) (j : Nat) : Nat := if tk j = 201 then nu j else if tk j = 200 then 20000 + ix j else 10000 + tk j
set_option maxHeartbeats 8000000 in
theorem P_takePart {kn : Nat → Bool} {ix : Nat → Nat} {M : Nat} (R : RT g tk nu nT) (K : KN g tk kn ix nT M) : ∀ (q d : Nat), d ≤ 4 → 5 ≤ q + d → TPok n b L xs τ g nT (fun v0 v1 h => f_X12_takePart 10000 q v0 v1 h) (nI d) (qPart tk kn 10000 q d) (qPartO tk kn (lfN tk nu ix) 10000 q d) := by
  intro q
  induction q with
  | zero => intro d hd hq; omega
  | succ q ih =>
    intro d hd hq a k c op one h p hc
    show wp (f_X12_takePart 10000 (q + 1) (n + 42) (nI d) h) _
    rw [f_X12_takePart.eq_2]
    have fle := P_le p
    refine wp_eq (P_8 p) ?_
    refine wp_ite (fun c1 => ?_) (fun c1 => ?_)
    rotate_left
    · have hk : ¬ k = 0 := fun z => c1 (fle.mpr z)
      rw [qPart_k hk]
      exact wp_some ⟨c, op, one, p, Nat.le_refl _, Nat.le_refl _, by omega, fun _ _ => ⟨rfl, rfl⟩, fun e => absurd e hk⟩
    have hk : k = 0 := fle.mp c1
    subst hk
    have d4e : nI d = 4 ↔ d = 4 := ⟨fun e => nI_inj (by omega) (by decide) (e.trans (rfl : (4 : Int32) = nI 4)), fun e => by rw [e]; rfl⟩
    refine wp_bind (P_fact R p) fun m8 p8 => ?_
    refine wp_eq (gR_42_4 p.1) ?_
    refine wp_eq (P_7 p) ?_
    refine wp_eq (P_S p) ?_
    refine wp_bind (R := fun r => (r = 1 ∧ tk a = 201) ∨ (r = 0 ∧ ¬ tk a = 201)) ?_ (fun m12 p12 => ?_)
    · exact wp_ite (fun z => wp_some (Or.inl ⟨rfl, (R.nb a p.2.1).mpr z⟩)) (fun z => wp_some (Or.inr ⟨rfl, fun y => z ((R.nb a p.2.1).mp y)⟩))
    refine wp_zif (ob_42 p.1) ?_
    have eN := P_isName R p
    refine wp_eq eN ?_
    refine wp_bind (R := fun r => -1 ≤ r ∧ r ≤ 7 ∧ (tk a = 200 → (0 ≤ r ↔ kn a = true)) ∧ (¬ tk a = 200 → r = -1) ∧ (0 ≤ r → r = nI (ix a) ∧ ix a ≤ 7)) ?_ (fun m16 p16 => ?_)
    · refine wp_ite (fun z => wp_some ⟨by decide, by decide, fun e => absurd ⟨rfl, e⟩ (tS_0 z), fun _ => rfl, fun y => absurd y (by decide)⟩) (fun z => ?_)
      refine wp_zif (ob_42 p.1) ?_
      exact wp_bind (P_findName K p (tS_1 z).2) fun r pr => wp_some ⟨pr.1, pr.2.1, fun _ => pr.2.2.1, fun y => absurd (tS_1 z).2 y, pr.2.2.2⟩
    have eS : f_X12_isSign 10000 (n + 42) 40 h = some (tS tk a 0 40) := P_isSign (v := 40) R p (by decide) (by decide)
    have eW : f_X12_isWord 10000 (n + 42) 9 h = some (tS tk a 0 9) := P_isWord (j := 9) R p (by decide)
    refine wp_bind (R := fun r => (r = h ∧ ptW tk kn d a = 0) ∨ (¬ ptW tk kn d a = 0 ∧ PW n b L xs τ g nT a (ptW tk kn d a) c op one r)) ?_ (fun m20 p20 => ?_)
    · have dep : ∀ (s : zH), s = h → (tk a = 9 ∨ tk a = 40 ∨ (10 ≤ tk a ∧ tk a ≤ 20) ∨ tk a = 200 ∨ tk a = 201) → (tk a = 200 → kn a = true) → wp (if nI d = 4 then (zif (zob s (n + 42) 12) <| (f_X12_wrong 10000 (n + 42) 5 s).bind fun h33 => some h33) else (some s)) (fun r => (r = h ∧ ptW tk kn d a = 0) ∨ (¬ ptW tk kn d a = 0 ∧ PW n b L xs τ g nT a (ptW tk kn d a) c op one r)) := by
        intro s es k1 k2
        subst es
        rw [ptW_5 k1 k2]
        refine wp_ite (fun z => ?_) (fun z => wp_some (Or.inl ⟨rfl, if_neg (fun y => z (d4e.mpr y))⟩))
        rw [if_pos (d4e.mp z)]
        refine wp_zif (ob_42 p.1) ?_
        exact wp_bind (P_wrong (v := 5) p (by decide) (by decide)) fun r pr => wp_some (Or.inr ⟨by decide, pr⟩)
      have w2 : ∀ (s : zH), s = h → tk a = 200 → ¬ 0 ≤ m16 → wp (zif (zob s (n + 42) 12) <| (f_X12_wrong 10000 (n + 42) 2 s).bind fun h29 => (some h29).map (Sum.inr : zH → zH ⊕ zH)) (fun r => match r with | .inl x => x = h ∧ (tk a = 200 → kn a = true) | .inr x => ¬ ptW tk kn d a = 0 ∧ PW n b L xs τ g nT a (ptW tk kn d a) c op one x) := by
        intro s es t1 t2
        subst es
        have kf : kn a = false := by
          cases hk : kn a
          · rfl
          · exact absurd ((p16.2.2.1 t1).mpr hk) t2
        rw [ptW_2 t1 kf]
        refine wp_zif (ob_42 p.1) ?_
        exact wp_bind (P_wrong (v := 2) p (by decide) (by decide)) fun r pr => wp_map (wp_some ⟨by decide, pr⟩)
      refine wp_ite (fun z8 => ?_) (fun z8 => ?_)
      · have f8 : 10 ≤ tk a ∧ tk a ≤ 20 := by
          rcases p8 with y | y
          · rw [y.1] at z8; exact absurd z8 (by decide)
          · exact y.2.2.2.1
        refine wp_zif (ob_42 p.1) ?_
        refine wp_eq eN ?_
        refine wp_bite (fun y => ?_) (fun y => ?_)
        · exact wp_bsome (wp_zsL (dep h rfl (Or.inr (Or.inr (Or.inl f8))) (fun e => absurd e (by omega))))
        · exfalso
          have t2 : tk a = 200 := (tS_1 y).2
          omega
      · have n8 : ¬ (10 ≤ tk a ∧ tk a ≤ 20) := by
          rcases p8 with y | y
          · exact fun z => y.2 ⟨rfl, z⟩
          · exact absurd y.1 z8
        refine wp_bind (R := fun r => match r with | .inl x => x = h ∧ (tk a = 9 ∨ tk a = 40 ∨ (10 ≤ tk a ∧ tk a ≤ 20) ∨ tk a = 200 ∨ tk a = 201) | .inr x => ¬ ptW tk kn d a = 0 ∧ PW n b L xs τ g nT a (ptW tk kn d a) c op one x) ?_ (fun m34 p34 => ?_)
        · refine wp_ite (fun y => ?_) (fun y => wp_some ⟨rfl, ?_⟩)
          · have n12 : ¬ tk a = 201 := by
              rcases p12 with x | x
              · rw [x.1] at y; exact absurd y (by decide)
              · exact x.2
            refine wp_zif (ob_42 p.1) ?_
            refine wp_eq eN ?_
            refine wp_ite (fun y2 => ?_) (fun y2 => wp_some ⟨rfl, Or.inr (Or.inr (Or.inr (Or.inl (tS_1 y2).2)))⟩)
            refine wp_zif (ob_42 p.1) ?_
            refine wp_eq eS ?_
            refine wp_ite (fun y3 => ?_) (fun y3 => wp_some ⟨rfl, Or.inr (Or.inl (tS_1 y3).2)⟩)
            refine wp_zif (ob_42 p.1) ?_
            refine wp_eq eW ?_
            refine wp_ite (fun y4 => ?_) (fun y4 => wp_some ⟨rfl, Or.inl (tS_1 y4).2⟩)
            have no : ¬ (tk a = 9 ∨ tk a = 40 ∨ (10 ≤ tk a ∧ tk a ≤ 20) ∨ tk a = 200 ∨ tk a = 201) := by
              intro z
              rcases z with z | z | z | z | z
              · exact tS_0 y4 ⟨rfl, z⟩
              · exact tS_0 y3 ⟨rfl, z⟩
              · exact n8 z
              · exact tS_0 y2 ⟨rfl, z⟩
              · exact n12 z
            rw [ptW_1 no]
            refine wp_zif (ob_42 p.1) ?_
            exact wp_bind (P_wrong (v := 1) p (by decide) (by decide)) fun r pr => wp_map (wp_some ⟨by decide, pr⟩)
          · rcases p12 with x | x
            · exact Or.inr (Or.inr (Or.inr (Or.inr x.2)))
            · exact absurd x.1 y
        rcases m34 with s35 | x35
        · obtain ⟨e35, k35⟩ := p34
          subst e35
          refine wp_zsL ?_
          refine wp_zif (ob_42 p.1) ?_
          refine wp_eq eN ?_
          refine wp_bind (R := fun r => match r with | .inl x => x = s35 ∧ (tk a = 200 → kn a = true) | .inr x => ¬ ptW tk kn d a = 0 ∧ PW n b L xs τ g nT a (ptW tk kn d a) c op one x) ?_ (fun m24 p24 => ?_)
          · refine wp_ite (fun y => wp_some ⟨rfl, fun z => absurd ⟨rfl, z⟩ (tS_0 y)⟩) (fun y => ?_)
            have t1 := (tS_1 y).2
            refine wp_ite (fun y2 => wp_some ⟨rfl, fun _ => (p16.2.2.1 t1).mp y2⟩) (fun y2 => ?_)
            exact w2 s35 rfl t1 y2
          rcases m24 with s25 | x25
          · exact wp_zsL (dep s25 p24.1 k35 p24.2)
          · exact wp_zsR (Or.inr p24)
        · exact wp_zsR (Or.inr p34)
    rcases p20 with ⟨e20, nw⟩ | ⟨nw, p20⟩
    · subst e20
      obtain ⟨kk, kn', nd⟩ := ptW_0 nw
      have eoP : qPartO tk kn (lfN tk nu ix) 10000 (q + 1) d a = if tk a = 9 then qPartO tk kn (lfN tk nu ix) 10000 q (d + 1) (a + 1) ++ [30009] else if tk a = 40 then qAllO tk (qPart tk kn 10000 q (d + 1)) (qPartO tk kn (lfN tk nu ix) 10000 q (d + 1)) 10000 (a + 1) else [lfN tk nu ix a] := rfl
      rw [qPart_g nw, eoP]
      have ed : nI d + 1 = nI (d + 1) := nI_1 d
      refine wp_eq (P_8 p) ?_
      refine wp_ite (fun _ => ?_) (fun z => absurd c1 z)
      refine wp_zif (ob_42 p.1) ?_
      refine wp_bind (P_hasWord (j := 9) R p (by decide)) fun q64 p64 => ?_
      have pm9 : pm 9 = 9 := rfl
      rw [pm9] at p64
      rcases p64 with ⟨e64, n64, pa⟩ | ⟨e64, -, t64, pa⟩
      · have n9 : ¬ tk a = 9 := fun z => n64 ⟨rfl, z⟩
        refine wp_ite (fun _ => ?_) (fun z => absurd e64 z)
        rw [if_neg n9, if_neg n9]
        refine wp_zif (ob_42 pa.1) ?_
        refine wp_bind (P_hasSign (v := 40) R pa (by decide) (by decide)) fun q67 p67 => ?_
        rcases p67 with ⟨e67, n67, pb⟩ | ⟨e67, -, t67, pb⟩
        · have n40 : ¬ tk a = 40 := fun z => n67 ⟨rfl, z⟩
          refine wp_ite (fun _ => ?_) (fun z => absurd e67 z)
          rw [if_neg n40, if_neg n40]
          have kk2 : (10 ≤ tk a ∧ tk a ≤ 20) ∨ tk a = 200 ∨ tk a = 201 := (kk.resolve_left n9).resolve_left n40
          refine wp_bind (R := fun r => (r = 1 ∧ ¬ m12 = 0) ∨ (r = 2 ∧ m12 = 0 ∧ m16 < 0) ∨ (r = 3 ∧ m12 = 0 ∧ ¬ m16 < 0)) ?_ (fun m69 p69 => ?_)
          · refine wp_ite (fun y => ?_) (fun y => wp_some (Or.inl ⟨rfl, y⟩))
            exact wp_ite (fun y2 => wp_some (Or.inr (Or.inl ⟨rfl, y, y2⟩))) (fun y2 => wp_some (Or.inr (Or.inr ⟨rfl, y, y2⟩)))
          refine wp_bind (R := fun r => (m12 = 0 → (m16 < 0 → r = m8) ∧ (¬ m16 < 0 → r = m16)) ∧ (¬ m12 = 0 → r = (g.2.2 46 a).toInt32)) ?_ (fun m72 p72 => ?_)
          · refine wp_ite (fun y => ?_) (fun y => ?_)
            · exact wp_ite (fun y2 => wp_some ⟨fun _ => ⟨fun _ => rfl, fun z => absurd y2 z⟩, fun z => absurd y z⟩) (fun y2 => wp_some ⟨fun _ => ⟨fun z => absurd z y2, fun _ => rfl⟩, fun z => absurd y z⟩)
            · refine wp_eq (gR_42_6 pb.1) ?_
              refine wp_eq (P_7 pb) ?_
              refine wp_eq (P_V pb) ?_
              exact wp_some ⟨fun z => absurd z y, fun _ => rfl⟩
          refine wp_zif (ob_42 pb.1) ?_
          refine wp_bind (P_emit pb hc) fun h79 p79 => ?_
          refine wp_eq (P_7 p79) ?_
          have fin : (m69 = 1 ∨ (m69 = 2 ∧ 0 ≤ m72 ∧ m72 ≤ 10) ∨ (m69 = 3 ∧ 0 ≤ m72 ∧ m72 ≤ 7)) ∧ m69 = rcO (lfN tk nu ix a) ∧ m72 = rcA (lfN tk nu ix a) := by
            rcases p69 with ⟨x1, x2⟩ | ⟨x1, x2, x3⟩ | ⟨x1, x2, x3⟩
            · have t201 : tk a = 201 := by
                rcases p12 with y | y
                · exact y.2
                · exact absurd y.1 x2
              obtain ⟨v1, v2⟩ := R.nv a p.2.1 t201
              have el : lfN tk nu ix a = nu a := if_pos t201
              refine ⟨Or.inl x1, ?_, ?_⟩
              · rw [el, x1]
                exact (if_pos v2).symm
              · rw [el, p72.2 x2, v1, o64_32 v2]
                exact (if_pos v2).symm
            · have e72 := (p72.1 x2).1 x3
              have n201 : ¬ tk a = 201 := by
                rcases p12 with y | y
                · rw [y.1] at x2; exact absurd x2 (by decide)
                · exact y.2
              have n200 : ¬ tk a = 200 := fun y => by
                have z := (p16.2.2.1 y).mpr (kn' y)
                lia
              have f8 := (kk2.resolve_right (fun y => y.elim n200 n201))
              have el : lfN tk nu ix a = 10000 + tk a := (if_neg n201).trans (if_neg n200)
              rcases p8 with y | y
              · exact absurd ⟨rfl, f8⟩ y.2
              · refine ⟨Or.inr (Or.inl ⟨x1, by rw [e72]; exact y.1, by rw [e72]; exact y.2.1⟩), ?_, ?_⟩
                · rw [el, x1]
                  unfold rcO
                  rw [if_neg (by omega), if_pos (by omega)]
                · rw [el, e72, y.2.2.2.2]
                  unfold rcA
                  rw [if_neg (by omega), if_pos (by omega), show 10000 + tk a - 10000 = tk a by omega]
            · have e72 := (p72.1 x2).2 x3
              have n201 : ¬ tk a = 201 := by
                rcases p12 with y | y
                · rw [y.1] at x2; exact absurd x2 (by decide)
                · exact y.2
              have t200 : tk a = 200 := Decidable.byContradiction fun y => by
                have z := p16.2.2.2.1 y
                rw [z] at x3
                exact absurd x3 (by decide)
              have el : lfN tk nu ix a = 20000 + ix a := (if_neg n201).trans (if_pos t200)
              have ei := p16.2.2.2.2 (by lia)
              refine ⟨Or.inr (Or.inr ⟨x1, by rw [e72]; lia, by rw [e72]; exact p16.2.1⟩), ?_, ?_⟩
              · rw [el, x1]
                unfold rcO
                rw [if_neg (by omega), if_neg (by omega), if_pos (by omega)]
              · rw [el, e72, ei.1]
                unfold rcA
                rw [if_neg (by omega), if_neg (by omega), if_pos (by omega), show 20000 + ix a - 20000 = ix a by omega]
          refine wp_bind (P_go R p79 (by omega)) fun h81 p81 => ?_
          exact wp_some ⟨_, _, _, p81, PQ_one fin.2 rfl fin.1⟩
        · refine wp_ite (fun z => absurd (e67.symm.trans z) (by decide)) (fun _ => ?_)
          rw [if_pos t67, if_pos t67]
          refine wp_zif (ob_42 pb.1) ?_
          rw [ed]
          refine wp_bind (P_all R (ih (d + 1) (by omega) (by omega)) _ _ _ _ _ _ pb (by omega)) fun h83 p83 => ?_
          obtain ⟨c2, op2, one2, p83, q83⟩ := p83
          generalize qAll tk (qPart tk kn 10000 q (d + 1)) 10000 (a + 1, 0) = s2 at p83 q83
          refine wp_zif (ob_42 p83.1) ?_
          refine wp_bind (P_takeSign (v := 41) R p83 (by decide) (by decide)) fun h85 p85 => ?_
          obtain ⟨y1, y2, y3, y4, y5⟩ := q83
          have le : s2.1 ≤ (exQ tk 41 s2).1 := exQ_le
          exact wp_some ⟨c2, op2, one2, p85, by omega, y2, by omega, y4, fun e => y5 (exQ_0 e)⟩
      · refine wp_ite (fun z => absurd (e64.symm.trans z) (by decide)) (fun _ => ?_)
        rw [if_pos t64, if_pos t64]
        refine wp_zif (ob_42 pa.1) ?_
        rw [ed]
        refine wp_bind (ih (d + 1) (by omega) (by omega) _ _ _ _ _ _ pa (by omega)) fun h87 p87 => ?_
        obtain ⟨c2, op2, one2, p87, q87⟩ := p87
        have y1 := q87.1
        have y3 := q87.2.2.1
        refine wp_zif (ob_42 p87.1) ?_
        refine wp_bind (P_emit p87 (by omega)) fun h89 p89 => ?_
        exact wp_some ⟨_, _, _, p89, PQ_not q87⟩
    · rw [qPart_w nw]
      refine wp_eq (P_8 p20) ?_
      refine wp_ite (fun z => absurd ((P_le p20).mp z) nw) (fun z => ?_)
      exact wp_some ⟨c, op, one, p20, Nat.le_refl _, Nat.le_refl _, by omega, fun _ _ => ⟨rfl, rfl⟩, fun e => absurd e nw⟩
end EXPR
