/-! the reference's reader: expressions -/
def PQ (c0 a c : Nat) (f : Int32) (op one : Nat → Int32) (a' c' : Nat) (f' : Int32) (op' one' : Nat → Int32) : Prop := a ≤ a' ∧ c0 ≤ c' ∧ c' + a ≤ c + a' ∧ (∀ i, i < 19200 + c0 → op' i = op i ∧ one' i = one i) ∧ (f' = 0 → f = 0 ∧ SEG op' one' (19200 + c0) (c' - c0))
def PE (n b L : Nat) (xs : Nat → Int32) (τ : Nat → Nat) (g : zGh) (nT c0 a c : Nat) (f : Int32) (op one : Nat → Int32) (r : zH) : Prop := ∃ a' c' f' op' one', PW n b L xs τ g nT a' c' f' op' one' r ∧ PQ c0 a c f op one a' c' f' op' one'
theorem PQ_trans {c0 a c a2 c2 a3 c3 : Nat} {f f2 f3 : Int32} {op one op2 one2 op3 one3 : Nat → Int32} (q : PQ c0 a c f op one a2 c2 f2 op2 one2) (r : PQ c0 a2 c2 f2 op2 one2 a3 c3 f3 op3 one3) : PQ c0 a c f op one a3 c3 f3 op3 one3 := by
  obtain ⟨q1, q2, q3, q4, q5⟩ := q
  obtain ⟨r1, r2, r3, r4, r5⟩ := r
  refine ⟨by omega, r2, by omega, fun i hi => ?_, fun e => ?_⟩
  · obtain ⟨x1, x2⟩ := r4 i hi
    obtain ⟨y1, y2⟩ := q4 i hi
    exact ⟨x1.trans y1, x2.trans y2⟩
  · obtain ⟨x1, x2⟩ := r5 e
    exact ⟨(q5 x1).1, x2⟩
theorem PQ_refl {c0 a c : Nat} {f : Int32} {op one : Nat → Int32} (h0 : c0 ≤ c) (s : f = 0 → SEG op one (19200 + c0) (c - c0)) : PQ c0 a c f op one a c f op one := ⟨Nat.le_refl _, h0, by omega, fun _ _ => ⟨rfl, rfl⟩, fun e => ⟨e, s e⟩⟩
theorem upd_lt {f : Nat → Int32} {k i : Nat} {x : Int32} (h : i < k) : upd f k x i = f i := by
  unfold upd
  rw [if_neg (by omega)]
theorem upd_at (f : Nat → Int32) (k : Nat) (x : Int32) : upd f k x k = x := by
  unfold upd
  rw [if_pos rfl]
theorem PQ_step {c0 a c a2 c2 : Nat} {f f2 k : Int32} {op one op2 one2 : Nat → Int32} (hk : 5 ≤ k ∧ k ≤ 11) (h0 : c0 ≤ c) (s : f = 0 → SEG op one (19200 + c0) (c - c0)) (q : PQ c (a + 1) c f op one a2 c2 f2 op2 one2) : PQ c0 a c f op one a2 (c2 + 1) f2 (upd op2 (19200 + c2) k) (upd one2 (19200 + c2) 0) := by
  obtain ⟨q1, q2, q3, q4, q5⟩ := q
  refine ⟨by omega, by omega, by omega, fun i hi => ?_, fun e => ?_⟩
  · rw [upd_lt (by omega), upd_lt (by omega)]
    exact q4 i (by omega)
  · obtain ⟨e1, s2⟩ := q5 e
    refine ⟨e1, ?_⟩
    have s1 : SEG (upd op2 (19200 + c2) k) (upd one2 (19200 + c2) 0) (19200 + c0) (c - c0) := SEG_congr (s e1) (fun j j1 j2 => by
      rw [upd_lt (by omega), upd_lt (by omega)]
      exact q4 j (by omega))
    have s2' : SEG (upd op2 (19200 + c2) k) (upd one2 (19200 + c2) 0) (19200 + c0 + (c - c0)) (c2 - c) := by
      rw [show 19200 + c0 + (c - c0) = 19200 + c by omega]
      exact SEG_congr s2 (fun j j1 j2 => by
        rw [upd_lt (by omega), upd_lt (by omega)]
        exact ⟨rfl, rfl⟩)
    have e9 : 19200 + c0 + (c - c0) + (c2 - c) = 19200 + c2 := by omega
    have s3 := SEG_bin s1 s2' (by rw [e9, upd_at]; exact hk)
    rw [show c2 + 1 - c0 = (c - c0) + (c2 - c) + 1 by omega]
    exact s3
section EXPR
variable {n b L : Nat} {xs : Nat → Int32} {τ : Nat → Nat} {g : zGh} {nT : Nat} {tp : Nat → Int32 → zH → Option zH} {v1 : Int32}
def TPok (n b L : Nat) (xs : Nat → Int32) (τ : Nat → Nat) (g : zGh) (nT : Nat) (tp : Nat → Int32 → zH → Option zH) (v1 : Int32) : Prop := ∀ (a c : Nat) (f : Int32) (op one : Nat → Int32) (h : zH), PW n b L xs τ g nT a c f op one h → c + 1 ≤ a → wp (tp (n + 42) v1 h) (fun r => PE n b L xs τ g nT c a c f op one r)
theorem P_products_L5 (T : TPok n b L xs τ g nT tp v1) {c0 : Nat} : ∀ (m : Nat) {a c : Nat} {f : Int32} {op one : Nat → Int32} {h : zH}, PW n b L xs τ g nT a c f op one h → c0 ≤ c → (f = 0 → SEG op one (19200 + c0) (c - c0)) → c + 1 ≤ a → nT - a < m → wp (f_X12_products_L5 10000 tp (n + 42) v1 m h) (fun r => PE n b L xs τ g nT c0 a c f op one r) := by
  intro m
  induction m with
  | zero => intro a c f op one h p h0 s hc hm; exact absurd hm (Nat.not_lt_zero _)
  | succ m ih =>
    intro a c f op one h p h0 s hc hm
    rw [f_X12_products_L5.eq_2]
    refine wp_zif (ob_42 p.1) ?_
    refine wp_bind (P_hasSign p) fun q4 p4 => ?_
    obtain ⟨-, p4⟩ := p4
    refine wp_ite (fun c1 => ?_) (fun c1 => ?_)
    · have p5 := (p4.resolve_right (fun z => z.1 c1)).2
      exact wp_some ⟨a, c, f, op, one, p5, PQ_refl h0 s⟩
    · have p5 := (p4.resolve_left (fun z => c1 z.1)).2.2
      refine wp_zif (ob_42 p5.1) ?_
      refine wp_bind (T _ _ _ _ _ _ p5 (by omega)) fun h7 p7 => ?_
      obtain ⟨a2, c2, f2, op2, one2, p7, q7⟩ := p7
      have b1 := q7.1
      have b3 := q7.2.2.1
      have b2 := q7.2.1
      refine wp_zif (ob_42 p7.1) ?_
      refine wp_bind (P_emit p7 (by omega)) fun h9 p9 => ?_
      have st := PQ_step (k := 7) (by decide) h0 s q7
      have an : a2 ≤ nT := p7.2.1
      refine wp_mono (ih p9 (by omega) (fun e => (st.2.2.2.2 e).2) (by omega) (by omega)) fun r pr => ?_
      obtain ⟨a3, c3, f3, op3, one3, p3, q3⟩ := pr
      exact ⟨a3, c3, f3, op3, one3, p3, PQ_trans st q3⟩
theorem P_products (T : TPok n b L xs τ g nT tp v1) : TPok n b L xs τ g nT (fun v0 v1 h => f_X12_products 10000 tp v0 v1 h) v1 := by
  intro a c f op one h p hc
  show wp (f_X12_products 10000 tp (n + 42) v1 h) _
  unfold f_X12_products
  refine wp_zif (ob_42 p.1) ?_
  refine wp_bind (T _ _ _ _ _ _ p hc) fun h2 p2 => ?_
  obtain ⟨a2, c2, f2, op2, one2, p2, q2⟩ := p2
  have b1 := q2.1
  have b3 := q2.2.2.1
  have b9 := p2.2.2.2.2.1
  refine wp_bind (P_products_L5 T _ p2 q2.2.1 (fun e => (q2.2.2.2.2 e).2) (by omega) (by omega)) fun r pr => ?_
  obtain ⟨a3, c3, f3, op3, one3, p3, q3⟩ := pr
  exact wp_some ⟨a3, c3, f3, op3, one3, p3, PQ_trans q2 q3⟩
theorem P_sums_L5 (T : TPok n b L xs τ g nT tp v1) {c0 : Nat} : ∀ (m : Nat) {a c : Nat} {f : Int32} {op one : Nat → Int32} {h : zH}, PW n b L xs τ g nT a c f op one h → c0 ≤ c → (f = 0 → SEG op one (19200 + c0) (c - c0)) → c + 1 ≤ a → nT - a < m → wp (f_X12_sums_L5 10000 tp (n + 42) v1 m h) (fun r => PE n b L xs τ g nT c0 a c f op one r) := by
  intro m
  induction m with
  | zero => intro a c f op one h p h0 s hc hm; exact absurd hm (Nat.not_lt_zero _)
  | succ m ih =>
    intro a c f op one h p h0 s hc hm
    rw [f_X12_sums_L5.eq_2]
    refine wp_zif (ob_42 p.1) ?_
    refine wp_eq (P_isSign p) ?_
    refine wp_bind (R := fun r => match r with | .inl _ => ¬ g.2.1 44 a = 0 | .inr x => x = h) ?_ (fun m5 p5 => ?_)
    · refine wp_ite (fun c1 => ?_) (fun c1 => wp_some ?_)
      · refine wp_zif (ob_42 p.1) ?_
        refine wp_eq (P_isSign p) ?_
        refine wp_ite (fun c2 => wp_map (wp_some rfl)) (fun c2 => wp_some ?_)
        have z := (qS_01 f (g.2.1 44 a) (g.2.2 46 a) 45).resolve_left c2
        show ¬ g.2.1 44 a = 0
        rw [z.2.2]
        decide
      · have z := (qS_01 f (g.2.1 44 a) (g.2.2 46 a) 43).resolve_left c1
        show ¬ g.2.1 44 a = 0
        rw [z.2.2]
        decide
    rcases m5 with s5 | x5
    · refine wp_zsL ?_
      refine wp_zif (ob_42 p.1) ?_
      refine wp_eq (P_isSign p) ?_
      refine wp_eq (P_7 p) ?_
      refine wp_bind (P_take p p5) fun h15 p15 => ?_
      refine wp_zif (ob_42 p15.1) ?_
      refine wp_bind (P_products T _ _ _ _ _ _ p15 (by omega)) fun h17 p17 => ?_
      obtain ⟨a2, c2, f2, op2, one2, p17, q17⟩ := p17
      have b1 := q17.1
      have b3 := q17.2.2.1
      have b2 := q17.2.1
      refine wp_bind (R := fun r => 5 ≤ r ∧ r ≤ 11) ?_ (fun k pk => ?_)
      · exact wp_ite (fun _ => wp_some (by decide)) (fun _ => wp_some (by decide))
      refine wp_zif (ob_42 p17.1) ?_
      refine wp_bind (P_emit p17 (by omega)) fun h21 p21 => ?_
      have st := PQ_step pk h0 s q17
      have an : a2 ≤ nT := p17.2.1
      refine wp_mono (ih p21 (by omega) (fun e => (st.2.2.2.2 e).2) (by omega) (by omega)) fun r pr => ?_
      obtain ⟨a3, c3, f3, op3, one3, p3, q3⟩ := pr
      exact ⟨a3, c3, f3, op3, one3, p3, PQ_trans st q3⟩
    · have e5 : x5 = h := p5
      subst e5
      exact wp_zsR ⟨a, c, f, op, one, p, PQ_refl h0 s⟩
theorem P_sums (T : TPok n b L xs τ g nT tp v1) : TPok n b L xs τ g nT (fun v0 v1 h => f_X12_sums 10000 tp v0 v1 h) v1 := by
  intro a c f op one h p hc
  show wp (f_X12_sums 10000 tp (n + 42) v1 h) _
  unfold f_X12_sums
  refine wp_zif (ob_42 p.1) ?_
  refine wp_bind (P_products T _ _ _ _ _ _ p hc) fun h2 p2 => ?_
  obtain ⟨a2, c2, f2, op2, one2, p2, q2⟩ := p2
  have b1 := q2.1
  have b3 := q2.2.2.1
  have b9 := p2.2.2.2.2.1
  refine wp_bind (P_sums_L5 T _ p2 q2.2.1 (fun e => (q2.2.2.2.2 e).2) (by omega) (by omega)) fun r pr => ?_
  obtain ⟨a3, c3, f3, op3, one3, p3, q3⟩ := pr
  exact wp_some ⟨a3, c3, f3, op3, one3, p3, PQ_trans q2 q3⟩
theorem P_test (T : TPok n b L xs τ g nT tp v1) : TPok n b L xs τ g nT (fun v0 v1 h => f_X12_test 10000 tp v0 v1 h) v1 := by
  intro a c f op one h p hc
  show wp (f_X12_test 10000 tp (n + 42) v1 h) _
  unfold f_X12_test
  refine wp_zif (ob_42 p.1) ?_
  refine wp_bind (P_sums T _ _ _ _ _ _ p hc) fun h2 p2 => ?_
  obtain ⟨a2, c2, f2, op2, one2, p2, q2⟩ := p2
  have b1 := q2.1
  have b3 := q2.2.2.1
  have b2 := q2.2.1
  have sg : f2 = 0 → SEG op2 one2 (19200 + c) (c2 - c) := fun e => (q2.2.2.2.2 e).2
  refine wp_zif (ob_42 p2.1) ?_
  refine wp_eq (P_isSign p2) ?_
  refine wp_zif (ob_42 p2.1) ?_
  refine wp_bind (P_hasSign p2) fun q6 p6 => ?_
  obtain ⟨-, p6⟩ := p6
  refine wp_bind (R := fun r => match r with | .inl x => PW n b L xs τ g nT (a2 + 1) c2 f2 op2 one2 x | .inr x => PW n b L xs τ g nT a2 c2 f2 op2 one2 x) ?_ (fun m7 p7 => ?_)
  · refine wp_ite (fun c1 => ?_) (fun c1 => wp_some (p6.resolve_left (fun z => c1 z.1)).2.2)
    have p8 := (p6.resolve_right (fun z => z.1 c1)).2
    refine wp_zif (ob_42 p8.1) ?_
    refine wp_bind (P_hasSign p8) fun q11 p11 => ?_
    obtain ⟨-, p11⟩ := p11
    refine wp_ite (fun c2 => ?_) (fun c2 => wp_some (p11.resolve_left (fun z => c2 z.1)).2.2)
    exact wp_map (wp_some (p11.resolve_right (fun z => z.1 c2)).2)
  rcases m7 with s8 | x8
  · have p8 : PW n b L xs τ g nT (a2 + 1) c2 f2 op2 one2 s8 := p7
    refine wp_zsL ?_
    refine wp_zif (ob_42 p8.1) ?_
    refine wp_bind (P_sums T _ _ _ _ _ _ p8 (by omega)) fun h15 p15 => ?_
    obtain ⟨a3, c3, f3, op3, one3, p15, q15⟩ := p15
    have d1 := q15.1
    have d3 := q15.2.2.1
    have d2 := q15.2.1
    refine wp_bind (R := fun r => 5 ≤ r ∧ r ≤ 11) ?_ (fun k pk => ?_)
    · exact wp_ite (fun _ => wp_some (by decide)) (fun _ => wp_some (by decide))
    refine wp_zif (ob_42 p15.1) ?_
    refine wp_bind (P_emit p15 (by omega)) fun h19 p19 => ?_
    exact wp_some ⟨_, _, _, _, _, p19, PQ_trans q2 (PQ_step pk b2 sg q15)⟩
  · exact wp_zsR ⟨a2, c2, f2, op2, one2, p7, q2⟩
theorem P_all_L5 (T : TPok n b L xs τ g nT tp v1) {c0 : Nat} : ∀ (m : Nat) {a c : Nat} {f : Int32} {op one : Nat → Int32} {h : zH}, PW n b L xs τ g nT a c f op one h → c0 ≤ c → (f = 0 → SEG op one (19200 + c0) (c - c0)) → c + 1 ≤ a → nT - a < m → wp (f_X12_all_L5 10000 tp (n + 42) v1 m h) (fun r => PE n b L xs τ g nT c0 a c f op one r) := by
  intro m
  induction m with
  | zero => intro a c f op one h p h0 s hc hm; exact absurd hm (Nat.not_lt_zero _)
  | succ m ih =>
    intro a c f op one h p h0 s hc hm
    rw [f_X12_all_L5.eq_2]
    refine wp_zif (ob_42 p.1) ?_
    refine wp_eq (P_isWord p (by decide) (by decide)) ?_
    refine wp_bind (R := fun r => match r with | .inl _ => ¬ g.2.1 44 a = 0 | .inr x => x = h) ?_ (fun m5 p5 => ?_)
    · refine wp_ite (fun c1 => ?_) (fun c1 => wp_some ?_)
      · refine wp_zif (ob_42 p.1) ?_
        refine wp_eq (P_isWord p (by decide) (by decide)) ?_
        refine wp_ite (fun c2 => wp_map (wp_some rfl)) (fun c2 => wp_some ?_)
        have z := (qW_01 f (g.2.1 44 a) (g.2.2 46 a) _).resolve_left c2
        show ¬ g.2.1 44 a = 0
        rw [z.2.2]
        decide
      · have z := (qW_01 f (g.2.1 44 a) (g.2.2 46 a) _).resolve_left c1
        show ¬ g.2.1 44 a = 0
        rw [z.2.2]
        decide
    rcases m5 with s5 | x5
    · refine wp_zsL ?_
      refine wp_zif (ob_42 p.1) ?_
      refine wp_eq (P_isWord p (by decide) (by decide)) ?_
      refine wp_eq (P_7 p) ?_
      refine wp_bind (P_take p p5) fun h15 p15 => ?_
      refine wp_zif (ob_42 p15.1) ?_
      refine wp_bind (P_test T _ _ _ _ _ _ p15 (by omega)) fun h17 p17 => ?_
      obtain ⟨a2, c2, f2, op2, one2, p17, q17⟩ := p17
      have b1 := q17.1
      have b3 := q17.2.2.1
      have b2 := q17.2.1
      refine wp_bind (R := fun r => 5 ≤ r ∧ r ≤ 11) ?_ (fun k pk => ?_)
      · exact wp_ite (fun _ => wp_some (by decide)) (fun _ => wp_some (by decide))
      refine wp_zif (ob_42 p17.1) ?_
      refine wp_bind (P_emit p17 (by omega)) fun h21 p21 => ?_
      have st := PQ_step pk h0 s q17
      have an : a2 ≤ nT := p17.2.1
      refine wp_mono (ih p21 (by omega) (fun e => (st.2.2.2.2 e).2) (by omega) (by omega)) fun r pr => ?_
      obtain ⟨a3, c3, f3, op3, one3, p3, q3⟩ := pr
      exact ⟨a3, c3, f3, op3, one3, p3, PQ_trans st q3⟩
    · have e5 : x5 = h := p5
      subst e5
      exact wp_zsR ⟨a, c, f, op, one, p, PQ_refl h0 s⟩
theorem P_all (T : TPok n b L xs τ g nT tp v1) : TPok n b L xs τ g nT (fun v0 v1 h => f_X12_all 10000 tp v0 v1 h) v1 := by
  intro a c f op one h p hc
  show wp (f_X12_all 10000 tp (n + 42) v1 h) _
  unfold f_X12_all
  refine wp_zif (ob_42 p.1) ?_
  refine wp_bind (P_test T _ _ _ _ _ _ p hc) fun h2 p2 => ?_
  obtain ⟨a2, c2, f2, op2, one2, p2, q2⟩ := p2
  have b1 := q2.1
  have b3 := q2.2.2.1
  have b9 := p2.2.2.2.2.1
  refine wp_bind (P_all_L5 T _ p2 q2.2.1 (fun e => (q2.2.2.2.2 e).2) (by omega) (by omega)) fun r pr => ?_
  obtain ⟨a3, c3, f3, op3, one3, p3, q3⟩ := pr
  exact wp_some ⟨a3, c3, f3, op3, one3, p3, PQ_trans q2 q3⟩
/-- a part that stands alone: its code is written, and it is taken -/
theorem PQ_one {a c : Nat} {f k x : Int32} {op one : Nat → Int32} (hf : f = 0) (hk : k = 1 ∨ (k = 2 ∧ 0 ≤ x ∧ x ≤ 10) ∨ (k = 3 ∧ 0 ≤ x ∧ x ≤ 7)) : PQ c a c f op one (a + 1) (c + 1) f (upd op (19200 + c) k) (upd one (19200 + c) x) := by
  refine ⟨by omega, by omega, by omega, fun i hi => ?_, fun e => ⟨e, ?_⟩⟩
  · rw [upd_lt hi, upd_lt hi]; exact ⟨rfl, rfl⟩
  · rw [show c + 1 - c = 1 by omega]
    refine SEG_one ?_
    rw [upd_at, upd_at]
    exact hk
theorem PQ_not {a c a2 c2 : Nat} {f f2 : Int32} {op one op2 one2 : Nat → Int32} (q : PQ c (a + 1) c f op one a2 c2 f2 op2 one2) : PQ c a c f op one a2 (c2 + 1) f2 (upd op2 (19200 + c2) 4) (upd one2 (19200 + c2) 0) := by
  obtain ⟨q1, q2, q3, q4, q5⟩ := q
  refine ⟨by omega, by omega, by omega, fun i hi => ?_, fun e => ?_⟩
  · rw [upd_lt (by omega), upd_lt (by omega)]
    exact q4 i hi
  · obtain ⟨e1, s2⟩ := q5 e
    refine ⟨e1, ?_⟩
    have s2' : SEG (upd op2 (19200 + c2) 4) (upd one2 (19200 + c2) 0) (19200 + c) (c2 - c) := SEG_congr s2 (fun j j1 j2 => by
      rw [upd_lt (by omega), upd_lt (by omega)]
      exact ⟨rfl, rfl⟩)
    rw [show c2 + 1 - c = (c2 - c) + 1 by omega]
    refine SEG_not s2' ?_
    rw [show 19200 + c + (c2 - c) = 19200 + c2 by omega, upd_at]
set_option maxHeartbeats 8000000 in
theorem P_takePart : ∀ (q d : Nat), d ≤ 4 → 5 ≤ q + d → TPok n b L xs τ g nT (fun v0 v1 h => f_X12_takePart 10000 q v0 v1 h) (nI d) := by
  intro q
  induction q with
  | zero => intro d hd hq; omega
  | succ q ih =>
    intro d hd hq a c f op one h p hc
    show wp (f_X12_takePart 10000 (q + 1) (n + 42) (nI d) h) _
    rw [f_X12_takePart.eq_2]
    have f0 := p.2.2.2.1
    refine wp_eq (P_8 p) ?_
    refine wp_ite (fun c1 => ?_) (fun c1 => wp_some ⟨a, c, f, op, one, p, Nat.le_refl _, Nat.le_refl _, by omega, fun _ _ => ⟨rfl, rfl⟩, fun e => absurd (show f ≤ 0 by rw [e]; decide) c1⟩)
    have hf : f = 0 := by lia
    refine wp_bind (P_L13 p _ (Or.inl rfl) (by decide) (mu_0 (by decide))) fun m8 p8 => ?_
    refine wp_eq (gR_42_4 p.1) ?_
    refine wp_eq (P_7 p) ?_
    refine wp_eq (P_S p) ?_
    refine wp_bind (R := fun r => (r = 1 ∧ g.2.1 44 a = 2) ∨ (r = 0 ∧ ¬ g.2.1 44 a = 2)) ?_ (fun m12 p12 => ?_)
    · exact wp_ite (fun z => wp_some (Or.inl ⟨rfl, z⟩)) (fun z => wp_some (Or.inr ⟨rfl, z⟩))
    refine wp_zif (ob_42 p.1) ?_
    obtain ⟨qN, eN, pN⟩ := P_isName p
    refine wp_eq eN ?_
    refine wp_bind (R := fun r => (qN = 0 ∧ r = -1) ∨ (¬ qN = 0 ∧ -1 ≤ r ∧ r ≤ 7)) ?_ (fun m16 p16 => ?_)
    · refine wp_ite (fun z => wp_some (Or.inl ⟨z, rfl⟩)) (fun z => ?_)
      refine wp_zif (ob_42 p.1) ?_
      exact wp_bind (P_findName p) fun r pr => wp_some (Or.inr ⟨z, pr⟩)
    have eS := P_isSign p (v := 40)
    have eW := P_isWord p (v := 9) (by decide) (by decide)
    refine wp_bind (R := fun r => (r = h ∧ ¬ nI d = 4 ∧ (0 ≤ m8 ∨ ¬ m12 = 0 ∨ ¬ qN = 0 ∨ ¬ qS f (g.2.1 44 a) (g.2.2 46 a) 40 = 0 ∨ ¬ qW f (g.2.1 44 a) (g.2.2 46 a) (g.2.2 47 (9 : Int32).toNatClampNeg) = 0) ∧ (¬ qN = 0 → 0 ≤ m16)) ∨ (∃ f', ¬ f' = 0 ∧ PW n b L xs τ g nT a c f' op one r)) ?_ (fun m20 p20 => ?_)
    · have dep : ∀ (s : zH), s = h → (0 ≤ m8 ∨ ¬ m12 = 0 ∨ ¬ qN = 0 ∨ ¬ qS f (g.2.1 44 a) (g.2.2 46 a) 40 = 0 ∨ ¬ qW f (g.2.1 44 a) (g.2.2 46 a) (g.2.2 47 (9 : Int32).toNatClampNeg) = 0) → (¬ qN = 0 → 0 ≤ m16) → wp (if nI d = 4 then (zif (zob s (n + 42) 12) <| (f_X12_wrong 10000 (n + 42) 5 s).bind fun h33 => some h33) else (some s)) (fun r => (r = h ∧ ¬ nI d = 4 ∧ (0 ≤ m8 ∨ ¬ m12 = 0 ∨ ¬ qN = 0 ∨ ¬ qS f (g.2.1 44 a) (g.2.2 46 a) 40 = 0 ∨ ¬ qW f (g.2.1 44 a) (g.2.2 46 a) (g.2.2 47 (9 : Int32).toNatClampNeg) = 0) ∧ (¬ qN = 0 → 0 ≤ m16)) ∨ (∃ f', ¬ f' = 0 ∧ PW n b L xs τ g nT a c f' op one r)) := by
        intro s es k1 k2
        subst es
        refine wp_ite (fun z => ?_) (fun z => wp_some (Or.inl ⟨rfl, z, k1, k2⟩))
        refine wp_zif (ob_42 p.1) ?_
        exact wp_bind (P_wrong p (by decide) (by decide)) fun r pr => wp_some (Or.inr pr)
      refine wp_ite (fun z8 => ?_) (fun z8 => ?_)
      · refine wp_zif (ob_42 p.1) ?_
        refine wp_eq eN ?_
        refine wp_bind (R := fun r => match r with | .inl x => x = h ∧ (¬ qN = 0 → 0 ≤ m16) | .inr x => ∃ f', ¬ f' = 0 ∧ PW n b L xs τ g nT a c f' op one x) ?_ (fun m24 p24 => ?_)
        · refine wp_ite (fun y => wp_some ⟨rfl, fun z => absurd y z⟩) (fun y => ?_)
          refine wp_ite (fun y2 => wp_some ⟨rfl, fun _ => y2⟩) (fun y2 => ?_)
          refine wp_zif (ob_42 p.1) ?_
          exact wp_bind (P_wrong p (by decide) (by decide)) fun r pr => wp_map (wp_some pr)
        rcases m24 with s25 | x25
        · exact wp_zsL (dep s25 p24.1 (Or.inl z8) p24.2)
        · exact wp_zsR (Or.inr p24)
      · refine wp_bind (R := fun r => match r with | .inl x => x = h ∧ (0 ≤ m8 ∨ ¬ m12 = 0 ∨ ¬ qN = 0 ∨ ¬ qS f (g.2.1 44 a) (g.2.2 46 a) 40 = 0 ∨ ¬ qW f (g.2.1 44 a) (g.2.2 46 a) (g.2.2 47 (9 : Int32).toNatClampNeg) = 0) | .inr x => ∃ f', ¬ f' = 0 ∧ PW n b L xs τ g nT a c f' op one x) ?_ (fun m34 p34 => ?_)
        · refine wp_ite (fun y => ?_) (fun y => wp_some ⟨rfl, Or.inr (Or.inl y)⟩)
          refine wp_zif (ob_42 p.1) ?_
          refine wp_eq eN ?_
          refine wp_ite (fun y2 => ?_) (fun y2 => wp_some ⟨rfl, Or.inr (Or.inr (Or.inl y2))⟩)
          refine wp_zif (ob_42 p.1) ?_
          refine wp_eq eS ?_
          refine wp_ite (fun y3 => ?_) (fun y3 => wp_some ⟨rfl, Or.inr (Or.inr (Or.inr (Or.inl y3)))⟩)
          refine wp_zif (ob_42 p.1) ?_
          refine wp_eq eW ?_
          refine wp_ite (fun y4 => ?_) (fun y4 => wp_some ⟨rfl, Or.inr (Or.inr (Or.inr (Or.inr y4)))⟩)
          refine wp_zif (ob_42 p.1) ?_
          exact wp_bind (P_wrong p (by decide) (by decide)) fun r pr => wp_map (wp_some pr)
        rcases m34 with s35 | x35
        · obtain ⟨e35, k35⟩ := p34
          subst e35
          refine wp_zsL ?_
          refine wp_zif (ob_42 p.1) ?_
          refine wp_eq eN ?_
          refine wp_bind (R := fun r => match r with | .inl x => x = s35 ∧ (¬ qN = 0 → 0 ≤ m16) | .inr x => ∃ f', ¬ f' = 0 ∧ PW n b L xs τ g nT a c f' op one x) ?_ (fun m24 p24 => ?_)
          · refine wp_ite (fun y => wp_some ⟨rfl, fun z => absurd y z⟩) (fun y => ?_)
            refine wp_ite (fun y2 => wp_some ⟨rfl, fun _ => y2⟩) (fun y2 => ?_)
            refine wp_zif (ob_42 p.1) ?_
            exact wp_bind (P_wrong p (by decide) (by decide)) fun r pr => wp_map (wp_some pr)
          rcases m24 with s25 | x25
          · exact wp_zsL (dep s25 p24.1 k35 p24.2)
          · exact wp_zsR (Or.inr p24)
        · exact wp_zsR (Or.inr p34)
    rcases p20 with ⟨e20, nd, kk, kn⟩ | ⟨f', nf, p20⟩
    · subst e20
      have d4 : d < 4 := by
        have : d ≠ 4 := fun e => nd (by rw [e]; rfl)
        omega
      have ed : nI d + 1 = nI (d + 1) := nI_1 d
      refine wp_eq (P_8 p) ?_
      refine wp_ite (fun _ => ?_) (fun z => absurd c1 z)
      refine wp_zif (ob_42 p.1) ?_
      refine wp_bind (P_hasWord p (by decide) (by decide)) fun q64 p64 => ?_
      obtain ⟨e64, p64⟩ := p64
      refine wp_ite (fun c64 => ?_) (fun c64 => ?_)
      · have pa := (p64.resolve_right (fun z => z.1 c64)).2
        refine wp_zif (ob_42 pa.1) ?_
        refine wp_bind (P_hasSign pa) fun q67 p67 => ?_
        obtain ⟨e67, p67⟩ := p67
        refine wp_ite (fun c67 => ?_) (fun c67 => ?_)
        · have pb := (p67.resolve_right (fun z => z.1 c67)).2
          refine wp_bind (R := fun r => (r = 1 ∧ ¬ m12 = 0) ∨ (r = 2 ∧ m12 = 0 ∧ m16 < 0) ∨ (r = 3 ∧ m12 = 0 ∧ ¬ m16 < 0)) ?_ (fun m69 p69 => ?_)
          · refine wp_ite (fun y => ?_) (fun y => wp_some (Or.inl ⟨rfl, y⟩))
            exact wp_ite (fun y2 => wp_some (Or.inr (Or.inl ⟨rfl, y, y2⟩))) (fun y2 => wp_some (Or.inr (Or.inr ⟨rfl, y, y2⟩)))
          refine wp_bind (R := fun r => (m12 = 0 → (m16 < 0 → r = m8) ∧ (¬ m16 < 0 → r = m16))) ?_ (fun m72 p72 => ?_)
          · refine wp_ite (fun y => ?_) (fun y => ?_)
            · exact wp_ite (fun y2 => wp_some (fun _ => ⟨fun _ => rfl, fun z => absurd y2 z⟩)) (fun y2 => wp_some (fun _ => ⟨fun z => absurd z y2, fun _ => rfl⟩))
            · refine wp_eq (gR_42_6 pb.1) ?_
              refine wp_eq (P_7 pb) ?_
              refine wp_eq (P_V pb) ?_
              exact wp_some (fun z => absurd z y)
          refine wp_zif (ob_42 pb.1) ?_
          refine wp_bind (P_emit pb hc) fun h79 p79 => ?_
          refine wp_eq (P_7 p79) ?_
          have fin : (m69 = 1 ∨ (m69 = 2 ∧ 0 ≤ m72 ∧ m72 ≤ 10) ∨ (m69 = 3 ∧ 0 ≤ m72 ∧ m72 ≤ 7)) ∧ ¬ g.2.1 44 a = 0 := by
            rcases p69 with ⟨x1, x2⟩ | ⟨x1, x2, x3⟩ | ⟨x1, x2, x3⟩
            · refine ⟨Or.inl x1, ?_⟩
              rcases p12 with p12 | p12
              · rw [p12.2]; decide
              · exact absurd p12.1 x2
            · have e72 := (p72 x2).1 x3
              have z8 : 0 ≤ m8 := by
                rcases kk with k | k | k | k | k
                · exact k
                · exact absurd x2 k
                · exact absurd (kn k) (by lia)
                · rw [e67] at c67; exact absurd c67 k
                · rw [e64] at c64; exact absurd c64 k
              rcases p8 with p8 | p8
              · rw [p8] at z8; exact absurd z8 (by decide)
              · refine ⟨Or.inr (Or.inl ⟨x1, by rw [e72]; exact p8.1, by rw [e72]; exact p8.2.1⟩), ?_⟩
                rw [p8.2.2]
                decide
            · have e72 := (p72 x2).2 x3
              rcases p16 with p16 | p16
              · rw [p16.2] at x3; exact absurd (by decide) x3
              · refine ⟨Or.inr (Or.inr ⟨x1, by rw [e72]; lia, by rw [e72]; exact p16.2.2⟩), ?_⟩
                rcases pN with pN | pN
                · exact absurd pN p16.1
                · rw [pN.2.2]; decide
          refine wp_bind (P_take p79 fin.2) fun h81 p81 => ?_
          exact wp_some ⟨_, _, _, _, _, p81, PQ_one hf fin.1⟩
        · have pb := (p67.resolve_left (fun z => c67 z.1)).2.2
          refine wp_zif (ob_42 pb.1) ?_
          rw [ed]
          refine wp_bind (P_all (ih (d + 1) (by omega) (by omega)) _ _ _ _ _ _ pb (by omega)) fun h83 p83 => ?_
          obtain ⟨a2, c2, f2, op2, one2, p83, q83⟩ := p83
          refine wp_zif (ob_42 p83.1) ?_
          refine wp_bind (P_takeSign p83) fun h85 p85 => ?_
          obtain ⟨a3, f3, p85, l3, ff⟩ := p85
          obtain ⟨y1, y2, y3, y4, y5⟩ := q83
          exact wp_some ⟨a3, c2, f3, op2, one2, p85, by omega, y2, by omega, y4, fun e => y5 (ff e)⟩
      · have pa := (p64.resolve_left (fun z => c64 z.1)).2.2
        refine wp_zif (ob_42 pa.1) ?_
        rw [ed]
        refine wp_bind (ih (d + 1) (by omega) (by omega) _ _ _ _ _ _ pa (by omega)) fun h87 p87 => ?_
        obtain ⟨a2, c2, f2, op2, one2, p87, q87⟩ := p87
        have y1 := q87.1
        have y3 := q87.2.2.1
        refine wp_zif (ob_42 p87.1) ?_
        refine wp_bind (P_emit p87 (by omega)) fun h89 p89 => ?_
        exact wp_some ⟨_, _, _, _, _, p89, PQ_not q87⟩
    · have f0' := p20.2.2.2.1
      refine wp_eq (P_8 p20) ?_
      refine wp_ite (fun z => absurd (show f' = 0 by lia) nf) (fun z => ?_)
      exact wp_some ⟨a, c, f', op, one, p20, Nat.le_refl _, Nat.le_refl _, by omega, fun _ _ => ⟨rfl, rfl⟩, fun e => absurd e nf⟩
end EXPR
