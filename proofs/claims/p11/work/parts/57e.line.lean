/-! the reference's reader: lines -/
def EXP (op one : Nat → Int32) (i e : Nat) (o : List Nat) : Prop := SEG op one i o.length ∧ LST op one i o ∧ op (i + o.length) = 0 ∧ i + o.length < e
theorem EXP_keep {op one op' one' : Nat → Int32} {i e e' : Nat} {o : List Nat} (x : EXP op one i e o) (he : e ≤ e') (hq : ∀ j, j < e → op' j = op j ∧ one' j = one j) : EXP op' one' i e' o := by
  obtain ⟨s, l, z, lt⟩ := x
  exact ⟨SEG_congr s (fun j j1 j2 => hq j (by omega)), LST_congr o i i l (fun j hj => hq _ (by omega)), ((hq _ lt).1).trans z, by omega⟩
def cz (f : Nat → Int32) (base : Nat) : Nat → Nat
  | 0 => 0
  | k + 1 => cz f base k + (if f (base + k) = 0 then 1 else 0)
theorem cz_shift {f f' : Nat → Int32} {base base' : Nat} : ∀ (k : Nat), (∀ j, j < k → f' (base' + j) = f (base + j)) → cz f' base' k = cz f base k := by
  intro k
  induction k with
  | zero => intro _; rfl
  | succ k ih =>
    intro hq
    unfold cz
    rw [ih (fun j hj => hq j (by omega)), hq k (by omega)]
theorem gP_17 (g : zGh) (a c : Nat) (f x : Int32) (op one : Nat → Int32) : gset (gP g a c f op one) 42 17 x = gP (gset g 42 17 x) a c f op one := by
  unfold gP
  rw [gset_comm _ 42 _ _ (by decide : 19 ≠ 17), gset_comm _ 42 _ _ (by decide : 8 ≠ 17), gset_comm _ 42 _ _ (by decide : 7 ≠ 17)]
  rfl
theorem gP_A (g : zGh) (a c : Nat) (f : Int32) (op one x : Nat → Int32) {j : Nat} (h1 : j ≠ 55) (h2 : j ≠ 56) : gsA (gP g a c f op one) j x = gP (gsA g j x) a c f op one := by
  refine Prod.ext rfl (Prod.ext ?_ rfl)
  funext p
  show (if p = j then x else if p = 56 then one else if p = 55 then op else g.2.1 p) = (if p = 56 then one else if p = 55 then op else if p = j then x else g.2.1 p)
  by_cases e : p = j
  · subst e; simp [h1, h2]
  · simp [e]
/-- what a line may change -/
def DG (g g' : zGh) : Prop := (∀ j, j ≠ 42 → g'.1 j = g.1 j) ∧ (∀ k, k ≠ 17 → g'.1 42 k = g.1 42 k) ∧ (∀ j, j ≠ 50 → j ≠ 51 → j ≠ 52 → j ≠ 53 → g'.2.1 j = g.2.1 j) ∧ (∀ k, k ≠ 16 → g'.2.1 50 k = g.2.1 50 k) ∧ (∀ k, k < 320 → g'.2.1 51 k = g.2.1 51 k ∧ g'.2.1 53 k = g.2.1 53 k ∧ g'.2.1 52 k = g.2.1 52 k) ∧ (∀ j, j ≠ 54 → g'.2.2 j = g.2.2 j)
theorem DG_id (g : zGh) : DG g g := ⟨fun _ _ => rfl, fun _ _ => rfl, fun _ _ _ _ _ => rfl, fun _ _ => rfl, fun _ _ => ⟨rfl, rfl, rfl⟩, fun _ _ => rfl⟩
theorem DG_trans {g g1 g2 : zGh} (p : DG g g1) (q : DG g1 g2) : DG g g2 := by
  obtain ⟨p1, p2, p3, p4, p5, p6⟩ := p
  obtain ⟨q1, q2, q3, q4, q5, q6⟩ := q
  exact ⟨fun j hj => (q1 j hj).trans (p1 j hj), fun k hk => (q2 k hk).trans (p2 k hk), fun j a c d e => (q3 j a c d e).trans (p3 j a c d e), fun k hk => (q4 k hk).trans (p4 k hk), fun k hk => ⟨(q5 k hk).1.trans (p5 k hk).1, (q5 k hk).2.1.trans (p5 k hk).2.1, (q5 k hk).2.2.trans (p5 k hk).2.2⟩, fun j hj => (q6 j hj).trans (p6 j hj)⟩
theorem DG_17 (g : zGh) (x : Int32) : DG g (gset g 42 17 x) := by
  refine ⟨fun j hj => gset_out hj, fun k hk => ?_, fun _ _ _ _ _ => rfl, fun _ _ => rfl, fun _ _ => ⟨rfl, rfl, rfl⟩, fun _ _ => rfl⟩
  rw [gset_in]
  unfold upd
  rw [if_neg hk]
theorem gsA_in (g : zGh) (j : Nat) (x : Nat → Int32) : (gsA g j x).2.1 j = x := if_pos rfl
theorem gsA_out {g : zGh} {j i : Nat} {x : Nat → Int32} (e : i ≠ j) : (gsA g j x).2.1 i = g.2.1 i := if_neg e
theorem upd_ne {f : Nat → Int32} {k i : Nat} {x : Int32} (h : i ≠ k) : upd f k x i = f i := by
  unfold upd
  rw [if_neg h]
theorem DG_50 (g : zGh) (x : Int32) : DG g (gsA g 50 (upd (g.2.1 50) 16 x)) := by
  refine ⟨fun _ _ => rfl, fun _ _ => rfl, fun j a c d e => gsA_out a, fun k hk => ?_, fun k hk => ⟨congrFun (gsA_out (by decide)) k, congrFun (gsA_out (by decide)) k, congrFun (gsA_out (by decide)) k⟩, fun _ _ => rfl⟩
  rw [gsA_in, upd_ne hk]
theorem DG_51 (g : zGh) {i : Nat} (hi : 320 ≤ i) (x : Int32) : DG g (gsA g 51 (upd (g.2.1 51) i x)) := by
  refine ⟨fun _ _ => rfl, fun _ _ => rfl, fun j a c d e => gsA_out c, fun k hk => congrFun (gsA_out (by decide)) k, fun k hk => ⟨?_, congrFun (gsA_out (by decide)) k, congrFun (gsA_out (by decide)) k⟩, fun _ _ => rfl⟩
  rw [gsA_in, upd_ne (by omega)]
theorem DG_53 (g : zGh) {i : Nat} (hi : 320 ≤ i) (x : Int32) : DG g (gsA g 53 (upd (g.2.1 53) i x)) := by
  refine ⟨fun _ _ => rfl, fun _ _ => rfl, fun j a c d e => gsA_out e, fun k hk => congrFun (gsA_out (by decide)) k, fun k hk => ⟨congrFun (gsA_out (by decide)) k, ?_, congrFun (gsA_out (by decide)) k⟩, fun _ _ => rfl⟩
  rw [gsA_in, upd_ne (by omega)]
theorem DG_54 (g : zGh) (x : Nat → Int64) : DG g (gsL g 54 x) := ⟨fun _ _ => rfl, fun _ _ => rfl, fun _ _ _ _ _ => rfl, fun _ _ => rfl, fun _ _ => ⟨rfl, rfl, rfl⟩, fun _ hj => if_neg hj⟩
theorem DG_52 (g : zGh) {i : Nat} (hi : 320 ≤ i) (x : Int32) : DG g (gsA g 52 (upd (g.2.1 52) i x)) := by
  refine ⟨fun _ _ => rfl, fun _ _ => rfl, fun j a c d e => gsA_out d, fun k hk => congrFun (gsA_out (by decide)) k, fun k hk => ⟨congrFun (gsA_out (by decide)) k, congrFun (gsA_out (by decide)) k, ?_⟩, fun _ _ => rfl⟩
  rw [gsA_in, upd_ne (by omega)]
theorem exQ_ok {tk : Nat → Nat} {v : Nat} {r : RfS} (h : (exQ tk v r).2 = 0) : (exQ tk v r).1 = r.1 + 1 := by
  have h0 := exQ_0 h
  unfold exQ at h ⊢
  rw [if_neg (fun z => z h0)] at h ⊢
  by_cases z : tk r.1 = v
  · rw [if_pos z]
  · rw [if_neg z] at h
    exact absurd h (by simp)
theorem gP_L (g : zGh) (a c : Nat) (f : Int32) (op one : Nat → Int32) (j : Nat) (x : Nat → Int64) : gsL (gP g a c f op one) j x = gP (gsL g j x) a c f op one := rfl
theorem RT_keep {g g' : zGh} {tk nu : Nat → Nat} {nT : Nat} (R : RT g tk nu nT) (d : DG g g') : RT g' tk nu nT := by
  have e44 : g'.2.1 44 = g.2.1 44 := d.2.2.1 44 (by decide) (by decide) (by decide) (by decide)
  have e46 : g'.2.2 46 = g.2.2 46 := d.2.2.2.2.2 46 (by decide)
  have e47 : g'.2.2 47 = g.2.2 47 := d.2.2.2.2.2 47 (by decide)
  obtain ⟨r1, r2, r3, r4, r5, r6⟩ := R
  refine ⟨?_, ?_, ?_, ?_, ?_, ?_⟩
  · rw [e44, e46]; exact r1
  · rw [e44, e46, e47]; exact r2
  · rw [e44]; exact r3
  · rw [e46]; exact r4
  · rw [e44, e46, e47]; exact r5
  · rw [e44]; exact r6
theorem eR_k {tk : Nat → Nat} {kn : Nat → Bool} {a k : Nat} (h : ¬ k = 0) : qAll tk (qPart tk kn 10000 6 0) 10000 (a, k) = (a, k) := by
  have e1 : qPart tk kn 10000 6 0 (a, k) = (a, k) := qPart_k h
  have e2 : qProd tk (qPart tk kn 10000 6 0) 10000 (a, k) = (a, k) := by
    show qStar tk (qPart tk kn 10000 6 0) 10000 (qPart tk kn 10000 6 0 (a, k)) = _
    rw [e1]
    exact qStar_no (m := 9999) (fun z => h z.1)
  have e3 : qSum tk (qPart tk kn 10000 6 0) 10000 (a, k) = (a, k) := by
    show qPlus tk (qPart tk kn 10000 6 0) 10000 10000 (qProd tk (qPart tk kn 10000 6 0) 10000 (a, k)) = _
    rw [e2]
    exact qPlus_no (m := 9999) (fun z => h z.1)
  have e4 : qTest tk (qPart tk kn 10000 6 0) 10000 (a, k) = (a, k) := by
    unfold qTest
    rw [e3, if_neg (fun z => h z.1)]
  show qAnd tk (qPart tk kn 10000 6 0) 10000 10000 (qTest tk (qPart tk kn 10000 6 0) 10000 (a, k)) = _
  rw [e4]
  exact qAnd_no (m := 9999) (fun z => h z.1)
/-- at the end of a line it is the same whether a second comparison was found before or not -/
theorem exQ_e {tk : Nat → Nat} {kn : Nat → Bool} (r : RfS) : exQ tk 59 (qAll tk (qPart tk kn 10000 6 0) 10000 r) = exQ tk 59 (eQ tk kn r) := by
  obtain ⟨a, k⟩ := r
  unfold eQ
  by_cases z : ¬ k = 0
  · rw [if_pos (show ¬ ((a, k) : RfS).2 = 0 from z), eR_k z]
  · have z0 : k = 0 := Decidable.not_not.mp z
    subst z0
    rw [if_neg (show ¬ ¬ ((a, 0) : RfS).2 = 0 from z)]
    show exQ tk 59 (qAll tk (qPart tk kn 10000 6 0) 10000 (a, 0)) = exQ tk 59 (if ¬ (qAll tk (qPart tk kn 10000 6 0) 10000 (a, 0)).2 = 0 then qAll tk (qPart tk kn 10000 6 0) 10000 (a, 0) else if rk (tk (qAll tk (qPart tk kn 10000 6 0) 10000 (a, 0)).1) = 0 then qAll tk (qPart tk kn 10000 6 0) 10000 (a, 0) else ((qAll tk (qPart tk kn 10000 6 0) 10000 (a, 0)).1, 1))
    generalize qAll tk (qPart tk kn 10000 6 0) 10000 (a, 0) = u
    obtain ⟨a2, k2⟩ := u
    show exQ tk 59 (a2, k2) = exQ tk 59 (if ¬ k2 = 0 then (a2, k2) else if rk (tk a2) = 0 then (a2, k2) else (a2, 1))
    by_cases y : ¬ k2 = 0
    · rw [if_pos y]
    · have y0 : k2 = 0 := Decidable.not_not.mp y
      subst y0
      rw [if_neg y]
      by_cases x : rk (tk a2) = 0
      · rw [if_pos x]
      · rw [if_neg x]
        have n59 : ¬ tk a2 = 59 := fun e => x (by rw [e]; rfl)
        rw [exQ_no (fun e => n59 e.2), exQ_no (fun e => absurd e.1 (by decide))]
        rfl
theorem o64_lt {a b : Nat} (ha : a < 2 ^ 40) (hb : b < 2 ^ 40) : Int64.ofNat a < Int64.ofNat b ↔ a < b := by
  rw [Int64.lt_iff_toInt_lt, Int64.toInt_ofNat_of_lt (by omega), Int64.toInt_ofNat_of_lt (by omega)]
  omega
theorem o64_le {a b : Nat} (ha : a < 2 ^ 40) (hb : b < 2 ^ 40) : Int64.ofNat a ≤ Int64.ofNat b ↔ a ≤ b := by
  rw [Int64.le_iff_toInt_le, Int64.toInt_ofNat_of_lt (by omega), Int64.toInt_ofNat_of_lt (by omega)]
  omega
section LINE
variable {n b L : Nat} {xs : Nat → Int32} {τ : Nat → Nat} {g : zGh} {h : zH} {nT a k c : Nat} {op one : Nat → Int32} {tk nu : Nat → Nat} {kn : Nat → Bool} {ix : Nat → Nat} {M : Nat}
theorem P_44 {g' : zGh} {r : zH} {a' k' c' : Nat} {op' one' : Nat → Int32} (p : PW n b L xs τ g nT a k c op one h) (w : WT n b L xs τ (gP g' a' c' (FV (g.2.1 45) a' k') op' one') r) (h1 : a' ≤ nT) (h2 : c' ≤ a') (h3 : k' ≤ 5) (d : g'.2.1 44 = g.2.1 44) (d5 : g'.2.1 45 = g.2.1 45) : PW n b L xs τ g' nT a' k' c' op' one' r := ⟨by rw [d5]; exact w, h1, h2, h3, p.2.2.2.2.1, by rw [d]; exact p.2.2.2.2.2⟩
theorem P_readTests (R : RT g tk nu nT) (K : KN g tk kn ix nT M) (p : PW n b L xs τ g nT a k c op one h) (hc : c + 1 ≤ a) : wp (f_X12_readTests 10000 (n + 42) h) (fun r => r.1 = nI (19200 + c) ∧ ∃ c' op' one', PW n b L xs τ g nT (qAll tk (qPart tk kn 10000 6 0) 10000 (a, k)).1 (qAll tk (qPart tk kn 10000 6 0) 10000 (a, k)).2 c' op' one' r.2 ∧ a ≤ (qAll tk (qPart tk kn 10000 6 0) 10000 (a, k)).1 ∧ c ≤ c' ∧ (∀ i, i < 19200 + c → op' i = op i ∧ one' i = one i) ∧ ((qAll tk (qPart tk kn 10000 6 0) 10000 (a, k)).2 = 0 → k = 0 ∧ EXP op' one' (19200 + c) (19200 + c') (qAllO tk (qPart tk kn 10000 6 0) (qPartO tk kn (lfN tk nu ix) 10000 6 0) 10000 a))) := by
  unfold f_X12_readTests
  refine wp_eq (P_19 p) ?_
  refine wp_zlet ?_
  refine wp_zif (ob_42 p.1) ?_
  have T := P_all R (P_takePart (n := n) (b := b) (L := L) (xs := xs) (τ := τ) R K 6 0 (by decide) (by decide))
  refine wp_bind (T _ _ _ _ _ _ p hc) fun h4 p4 => ?_
  generalize qAll tk (qPart tk kn 10000 6 0) 10000 (a, k) = s2 at p4
  obtain ⟨c2, op2, one2, p4, q1, q2, q3, q4, q5⟩ := p4
  refine wp_zif (ob_42 p4.1) ?_
  refine wp_bind (P_emit p4 (by omega)) fun h6 p6 => ?_
  refine wp_some ⟨nI_add 19200 c, c2 + 1, _, _, p6, q1, by omega, fun i hi => ?_, fun e => ?_⟩
  · rw [upd_lt (by omega), upd_lt (by omega)]
    exact q4 i hi
  · obtain ⟨e1, s, l, le⟩ := q5 e
    generalize qAllO tk (qPart tk kn 10000 6 0) (qPartO tk kn (lfN tk nu ix) 10000 6 0) 10000 a = o at l le
    rw [show c2 - c = o.length by omega] at s
    refine ⟨e1, SEG_congr s (fun j j1 j2 => ?_), LST_congr o _ _ l (fun j hj => ?_), ?_, by omega⟩
    · rw [upd_lt (by omega), upd_lt (by omega)]
      exact ⟨rfl, rfl⟩
    · rw [upd_lt (by omega), upd_lt (by omega)]
      exact ⟨rfl, rfl⟩
    · rw [show 19200 + c + o.length = 19200 + c2 by omega, upd_at]
def wfN (tk nu : Nat → Nat) (a : Nat) : RfS := if ¬ tk a = 201 then (a, 1) else if ¬ (1 ≤ nu a ∧ nu a ≤ 999) then (a, 4) else (a + 1, 0)
theorem P_takeNumber (R : RT g tk nu nT) (p : PW n b L xs τ g nT a 0 c op one h) : wp (f_X12_takeNumber 10000 (n + 42) 1 999 h) (fun r => PW n b L xs τ g nT (wfN tk nu a).1 (wfN tk nu a).2 c op one r.2 ∧ ((wfN tk nu a).2 = 0 → (wfN tk nu a).1 = a + 1 ∧ r.1 = nI (nu a))) := by
  unfold f_X12_takeNumber
  have ha := P_a p
  have p8 : gI h (n + 42) 12 8 = some 0 := P_8 p
  refine wp_eq p8 ?_
  refine wp_bind (R := fun r => (r = h ∧ tk a = 201 ∧ 1 ≤ nu a ∧ nu a ≤ 999) ∨ (∃ k', ¬ k' = 0 ∧ wfN tk nu a = (a, k') ∧ PW n b L xs τ g nT a k' c op one r)) ?_ (fun m2 p2 => ?_)
  · rw [if_pos rfl]
    refine wp_eq (gR_42_4 p.1) ?_
    refine wp_eq (P_7 p) ?_
    refine wp_eq (P_S p) ?_
    refine wp_ite (fun c2 => ?_) (fun c2 => ?_)
    · have t1 : tk a = 201 := (R.nb a p.2.1).mpr c2
      obtain ⟨v1, v2⟩ := R.nv a p.2.1 t1
      refine wp_eq p8 ?_
      rw [if_pos rfl]
      refine wp_eq (gR_42_6 p.1) ?_
      refine wp_eq (P_7 p) ?_
      refine wp_eq (P_V p) ?_
      have l1 : lg_cmp (g.2.2 46 a) (1 : Int32).toInt64 < 0 ↔ nu a < 1 := by
        rw [lg_cmp_lt, v1, show (1 : Int32).toInt64 = Int64.ofNat 1 by decide, o64_lt (by omega) (by decide)]
      have l2 : lg_cmp (g.2.2 46 a) (999 : Int32).toInt64 ≤ 0 ↔ nu a ≤ 999 := by
        rw [lg_cmp_le, v1, show (999 : Int32).toInt64 = Int64.ofNat 999 by decide, o64_le (by omega) (by decide)]
      refine wp_bind (R := fun r => match r with | .inl _ => ¬ (1 ≤ nu a ∧ nu a ≤ 999) | .inr x => x = h ∧ 1 ≤ nu a ∧ nu a ≤ 999) ?_ (fun m28 p28 => ?_)
      · refine wp_ite (fun z => wp_some (fun y => by have := l1.mp z; omega)) (fun z => ?_)
        refine wp_eq (gR_42_6 p.1) ?_
        refine wp_eq (P_7 p) ?_
        refine wp_eq (P_V p) ?_
        have z1 : 1 ≤ nu a := by
          have : ¬ nu a < 1 := fun y => z (l1.mpr y)
          omega
        exact wp_ite (fun y => wp_map (wp_some ⟨rfl, z1, l2.mp y⟩)) (fun y => wp_some (fun x => y (l2.mpr x.2)))
      rcases m28 with s | x
      · refine wp_zsL ?_
        refine wp_zif (ob_42 p.1) ?_
        refine wp_bind (P_wrong (v := 4) p (by decide) (by decide)) fun r pr => wp_some (Or.inr ⟨4, by decide, ?_, pr⟩)
        unfold wfN
        rw [if_neg (fun z => z t1), if_pos p28]
      · exact wp_zsR (Or.inl ⟨p28.1, t1, p28.2⟩)
    · have t1 : ¬ tk a = 201 := fun z => c2 ((R.nb a p.2.1).mp z)
      refine wp_zif (ob_42 p.1) ?_
      refine wp_bind (P_wrong (v := 1) p (by decide) (by decide)) fun r pr => wp_some (Or.inr ⟨1, by decide, ?_, pr⟩)
      unfold wfN
      rw [if_pos t1]
  rcases p2 with ⟨rfl, t1, t2⟩ | ⟨k', nk, e2, p2⟩
  · have e2 : wfN tk nu a = (a + 1, 0) := by
      unfold wfN
      rw [if_neg (fun z => z t1), if_neg (fun z => z t2)]
    rw [e2]
    refine wp_eq p8 ?_
    rw [if_pos (by decide)]
    refine wp_eq (P_7 p) ?_
    refine wp_bind (P_go R p (by omega)) fun h43 p43 => ?_
    refine wp_eq (gR_42_6 p43.1) ?_
    refine wp_eq (P_7 p43) ?_
    have e1 : nI (a + 1) - 1 = nI a := by
      rw [← nI_1]
      exact Int32.add_sub_cancel _ _
    rw [e1]
    have r := nI_r (show a ≤ 1000 by omega) (by decide : 1000 < 2 ^ 31)
    have e : nI 1000 = 1000 := rfl
    have e46 := A_46 p43.1 (i := nI a) r.1 (by lia)
    rw [nI_clamp (by omega)] at e46
    refine wp_eq e46 ?_
    obtain ⟨v1, v2⟩ := R.nv a p.2.1 t1
    refine wp_some ⟨p43, fun _ => ⟨rfl, ?_⟩⟩
    show (g.2.2 46 a).toInt32 = _
    rw [v1, o64_32 v2]
  · rw [e2]
    refine wp_eq (P_8 p2) ?_
    refine wp_ite (fun c1 => absurd ((P_le p2).mp c1) nk) (fun c1 => wp_some ⟨p2, fun e => absurd e nk⟩)
theorem P_takeWho_L4 (R : RT g tk nu nT) (p : PW n b L xs τ g nT a 0 c op one h) : ∀ (m j : Nat) {v1 : Int32}, j ≤ 4 → 4 - j < m → ((v1 < 0 ∧ ∀ i, i < j → ¬ tk a = pm (3 + i)) ∨ (0 ≤ v1 ∧ v1 = nI (tk a) ∧ ∃ i, i < j ∧ tk a = pm (3 + i))) → wp (f_X12_takeWho_L4 10000 (n + 42) h m v1 (nI j)) (fun r => (r < 0 ∧ ∀ i, i < 4 → ¬ tk a = pm (3 + i)) ∨ (0 ≤ r ∧ r = nI (tk a) ∧ ∃ i, i < 4 ∧ tk a = pm (3 + i))) := by
  intro m
  induction m with
  | zero => intro j v1 i1 i0; exact absurd i0 (Nat.not_lt_zero _)
  | succ m ih =>
    intro j v1 i1 i0 hv
    rw [f_X12_takeWho_L4.eq_2]
    by_cases c1 : 4 ≤ j
    · have e : j = 4 := by omega
      subst e
      rw [if_pos (show (4 : Int32) ≤ nI 4 by decide)]
      exact wp_some hv
    · rw [if_neg (show ¬ (4 : Int32) ≤ nI j from nnle (a := 4) (by omega) (by omega))]
      refine wp_zif (ob_42 p.1) ?_
      have e3 : (3 : Int32) + nI j = nI (3 + j) := nI_add 3 j
      rw [e3]
      refine wp_eq (P_isWord R p (show 3 + j < 21 by omega)) ?_
      rw [nI_1]
      refine wp_ite (fun c2 => ih (j + 1) (by omega) (by omega) ?_) (fun c2 => ?_)
      · have n2 : ¬ tk a = pm (3 + j) := fun z => tS_0 c2 ⟨rfl, z⟩
        rcases hv with ⟨h1, h2⟩ | ⟨h1, hw, i, h2, h3⟩
        · refine Or.inl ⟨h1, fun i hi => ?_⟩
          by_cases ei : i = j
          · rw [ei]; exact n2
          · exact h2 i (by omega)
        · exact Or.inr ⟨h1, hw, i, by omega, h3⟩
      · have jj : j = 0 ∨ j = 1 ∨ j = 2 ∨ j = 3 := by omega
        have nn : 0 ≤ nI (j + 1) - nI (j + 1) / 4 * 4 := by
          rcases jj with e | e | e | e <;> subst e <;> decide
        have nw : nI (j + 1) - nI (j + 1) / 4 * 4 = nI (tk a) := by
          rw [(tS_1 c2).2]
          rcases jj with e | e | e | e <;> subst e <;> decide
        exact wp_zlet (ih (j + 1) (by omega) (by omega) (Or.inr ⟨nn, nw, j, by omega, (tS_1 c2).2⟩))
theorem pm_who (t : Nat) : (∃ i, i < 4 ∧ t = pm (3 + i)) ↔ t ≤ 3 := by
  constructor
  · intro ⟨i, h1, h2⟩
    have : ∀ i, i < 4 → pm (3 + i) ≤ 3 := by decide
    rw [h2]
    exact this i h1
  · intro h
    have : ∀ t, t < 4 → ∃ i, i < 4 ∧ t = pm (3 + i) := by decide
    exact this t (by omega)
def wfW (tk : Nat → Nat) (a : Nat) : RfS := if ¬ tk a ≤ 3 then (a, 1) else (a + 1, 0)
theorem P_takeWho (R : RT g tk nu nT) (p : PW n b L xs τ g nT a 0 c op one h) : wp (f_X12_takeWho 10000 (n + 42) h) (fun r => PW n b L xs τ g nT (wfW tk a).1 (wfW tk a).2 c op one r.2 ∧ ((wfW tk a).2 = 0 → (wfW tk a).1 = a + 1 ∧ r.1 = nI (tk a))) := by
  unfold f_X12_takeWho
  refine wp_bind (P_takeWho_L4 R p 10000 0 (v1 := -1) (by decide) (by decide) (Or.inl ⟨by decide, fun i hi => absurd hi (Nat.not_lt_zero _)⟩)) fun m6 p6 => ?_
  unfold wfW
  rcases p6 with ⟨h1, h2⟩ | ⟨h1, hw, h2⟩
  · have n3 : ¬ tk a ≤ 3 := fun z => by
      obtain ⟨i, e1, e2⟩ := (pm_who (tk a)).mpr z
      exact h2 i e1 e2
    rw [if_pos n3]
    refine wp_ite (fun z => absurd h1 (Int32.not_lt.mpr z)) (fun _ => ?_)
    refine wp_zif (ob_42 p.1) ?_
    exact wp_bind (P_wrong (v := 1) p (by decide) (by decide)) fun r pr => wp_some ⟨pr, fun e => absurd e (by simp)⟩
  · have n3 : tk a ≤ 3 := (pm_who (tk a)).mp h2
    rw [if_neg (show ¬ ¬ tk a ≤ 3 from fun z => z n3)]
    refine wp_ite (fun _ => ?_) (fun z => absurd h1 z)
    refine wp_eq (P_7 p) ?_
    exact wp_bind (P_go R p (by omega)) fun h9 p9 => wp_some ⟨p9, fun _ => ⟨rfl, hw⟩⟩
/-- a line: its word, what it is for, its code -/
abbrev LnT : Type := Nat × Nat × List Nat
def lnA (ls : List LnT) (k : Nat) : LnT := ls.getD k (0, 0, [])
def kdR (t : Nat) : Int32 := if t = 4 then 0 else if t = 20 then 19 else 1
/-- a draft's lines -/
def DRF (g : zGh) (op one : Nat → Int32) (c : Nat) (ls : List LnT) : Prop := ls.length ≤ 20 ∧ g.2.1 50 16 = nI ls.length ∧ (∀ k, k < ls.length → (∃ q, g.2.1 53 (320 + k) = nI (19200 + q) ∧ EXP op one (19200 + q) (19200 + c) (lnA ls k).2.2) ∧ g.2.1 51 (320 + k) = kdR (lnA ls k).1 ∧ (¬ (lnA ls k).1 = 4 → g.2.1 52 (320 + k) = nI (lnA ls k).2.1)) ∧ g.1 42 17 = nI (cz (g.2.1 51) 320 ls.length) ∧ cz (g.2.1 51) 320 ls.length ≤ 8
/-- a name's line, behind its word -/
def ltQ (tk nu : Nat → Nat) (kn : Nat → Bool) (M a : Nat) : RfS := qAll tk (qPart tk kn 10000 6 0) 10000 (exQ tk 61 (wfQ tk nu kn M 4 a))
theorem wf4 (tk nu : Nat → Nat) (kn : Nat → Bool) (M a : Nat) : wfQ tk nu kn M 4 a = if ¬ tk a = 200 then (a, 1) else if kn a = true then (a, 3) else if 8 ≤ M then (a, 5) else (a + 1, 0) := by
  unfold wfQ
  rw [if_pos rfl]
theorem ltQ_w {x : Nat} (h : ¬ x = 0) (e : wfQ tk nu kn M 4 a = (a, x)) : ltQ tk nu kn M a = (a, x) := by
  unfold ltQ
  rw [e, exQ_no (fun z => h z.1), if_neg h]
  exact eR_k h
set_option maxHeartbeats 4000000 in
theorem P_readLet {i : Nat} (R : RT g tk nu nT) (K : KN g tk kn ix nT M) (p : PW n b L xs τ g nT a 0 c op one h) (hc : c + 1 ≤ a) (hi : i < 340) (hi0 : 320 ≤ i) : wp (f_X12_readLet 10000 (n + 42) (nI i) h) (fun r => ∃ g' c' op' one', PW n b L xs τ g' nT (ltQ tk nu kn M a).1 (ltQ tk nu kn M a).2 c' op' one' r ∧ a ≤ (ltQ tk nu kn M a).1 ∧ c ≤ c' ∧ DG g g' ∧ (∀ j, j < 19200 + c → op' j = op j ∧ one' j = one j) ∧ ((ltQ tk nu kn M a).2 = 0 → g'.2.1 50 = g.2.1 50 ∧ g'.2.1 51 = g.2.1 51 ∧ (∀ k, k ≠ i → g'.2.1 53 k = g.2.1 53 k) ∧ g'.2.1 53 i = nI (19200 + c) ∧ EXP op' one' (19200 + c) (19200 + c') (qAllO tk (qPart tk kn 10000 6 0) (qPartO tk kn (lfN tk nu ix) 10000 6 0) 10000 (a + 2)) ∧ g.1 42 17 < 8 ∧ g'.1 42 17 = g.1 42 17 + 1 ∧ g'.2.2 54 = vp_updL (g.2.2 54) M (g.2.2 46 a) ∧ M < 8 ∧ tk a = 200 ∧ g'.2.1 52 = g.2.1 52 ∧ ¬ kn a = true)) := by
  unfold f_X12_readLet
  have hM := K.1
  have eM := K.2.1
  have rn := gr_42_17 p.1
  have en : (gP g a c (FV (g.2.1 45) a 0) op one).1 42 17 = g.1 42 17 := rfl
  rw [en] at rn
  refine wp_zif (ob_42 p.1) ?_
  have eN := P_isName R p
  refine wp_eq eN ?_
  refine wp_bind (R := fun r => (r = h ∧ tk a = 200 ∧ M < 8 ∧ wfQ tk nu kn M 4 a = (a + 1, 0) ∧ ¬ kn a = true) ∨ (∃ k', ¬ k' = 0 ∧ wfQ tk nu kn M 4 a = (a, k') ∧ PW n b L xs τ g nT a k' c op one r)) ?_ (fun m3 p3 => ?_)
  · refine wp_ite (fun c1 => ?_) (fun c1 => ?_)
    · have n2 : ¬ tk a = 200 := fun z => tS_0 c1 ⟨rfl, z⟩
      refine wp_zif (ob_42 p.1) ?_
      refine wp_bind (P_wrong (v := 1) p (by decide) (by decide)) fun r pr => wp_some (Or.inr ⟨1, by decide, ?_, pr⟩)
      rw [wf4, if_pos n2]
    · have t2 := (tS_1 c1).2
      refine wp_zif (ob_42 p.1) ?_
      refine wp_bind (P_findName K p t2) fun q6 p6 => ?_
      refine wp_ite (fun c2 => ?_) (fun c2 => ?_)
      · have nk : ¬ kn a = true := fun z => by
          have := p6.2.2.1.mpr z
          lia
        refine wp_eq (E_42_17 p.1) ?_
        refine wp_ite (fun c3 => ?_) (fun c3 => wp_some (Or.inl ⟨rfl, t2, ?_, ?_, nk⟩))
        · have e8 : M = 8 := nI_inj (by omega) (by decide) ((eM.symm.trans c3).trans (rfl : (8 : Int32) = nI 8))
          refine wp_zif (ob_42 p.1) ?_
          refine wp_bind (P_wrong (v := 5) p (by decide) (by decide)) fun r pr => wp_some (Or.inr ⟨5, by decide, ?_, pr⟩)
          rw [wf4, if_neg (fun z => z t2), if_neg nk, if_pos (by omega)]
        · have : M ≠ 8 := fun e => c3 (eM.trans (by rw [e]; rfl))
          omega
        · have : M ≠ 8 := fun e => c3 (eM.trans (by rw [e]; rfl))
          rw [wf4, if_neg (fun z => z t2), if_neg nk, if_neg (by omega)]
      · have nk : kn a = true := p6.2.2.1.mp (by lia)
        refine wp_zif (ob_42 p.1) ?_
        refine wp_bind (P_wrong (v := 3) p (by decide) (by decide)) fun r pr => wp_some (Or.inr ⟨3, by decide, ?_, pr⟩)
        rw [wf4, if_neg (fun z => z t2), if_pos nk]
  rcases p3 with ⟨rfl, t2, m8, ew, nkn⟩ | ⟨k', nk, ew, p3⟩
  · have elt : ltQ tk nu kn M a = qAll tk (qPart tk kn 10000 6 0) 10000 (exQ tk 61 (a + 1, 0)) := by
      unfold ltQ
      rw [ew]
    rw [elt]
    refine wp_eq (P_8 p) ?_
    refine wp_ite (fun _ => ?_) (fun z => absurd ((P_le p).mpr rfl) z)
    refine wp_eq (gR_42_6 p.1) ?_
    refine wp_eq (P_7 p) ?_
    refine wp_eq (P_V p) ?_
    refine wp_eq (P_7 p) ?_
    refine wp_bind (P_go R p (by omega)) fun h22 p22 => ?_
    refine wp_zif (ob_42 p22.1) ?_
    refine wp_bind (P_takeSign (v := 61) R p22 (by decide) (by decide)) fun h24 p24 => ?_
    have l3 : a + 1 ≤ (exQ tk 61 (a + 1, 0)).1 := exQ_le (s := (a + 1, 0))
    have ok3 : (exQ tk 61 (a + 1, 0)).2 = 0 → (exQ tk 61 (a + 1, 0)).1 = a + 1 + 1 := fun e => exQ_ok e
    generalize exQ tk 61 (a + 1, 0) = s3 at p24 l3 ok3
    obtain ⟨a3, k3⟩ := s3
    have ok3 : k3 = 0 → a3 = a + 2 := ok3
    have p24 : PW n b L xs τ g nT a3 k3 c op one h24 := p24
    have l3 : a + 1 ≤ a3 := l3
    refine wp_eq (gR_42_16 p24.1) ?_
    refine wp_zif (ob_42 p24.1) ?_
    refine wp_bind (P_readTests R K p24 (by omega)) fun q27 p27 => ?_
    generalize qAll tk (qPart tk kn 10000 6 0) 10000 (a3, k3) = s4 at p27
    obtain ⟨a4, k4⟩ := s4
    obtain ⟨e27, c4, op4, one4, p27, l4, m4, fr4, kk4⟩ := p27
    have p27 : PW n b L xs τ g nT a4 k4 c4 op4 one4 q27.2 := p27
    have l4 : a3 ≤ a4 := l4
    have kk4 : k4 = 0 → k3 = 0 ∧ EXP op4 one4 (19200 + c) (19200 + c4) (qAllO tk (qPart tk kn 10000 6 0) (qPartO tk kn (lfN tk nu ix) 10000 6 0) 10000 (a + 2)) := fun e => ⟨(kk4 e).1, by rw [← ok3 (kk4 e).1]; exact (kk4 e).2⟩
    have ri := nI_r (show i ≤ 339 by omega) (by decide : 339 < 2 ^ 31)
    have e339 : nI 339 = 339 := rfl
    refine wp_bind (sI_53 p27.1 (i := nI i) (x := q27.1) ri.1 (by lia)) fun h28 w28 => ?_
    have e53 : (gP g a4 c4 (FV (g.2.1 45) a4 k4) op4 one4).2.1 53 = g.2.1 53 := rfl
    rw [gP_A _ _ _ _ _ _ _ (by decide) (by decide), nI_clamp (by omega), e53, e27] at w28
    have p28 : PW n b L xs τ (gsA g 53 (upd (g.2.1 53) i (nI (19200 + c)))) nT a4 k4 c4 op4 one4 h28 := P_44 p27 w28 p27.2.1 p27.2.2.1 p27.2.2.2.1 rfl rfl
    show wp _ (fun r => ∃ g' c' op' one', PW n b L xs τ g' nT a4 k4 c' op' one' r ∧ a ≤ a4 ∧ c ≤ c' ∧ DG g g' ∧ (∀ j, j < 19200 + c → op' j = op j ∧ one' j = one j) ∧ (k4 = 0 → g'.2.1 50 = g.2.1 50 ∧ g'.2.1 51 = g.2.1 51 ∧ (∀ k, k ≠ i → g'.2.1 53 k = g.2.1 53 k) ∧ g'.2.1 53 i = nI (19200 + c) ∧ EXP op' one' (19200 + c) (19200 + c') (qAllO tk (qPart tk kn 10000 6 0) (qPartO tk kn (lfN tk nu ix) 10000 6 0) 10000 (a + 2)) ∧ g.1 42 17 < 8 ∧ g'.1 42 17 = g.1 42 17 + 1 ∧ g'.2.2 54 = vp_updL (g.2.2 54) M (g.2.2 46 a) ∧ M < 8 ∧ tk a = 200 ∧ g'.2.1 52 = g.2.1 52 ∧ ¬ kn a = true))
    refine wp_eq (P_8 p28) ?_
    have f28 := (P_f p28).2
    refine wp_ite (fun c5 => ?_) (fun c5 => ?_)
    · have k0 : k4 = 0 := f28.mp c5
      have m17 : g.1 42 17 < 8 := by
        rw [eM]
        exact nlt (m := 8) m8 (by decide)
      refine wp_eq (gR_42_18 p28.1) ?_
      refine wp_eq (E_42_17 p28.1) ?_
      refine wp_bind (sL_54 p28.1 (i := g.1 42 17) rn.1 m17) fun h33 w33 => ?_
      have c17 : (g.1 42 17).toNatClampNeg = M := by
        rw [eM]
        exact nI_clamp (by omega)
      have e54 : (gP (gsA g 53 (upd (g.2.1 53) i (nI (19200 + c)))) a4 c4 (FV ((gsA g 53 (upd (g.2.1 53) i (nI (19200 + c)))).2.1 45) a4 k4) op4 one4).2.2 54 = g.2.2 54 := rfl
      rw [c17, e54, gP_L] at w33
      refine wp_eq (E_42_17 w33) ?_
      refine wp_bind (pI_42_17 w33 (x := g.1 42 17 + 1) (by lia) (by lia)) fun h35 w35 => ?_
      rw [gP_17] at w35
      have p35 : PW n b L xs τ (gset (gsL (gsA g 53 (upd (g.2.1 53) i (nI (19200 + c)))) 54 (vp_updL (g.2.2 54) M (g.2.2 46 a))) 42 17 (g.1 42 17 + 1)) nT a4 k4 c4 op4 one4 h35 := P_44 p28 w35 p28.2.1 p28.2.2.1 p28.2.2.2.1 rfl rfl
      refine wp_some ⟨_, c4, op4, one4, p35, by omega, m4, DG_trans (DG_trans (DG_53 g hi0 _) (DG_54 _ _)) (DG_17 _ _), fr4, fun e => ⟨rfl, rfl, fun k hk => ?_, ?_, (kk4 e).2, m17, ?_, ?_, m8, t2, rfl, nkn⟩⟩
      · show (gsA g 53 (upd (g.2.1 53) i (nI (19200 + c)))).2.1 53 k = _
        rw [gsA_in, upd_ne hk]
      · show (gsA g 53 (upd (g.2.1 53) i (nI (19200 + c)))).2.1 53 i = _
        rw [gsA_in, upd_at]
      · rw [gset_in, upd_at]
      · show (gsL (gsA g 53 (upd (g.2.1 53) i (nI (19200 + c)))) 54 (vp_updL (g.2.2 54) M (g.2.2 46 a))).2.2 54 = _
        rfl
    · exact wp_some ⟨_, c4, op4, one4, p28, by omega, m4, DG_53 g hi0 _, fr4, fun e => absurd (f28.mpr e) c5⟩
  · rw [ltQ_w nk ew]
    refine wp_eq (P_8 p3) ?_
    refine wp_ite (fun c1 => absurd ((P_le p3).mp c1) nk) (fun c1 => wp_some ⟨g, c, op, one, p3, Nat.le_refl _, Nat.le_refl _, DG_id g, fun _ _ => ⟨rfl, rfl⟩, fun e => absurd e nk⟩)
end LINE
