/-! the reference's reader: a line, all lines, what is kept -/
section LINE2
variable {n b L : Nat} {xs : Nat → Int32} {τ : Nat → Nat} {g : zGh} {h : zH} {nT a c : Nat} {f : Int32} {op one : Nat → Int32}
/-- a draft's line more -/
theorem DRF_more {g g' : zGh} {op one op' one' : Nat → Int32} {c c' nl : Nat} {kd : Int32} (h1 : nl < 20) (e1 : g.2.1 50 16 = nI nl) (d : ∀ k, k < nl → ∃ q, g.2.1 53 (320 + k) = nI (19200 + q) ∧ EXP op one (19200 + q) (19200 + c)) (hz : cz (g.2.1 51) 320 nl ≤ 8) (en : g.1 42 17 = nI (cz (g.2.1 51) 320 nl))
    (e2 : g'.2.1 50 16 = nI (nl + 1)) (e3 : ∀ k, k < nl → g'.2.1 51 (320 + k) = g.2.1 51 (320 + k)) (e4 : g'.2.1 51 (320 + nl) = kd) (e5 : ∀ k, k < nl → g'.2.1 53 (320 + k) = g.2.1 53 (320 + k)) (e6 : g'.2.1 53 (320 + nl) = nI (19200 + c)) (x : EXP op' one' (19200 + c) (19200 + c')) (hc : c ≤ c') (fr : ∀ j, j < 19200 + c → op' j = op j ∧ one' j = one j)
    (nm : (kd = 0 → cz (g.2.1 51) 320 nl < 8 ∧ g'.1 42 17 = g.1 42 17 + 1) ∧ (¬ kd = 0 → g'.1 42 17 = g.1 42 17)) : DRF g' op' one' c' := by
  have ez : cz (g'.2.1 51) 320 nl = cz (g.2.1 51) 320 nl := cz_shift nl e3
  have ez1 : cz (g'.2.1 51) 320 (nl + 1) = cz (g.2.1 51) 320 nl + (if kd = 0 then 1 else 0) := by
    rw [show cz (g'.2.1 51) 320 (nl + 1) = cz (g'.2.1 51) 320 nl + (if g'.2.1 51 (320 + nl) = 0 then 1 else 0) from rfl, ez, e4]
  refine ⟨nl + 1, by omega, e2, fun k hk => ?_, ?_, ?_⟩
  · by_cases ek : k = nl
    · subst ek
      exact ⟨c, e6, x⟩
    · obtain ⟨q, q1, q2⟩ := d k (by omega)
      exact ⟨q, (e5 k (by omega)).trans q1, EXP_keep q2 (by omega) fr⟩
  · rw [ez1]
    by_cases ck : kd = 0
    · rw [if_pos ck, ((nm.1 ck).2), en, nI_1]
    · rw [if_neg ck, nm.2 ck, en]
      rfl
  · rw [ez1]
    by_cases ck : kd = 0
    · rw [if_pos ck]
      have := (nm.1 ck).1
      omega
    · rw [if_neg ck]
      exact hz
set_option maxHeartbeats 8000000 in
theorem P_readLine (p : PW n b L xs τ g nT a c f op one h) (hf : f = 0) (dr : DRF g op one c) : wp (f_X12_readLine 10000 (n + 42) h) (fun r => ∃ g' a' c' f' op' one', PW n b L xs τ g' nT a' c' f' op' one' r ∧ DG g g' ∧ (∀ j, j < 19200 → op' j = op j ∧ one' j = one j) ∧ a ≤ a' ∧ (f' = 0 → a < a' ∧ DRF g' op' one' c')) := by
  obtain ⟨nl, l20, e50, dd, en, hz⟩ := dr
  unfold f_X12_readLine
  have ha := P_a p
  have c16 : (gP g a c f op one).2.1 50 = g.2.1 50 := rfl
  have x16 : aI h (n + 50) 16 = some (nI nl) := by
    rw [A_50 p.1 (i := 16) (by decide) (by decide)]
    show some (g.2.1 50 16) = _
    rw [e50]
  refine wp_zif (ob_42 p.1) ?_
  refine wp_eq (P_isWord p (by decide) (by decide)) ?_
  refine wp_bind (R := fun r => (r = h ∧ ¬ g.2.1 44 a = 0 ∧ ¬ nI nl = 20) ∨ (∃ f', ¬ f' = 0 ∧ PW n b L xs τ g nT a c f' op one r)) ?_ (fun m3 p3 => ?_)
  · refine wp_ite (fun c1 => ?_) (fun c1 => ?_)
    · refine wp_zif (ob_42 p.1) ?_
      refine wp_eq (P_isWord p (by decide) (by decide)) ?_
      refine wp_bind (R := fun r => match r with | .inl x => x = h ∧ ¬ g.2.1 44 a = 0 | .inr x => ∃ f', ¬ f' = 0 ∧ PW n b L xs τ g nT a c f' op one x) ?_ (fun m12 p12 => ?_)
      · refine wp_ite (fun c2 => ?_) (fun c2 => wp_some ⟨rfl, ?_⟩)
        · refine wp_zif (ob_42 p.1) ?_
          refine wp_eq (P_isWord p (by decide) (by decide)) ?_
          refine wp_ite (fun c3 => ?_) (fun c3 => wp_some ⟨rfl, ?_⟩)
          · refine wp_zif (ob_42 p.1) ?_
            exact wp_bind (P_wrong p (by decide) (by decide)) fun r pr => wp_map (wp_some pr)
          · have z := (qW_01 f (g.2.1 44 a) (g.2.2 46 a) _).resolve_left c3
            rw [z.2.2]
            decide
        · have z := (qW_01 f (g.2.1 44 a) (g.2.2 46 a) _).resolve_left c2
          rw [z.2.2]
          decide
      rcases m12 with s13 | x13
      · obtain ⟨e13, n13⟩ := p12
        subst e13
        refine wp_zsL ?_
        refine wp_eq (gR_42_13 p.1) ?_
        refine wp_eq x16 ?_
        refine wp_ite (fun c4 => ?_) (fun c4 => wp_some (Or.inl ⟨rfl, n13, c4⟩))
        refine wp_zif (ob_42 p.1) ?_
        exact wp_bind (P_wrong p (by decide) (by decide)) fun r pr => wp_some (Or.inr pr)
      · exact wp_zsR (Or.inr p12)
    · have z := (qW_01 f (g.2.1 44 a) (g.2.2 46 a) _).resolve_left c1
      have n13 : ¬ g.2.1 44 a = 0 := by
        rw [z.2.2]
        decide
      refine wp_eq (gR_42_13 p.1) ?_
      refine wp_eq x16 ?_
      refine wp_ite (fun c4 => ?_) (fun c4 => wp_some (Or.inl ⟨rfl, n13, c4⟩))
      refine wp_zif (ob_42 p.1) ?_
      exact wp_bind (P_wrong p (by decide) (by decide)) fun r pr => wp_some (Or.inr pr)
  rcases p3 with ⟨rfl, ns, n20⟩ | ⟨f', nf, p3⟩
  · have nl20 : nl < 20 := by
      have : nl ≠ 20 := fun e => n20 (by rw [e]; rfl)
      omega
    refine wp_eq (P_8 p) ?_
    refine wp_ite (fun _ => ?_) (fun z => absurd (show f ≤ 0 by rw [hf]; decide) z)
    refine wp_eq (gR_42_13 p.1) ?_
    refine wp_eq x16 ?_
    refine wp_zletE fun x30 e30 => ?_
    have e30' : x30 = nI (320 + nl) := e30.trans (nI_add 320 nl)
    subst e30'
    have ri := nI_r (show 320 + nl ≤ 339 by omega) (by decide : 339 < 2 ^ 31)
    have e339 : nI 339 = 339 := rfl
    refine wp_eq (gR_42_14 p.1) ?_
    refine wp_zif (ob_42 p.1) ?_
    refine wp_eq (P_isWord p (by decide) (by decide)) ?_
    refine wp_bind (R := fun _ => True) ?_ (fun m34 _ => ?_)
    · refine wp_ite (fun _ => ?_) (fun _ => wp_some trivial)
      refine wp_zif (ob_42 p.1) ?_
      refine wp_eq (P_isWord p (by decide) (by decide)) ?_
      exact wp_ite (fun _ => wp_some trivial) (fun _ => wp_some trivial)
    refine wp_bind (sI_51 p.1 (i := nI (320 + nl)) (x := m34) ri.1 (by lia)) fun h39 w39 => ?_
    have e51 : (gP g a c f op one).2.1 51 = g.2.1 51 := rfl
    rw [gP_A _ _ _ _ _ _ _ (by decide) (by decide), nI_clamp (by omega), e51] at w39
    refine wp_eq (gR_42_15 w39) ?_
    refine wp_bind (sI_52 w39 (i := nI (320 + nl)) (x := 0) ri.1 (by lia)) fun h41 w41 => ?_
    have p41 : PW n b L xs τ (gsA g 51 (upd (g.2.1 51) (320 + nl) m34)) nT a c f op one h41 := P_44 p w41 p.2.1 p.2.2.1 p.2.2.2.1 rfl
    have dg1 := DG_51 g (show 320 ≤ 320 + nl by omega) m34
    have g50 : (gsA g 51 (upd (g.2.1 51) (320 + nl) m34)).2.1 50 = g.2.1 50 := rfl
    have g53 : (gsA g 51 (upd (g.2.1 51) (320 + nl) m34)).2.1 53 = g.2.1 53 := rfl
    have g51 : (gsA g 51 (upd (g.2.1 51) (320 + nl) m34)).2.1 51 = upd (g.2.1 51) (320 + nl) m34 := rfl
    have g17 : (gsA g 51 (upd (g.2.1 51) (320 + nl) m34)).1 42 17 = g.1 42 17 := rfl
    have g44 : (gsA g 51 (upd (g.2.1 51) (320 + nl) m34)).2.1 44 = g.2.1 44 := rfl
    generalize gsA g 51 (upd (g.2.1 51) (320 + nl) m34) = g1 at p41 dg1 g50 g53 g51 g17 g44
    refine wp_eq (P_7 p41) ?_
    refine wp_bind (P_take p41 (by rw [g44]; exact ns)) fun h43 p43 => ?_
    have k51 : aI h43 (n + 51) (nI (320 + nl)) = some m34 := by
      rw [A_51 p43.1 (i := nI (320 + nl)) ri.1 (by lia), nI_clamp (by omega)]
      show some (g1.2.1 51 (320 + nl)) = _
      rw [g51, upd_at]
    refine wp_eq (gR_42_14 p43.1) ?_
    refine wp_eq k51 ?_
    have hca := p.2.2.1
    refine wp_bind (R := fun r => ∃ g' a' c' f' op' one', PW n b L xs τ g' nT a' c' f' op' one' r ∧ a < a' ∧ c ≤ c' ∧ DG g g' ∧ (∀ j, j < 19200 + c → op' j = op j ∧ one' j = one j) ∧ (f' = 0 → g'.2.1 50 = g.2.1 50 ∧ g'.2.1 51 = upd (g.2.1 51) (320 + nl) m34 ∧ (∀ k, k ≠ 320 + nl → g'.2.1 53 k = g.2.1 53 k) ∧ g'.2.1 53 (320 + nl) = nI (19200 + c) ∧ EXP op' one' (19200 + c) (19200 + c') ∧ (m34 = 0 → g.1 42 17 < 8 ∧ g'.1 42 17 = g.1 42 17 + 1) ∧ (¬ m34 = 0 → g'.1 42 17 = g.1 42 17))) ?_ (fun m46 p46 => ?_)
    · refine wp_ite (fun ck => ?_) (fun ck => ?_)
      · refine wp_zif (ob_42 p43.1) ?_
        refine wp_bind (P_readLet p43 (by omega) (show 320 + nl < 340 by omega) (by omega)) fun h65 p65 => ?_
        obtain ⟨g2, a2, c2, f2, op2, one2, p65, l1, l2, dg2, fr2, k2⟩ := p65
        refine wp_some ⟨g2, a2, c2, f2, op2, one2, p65, by omega, l2, DG_trans dg1 dg2, fr2, fun e => ?_⟩
        obtain ⟨-, y2, y3, y4, y5, y6, y7, y8⟩ := k2 e
        exact ⟨y2.trans g50, y3.trans g51, fun k hk => (y4 k hk).trans (congrFun g53 k), y5, y6, fun _ => ⟨by rw [← g17]; exact y7, by rw [← g17]; exact y8⟩, fun z => absurd ck z⟩
      · refine wp_eq (gR_42_15 p43.1) ?_
        refine wp_eq (gR_42_14 p43.1) ?_
        refine wp_eq k51 ?_
        refine wp_bind (R := fun r => ∃ a' f', PW n b L xs τ g1 nT a' c f' op one r.2 ∧ a + 1 ≤ a' ∧ (f' = 0 → f = 0)) ?_ (fun m51 p51 => ?_)
        · refine wp_ite (fun _ => ?_) (fun _ => ?_)
          · refine wp_zif (ob_42 p43.1) ?_
            exact wp_bind (P_takeNumber p43) fun r pr => wp_some pr
          · refine wp_zif (ob_42 p43.1) ?_
            exact wp_bind (P_takeWho p43) fun r pr => wp_some pr
        obtain ⟨a3, f3, p51, l3, ff3⟩ := p51
        refine wp_bind (sI_52 p51.1 (i := nI (320 + nl)) (x := m51.1) ri.1 (by lia)) fun h57 w57 => ?_
        have p57 : PW n b L xs τ g1 nT a3 c f3 op one h57 := ⟨w57, p51.2⟩
        refine wp_zif (ob_42 p57.1) ?_
        refine wp_bind (P_takeWord p57 (by decide) (by decide)) fun h59 p59 => ?_
        obtain ⟨a4, f4, p59, l4, ff4⟩ := p59
        refine wp_eq (gR_42_16 p59.1) ?_
        refine wp_zif (ob_42 p59.1) ?_
        refine wp_bind (P_readTests p59 (by omega)) fun q62 p62 => ?_
        obtain ⟨e62, a5, c5, f5, op5, one5, p62, l5, m5, fr5, k5⟩ := p62
        refine wp_bind (sI_53 p62.1 (i := nI (320 + nl)) (x := q62.1) ri.1 (by lia)) fun h63 w63 => ?_
        have e53 : (gP g1 a5 c5 f5 op5 one5).2.1 53 = g1.2.1 53 := rfl
        rw [gP_A _ _ _ _ _ _ _ (by decide) (by decide), nI_clamp (by omega), e53, e62] at w63
        have p63 : PW n b L xs τ (gsA g1 53 (upd (g1.2.1 53) (320 + nl) (nI (19200 + c)))) nT a5 c5 f5 op5 one5 h63 := P_44 p62 w63 p62.2.1 p62.2.2.1 p62.2.2.2.1 rfl
        refine wp_some ⟨_, a5, c5, f5, op5, one5, p63, by omega, m5, DG_trans dg1 (DG_53 g1 (by omega) _), fr5, fun e => ⟨?_, ?_, fun k hk => ?_, ?_, (k5 e).2, fun z => absurd z ck, fun _ => g17⟩⟩
        · exact (gsA_out (by decide)).trans g50
        · exact (gsA_out (by decide)).trans g51
        · rw [gsA_in, upd_ne hk, g53]
        · rw [gsA_in, upd_at]
    obtain ⟨g2, a2, c2, f2, op2, one2, p46, l1, l2, dg2, fr2, k2⟩ := p46
    refine wp_eq (gR_42_13 p46.1) ?_
    refine wp_eq (A_50 p46.1 (i := 16) (by decide) (by decide)) ?_
    have e16 : (16 : Int32).toNatClampNeg = 16 := by decide
    have e50' : (gP g2 a2 c2 f2 op2 one2).2.1 50 = g2.2.1 50 := rfl
    rw [e16, e50']
    refine wp_bind (sI_50 p46.1 (i := 16) (x := g2.2.1 50 16 + 1) (by decide) (by decide)) fun h68 w68 => ?_
    rw [gP_A _ _ _ _ _ _ _ (by decide) (by decide), e16, e50'] at w68
    have p68 : PW n b L xs τ (gsA g2 50 (upd (g2.2.1 50) 16 (g2.2.1 50 16 + 1))) nT a2 c2 f2 op2 one2 h68 := P_44 p46 w68 p46.2.1 p46.2.2.1 p46.2.2.2.1 rfl
    refine wp_zif (ob_42 p68.1) ?_
    refine wp_bind (P_takeSign p68) fun h70 p70 => ?_
    obtain ⟨a3, f3, p70, l3, ff3⟩ := p70
    refine wp_some ⟨_, a3, c2, f3, op2, one2, p70, DG_trans dg2 (DG_50 g2 _), fun j hj => fr2 j (by omega), by omega, fun e => ⟨by omega, ?_⟩⟩
    obtain ⟨y1, y2, y3, y4, y5, y6, y7⟩ := k2 (ff3 e)
    refine DRF_more (kd := m34) nl20 e50 dd hz en ?_ (fun k hk => ?_) ?_ (fun k hk => ?_) ?_ y5 l2 fr2 ⟨fun z => ⟨?_, ?_⟩, fun z => ?_⟩
    · rw [gsA_in, upd_at, y1, e50, nI_1]
    · rw [gsA_out (by decide), y2, upd_lt (by omega)]
    · rw [gsA_out (by decide), y2, upd_at]
    · rw [gsA_out (by decide), y3 _ (by omega)]
    · rw [gsA_out (by decide), y4]
    · have q := (y6 z).1
      rw [en] at q
      have ne : cz (g.2.1 51) 320 nl ≠ 8 := fun e8 => by
        rw [e8] at q
        exact absurd q (by decide)
      omega
    · exact (y6 z).2
    · exact y7 z
  · refine wp_eq (P_8 p3) ?_
    have f0' := p3.2.2.2.1
    refine wp_ite (fun c1 => absurd (show f' = 0 by lia) nf) (fun c1 => wp_some ⟨g, a, c, f', op, one, p3, DG_id g, fun _ _ => ⟨rfl, rfl⟩, Nat.le_refl _, fun e => absurd e nf⟩)
theorem P_law_L53 : ∀ (m : Nat) {g : zGh} {a c : Nat} {f : Int32} {op one : Nat → Int32} {h : zH}, PW n b L xs τ g nT a c f op one h → (f = 0 → DRF g op one c) → (f = 0 → nT - a + 1 < m) → 0 < m → wp (f_X12_law_L53 10000 (n + 42) m h) (fun r => ∃ g' a' c' f' op' one', PW n b L xs τ g' nT a' c' f' op' one' r ∧ DG g g' ∧ (∀ j, j < 19200 → op' j = op j ∧ one' j = one j) ∧ (f' = 0 → DRF g' op' one' c')) := by
  intro m
  induction m with
  | zero => intro g a c f op one h p d hm h0; exact absurd h0 (Nat.not_lt_zero _)
  | succ m ih =>
    intro g a c f op one h p d hm h0
    rw [f_X12_law_L53.eq_2]
    refine wp_eq (P_8 p) ?_
    refine wp_ite (fun c1 => ?_) (fun c1 => wp_some ⟨g, a, c, f, op, one, p, DG_id g, fun _ _ => ⟨rfl, rfl⟩, fun e => absurd e c1⟩)
    refine wp_eq (gR_42_4 p.1) ?_
    refine wp_eq (P_7 p) ?_
    refine wp_eq (P_S p) ?_
    refine wp_ite (fun c2 => wp_some ⟨g, a, c, f, op, one, p, DG_id g, fun _ _ => ⟨rfl, rfl⟩, d⟩) (fun c2 => ?_)
    refine wp_zif (ob_42 p.1) ?_
    refine wp_bind (P_readLine p c1 (d c1)) fun h21 p21 => ?_
    obtain ⟨g2, a2, c2, f2, op2, one2, p21, dg, fr, l, k⟩ := p21
    have z := hm c1
    have an := p21.2.1
    refine wp_mono (ih p21 (fun e => (k e).2) (fun e => by have := (k e).1; omega) (by omega)) fun r pr => ?_
    obtain ⟨g3, a3, c3, f3, op3, one3, p3, dg3, fr3, k3⟩ := pr
    exact ⟨g3, a3, c3, f3, op3, one3, p3, DG_trans dg dg3, fun j hj => ⟨(fr3 j hj).1.trans (fr j hj).1, (fr3 j hj).2.trans (fr j hj).2⟩, k3⟩
end LINE2
