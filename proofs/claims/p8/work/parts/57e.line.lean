/-! the reference's reader: lines -/
def EXP (op one : Nat → Int32) (i e : Nat) : Prop := ∃ k, SEG op one i k ∧ op (i + k) = 0 ∧ i + k < e
theorem EXP_keep {op one op' one' : Nat → Int32} {i e e' : Nat} (x : EXP op one i e) (he : e ≤ e') (hq : ∀ j, j < e → op' j = op j ∧ one' j = one j) : EXP op' one' i e' := by
  obtain ⟨k, s, z, l⟩ := x
  exact ⟨k, SEG_congr s (fun j j1 j2 => hq j (by omega)), ((hq _ l).1).trans z, by omega⟩
def cz (f : Nat → Int32) (base : Nat) : Nat → Nat
  | 0 => 0
  | k + 1 => cz f base k + (if f (base + k) = 0 then 1 else 0)
theorem cz_shift {f f' : Nat → Int32} {base base' : Nat} : ∀ (k : Nat), (∀ j, j < k → f' (base' + j) = f (base + j)) → cz f' base' k = cz f base k := by
  intro k
  induction k with
  | zero => intro _; rfl
  | succ k ih =>
    intro hq
    unfold cz
    rw [ih (fun j hj => hq j (by omega)), hq k (by omega)]
theorem gP_17 (g : zGh) (a c : Nat) (f x : Int32) (op one : Nat → Int32) : gset (gP g a c f op one) 42 17 x = gP (gset g 42 17 x) a c f op one := by
  unfold gP
  rw [gset_comm _ 42 _ _ (by decide : 19 ≠ 17), gset_comm _ 42 _ _ (by decide : 8 ≠ 17), gset_comm _ 42 _ _ (by decide : 7 ≠ 17)]
  rfl
theorem gP_A (g : zGh) (a c : Nat) (f : Int32) (op one x : Nat → Int32) {j : Nat} (h1 : j ≠ 55) (h2 : j ≠ 56) : gsA (gP g a c f op one) j x = gP (gsA g j x) a c f op one := by
  refine Prod.ext rfl (Prod.ext ?_ rfl)
  funext p
  show (if p = j then x else if p = 56 then one else if p = 55 then op else g.2.1 p) = (if p = 56 then one else if p = 55 then op else if p = j then x else g.2.1 p)
  by_cases e : p = j
  · subst e; simp [h1, h2]
  · simp [e]
/-- what a line may change -/
def DG (g g' : zGh) : Prop := (∀ j, j ≠ 42 → g'.1 j = g.1 j) ∧ (∀ k, k ≠ 17 → g'.1 42 k = g.1 42 k) ∧ (∀ j, j ≠ 50 → j ≠ 51 → j ≠ 53 → g'.2.1 j = g.2.1 j) ∧ (∀ k, k ≠ 16 → g'.2.1 50 k = g.2.1 50 k) ∧ (∀ k, k < 320 → g'.2.1 51 k = g.2.1 51 k ∧ g'.2.1 53 k = g.2.1 53 k) ∧ g'.2.2 = g.2.2
theorem DG_id (g : zGh) : DG g g := ⟨fun _ _ => rfl, fun _ _ => rfl, fun _ _ _ _ => rfl, fun _ _ => rfl, fun _ _ => ⟨rfl, rfl⟩, rfl⟩
theorem DG_trans {g g1 g2 : zGh} (p : DG g g1) (q : DG g1 g2) : DG g g2 := by
  obtain ⟨p1, p2, p3, p4, p5, p6⟩ := p
  obtain ⟨q1, q2, q3, q4, q5, q6⟩ := q
  exact ⟨fun j hj => (q1 j hj).trans (p1 j hj), fun k hk => (q2 k hk).trans (p2 k hk), fun j a c d => (q3 j a c d).trans (p3 j a c d), fun k hk => (q4 k hk).trans (p4 k hk), fun k hk => ⟨(q5 k hk).1.trans (p5 k hk).1, (q5 k hk).2.trans (p5 k hk).2⟩, q6.trans p6⟩
theorem DG_17 (g : zGh) (x : Int32) : DG g (gset g 42 17 x) := by
  refine ⟨fun j hj => gset_out hj, fun k hk => ?_, fun _ _ _ _ => rfl, fun _ _ => rfl, fun _ _ => ⟨rfl, rfl⟩, rfl⟩
  rw [gset_in]
  unfold upd
  rw [if_neg hk]
theorem gsA_in (g : zGh) (j : Nat) (x : Nat → Int32) : (gsA g j x).2.1 j = x := if_pos rfl
theorem gsA_out {g : zGh} {j i : Nat} {x : Nat → Int32} (e : i ≠ j) : (gsA g j x).2.1 i = g.2.1 i := if_neg e
theorem upd_ne {f : Nat → Int32} {k i : Nat} {x : Int32} (h : i ≠ k) : upd f k x i = f i := by
  unfold upd
  rw [if_neg h]
theorem DG_50 (g : zGh) (x : Int32) : DG g (gsA g 50 (upd (g.2.1 50) 16 x)) := by
  refine ⟨fun _ _ => rfl, fun _ _ => rfl, fun j a c d => gsA_out a, fun k hk => ?_, fun k hk => ⟨congrFun (gsA_out (by decide)) k, congrFun (gsA_out (by decide)) k⟩, rfl⟩
  rw [gsA_in, upd_ne hk]
theorem DG_51 (g : zGh) {i : Nat} (hi : 320 ≤ i) (x : Int32) : DG g (gsA g 51 (upd (g.2.1 51) i x)) := by
  refine ⟨fun _ _ => rfl, fun _ _ => rfl, fun j a c d => gsA_out c, fun k hk => congrFun (gsA_out (by decide)) k, fun k hk => ⟨?_, congrFun (gsA_out (by decide)) k⟩, rfl⟩
  rw [gsA_in, upd_ne (by omega)]
theorem DG_53 (g : zGh) {i : Nat} (hi : 320 ≤ i) (x : Int32) : DG g (gsA g 53 (upd (g.2.1 53) i x)) := by
  refine ⟨fun _ _ => rfl, fun _ _ => rfl, fun j a c d => gsA_out d, fun k hk => congrFun (gsA_out (by decide)) k, fun k hk => ⟨congrFun (gsA_out (by decide)) k, ?_⟩, rfl⟩
  rw [gsA_in, upd_ne (by omega)]
section LINE
variable {n b L : Nat} {xs : Nat → Int32} {τ : Nat → Nat} {g : zGh} {h : zH} {nT a c : Nat} {f : Int32} {op one : Nat → Int32}
theorem P_44 {g' : zGh} {r : zH} {a' c' : Nat} {f' : Int32} {op' one' : Nat → Int32} (p : PW n b L xs τ g nT a c f op one h) (w : WT n b L xs τ (gP g' a' c' f' op' one') r) (h1 : a' ≤ nT) (h2 : c' ≤ a') (h3 : 0 ≤ f') (d : g'.2.1 44 = g.2.1 44) : PW n b L xs τ g' nT a' c' f' op' one' r := ⟨w, h1, h2, h3, p.2.2.2.2.1, by rw [d]; exact p.2.2.2.2.2⟩
theorem P_readTests (p : PW n b L xs τ g nT a c f op one h) (hc : c + 1 ≤ a) : wp (f_X12_readTests 10000 (n + 42) h) (fun r => r.1 = nI (19200 + c) ∧ ∃ a' c' f' op' one', PW n b L xs τ g nT a' c' f' op' one' r.2 ∧ a ≤ a' ∧ c ≤ c' ∧ (∀ i, i < 19200 + c → op' i = op i ∧ one' i = one i) ∧ (f' = 0 → f = 0 ∧ EXP op' one' (19200 + c) (19200 + c'))) := by
  unfold f_X12_readTests
  refine wp_eq (P_19 p) ?_
  refine wp_zlet ?_
  refine wp_zif (ob_42 p.1) ?_
  have T := P_all (P_takePart (n := n) (b := b) (L := L) (xs := xs) (τ := τ) (g := g) (nT := nT) 6 0 (by decide) (by decide))
  refine wp_bind (T _ _ _ _ _ _ p hc) fun h4 p4 => ?_
  obtain ⟨a2, c2, f2, op2, one2, p4, q1, q2, q3, q4, q5⟩ := p4
  refine wp_zif (ob_42 p4.1) ?_
  refine wp_bind (P_emit p4 (by omega)) fun h6 p6 => ?_
  refine wp_some ⟨nI_add 19200 c, a2, c2 + 1, f2, _, _, p6, q1, by omega, fun i hi => ?_, fun e => ?_⟩
  · rw [upd_lt (by omega), upd_lt (by omega)]
    exact q4 i hi
  · obtain ⟨e1, s⟩ := q5 e
    refine ⟨e1, c2 - c, SEG_congr s (fun j j1 j2 => ?_), ?_, by omega⟩
    · rw [upd_lt (by omega), upd_lt (by omega)]
      exact ⟨rfl, rfl⟩
    · rw [show 19200 + c + (c2 - c) = 19200 + c2 by omega, upd_at]
theorem P_takeNumber {v1 v2 : Int32} (p : PW n b L xs τ g nT a c f op one h) : wp (f_X12_takeNumber 10000 (n + 42) v1 v2 h) (fun r => ∃ a' f', PW n b L xs τ g nT a' c f' op one r.2 ∧ a ≤ a' ∧ (f' = 0 → f = 0)) := by
  unfold f_X12_takeNumber
  have ha := P_a p
  have f0 := p.2.2.2.1
  refine wp_eq (P_8 p) ?_
  refine wp_bind (R := fun r => (r = h ∧ (f = 0 → g.2.1 44 a = 2)) ∨ (∃ f', ¬ f' = 0 ∧ PW n b L xs τ g nT a c f' op one r)) ?_ (fun m2 p2 => ?_)
  · refine wp_ite (fun c1 => ?_) (fun c1 => ?_)
    · refine wp_eq (gR_42_4 p.1) ?_
      refine wp_eq (P_7 p) ?_
      refine wp_eq (P_S p) ?_
      refine wp_ite (fun c2 => ?_) (fun c2 => ?_)
      · refine wp_eq (P_8 p) ?_
        refine wp_ite (fun c3 => ?_) (fun c3 => wp_some (Or.inl ⟨rfl, fun _ => c2⟩))
        refine wp_eq (gR_42_6 p.1) ?_
        refine wp_eq (P_7 p) ?_
        refine wp_eq (P_V p) ?_
        refine wp_bind (R := fun r => match r with | .inl _ => True | .inr x => x = h) ?_ (fun m28 p28 => ?_)
        · refine wp_ite (fun _ => wp_some trivial) (fun _ => ?_)
          refine wp_eq (gR_42_6 p.1) ?_
          refine wp_eq (P_7 p) ?_
          refine wp_eq (P_V p) ?_
          exact wp_ite (fun _ => wp_map (wp_some rfl)) (fun _ => wp_some trivial)
        rcases m28 with s | x
        · refine wp_zsL ?_
          refine wp_zif (ob_42 p.1) ?_
          exact wp_bind (P_wrong p (by decide) (by decide)) fun r pr => wp_some (Or.inr pr)
        · exact wp_zsR (Or.inl ⟨p28, fun _ => c2⟩)
      · refine wp_zif (ob_42 p.1) ?_
        exact wp_bind (P_wrong p (by decide) (by decide)) fun r pr => wp_some (Or.inr pr)
    · refine wp_eq (P_8 p) ?_
      rw [if_neg c1]
      exact wp_some (Or.inl ⟨rfl, fun z => absurd z c1⟩)
  rcases p2 with ⟨rfl, p2⟩ | ⟨f', nf, p2⟩
  · refine wp_eq (P_8 p) ?_
    refine wp_ite (fun c1 => ?_) (fun c1 => wp_some ⟨a, f, p, Nat.le_refl _, fun e => e⟩)
    have s2 := p2 (by lia)
    refine wp_eq (P_7 p) ?_
    refine wp_bind (P_take p (by rw [s2]; decide)) fun h43 p43 => ?_
    refine wp_eq (gR_42_6 p43.1) ?_
    refine wp_eq (P_7 p43) ?_
    have e1 : nI (a + 1) - 1 = nI a := by
      rw [← nI_1]
      exact Int32.add_sub_cancel _ _
    rw [e1]
    have r := nI_r (show a ≤ 1000 by omega) (by decide : 1000 < 2 ^ 31)
    have e : nI 1000 = 1000 := rfl
    refine wp_bind (aL_46 p43.1 (i := nI a) r.1 (by lia)) fun x46 _ => ?_
    exact wp_some ⟨a + 1, f, p43, by omega, fun e => e⟩
  · refine wp_eq (P_8 p2) ?_
    have f0' := p2.2.2.2.1
    refine wp_ite (fun c1 => absurd (show f' = 0 by lia) nf) (fun c1 => wp_some ⟨a, f', p2, Nat.le_refl _, fun e => absurd e nf⟩)
theorem P_takeWho_L4 (p : PW n b L xs τ g nT a c f op one h) : ∀ (m : Nat) {v1 v2 : Int32}, (v1 < 0 ∨ g.2.1 44 a = 1) → 0 ≤ v2 → (9000 - v2.toInt).toNat < m → wp (f_X12_takeWho_L4 10000 (n + 42) h m v1 v2) (fun r => r < 0 ∨ g.2.1 44 a = 1) := by
  intro m
  induction m with
  | zero => intro v1 v2 i1 i0 hm; exact absurd hm (Nat.not_lt_zero _)
  | succ m ih =>
    intro v1 v2 i1 i0 hm
    rw [f_X12_takeWho_L4.eq_2]
    refine wp_ite (fun c1 => wp_some i1) (fun c1 => ?_)
    refine wp_zif (ob_42 p.1) ?_
    refine wp_eq (P_isWord p (by lia) (by lia)) ?_
    have z := qW_01 f (g.2.1 44 a) (g.2.2 46 a) (g.2.2 47 (3 + v2).toNatClampNeg)
    refine wp_ite (fun c2 => ih i1 (by lia) (mu_up i0 (by lia) hm)) (fun c2 => ?_)
    obtain ⟨z1, z2, z3⟩ := z.resolve_left c2
    exact wp_zlet (ih (Or.inr z3) (by lia) (mu_up i0 (by lia) hm))
theorem P_takeWho (p : PW n b L xs τ g nT a c f op one h) : wp (f_X12_takeWho 10000 (n + 42) h) (fun r => ∃ a' f', PW n b L xs τ g nT a' c f' op one r.2 ∧ a ≤ a' ∧ (f' = 0 → f = 0)) := by
  unfold f_X12_takeWho
  refine wp_bind (P_takeWho_L4 p _ (Or.inl (by decide)) (by decide) (mu_0 (by decide))) fun m6 p6 => ?_
  refine wp_ite (fun c1 => ?_) (fun c1 => ?_)
  · refine wp_eq (P_7 p) ?_
    have s := p6.resolve_left (Int32.not_lt.mpr c1)
    exact wp_bind (P_take p (by rw [s]; decide)) fun h9 p9 => wp_some ⟨a + 1, f, p9, by omega, fun e => e⟩
  · refine wp_zif (ob_42 p.1) ?_
    refine wp_bind (P_wrong p (by decide) (by decide)) fun r pr => ?_
    obtain ⟨f', nf, pr⟩ := pr
    exact wp_some ⟨a, f', pr, Nat.le_refl _, fun e => absurd e nf⟩
/-- a draft's lines -/
def DRF (g : zGh) (op one : Nat → Int32) (c : Nat) : Prop := ∃ nl, nl ≤ 20 ∧ g.2.1 50 16 = nI nl ∧ (∀ k, k < nl → ∃ q, g.2.1 53 (320 + k) = nI (19200 + q) ∧ EXP op one (19200 + q) (19200 + c)) ∧ g.1 42 17 = nI (cz (g.2.1 51) 320 nl) ∧ cz (g.2.1 51) 320 nl ≤ 8
set_option maxHeartbeats 4000000 in
theorem P_readLet {i : Nat} (p : PW n b L xs τ g nT a c f op one h) (hc : c + 1 ≤ a) (hi : i < 340) (hi0 : 320 ≤ i) : wp (f_X12_readLet 10000 (n + 42) (nI i) h) (fun r => ∃ g' a' c' f' op' one', PW n b L xs τ g' nT a' c' f' op' one' r ∧ a ≤ a' ∧ c ≤ c' ∧ DG g g' ∧ (∀ j, j < 19200 + c → op' j = op j ∧ one' j = one j) ∧ (f' = 0 → f = 0 ∧ g'.2.1 50 = g.2.1 50 ∧ g'.2.1 51 = g.2.1 51 ∧ (∀ k, k ≠ i → g'.2.1 53 k = g.2.1 53 k) ∧ g'.2.1 53 i = nI (19200 + c) ∧ EXP op' one' (19200 + c) (19200 + c') ∧ g.1 42 17 < 8 ∧ g'.1 42 17 = g.1 42 17 + 1)) := by
  unfold f_X12_readLet
  have f0 := p.2.2.2.1
  have rn := gr_42_17 p.1
  have en : (gP g a c f op one).1 42 17 = g.1 42 17 := rfl
  rw [en] at rn
  refine wp_zif (ob_42 p.1) ?_
  obtain ⟨qN, eN, pN⟩ := P_isName p
  refine wp_eq eN ?_
  refine wp_bind (R := fun r => (r = h ∧ ¬ qN = 0 ∧ ¬ g.1 42 17 = 8) ∨ (∃ f', ¬ f' = 0 ∧ PW n b L xs τ g nT a c f' op one r)) ?_ (fun m3 p3 => ?_)
  · refine wp_ite (fun c1 => ?_) (fun c1 => ?_)
    · refine wp_zif (ob_42 p.1) ?_
      exact wp_bind (P_wrong p (by decide) (by decide)) fun r pr => wp_some (Or.inr pr)
    · refine wp_zif (ob_42 p.1) ?_
      refine wp_bind (P_findName p) fun q6 _ => ?_
      refine wp_ite (fun c2 => ?_) (fun c2 => ?_)
      · refine wp_eq (E_42_17 p.1) ?_
        refine wp_ite (fun c3 => ?_) (fun c3 => wp_some (Or.inl ⟨rfl, c1, c3⟩))
        refine wp_zif (ob_42 p.1) ?_
        exact wp_bind (P_wrong p (by decide) (by decide)) fun r pr => wp_some (Or.inr pr)
      · refine wp_zif (ob_42 p.1) ?_
        exact wp_bind (P_wrong p (by decide) (by decide)) fun r pr => wp_some (Or.inr pr)
  rcases p3 with ⟨rfl, nq, n8⟩ | ⟨f', nf, p3⟩
  · obtain ⟨-, hf, s1⟩ := pN.resolve_left nq
    refine wp_eq (P_8 p) ?_
    refine wp_ite (fun _ => ?_) (fun z => absurd (show f ≤ 0 by rw [hf]; decide) z)
    refine wp_eq (gR_42_6 p.1) ?_
    refine wp_eq (P_7 p) ?_
    refine wp_eq (P_V p) ?_
    refine wp_eq (P_7 p) ?_
    refine wp_bind (P_take p (by rw [s1]; decide)) fun h22 p22 => ?_
    refine wp_zif (ob_42 p22.1) ?_
    refine wp_bind (P_takeSign p22) fun h24 p24 => ?_
    obtain ⟨a3, f3, p24, l3, ff3⟩ := p24
    refine wp_eq (gR_42_16 p24.1) ?_
    refine wp_zif (ob_42 p24.1) ?_
    refine wp_bind (P_readTests p24 (by omega)) fun q27 p27 => ?_
    obtain ⟨e27, a4, c4, f4, op4, one4, p27, l4, m4, fr4, k4⟩ := p27
    have ri := nI_r (show i ≤ 339 by omega) (by decide : 339 < 2 ^ 31)
    have e339 : nI 339 = 339 := rfl
    refine wp_bind (sI_53 p27.1 (i := nI i) (x := q27.1) ri.1 (by lia)) fun h28 w28 => ?_
    have e53 : (gP g a4 c4 f4 op4 one4).2.1 53 = g.2.1 53 := rfl
    rw [gP_A _ _ _ _ _ _ _ (by decide) (by decide), nI_clamp (by omega), e53, e27] at w28
    have p28 : PW n b L xs τ (gsA g 53 (upd (g.2.1 53) i (nI (19200 + c)))) nT a4 c4 f4 op4 one4 h28 := P_44 p27 w28 p27.2.1 p27.2.2.1 p27.2.2.2.1 rfl
    refine wp_eq (P_8 p28) ?_
    refine wp_ite (fun c5 => ?_) (fun c5 => ?_)
    · refine wp_eq (gR_42_18 p28.1) ?_
      refine wp_eq (E_42_17 p28.1) ?_
      refine wp_bind (sL_54 p28.1 (i := g.1 42 17) rn.1 (by lia)) fun h33 w33 => ?_
      refine wp_eq (E_42_17 w33) ?_
      refine wp_bind (pI_42_17 w33 (x := g.1 42 17 + 1) (by lia) (by lia)) fun h35 w35 => ?_
      rw [gP_17] at w35
      have p35 : PW n b L xs τ (gset (gsA g 53 (upd (g.2.1 53) i (nI (19200 + c)))) 42 17 (g.1 42 17 + 1)) nT a4 c4 f4 op4 one4 h35 := P_44 p28 w35 p28.2.1 p28.2.2.1 p28.2.2.2.1 rfl
      refine wp_some ⟨_, a4, c4, f4, op4, one4, p35, by omega, m4, DG_trans (DG_53 g hi0 _) (DG_17 _ _), fr4, fun e => ⟨hf, rfl, rfl, fun k hk => ?_, ?_, (k4 e).2, by lia, rfl⟩⟩
      · show (gsA g 53 (upd (g.2.1 53) i (nI (19200 + c)))).2.1 53 k = _
        rw [gsA_in, upd_ne hk]
      · show (gsA g 53 (upd (g.2.1 53) i (nI (19200 + c)))).2.1 53 i = _
        rw [gsA_in, upd_at]
    · exact wp_some ⟨_, a4, c4, f4, op4, one4, p28, by omega, m4, DG_53 g hi0 _, fr4, fun e => absurd e c5⟩
  · refine wp_eq (P_8 p3) ?_
    have f0' := p3.2.2.2.1
    refine wp_ite (fun c1 => absurd (show f' = 0 by lia) nf) (fun c1 => wp_some ⟨g, a, c, f', op, one, p3, Nat.le_refl _, Nat.le_refl _, DG_id g, fun _ _ => ⟨rfl, rfl⟩, fun e => absurd e nf⟩)
end LINE
