/-! the reference's reader: a line, all lines, what is kept -/
section LINE2
variable {n b L : Nat} {xs : Nat → Int32} {τ : Nat → Nat} {g : zGh} {h : zH} {nT a k c : Nat} {op one : Nat → Int32} {tk nu : Nat → Nat} {kn : Nat → Bool} {ix : Nat → Nat} {M : Nat}
theorem lnA_l {ls : List LnT} {x : LnT} {k : Nat} (h : k < ls.length) : lnA (ls ++ [x]) k = lnA ls k := by
  unfold lnA
  rw [List.getD_eq_getElem?_getD, List.getD_eq_getElem?_getD, List.getElem?_append_left h]
theorem lnA_e (ls : List LnT) (x : LnT) : lnA (ls ++ [x]) ls.length = x := by
  unfold lnA
  rw [List.getD_eq_getElem?_getD, List.getElem?_append_right (Nat.le_refl _), Nat.sub_self]
  rfl
theorem kdR_0 {t : Nat} : kdR t = 0 ↔ t = 4 := by
  unfold kdR
  by_cases h : t = 4
  · rw [if_pos h]
    exact ⟨fun _ => h, fun _ => rfl⟩
  · rw [if_neg h]
    by_cases h2 : t = 20
    · rw [if_pos h2]
      exact ⟨fun z => absurd z (by decide), fun z => absurd z h⟩
    · rw [if_neg h2]
      exact ⟨fun z => absurd z (by decide), fun z => absurd z h⟩
/-- a draft's line more -/
theorem DRF_more {g g' : zGh} {op one op' one' : Nat → Int32} {c c' : Nat} {ls : List LnT} {x : LnT} (h1 : ls.length < 20) (dr : DRF g op one c ls)
    (e2 : g'.2.1 50 16 = nI (ls.length + 1)) (e3 : ∀ k, k < ls.length → g'.2.1 51 (320 + k) = g.2.1 51 (320 + k)) (e4 : g'.2.1 51 (320 + ls.length) = kdR x.1) (e5 : ∀ k, k < ls.length → g'.2.1 53 (320 + k) = g.2.1 53 (320 + k)) (e6 : g'.2.1 53 (320 + ls.length) = nI (19200 + c)) (e7 : ∀ k, k < ls.length → g'.2.1 52 (320 + k) = g.2.1 52 (320 + k)) (e8 : ¬ x.1 = 4 → g'.2.1 52 (320 + ls.length) = nI x.2.1) (y : EXP op' one' (19200 + c) (19200 + c') x.2.2) (hc : c ≤ c') (fr : ∀ j, j < 19200 + c → op' j = op j ∧ one' j = one j)
    (nm : (x.1 = 4 → cz (g.2.1 51) 320 ls.length < 8 ∧ g'.1 42 17 = g.1 42 17 + 1) ∧ (¬ x.1 = 4 → g'.1 42 17 = g.1 42 17)) : DRF g' op' one' c' (ls ++ [x]) := by
  obtain ⟨l20, e1, d, en, hz⟩ := dr
  have ez : cz (g'.2.1 51) 320 ls.length = cz (g.2.1 51) 320 ls.length := cz_shift ls.length e3
  have ez1 : cz (g'.2.1 51) 320 (ls.length + 1) = cz (g.2.1 51) 320 ls.length + (if x.1 = 4 then 1 else 0) := by
    rw [show cz (g'.2.1 51) 320 (ls.length + 1) = cz (g'.2.1 51) 320 ls.length + (if g'.2.1 51 (320 + ls.length) = 0 then 1 else 0) from rfl, ez, e4]
    by_cases h : x.1 = 4
    · rw [if_pos h, if_pos (kdR_0.mpr h)]
    · rw [if_neg h, if_neg (fun z => h (kdR_0.mp z))]
  have el : (ls ++ [x]).length = ls.length + 1 := by simp
  unfold DRF
  rw [el]
  refine ⟨by omega, e2, fun k hk => ?_, ?_, ?_⟩
  · by_cases ek : k = ls.length
    · subst ek
      rw [lnA_e]
      exact ⟨⟨c, e6, y⟩, e4, e8⟩
    · have hk' : k < ls.length := by omega
      rw [lnA_l hk']
      obtain ⟨⟨q, q1, q2⟩, q3, q4⟩ := d k hk'
      exact ⟨⟨q, (e5 k hk').trans q1, EXP_keep q2 (by omega) fr⟩, (e3 k hk').trans q3, fun z => (e7 k hk').trans (q4 z)⟩
  · rw [ez1]
    by_cases ck : x.1 = 4
    · rw [if_pos ck, ((nm.1 ck).2), en, nI_1]
    · rw [if_neg ck, nm.2 ck, en]
      rfl
  · rw [ez1]
    by_cases ck : x.1 = 4
    · rw [if_pos ck]
      have := (nm.1 ck).1
      omega
    · rw [if_neg ck]
      exact hz
/-- the line at a -/
def lnD (tk nu : Nat → Nat) (kn : Nat → Bool) (ix : Nat → Nat) (M a : Nat) : LnT := (tk a, if tk a = 4 then M else if tk a = 20 then nu (a + 1) else tk (a + 1), qAllO tk (qPart tk kn 10000 6 0) (qPartO tk kn (lfN tk nu ix) 10000 6 0) 10000 (a + 3))
/-- a line up to its end's sign -/
def lmQ (tk nu : Nat → Nat) (kn : Nat → Bool) (M a : Nat) : RfS := qAll tk (qPart tk kn 10000 6 0) 10000 (exQ tk (if tk a = 4 then 61 else 6) (wfQ tk nu kn M (tk a) (a + 1)))
theorem lnQ_go {line : Nat} (h : tk a = 4 ∨ tk a = 20 ∨ tk a = 5) (hl : ¬ 20 ≤ line) : lnQ tk nu kn M line a = exQ tk 59 (lmQ tk nu kn M a) := by
  unfold lnQ lmQ
  rw [if_neg (fun z => z h), if_neg hl, exQ_e]
theorem lm4 (h : tk a = 4) : lmQ tk nu kn M a = ltQ tk nu kn M (a + 1) := by
  unfold lmQ ltQ
  rw [if_pos h, h]
theorem lm20 (h : tk a = 20) : lmQ tk nu kn M a = qAll tk (qPart tk kn 10000 6 0) 10000 (exQ tk 6 (wfN tk nu (a + 1))) := by
  unfold lmQ
  rw [h, if_neg (by decide)]
  rfl
theorem lm5 (h : tk a = 5) : lmQ tk nu kn M a = qAll tk (qPart tk kn 10000 6 0) 10000 (exQ tk 6 (wfW tk (a + 1))) := by
  unfold lmQ
  rw [h, if_neg (by decide)]
  rfl
theorem wfN_le : a ≤ (wfN tk nu a).1 := by
  unfold wfN
  by_cases z : ¬ tk a = 201
  · rw [if_pos z]; exact Nat.le_refl _
  · rw [if_neg z]
    by_cases y : ¬ (1 ≤ nu a ∧ nu a ≤ 999)
    · rw [if_pos y]; exact Nat.le_refl _
    · rw [if_neg y]; exact Nat.le_succ _
theorem wfW_le : a ≤ (wfW tk a).1 := by
  unfold wfW
  by_cases z : ¬ tk a ≤ 3
  · rw [if_pos z]; exact Nat.le_refl _
  · rw [if_neg z]; exact Nat.le_succ _
set_option maxHeartbeats 8000000 in
theorem P_readLine {ls : List LnT} (R : RT g tk nu nT) (K : KN g tk kn ix nT M) (p : PW n b L xs τ g nT a 0 c op one h) (dr : DRF g op one c ls) : wp (f_X12_readLine 10000 (n + 42) h) (fun r => ∃ g' c' op' one', PW n b L xs τ g' nT (lnQ tk nu kn M ls.length a).1 (lnQ tk nu kn M ls.length a).2 c' op' one' r ∧ DG g g' ∧ (∀ j, j < 19200 → op' j = op j ∧ one' j = one j) ∧ ((lnQ tk nu kn M ls.length a).2 = 0 → a < (lnQ tk nu kn M ls.length a).1 ∧ DRF g' op' one' c' (ls ++ [lnD tk nu kn ix M a]) ∧ (tk a = 4 → g'.1 42 17 = nI (M + 1) ∧ M < 8 ∧ tk (a + 1) = 200 ∧ g'.2.2 54 = vp_updL (g.2.2 54) M (g.2.2 46 (a + 1)) ∧ ¬ kn (a + 1) = true) ∧ (¬ tk a = 4 → g'.1 42 17 = nI M ∧ g'.2.2 54 = g.2.2 54))) := by
  have dr0 := dr
  obtain ⟨l20, e50, -, en, hz⟩ := dr
  generalize enl : ls.length = nl' at l20 e50 en hz ⊢
  have eM := K.2.1
  unfold f_X12_readLine
  have ha := P_a p
  have x16 : aI h (n + 50) 16 = some (nI nl') := by
    rw [A_50 p.1 (i := 16) (by decide) (by decide)]
    show some (g.2.1 50 16) = _
    rw [e50]
  have w0 : f_X12_isWord 10000 (n + 42) 0 h = some (tS tk a 0 4) := P_isWord (j := 0) R p (by decide)
  have w19 : f_X12_isWord 10000 (n + 42) 19 h = some (tS tk a 0 20) := P_isWord (j := 19) R p (by decide)
  have w1 : f_X12_isWord 10000 (n + 42) 1 h = some (tS tk a 0 5) := P_isWord (j := 1) R p (by decide)
  have i20 : nI nl' = 20 ↔ nl' = 20 := ⟨fun e => nI_inj (by omega) (by decide) (e.trans (rfl : (20 : Int32) = nI 20)), fun e => by rw [e]; rfl⟩
  refine wp_zif (ob_42 p.1) ?_
  refine wp_eq w0 ?_
  refine wp_bind (R := fun r => (r = h ∧ (tk a = 4 ∨ tk a = 20 ∨ tk a = 5) ∧ ¬ nl' = 20) ∨ (∃ k', ¬ k' = 0 ∧ lnQ tk nu kn M nl' a = (a, k') ∧ PW n b L xs τ g nT a k' c op one r)) ?_ (fun m3 p3 => ?_)
  · have lin : ∀ (s : zH), s = h → (tk a = 4 ∨ tk a = 20 ∨ tk a = 5) → wp ((gR s (n + 42) 12 13).bind fun r5 => (aI s r5 16).bind fun x6 => if x6 = 20 then (zif (zob s (n + 42) 12) <| (f_X12_wrong 10000 (n + 42) 5 s).bind fun h9 => some h9) else (some s)) (fun r => (r = h ∧ (tk a = 4 ∨ tk a = 20 ∨ tk a = 5) ∧ ¬ nl' = 20) ∨ (∃ k', ¬ k' = 0 ∧ lnQ tk nu kn M nl' a = (a, k') ∧ PW n b L xs τ g nT a k' c op one r)) := by
      intro s es ht
      subst es
      refine wp_eq (gR_42_13 p.1) ?_
      refine wp_eq x16 ?_
      refine wp_ite (fun c4 => ?_) (fun c4 => wp_some (Or.inl ⟨rfl, ht, fun z => c4 (i20.mpr z)⟩))
      refine wp_zif (ob_42 p.1) ?_
      refine wp_bind (P_wrong (v := 5) p (by decide) (by decide)) fun r pr => wp_some (Or.inr ⟨5, by decide, ?_, pr⟩)
      unfold lnQ
      have := i20.mp c4
      rw [if_neg (fun z => z ht), if_pos (by omega)]
    refine wp_ite (fun c1 => ?_) (fun c1 => lin h rfl (Or.inl (tS_1 c1).2))
    refine wp_zif (ob_42 p.1) ?_
    refine wp_eq w19 ?_
    refine wp_bind (R := fun r => match r with | .inl x => x = h ∧ (tk a = 4 ∨ tk a = 20 ∨ tk a = 5) | .inr x => ∃ k', ¬ k' = 0 ∧ lnQ tk nu kn M nl' a = (a, k') ∧ PW n b L xs τ g nT a k' c op one x) ?_ (fun m12 p12 => ?_)
    · refine wp_ite (fun c2 => ?_) (fun c2 => wp_some ⟨rfl, Or.inr (Or.inl (tS_1 c2).2)⟩)
      refine wp_zif (ob_42 p.1) ?_
      refine wp_eq w1 ?_
      refine wp_ite (fun c3 => ?_) (fun c3 => wp_some ⟨rfl, Or.inr (Or.inr (tS_1 c3).2)⟩)
      refine wp_zif (ob_42 p.1) ?_
      refine wp_bind (P_wrong (v := 1) p (by decide) (by decide)) fun r pr => wp_map (wp_some ⟨1, by decide, ?_, pr⟩)
      unfold lnQ
      rw [if_pos]
      intro z
      rcases z with z | z | z
      · exact tS_0 c1 ⟨rfl, z⟩
      · exact tS_0 c2 ⟨rfl, z⟩
      · exact tS_0 c3 ⟨rfl, z⟩
    rcases m12 with s13 | x13
    · exact wp_zsL (lin s13 p12.1 p12.2)
    · exact wp_zsR (Or.inr p12)
  rcases p3 with ⟨rfl, ht, n20⟩ | ⟨k', nf, ek, p3⟩
  · have nl20 : nl' < 20 := by omega
    rw [lnQ_go ht (by omega)]
    refine wp_eq (P_8 p) ?_
    refine wp_ite (fun _ => ?_) (fun z => absurd ((P_le p).mpr rfl) z)
    refine wp_eq (gR_42_13 p.1) ?_
    refine wp_eq x16 ?_
    refine wp_zletE fun x30 e30 => ?_
    have e30' : x30 = nI (320 + nl') := e30.trans (nI_add 320 nl')
    subst e30'
    have ri := nI_r (show 320 + nl' ≤ 339 by omega) (by decide : 339 < 2 ^ 31)
    have e339 : nI 339 = 339 := rfl
    refine wp_eq (gR_42_14 p.1) ?_
    refine wp_zif (ob_42 p.1) ?_
    refine wp_eq w0 ?_
    refine wp_bind (R := fun r => (tk a = 4 ∧ r = 0) ∨ (tk a = 20 ∧ r = 19) ∨ (tk a = 5 ∧ r = 1)) ?_ (fun m34 p34 => ?_)
    · refine wp_ite (fun c1 => ?_) (fun c1 => wp_some (Or.inl ⟨(tS_1 c1).2, rfl⟩))
      refine wp_zif (ob_42 p.1) ?_
      refine wp_eq w19 ?_
      refine wp_ite (fun c2 => wp_some (Or.inr (Or.inr ⟨?_, rfl⟩))) (fun c2 => wp_some (Or.inr (Or.inl ⟨(tS_1 c2).2, rfl⟩)))
      rcases ht with z | z | z
      · exact absurd ⟨rfl, z⟩ (tS_0 c1)
      · exact absurd ⟨rfl, z⟩ (tS_0 c2)
      · exact z
    have k34 : m34 = 0 ↔ tk a = 4 := by
      rcases p34 with ⟨y1, y2⟩ | ⟨y1, y2⟩ | ⟨y1, y2⟩
      · exact ⟨fun _ => y1, fun _ => y2⟩
      · exact ⟨fun z => by rw [y2] at z; exact absurd z (by decide), fun z => absurd z (by omega)⟩
      · exact ⟨fun z => by rw [y2] at z; exact absurd z (by decide), fun z => absurd z (by omega)⟩
    refine wp_bind (sI_51 p.1 (i := nI (320 + nl')) (x := m34) ri.1 (by lia)) fun h39 w39 => ?_
    have e51 : (gP g a c (FV (g.2.1 45) a 0) op one).2.1 51 = g.2.1 51 := rfl
    rw [gP_A _ _ _ _ _ _ _ (by decide) (by decide), nI_clamp (by omega), e51] at w39
    refine wp_eq (gR_42_15 w39) ?_
    refine wp_bind (sI_52 w39 (i := nI (320 + nl')) (x := 0) ri.1 (by lia)) fun h41 w41 => ?_
    have e52 : (gP (gsA g 51 (upd (g.2.1 51) (320 + nl') m34)) a c (FV (g.2.1 45) a 0) op one).2.1 52 = (gsA g 51 (upd (g.2.1 51) (320 + nl') m34)).2.1 52 := rfl
    rw [gP_A _ _ _ _ _ _ _ (by decide) (by decide), nI_clamp (by omega), e52] at w41
    have p41 : PW n b L xs τ (gsA (gsA g 51 (upd (g.2.1 51) (320 + nl') m34)) 52 (upd ((gsA g 51 (upd (g.2.1 51) (320 + nl') m34)).2.1 52) (320 + nl') 0)) nT a 0 c op one h41 := P_44 p w41 p.2.1 p.2.2.1 p.2.2.2.1 rfl rfl
    have dg1 := DG_trans (DG_51 g (show 320 ≤ 320 + nl' by omega) m34) (DG_52 (gsA g 51 (upd (g.2.1 51) (320 + nl') m34)) (show 320 ≤ 320 + nl' by omega) 0)
    have g52 : ∀ k, k ≠ 320 + nl' → (gsA (gsA g 51 (upd (g.2.1 51) (320 + nl') m34)) 52 (upd ((gsA g 51 (upd (g.2.1 51) (320 + nl') m34)).2.1 52) (320 + nl') 0)).2.1 52 k = g.2.1 52 k := fun k hk => by
      rw [gsA_in, upd_ne hk]
      rfl
    have g50 : (gsA (gsA g 51 (upd (g.2.1 51) (320 + nl') m34)) 52 (upd ((gsA g 51 (upd (g.2.1 51) (320 + nl') m34)).2.1 52) (320 + nl') 0)).2.1 50 = g.2.1 50 := rfl
    have g53 : (gsA (gsA g 51 (upd (g.2.1 51) (320 + nl') m34)) 52 (upd ((gsA g 51 (upd (g.2.1 51) (320 + nl') m34)).2.1 52) (320 + nl') 0)).2.1 53 = g.2.1 53 := rfl
    have g51 : (gsA (gsA g 51 (upd (g.2.1 51) (320 + nl') m34)) 52 (upd ((gsA g 51 (upd (g.2.1 51) (320 + nl') m34)).2.1 52) (320 + nl') 0)).2.1 51 = upd (g.2.1 51) (320 + nl') m34 := rfl
    have g17 : (gsA (gsA g 51 (upd (g.2.1 51) (320 + nl') m34)) 52 (upd ((gsA g 51 (upd (g.2.1 51) (320 + nl') m34)).2.1 52) (320 + nl') 0)).1 42 17 = g.1 42 17 := rfl
    have g54 : (gsA (gsA g 51 (upd (g.2.1 51) (320 + nl') m34)) 52 (upd ((gsA g 51 (upd (g.2.1 51) (320 + nl') m34)).2.1 52) (320 + nl') 0)).2.2 54 = g.2.2 54 := rfl
    have g46 : (gsA (gsA g 51 (upd (g.2.1 51) (320 + nl') m34)) 52 (upd ((gsA g 51 (upd (g.2.1 51) (320 + nl') m34)).2.1 52) (320 + nl') 0)).2.2 46 = g.2.2 46 := rfl
    have R1 : RT (gsA (gsA g 51 (upd (g.2.1 51) (320 + nl') m34)) 52 (upd ((gsA g 51 (upd (g.2.1 51) (320 + nl') m34)).2.1 52) (320 + nl') 0)) tk nu nT := RT_keep R dg1
    have K1 : KN (gsA (gsA g 51 (upd (g.2.1 51) (320 + nl') m34)) 52 (upd ((gsA g 51 (upd (g.2.1 51) (320 + nl') m34)).2.1 52) (320 + nl') 0)) tk kn ix nT M := K
    generalize (gsA (gsA g 51 (upd (g.2.1 51) (320 + nl') m34)) 52 (upd ((gsA g 51 (upd (g.2.1 51) (320 + nl') m34)).2.1 52) (320 + nl') 0)) = g1 at p41 dg1 g50 g53 g51 g17 g54 g46 g52 R1 K1
    refine wp_eq (P_7 p41) ?_
    refine wp_bind (P_go R1 p41 (by omega)) fun h43 p43 => ?_
    have k51 : aI h43 (n + 51) (nI (320 + nl')) = some m34 := by
      rw [A_51 p43.1 (i := nI (320 + nl')) ri.1 (by lia), nI_clamp (by omega)]
      show some (g1.2.1 51 (320 + nl')) = _
      rw [g51, upd_at]
    refine wp_eq (gR_42_14 p43.1) ?_
    refine wp_eq k51 ?_
    have hca := p.2.2.1
    refine wp_bind (R := fun r => ∃ g' c' op' one', PW n b L xs τ g' nT (lmQ tk nu kn M a).1 (lmQ tk nu kn M a).2 c' op' one' r ∧ a < (lmQ tk nu kn M a).1 ∧ c ≤ c' ∧ DG g g' ∧ (∀ j, j < 19200 + c → op' j = op j ∧ one' j = one j) ∧ ((lmQ tk nu kn M a).2 = 0 → g'.2.1 50 = g.2.1 50 ∧ g'.2.1 51 = upd (g.2.1 51) (320 + nl') m34 ∧ (∀ k, k ≠ 320 + nl' → g'.2.1 53 k = g.2.1 53 k) ∧ g'.2.1 53 (320 + nl') = nI (19200 + c) ∧ EXP op' one' (19200 + c) (19200 + c') (lnD tk nu kn ix M a).2.2 ∧ (m34 = 0 → g.1 42 17 < 8 ∧ g'.1 42 17 = g.1 42 17 + 1 ∧ g'.2.2 54 = vp_updL (g.2.2 54) M (g.2.2 46 (a + 1)) ∧ M < 8 ∧ tk (a + 1) = 200 ∧ ¬ kn (a + 1) = true) ∧ (¬ m34 = 0 → (g'.1 42 17 = g.1 42 17 ∧ g'.2.2 54 = g.2.2 54) ∧ g'.2.1 52 (320 + nl') = nI (lnD tk nu kn ix M a).2.1) ∧ ∀ k, k ≠ 320 + nl' → g'.2.1 52 k = g.2.1 52 k)) ?_ (fun m46 p46 => ?_)
    · refine wp_ite (fun ck => ?_) (fun ck => ?_)
      · have t4 := k34.mp ck
        rw [lm4 t4]
        refine wp_zif (ob_42 p43.1) ?_
        refine wp_bind (P_readLet R1 K1 p43 (by omega) (show 320 + nl' < 340 by omega) (by omega)) fun h65 p65 => ?_
        generalize ltQ tk nu kn M (a + 1) = s2 at p65
        obtain ⟨g2, c2, op2, one2, p65, l1, l2, dg2, fr2, k2⟩ := p65
        refine wp_some ⟨g2, c2, op2, one2, p65, by omega, l2, DG_trans dg1 dg2, fr2, fun e => ?_⟩
        obtain ⟨y2, y3, y4, y5, y6, y7, y8, y9, y10, y11, y12, y13⟩ := k2 e
        exact ⟨y2.trans g50, y3.trans g51, fun k hk => (y4 k hk).trans (congrFun g53 k), y5, y6, fun _ => ⟨by rw [← g17]; exact y7, by rw [← g17]; exact y8, by rw [y9, g54, g46], y10, y11, y13⟩, fun z => absurd ck z, fun k hk => (congrFun y12 k).trans (g52 k hk)⟩
      · have t4 : ¬ tk a = 4 := fun z => ck (k34.mpr z)
        refine wp_eq (gR_42_15 p43.1) ?_
        refine wp_eq (gR_42_14 p43.1) ?_
        refine wp_eq k51 ?_
        refine wp_bind (R := fun r => ∃ u : RfS, a + 1 ≤ u.1 ∧ lmQ tk nu kn M a = qAll tk (qPart tk kn 10000 6 0) 10000 (exQ tk 6 u) ∧ PW n b L xs τ g1 nT u.1 u.2 c op one r.2 ∧ (u.2 = 0 → u.1 = a + 1 + 1 ∧ r.1 = nI (lnD tk nu kn ix M a).2.1)) ?_ (fun m51 p51 => ?_)
        · refine wp_ite (fun z => ?_) (fun z => ?_)
          · have t20 : tk a = 20 := by
              rcases p34 with y | y | y
              · exact absurd y.1 t4
              · exact y.1
              · rw [y.2] at z; exact absurd z (by decide)
            refine wp_zif (ob_42 p43.1) ?_
            exact wp_bind (P_takeNumber R1 p43) fun r pr => wp_some ⟨wfN tk nu (a + 1), wfN_le, lm20 t20, pr.1, fun e => ⟨(pr.2 e).1, by
              rw [(pr.2 e).2]
              unfold lnD
              show _ = nI (if tk a = 4 then M else if tk a = 20 then nu (a + 1) else tk (a + 1))
              rw [if_neg t4, if_pos t20]⟩⟩
          · have t5 : tk a = 5 := by
              rcases p34 with y | y | y
              · exact absurd y.1 t4
              · exact absurd y.2 z
              · exact y.1
            refine wp_zif (ob_42 p43.1) ?_
            exact wp_bind (P_takeWho R1 p43) fun r pr => wp_some ⟨wfW tk (a + 1), wfW_le, lm5 t5, pr.1, fun e => ⟨(pr.2 e).1, by
              rw [(pr.2 e).2]
              unfold lnD
              show _ = nI (if tk a = 4 then M else if tk a = 20 then nu (a + 1) else tk (a + 1))
              rw [if_neg t4, if_neg (show ¬ tk a = 20 by omega)]⟩⟩
        obtain ⟨⟨a3, k3⟩, l3, elm, p51, ok3⟩ := p51
        have l3 : a + 1 ≤ a3 := l3
        have p51 : PW n b L xs τ g1 nT a3 k3 c op one m51.2 := p51
        have ok3 : k3 = 0 → a3 = a + 1 + 1 ∧ m51.1 = nI (lnD tk nu kn ix M a).2.1 := ok3
        rw [elm]
        refine wp_bind (sI_52 p51.1 (i := nI (320 + nl')) (x := m51.1) ri.1 (by lia)) fun h57 w57 => ?_
        have e52 : (gP g1 a3 c (FV (g1.2.1 45) a3 k3) op one).2.1 52 = g1.2.1 52 := rfl
        rw [gP_A _ _ _ _ _ _ _ (by decide) (by decide), nI_clamp (by omega), e52] at w57
        have p57 : PW n b L xs τ (gsA g1 52 (upd (g1.2.1 52) (320 + nl') m51.1)) nT a3 k3 c op one h57 := P_44 p51 w57 p51.2.1 p51.2.2.1 p51.2.2.2.1 rfl rfl
        have dg3 := DG_trans dg1 (DG_52 g1 (show 320 ≤ 320 + nl' by omega) m51.1)
        have R3 : RT (gsA g1 52 (upd (g1.2.1 52) (320 + nl') m51.1)) tk nu nT := RT_keep R1 (DG_52 g1 (show 320 ≤ 320 + nl' by omega) m51.1)
        have K3 : KN (gsA g1 52 (upd (g1.2.1 52) (320 + nl') m51.1)) tk kn ix nT M := K1
        have b50 : (gsA g1 52 (upd (g1.2.1 52) (320 + nl') m51.1)).2.1 50 = g.2.1 50 := g50
        have b51 : (gsA g1 52 (upd (g1.2.1 52) (320 + nl') m51.1)).2.1 51 = upd (g.2.1 51) (320 + nl') m34 := g51
        have b53 : (gsA g1 52 (upd (g1.2.1 52) (320 + nl') m51.1)).2.1 53 = g.2.1 53 := g53
        have b17 : (gsA g1 52 (upd (g1.2.1 52) (320 + nl') m51.1)).1 42 17 = g.1 42 17 := g17
        have b54 : (gsA g1 52 (upd (g1.2.1 52) (320 + nl') m51.1)).2.2 54 = g.2.2 54 := g54
        have b52 : (∀ k, k ≠ 320 + nl' → (gsA g1 52 (upd (g1.2.1 52) (320 + nl') m51.1)).2.1 52 k = g.2.1 52 k) ∧ (gsA g1 52 (upd (g1.2.1 52) (320 + nl') m51.1)).2.1 52 (320 + nl') = m51.1 := by
          rw [gsA_in]
          exact ⟨fun k hk => (upd_ne hk).trans (g52 k hk), upd_at _ _ _⟩
        generalize gsA g1 52 (upd (g1.2.1 52) (320 + nl') m51.1) = g3 at p57 dg3 R3 K3 b50 b51 b53 b17 b54 b52
        refine wp_zif (ob_42 p57.1) ?_
        refine wp_bind (P_takeWord (j := 2) R3 p57 (by decide)) fun h59 p59 => ?_
        have pm2 : pm 2 = 6 := rfl
        rw [pm2] at p59
        have l4 : a3 ≤ (exQ tk 6 (a3, k3)).1 := exQ_le (s := (a3, k3))
        have ok4 : (exQ tk 6 (a3, k3)).2 = 0 → k3 = 0 ∧ (exQ tk 6 (a3, k3)).1 = a3 + 1 := fun e => ⟨exQ_0 e, exQ_ok e⟩
        generalize exQ tk 6 (a3, k3) = s4 at p59 l4 ok4
        obtain ⟨a4, k4⟩ := s4
        have l4 : a3 ≤ a4 := l4
        have ok4 : k4 = 0 → k3 = 0 ∧ a4 = a3 + 1 := ok4
        have p59 : PW n b L xs τ g3 nT a4 k4 c op one h59 := p59
        refine wp_eq (gR_42_16 p59.1) ?_
        refine wp_zif (ob_42 p59.1) ?_
        refine wp_bind (P_readTests R3 K3 p59 (by omega)) fun q62 p62 => ?_
        generalize qAll tk (qPart tk kn 10000 6 0) 10000 (a4, k4) = s5 at p62
        obtain ⟨e62, c5, op5, one5, p62, l5, m5, fr5, k5⟩ := p62
        refine wp_bind (sI_53 p62.1 (i := nI (320 + nl')) (x := q62.1) ri.1 (by lia)) fun h63 w63 => ?_
        have e53 : (gP g3 s5.1 c5 (FV (g3.2.1 45) s5.1 s5.2) op5 one5).2.1 53 = g3.2.1 53 := rfl
        rw [gP_A _ _ _ _ _ _ _ (by decide) (by decide), nI_clamp (by omega), e53, e62] at w63
        have p63 : PW n b L xs τ (gsA g3 53 (upd (g3.2.1 53) (320 + nl') (nI (19200 + c)))) nT s5.1 s5.2 c5 op5 one5 h63 := P_44 p62 w63 p62.2.1 p62.2.2.1 p62.2.2.2.1 rfl rfl
        refine wp_some ⟨_, c5, op5, one5, p63, by omega, m5, DG_trans dg3 (DG_53 g3 (by omega) _), fr5, fun e => ⟨?_, ?_, fun k hk => ?_, ?_, ?_, fun z => absurd z ck, fun _ => ⟨⟨b17, b54⟩, ?_⟩, fun k hk => ?_⟩⟩
        · exact (gsA_out (by decide)).trans b50
        · exact (gsA_out (by decide)).trans b51
        · rw [gsA_in, upd_ne hk, b53]
        · rw [gsA_in, upd_at]
        · obtain ⟨f1, f2⟩ := k5 e
          obtain ⟨f3, f4⟩ := ok4 f1
          have e4 : a4 = a + 3 := by have := (ok3 f3).1; omega
          rw [e4] at f2
          exact f2
        · rw [gsA_out (by decide), b52.2]
          exact (ok3 (ok4 (k5 e).1).1).2
        · rw [gsA_out (by decide)]
          exact b52.1 k hk
    generalize lmQ tk nu kn M a = s2 at p46
    obtain ⟨g2, c2, op2, one2, p46, l1, l2, dg2, fr2, k2⟩ := p46
    refine wp_eq (gR_42_13 p46.1) ?_
    refine wp_eq (A_50 p46.1 (i := 16) (by decide) (by decide)) ?_
    have e16 : (16 : Int32).toNatClampNeg = 16 := by decide
    have e50' : (gP g2 s2.1 c2 (FV (g2.2.1 45) s2.1 s2.2) op2 one2).2.1 50 = g2.2.1 50 := rfl
    rw [e16, e50']
    refine wp_bind (sI_50 p46.1 (i := 16) (x := g2.2.1 50 16 + 1) (by decide) (by decide)) fun h68 w68 => ?_
    rw [gP_A _ _ _ _ _ _ _ (by decide) (by decide), e16, e50'] at w68
    have p68 : PW n b L xs τ (gsA g2 50 (upd (g2.2.1 50) 16 (g2.2.1 50 16 + 1))) nT s2.1 s2.2 c2 op2 one2 h68 := P_44 p46 w68 p46.2.1 p46.2.2.1 p46.2.2.2.1 rfl rfl
    refine wp_zif (ob_42 p68.1) ?_
    have R2 : RT (gsA g2 50 (upd (g2.2.1 50) 16 (g2.2.1 50 16 + 1))) tk nu nT := RT_keep R (DG_trans dg2 (DG_50 g2 _))
    refine wp_bind (P_takeSign (v := 59) R2 p68 (by decide) (by decide)) fun h70 p70 => ?_
    have l3 : s2.1 ≤ (exQ tk 59 s2).1 := exQ_le
    refine wp_some ⟨_, c2, op2, one2, p70, DG_trans dg2 (DG_50 g2 _), fun j hj => fr2 j (by omega), fun e => ?_⟩
    obtain ⟨y1, y2, y3, y4, y5, y6, y7, y8⟩ := k2 (exQ_0 e)
    have ekd : m34 = kdR (tk a) := by
      rcases p34 with ⟨q1, q2⟩ | ⟨q1, q2⟩ | ⟨q1, q2⟩ <;> rw [q1, q2] <;> rfl
    refine ⟨by omega, ?_, fun z => ?_, fun z => ?_⟩
    · subst enl
      refine DRF_more (x := lnD tk nu kn ix M a) (by omega) dr0 ?_ (fun k hk => ?_) ?_ (fun k hk => ?_) ?_ (fun k hk => ?_) (fun z => ?_) y5 l2 fr2 ⟨fun z => ⟨?_, ?_⟩, fun z => ?_⟩
      · rw [gsA_in, upd_at, y1, e50, nI_1]
      · rw [gsA_out (by decide), y2, upd_lt (by omega)]
      · rw [gsA_out (by decide), y2, upd_at]
        exact ekd
      · rw [gsA_out (by decide), y3 _ (by omega)]
      · rw [gsA_out (by decide), y4]
      · rw [gsA_out (by decide), y8 _ (by omega)]
      · rw [gsA_out (by decide)]
        exact (y7 (fun y => z (k34.mp y))).2
      · have q := (y6 (k34.mpr z)).1
        rw [en] at q
        have ne : cz (g.2.1 51) 320 ls.length ≠ 8 := fun e8 => by
          rw [e8] at q
          exact absurd q (by decide)
        omega
      · exact (y6 (k34.mpr z)).2.1
      · exact (y7 (fun y => z (k34.mp y))).1.1
    · obtain ⟨z1, z2, z3, z4, z5, z6⟩ := y6 (k34.mpr z)
      refine ⟨?_, z4, z5, z3, z6⟩
      show g2.1 42 17 = _
      rw [z2, eM, nI_1]
    · obtain ⟨⟨z1, z2⟩, -⟩ := y7 (fun y => z (k34.mp y))
      refine ⟨?_, z2⟩
      show g2.1 42 17 = _
      rw [z1, eM]
  · rw [ek]
    refine wp_eq (P_8 p3) ?_
    refine wp_ite (fun c1 => absurd ((P_le p3).mp c1) nf) (fun c1 => wp_some ⟨g, c, op, one, p3, DG_id g, fun _ _ => ⟨rfl, rfl⟩, fun e => absurd e nf⟩)
/-- the names of both sides are those of the same tokens -/
def NMR (g : zGh) (tk ky : Nat → Nat) (nk : Nat → Nat) (nT M : Nat) : Prop := M ≤ 8 ∧ g.1 42 17 = nI M ∧ (∀ j, j < M → ∃ i, i ≤ nT ∧ tk i = 200 ∧ g.2.2 54 j = g.2.2 46 i ∧ nk j = ky i) ∧ ∀ j k, j < M → k < M → nk j = nk k → j = k
/-- the same word by either number -/
def KYR (g : zGh) (tk ky : Nat → Nat) (nT : Nat) : Prop := ∀ i j, i ≤ nT → j ≤ nT → tk i = 200 → tk j = 200 → (g.2.2 46 i = g.2.2 46 j ↔ ky i = ky j)
/-- a name's place -/
def ixN (nk : Nat → Nat) (M key : Nat) : Nat := (fIx nk key M 0).getD 0
theorem KN_of {ky nk : Nat → Nat} (m : NMR g tk ky nk nT M) (y : KYR g tk ky nT) : KN g tk (fun j => knB nk M (ky j)) (fun j => ixN nk M (ky j)) nT M := by
  obtain ⟨m1, m2, m3, m4⟩ := m
  refine ⟨m1, m2, fun i hi ht => ⟨?_, fun k hk e => ?_⟩⟩
  rotate_left
  · obtain ⟨i2, j1, j2, j3, j4⟩ := m3 k hk
    have ek : nk k = ky i := j4.trans ((y i2 i j1 hi j2 ht).mp (j3.symm.trans e))
    show k = (fIx nk (ky i) M 0).getD 0
    cases ef : fIx nk (ky i) M 0 with
    | none => exact absurd ek (fIx_none M 0 ef k (Nat.zero_le _) (by omega))
    | some x =>
      obtain ⟨-, f2, f3⟩ := fIx_some M 0 x ef
      exact m4 k x hk (by omega) (ek.trans f3.symm)
  show (fIx nk (ky i) M 0).isSome = true ↔ _
  constructor
  · intro e
    obtain ⟨k, ek⟩ := Option.isSome_iff_exists.mp e
    obtain ⟨-, f2, f3⟩ := fIx_some M 0 k ek
    obtain ⟨i2, j1, j2, j3, j4⟩ := m3 k (by omega)
    exact ⟨k, by omega, j3.trans ((y i2 i j1 hi j2 ht).mpr (j4.symm.trans f3))⟩
  · intro ⟨k, h1, h2⟩
    cases e : fIx nk (ky i) M 0 with
    | some x => rfl
    | none =>
      exfalso
      obtain ⟨i2, j1, j2, j3, j4⟩ := m3 k h1
      exact fIx_none M 0 e k (Nat.zero_le _) (by omega) (j4.trans ((y i2 i j1 hi j2 ht).mp (j3.symm.trans h2)))
/-- the lines of a by-law -/
def lwL (tk nu ky : Nat → Nat) : Nat → Nat → Nat → Nat → (Nat → Nat) → List LnT
  | 0, _, _, _, _ => []
  | d + 1, line, i, M, nk => if tk i = 202 then [] else lnD tk nu (fun j => knB nk M (ky j)) (fun j => ixN nk M (ky j)) M i :: lwL tk nu ky d (line + 1) (lnQ tk nu (fun j => knB nk M (ky j)) M line i).1 (lnM tk M i) (lnK tk ky M i nk)
theorem P_law_L53 {ky : Nat → Nat} : ∀ (m d line : Nat) {g : zGh} {a c M : Nat} {nk : Nat → Nat} {ls : List LnT} {op one : Nat → Int32} {h : zH}, RT g tk nu nT → KYR g tk ky nT → NMR g tk ky nk nT M → PW n b L xs τ g nT a 0 c op one h → DRF g op one c ls → ls.length = line → line + d = 21 → d < m → wp (f_X12_law_L53 10000 (n + 42) m h) (fun r => ∃ g' c' op' one', PW n b L xs τ g' nT (lwQ tk nu ky d line a M nk).1 (lwQ tk nu ky d line a M nk).2 c' op' one' r ∧ DG g g' ∧ (∀ j, j < 19200 → op' j = op j ∧ one' j = one j) ∧ ((lwQ tk nu ky d line a M nk).2 = 0 → DRF g' op' one' c' (ls ++ lwL tk nu ky d line a M nk))) := by
  intro m
  induction m with
  | zero => intro d line g a c M nk ls op one h R Y N p dr e50 ld hm; exact absurd hm (Nat.not_lt_zero _)
  | succ m ih =>
    intro d line g a c M nk ls op one h R Y N p dr e50 ld hm
    rw [f_X12_law_L53.eq_2]
    have l20 : line ≤ 20 := by rw [← e50]; exact dr.1
    obtain ⟨d, rfl⟩ : ∃ d', d = d' + 1 := ⟨d - 1, by omega⟩
    have p8 : gI h (n + 42) 12 8 = some 0 := P_8 p
    have K := KN_of N Y
    refine wp_eq p8 ?_
    rw [if_pos rfl]
    refine wp_eq (gR_42_4 p.1) ?_
    refine wp_eq (P_7 p) ?_
    refine wp_eq (P_S p) ?_
    have lw : lwQ tk nu ky (d + 1) line a M nk = if tk a = 202 then (a, 0) else if ¬ (lnQ tk nu (fun j => knB nk M (ky j)) M line a).2 = 0 then lnQ tk nu (fun j => knB nk M (ky j)) M line a else lwQ tk nu ky d (line + 1) (lnQ tk nu (fun j => knB nk M (ky j)) M line a).1 (lnM tk M a) (lnK tk ky M a nk) := rfl
    have lwl : lwL tk nu ky (d + 1) line a M nk = if tk a = 202 then [] else lnD tk nu (fun j => knB nk M (ky j)) (fun j => ixN nk M (ky j)) M a :: lwL tk nu ky d (line + 1) (lnQ tk nu (fun j => knB nk M (ky j)) M line a).1 (lnM tk M a) (lnK tk ky M a nk) := rfl
    rw [lw, lwl]
    refine wp_ite (fun c2 => ?_) (fun c2 => ?_)
    · rw [if_pos ((R.en a p.2.1).mpr c2), if_pos ((R.en a p.2.1).mpr c2), List.append_nil]
      exact wp_some ⟨g, c, op, one, p, DG_id g, fun _ _ => ⟨rfl, rfl⟩, fun _ => dr⟩
    · rw [if_neg (fun z => c2 ((R.en a p.2.1).mp z)), if_neg (fun z => c2 ((R.en a p.2.1).mp z))]
      refine wp_zif (ob_42 p.1) ?_
      refine wp_bind (P_readLine R K p dr) fun h21 p21 => ?_
      rw [e50] at p21
      generalize lnQ tk nu (fun j => knB nk M (ky j)) M line a = s2 at p21
      obtain ⟨a2, k2⟩ := s2
      obtain ⟨g2, c2, op2, one2, p21, dg, fr, kk⟩ := p21
      have p21 : PW n b L xs τ g2 nT a2 k2 c2 op2 one2 h21 := p21
      by_cases z : k2 = 0
      · subst z
        rw [if_neg (show ¬ ¬ ((a2, 0) : RfS).2 = 0 from fun y => y rfl)]
        obtain ⟨v1, v2, v5, v6⟩ := kk rfl
        have v20 : (ls ++ [lnD tk nu (fun j => knB nk M (ky j)) (fun j => ixN nk M (ky j)) M a]).length ≤ 20 := v2.1
        have vl : (ls ++ [lnD tk nu (fun j => knB nk M (ky j)) (fun j => ixN nk M (ky j)) M a]).length = line + 1 := by simp [e50]
        have e46 : g2.2.2 46 = g.2.2 46 := dg.2.2.2.2.2 46 (by decide)
        have an := p21.2.1
        have Y2 : KYR g2 tk ky nT := by
          unfold KYR
          rw [e46]
          exact Y
        have N2 : NMR g2 tk ky (lnK tk ky M a nk) nT (lnM tk M a) := by
          unfold lnK lnM
          obtain ⟨m1, m2, m3, m4⟩ := N
          have al : a < a2 := v1
          by_cases t4 : tk a = 4
          · obtain ⟨u1, u2, u3, u4, u5⟩ := v5 t4
            rw [if_pos t4, if_pos t4]
            refine ⟨by omega, u1, fun j hj => ?_, fun j k hj hk e => ?_⟩
            rotate_left
            · have nn : ∀ q, q < M → ¬ nk q = ky (a + 1) := fun q hq z => by
                refine u5 ?_
                show (fIx nk (ky (a + 1)) M 0).isSome = true
                cases ef : fIx nk (ky (a + 1)) M 0 with
                | none => exact absurd z (fIx_none M 0 ef q (Nat.zero_le _) (by omega))
                | some x => rfl
              have e' : (if j = M then ky (a + 1) else nk j) = (if k = M then ky (a + 1) else nk k) := e
              by_cases ej : j = M
              · by_cases ek : k = M
                · omega
                · rw [if_pos ej, if_neg ek] at e'
                  exact absurd e'.symm (nn k (by omega))
              · by_cases ek : k = M
                · rw [if_neg ej, if_pos ek] at e'
                  exact absurd e' (nn j (by omega))
                · rw [if_neg ej, if_neg ek] at e'
                  exact m4 j k (by omega) (by omega) e'
            rw [u4, e46]
            by_cases ej : j = M
            · subst ej
              exact ⟨a + 1, by omega, u3, if_pos rfl, if_pos rfl⟩
            · obtain ⟨i, j1, j2, j3, j4⟩ := m3 j (by omega)
              exact ⟨i, j1, j2, (if_neg ej : vp_updL (g.2.2 54) M (g.2.2 46 (a + 1)) j = g.2.2 54 j).trans j3, (if_neg ej : (if j = M then ky (a + 1) else nk j) = nk j).trans j4⟩
          · obtain ⟨u1, u2⟩ := v6 t4
            rw [if_neg t4, if_neg t4]
            refine ⟨m1, u1, fun j hj => ?_, m4⟩
            rw [u2, e46]
            exact m3 j hj
        refine wp_mono (ih d (line + 1) (RT_keep R dg) Y2 N2 p21 v2 vl (by omega) (by omega)) fun r pr => ?_
        rw [List.append_assoc] at pr
        obtain ⟨g3, c3, op3, one3, p3, dg3, fr3, k3⟩ := pr
        exact ⟨g3, c3, op3, one3, p3, DG_trans dg dg3, fun j hj => ⟨(fr3 j hj).1.trans (fr j hj).1, (fr3 j hj).2.trans (fr j hj).2⟩, k3⟩
      · rw [if_pos (show ¬ ((a2, k2) : RfS).2 = 0 from z)]
        obtain ⟨m, rfl⟩ : ∃ m', m = m' + 1 := ⟨m - 1, by omega⟩
        rw [f_X12_law_L53.eq_2]
        refine wp_eq (P_8 p21) ?_
        refine wp_ite (fun y => absurd ((P_f p21).2.mp y) z) (fun _ => ?_)
        exact wp_some ⟨g2, c2, op2, one2, p21, dg, fr, fun e => absurd e z⟩
end LINE2
