theorem withinM_eq (v lo hi : Int32) : p_X12_within v lo hi = if lo ≤ v ∧ v ≤ hi then 1 else 0 := within_eq v lo hi
theorem hidM_eq {N m : Nat} {h0 : zH} {r : Nat → Nat} {i : Nat → Int32} {f g w : Nat → Int32} {v1 x y sx sy : Int32} (D : nhD m r) (O35 : nhO m r 35) (O36 : nhO m r 36) (a35 : aI h0 (r 35) v1 = some sx) (a36 : aI h0 (r 36) v1 = some sy) (hsx : sx = 0 ∨ sx < 0) :
    f_X12_isHidden N m v1 x y (NH h0 m r i f g w) = some (bI (!(decide (sx = 0)) && decide (x < sx) && decide (y < sy) && decide (sx * y + sy * x ≤ x * y))) := by
  unfold f_X12_isHidden
  rw [NH_r D 35 (gX12_35 _ _ _ _), Option.bind_some, NH_a O35, a35, Option.bind_some, NH_r D 36 (gX12_36 _ _ _ _), Option.bind_some, NH_a O36, a36, Option.bind_some]
  have e1 : (sx ≤ x) = ¬ (x < sx) := by simp
  have e2 : (sy ≤ y) = ¬ (y < sy) := by simp
  have e3 : (x * y < sx * y + sy * x) = ¬ (sx * y + sy * x ≤ x * y) := by simp
  have e4 : ((0 : Int32) ≤ sx) = (sx = 0) := by
    rcases hsx with rfl | h9
    · simp
    · have h8 : ¬ (0 : Int32) ≤ sx := by rw [Int32.not_le]; exact h9
      have h7 : ¬ sx = 0 := fun e => by rw [e] at h9; exact absurd h9 (by decide)
      simp [h8, h7]
  by_cases c1 : sx = 0 <;> by_cases c2 : x < sx <;> by_cases c3 : y < sy <;> by_cases c4 : sx * y + sy * x ≤ x * y <;> simp only [e1, e2, e3, e4, c1, c2, c3, c4, not_true_eq_false, not_false_eq_true, if_true, if_false, decide_true, decide_false, Bool.and_true, Bool.true_and, Bool.and_false, Bool.false_and, Bool.not_true, Bool.not_false, bI_t, bI_f] <;> try simp
theorem upM_eq {N : Nat} {a b : Int32} {h : zH} (hb : 0 < b) : f_X12_upwards N a b h = some (pUp a b) := by
  unfold f_X12_upwards pUp zdiv
  have : ¬ b = 0 := fun e => by rw [e] at hb; exact absurd hb (by decide)
  simp [hb, this]
theorem mStep {N m n j : Nat} {h0 : zH} {r : Nat → Nat} {i : Nat → Int32} {f g w : Nat → Int32} {v1 br x y v reacts pace lk looks sx sy fl : Int32} (D : nhD m r) (O31 : nhO m r 31) (O33 : nhO m r 33) (O34 : nhO m r 34) (O35 : nhO m r 35) (O36 : nhO m r 36)
    (a31 : aI h0 (r 31) v1 = some reacts) (a33 : aI h0 (r 33) v1 = some pace) (a34 : aI h0 (r 34) v1 = some lk) (a35 : aI h0 (r 35) v1 = some sx) (a36 : aI h0 (r 36) v1 = some sy) (hlk : (lk &&& 1 = 1) = ¬ looks = 0) (hsx : sx = 0 ∨ sx < 0) (hpace : 0 < pace)
    (hbr : (if v ≤ br then 0 else v - br) = (if 0 < v - pBr fl then v - pBr fl else 0)) (hj : j < 60) (h43 : i 43 = 0) (h44 : (i 44 < 0) = (i 44 = -1)) (h45 : (i 45 < 0) = (i 45 = -1)) :
    f_X12_goesThrough_L84 N m v1 br (n + 1) x y v (nI j) (NH h0 m r i f g w) = f_X12_goesThrough_L84 N m v1 br n (rNx reacts pace looks sx sy fl (nI j) (x, y, v, i 44, i 45)).1 (rNx reacts pace looks sx sy fl (nI j) (x, y, v, i 44, i 45)).2.1 (rNx reacts pace looks sx sy fl (nI j) (x, y, v, i 44, i 45)).2.2.1 (nI (j + 1)) (NH h0 m r (upd (upd (upd i 44 (rNx reacts pace looks sx sy fl (nI j) (x, y, v, i 44, i 45)).2.2.2.1) 45 (rNx reacts pace looks sx sy fl (nI j) (x, y, v, i 44, i 45)).2.2.2.2) 43 (bI (rMt (rNx reacts pace looks sx sy fl (nI j) (x, y, v, i 44, i 45))))) (upd f (j + 1) (rNx reacts pace looks sx sy fl (nI j) (x, y, v, i 44, i 45)).1) (upd g (j + 1) (rNx reacts pace looks sx sy fl (nI j) (x, y, v, i 44, i 45)).2.1) (upd w j (rNx reacts pace looks sx sy fl (nI j) (x, y, v, i 44, i 45)).2.2.1)) := by
  have c0 : ¬ (60 : Int32) ≤ nI j := by
    rw [show (60 : Int32) = nI 60 from rfl, nI_leI (by decide) (by omega)]; omega
  conv => lhs; unfold f_X12_goesThrough_L84
  rw [if_neg c0, NH_g43 D, Option.bind_some, if_pos h43, NH_zo D, zif_t, hidM_eq D O35 O36 a35 a36 hsx]
  have hs : (if 0 ≤ x then some (0 : Int32) else if 0 ≤ y then some 0 else (some (bI (!(decide (sx = 0)) && decide (x < sx) && decide (y < sy) && decide (sx * y + sy * x ≤ x * y)))).bind fun q26 => if q26 = 0 then some 1 else some 0) = some (bI (bSees sx sy x y)) := by
    unfold bSees
    generalize (!(decide (sx = 0)) && decide (x < sx) && decide (y < sy) && decide (sx * y + sy * x ≤ x * y)) = hid
    have e4 : ((0 : Int32) ≤ x) = ¬ (x < 0) := by simp
    have e5 : ((0 : Int32) ≤ y) = ¬ (y < 0) := by simp
    cases hid <;> by_cases c5 : x < 0 <;> by_cases c6 : y < 0 <;> simp [e4, e5, c5, c6, bI]
  rw [hs]
  generalize hb : bSees sx sy x y = bs
  have hn0 : ¬ nI j < 0 := nI_pos (by omega)
  have hn1 : ¬ nI j = -1 := fun e => hn0 (by rw [e]; decide)
  have ge0 : ∀ z : Int32, ((0 : Int32) ≤ z) = ¬ (z < 0) := fun z => by simp
  simp only [Option.bind_some, NH_g44 D, bI_0]
  have hfi : (if bs = false then some (i 44) else if 0 ≤ i 44 then some (i 44) else some (nI j)) = some (sF sx sy x y (nI j) (i 44)) := by
    unfold sF
    rw [hb]
    simp only [ge0, h44]
    cases bs <;> by_cases c1 : i 44 = -1 <;> simp [c1]
  rw [hfi]
  have hF1 : (sF sx sy x y (nI j) (i 44) < 0) = (sF sx sy x y (nI j) (i 44) = -1) := by
    unfold sF
    split
    · simp [hn0, hn1]
    · exact h44
  generalize hf1 : sF sx sy x y (nI j) (i 44) = f1 at hF1 ⊢
  simp only [Option.bind_some, NH_p44 D, NH_r D 34 (gX12_34 _ _ _ _), NH_r D 33 (gX12_33 _ _ _ _), NH_r D 31 (gX12_31 _ _ _ _), NH_a O34, a34, NH_a O33, a33, NH_a O31, a31, upM_eq hpace, NH_g44 D, NH_g45 D, hlk]
  have u44 : upd i 44 f1 44 = f1 := by simp [upd]
  have u45 : upd i 44 f1 45 = i 45 := by simp [upd]
  rw [u44, u45]
  have hst : (if bs = false then some (0 : Int32) else if ¬ looks = 0 then (if v ≤ 0 then some 0 else (f_X12_upwards N (-x) v (NH h0 m r (upd i 44 f1) f g w)).bind fun q41 => if pUp (-y) pace < q41 then some 0 else some 1) else some 0) = some (bI (sStay looks pace sx sy x y v)) := by
    unfold sStay
    rw [hb]
    have e1 : (v ≤ 0) = ¬ (0 < v) := by simp
    by_cases c3 : 0 < v
    · rw [upM_eq c3]
      have e2 : (pUp (-y) pace < pUp (-x) v) = ¬ (pUp (-x) v ≤ pUp (-y) pace) := by simp
      cases bs <;> by_cases c1 : looks = 0 <;> by_cases c4 : pUp (-x) v ≤ pUp (-y) pace <;> simp [e1, e2, c1, c3, c4, bI]
    · cases bs <;> by_cases c1 : looks = 0 <;> simp [e1, c1, c3, bI]
  rw [hst]
  generalize hsy : sStay looks pace sx sy x y v = stay
  have hv : (if f1 < 0 then some v else if nI j < f1 + reacts then some v else if v ≤ br then some 0 else zlet (v - br) fun x54 => some x54) = some (sV reacts fl (nI j) f1 v) := by
    unfold sV zlet
    rw [← hbr]
    have e1 : (nI j < f1 + reacts) = ¬ (f1 + reacts ≤ nI j) := by simp
    simp only [hF1, e1]
    by_cases c1 : f1 = -1 <;> by_cases c2 : f1 + reacts ≤ nI j <;> by_cases c3 : v ≤ br <;> simp [c1, c2, c3]
  rw [Option.bind_some, hv]
  generalize hv1 : sV reacts fl (nI j) f1 v = vv
  have hr : rNx reacts pace looks sx sy fl (nI j) (x, y, v, i 44, i 45) = (x + vv, (if stay = true then y else y + pace), vv, f1, sSt vv (i 45) (nI j)) := by
    unfold rNx
    simp only [hf1, hv1, hsy]
  rw [hr]
  have hs45 : (if vv = 0 then if 0 ≤ i 45 then some (i 45) else some (nI j) else some (i 45)) = some (sSt vv (i 45) (nI j)) := by
    unfold sSt
    simp only [ge0, h45]
    by_cases c1 : vv = 0 <;> by_cases c2 : i 45 = -1 <;> simp [c1, c2]
  rw [Option.bind_some, hs45]
  generalize sSt vv (i 45) (nI j) = st1
  have j1 : j < 61 := by omega
  have j2 : j + 1 < 61 := by omega
  simp only [Option.bind_some, NH_p45 D, NH_r D 41 (gX12_41 _ _ _ _), NH_r D 33 (gX12_33 _ _ _ _), NH_s41 j1, NH_a O33, a33, zlet, bI_0, nI_1]
  have hy : (if stay = false then some pace else some 0) = some (if stay = true then 0 else pace) := by cases stay <;> simp
  rw [hy]
  have hy2 : y + (if stay = true then 0 else pace) = if stay = true then y else y + pace := by cases stay <;> simp
  simp only [Option.bind_some, hy2]
  generalize (if stay = true then y else y + pace) = y1
  generalize x + vv = x1
  simp only [NH_r D 39 (gX12_39 _ _ _ _), NH_r D 40 (gX12_40 _ _ _ _), NH_s39 D j2, NH_s40 D j2, Option.bind_some, NH_z43 D 0 (Or.inl rfl), NH_z43 D 1 (Or.inr rfl), withinM_eq]
  unfold rMt
  have e1 : (vv ≤ 0) = ¬ (0 < vv) := by simp
  by_cases c1 : 0 < vv <;> by_cases c2 : 0 ≤ x1 ∧ x1 ≤ 40 <;> by_cases c3 : -8 ≤ y1 ∧ y1 ≤ 8 <;> simp [e1, c1, c2, c3, bI]
