/-! a MEETING's way: the state of the ride: x, y, v, t, first, stopped, met -/
def rL (x y v t f st mt : Int32) : zE := .inr (8, [.int x, .int y, .int v, .int t, .int f, .int st, .int mt])
def bSees (sx sy x y : Int32) : Bool := decide (x < 0) && decide (y < 0) && !(!(decide (sx = 0)) && decide (x < sx) && decide (y < sy) && decide (sx * y + sy * x ≤ x * y))
def pUp (a b : Int32) : Int32 := if 0 < b then (a + b - 1) / b else 0
theorem up_eq (N : Nat) (a b : Int32) (h : zH) : f_X11_up N a b h = some (pUp a b) := by
  unfold f_X11_up pUp zdiv
  by_cases c : 0 < b
  · have : ¬ b = 0 := fun e => by rw [e] at c; exact absurd c (by decide)
    simp [c, this]
  · simp [c]
/-- what a MEETING's cell tells: reads of its fields -/
def mIs (h : zH) (M : Nat) (x speed reacts y pace looks sx sy floor : Int32) : Prop := gI h M 6 0 = some x ∧ gI h M 6 1 = some speed ∧ gI h M 6 2 = some reacts ∧ gI h M 6 3 = some y ∧ gI h M 6 4 = some pace ∧ gI h M 6 5 = some looks ∧ gI h M 6 7 = some sx ∧ gI h M 6 8 = some sy ∧ gI h M 6 9 = some floor
theorem sees_eq {N R M : Nat} {h : zH} {x y v t f st mt : Int32} {m0 m1 m2 m3 m4 m5 sx sy fl : Int32} (hne : M ≠ R) (hM : mIs h M m0 m1 m2 m3 m4 m5 sx sy fl) :
    f_X8_sees N R M (zset h R (rL x y v t f st mt)) = some (bI (bSees sx sy x y)) := by
  obtain ⟨k0, k1, k2, k3, k4, k5, k7, k8, k9⟩ := hM
  unfold f_X8_sees rL bSees
  simp only [gI_zs, gI_zn hne, k7, k8, Option.bind_some, List.getElem?_cons_zero, List.getElem?_cons_succ, vI]
  have e1 : (sx ≤ x) = ¬ (x < sx) := by simp
  have e2 : (sy ≤ y) = ¬ (y < sy) := by simp
  have e3 : (x * y < sx * y + sy * x) = ¬ (sx * y + sy * x ≤ x * y) := by simp
  have e4 : ((0 : Int32) ≤ x) = ¬ (x < 0) := by simp
  have e5 : ((0 : Int32) ≤ y) = ¬ (y < 0) := by simp
  by_cases c1 : sx = 0 <;> by_cases c2 : x < sx <;> by_cases c3 : y < sy <;> by_cases c4 : sx * y + sy * x ≤ x * y <;> by_cases c5 : x < 0 <;> by_cases c6 : y < 0 <;> simp only [e1, e2, e3, e4, e5, c1, c2, c3, c4, c5, c6, not_true_eq_false, not_false_eq_true, if_true, if_false, Option.bind_some, decide_true, decide_false, Bool.and_true, Bool.true_and, Bool.and_false, Bool.false_and, Bool.not_true, Bool.not_false, bI_t, bI_f] <;> rfl
theorem notice_eq {N R : Nat} {h : zH} {x y v t f st mt : Int32} {b : Bool} :
    f_X8_notice N R (bI b) (zset h R (rL x y v t f st mt)) = some (zset h R (rL x y v t (if b = true ∧ f = -1 then t else f) st mt)) := by
  unfold f_X8_notice rL
  simp only [gI_zs, pF_zs, Option.bind_some, List.getElem?_cons_zero, List.getElem?_cons_succ, vI, bI_0]
  cases b
  · simp
  · by_cases c : f = -1 <;> simp [c]
/-- BRAKES are there -/
def brk (h : zH) : Prop := ∃ f : Nat → Int32, h.2 (h.1.2 0) = some (.inl (8, 3, .inl f)) ∧ f 0 = 60 ∧ f 1 = 35 ∧ f 2 = 10
def pBr (fl : Int32) : Int32 := if fl = 0 then 60 else if fl = 1 then 35 else 10
theorem brake_eq {N R : Nat} {h : zH} {x y v t f st mt fl : Int32} (hB : brk h) (hne : h.1.2 0 ≠ R) (hf : fl = 0 ∨ fl = 1 ∨ fl = 2) :
    f_X8_brake N R fl (zset h R (rL x y v t f st mt)) = some (zset h R (rL x y (if 0 < v - pBr fl then v - pBr fl else 0) t f st mt)) := by
  obtain ⟨g, e, g0, g1, g2⟩ := hB
  unfold f_X8_brake rL
  have a0 : aN h (h.1.2 0) = some 3 := aN_of e (by decide)
  have a1 : aI h (h.1.2 0) fl = some (pBr fl) := by
    rcases hf with rfl | rfl | rfl
    · rw [aI_of e (Or.inr (Or.inr rfl)) (by decide) (by decide)]; exact congrArg some g0
    · rw [aI_of e (Or.inr (Or.inr rfl)) (by decide) (by decide)]; exact congrArg some g1
    · rw [aI_of e (Or.inr (Or.inr rfl)) (by decide) (by decide)]; exact congrArg some g2
  have c1 : ¬ fl < 0 := by rcases hf with rfl | rfl | rfl <;> decide
  have c2 : ¬ (3 : Int32) ≤ fl := by rcases hf with rfl | rfl | rfl <;> decide
  simp only [zs_1, aN_zn hne, a0, aI_zn hne, a1, gI_zs, pF_zs, Option.bind_some, List.getElem?_cons_zero, List.getElem?_cons_succ, vI, c1, c2, if_false]
  simp
/-- one SECOND -/
def sX (v1 x : Int32) : Int32 := x + v1
def sF (sx sy x y t f : Int32) : Int32 := if bSees sx sy x y = true ∧ f = -1 then t else f
def sStay (looks pace sx sy x y v : Int32) : Bool := !(decide (looks = 0)) && bSees sx sy x y && decide (0 < v) && decide (pUp (-x) v ≤ pUp (-y) pace)
def sV (reacts fl t f1 v : Int32) : Int32 := if ¬ f1 = -1 ∧ f1 + reacts ≤ t then (if 0 < v - pBr fl then v - pBr fl else 0) else v
def sSt (v1 st t : Int32) : Int32 := if v1 = 0 ∧ st = -1 then t else st
def sMt (v1 x1 y1 t1 mt : Int32) : Int32 := if 0 < v1 ∧ (0 ≤ x1 ∧ x1 ≤ 40) ∧ (-8 ≤ y1 ∧ y1 ≤ 8) then t1 else mt
theorem goOn_eq {N R M : Nat} {h : zH} {x y v t f st mt : Int32} {m0 m1 reacts m3 pace looks sx sy fl : Int32} (hne : M ≠ R) (hM : mIs h M m0 m1 reacts m3 pace looks sx sy fl) (hB : brk h) (hnb : h.1.2 0 ≠ R) (hf : fl = 0 ∨ fl = 1 ∨ fl = 2) :
    f_X8_goOn N R M (zset h R (rL x y v t f st mt)) = some (zset h R (rL (x + sV reacts fl t (sF sx sy x y t f) v) (if sStay looks pace sx sy x y v = true then y else y + pace) (sV reacts fl t (sF sx sy x y t f) v) (t + 1) (sF sx sy x y t f) (sSt (sV reacts fl t (sF sx sy x y t f) v) st t) (sMt (sV reacts fl t (sF sx sy x y t f) v) (x + sV reacts fl t (sF sx sy x y t f) v) (if sStay looks pace sx sy x y v = true then y else y + pace) (t + 1) mt))) := by
  have hM0 := hM
  obtain ⟨k0, k1, k2, k3, k4, k5, k7, k8, k9⟩ := hM
  unfold f_X8_goOn
  have zz : ∀ a b c d e g i : Int32, zob (zset h R (rL a b c d e g i)) R 8 = true := fun _ _ _ _ _ _ _ => zob_zs _ _ _ _
  have r0 : ∀ a b c d e g i : Int32, gI (zset h R (rL a b c d e g i)) R 8 0 = some a := fun _ _ _ _ _ _ _ => by unfold rL; rw [gI_zs]; rfl
  have r1 : ∀ a b c d e g i : Int32, gI (zset h R (rL a b c d e g i)) R 8 1 = some b := fun _ _ _ _ _ _ _ => by unfold rL; rw [gI_zs]; rfl
  have r2 : ∀ a b c d e g i : Int32, gI (zset h R (rL a b c d e g i)) R 8 2 = some c := fun _ _ _ _ _ _ _ => by unfold rL; rw [gI_zs]; rfl
  have r3 : ∀ a b c d e g i : Int32, gI (zset h R (rL a b c d e g i)) R 8 3 = some d := fun _ _ _ _ _ _ _ => by unfold rL; rw [gI_zs]; rfl
  have r4 : ∀ a b c d e g i : Int32, gI (zset h R (rL a b c d e g i)) R 8 4 = some e := fun _ _ _ _ _ _ _ => by unfold rL; rw [gI_zs]; rfl
  have r5 : ∀ a b c d e g i : Int32, gI (zset h R (rL a b c d e g i)) R 8 5 = some g := fun _ _ _ _ _ _ _ => by unfold rL; rw [gI_zs]; rfl
  have w0 : ∀ a b c d e g i z : Int32, pF (zset h R (rL a b c d e g i)) R 8 0 (.int z) = some (zset h R (rL z b c d e g i)) := fun _ _ _ _ _ _ _ _ => by unfold rL; rw [pF_zs]; rfl
  have w1 : ∀ a b c d e g i z : Int32, pF (zset h R (rL a b c d e g i)) R 8 1 (.int z) = some (zset h R (rL a z c d e g i)) := fun _ _ _ _ _ _ _ _ => by unfold rL; rw [pF_zs]; rfl
  have w3 : ∀ a b c d e g i z : Int32, pF (zset h R (rL a b c d e g i)) R 8 3 (.int z) = some (zset h R (rL a b c z e g i)) := fun _ _ _ _ _ _ _ _ => by unfold rL; rw [pF_zs]; rfl
  have w5 : ∀ a b c d e g i z : Int32, pF (zset h R (rL a b c d e g i)) R 8 5 (.int z) = some (zset h R (rL a b c d e z i)) := fun _ _ _ _ _ _ _ _ => by unfold rL; rw [pF_zs]; rfl
  have w6 : ∀ a b c d e g i z : Int32, pF (zset h R (rL a b c d e g i)) R 8 6 (.int z) = some (zset h R (rL a b c d e g z)) := fun _ _ _ _ _ _ _ _ => by unfold rL; rw [pF_zs]; rfl
  simp only [zz, zif_t, sees_eq hne hM0, notice_eq, Option.bind_some, gI_zn hne, k2, k4, k5, k9, r0, r1, r2, r3, r4, r5, up_eq, bI_0, within_eq]
  rw [show (if bSees sx sy x y = true ∧ f = -1 then t else f) = sF sx sy x y t f from rfl]
  generalize hF : sF sx sy x y t f = f1
  have hst : (if looks = 0 then some (0 : Int32) else if bSees sx sy x y = false then some 0 else if v ≤ 0 then some 0 else if pUp (-y) pace < pUp (-x) v then some 0 else some 1) = some (bI (sStay looks pace sx sy x y v)) := by
    unfold sStay
    have e1 : (v ≤ 0) = ¬ (0 < v) := by simp
    have e2 : (pUp (-y) pace < pUp (-x) v) = ¬ (pUp (-x) v ≤ pUp (-y) pace) := by simp
    cases bSees sx sy x y <;> by_cases c1 : looks = 0 <;> by_cases c3 : 0 < v <;> by_cases c4 : pUp (-x) v ≤ pUp (-y) pace <;> simp [e1, e2, c1, c3, c4, bI]
  rw [hst]
  generalize hS : sStay looks pace sx sy x y v = stay
  have hv : (if f1 = -1 then some (zset h R (rL x y v t f1 st mt)) else if t < f1 + reacts then some (zset h R (rL x y v t f1 st mt)) else (f_X8_brake N R fl (zset h R (rL x y v t f1 st mt))).bind fun h27 => some h27) = some (zset h R (rL x y (sV reacts fl t f1 v) t f1 st mt)) := by
    rw [brake_eq hB hnb hf]
    unfold sV
    have e1 : (t < f1 + reacts) = ¬ (f1 + reacts ≤ t) := by simp
    by_cases c1 : f1 = -1 <;> by_cases c2 : f1 + reacts ≤ t <;> simp [e1, c1, c2]
  rw [Option.bind_some, hv]
  generalize sV reacts fl t f1 v = v1
  simp only [Option.bind_some, r2, r5, r3, w5]
  have hs : (if v1 = 0 then (if st = -1 then some (zset h R (rL x y v1 t f1 t mt)) else some (zset h R (rL x y v1 t f1 st mt))) else some (zset h R (rL x y v1 t f1 st mt))) = some (zset h R (rL x y v1 t f1 (sSt v1 st t) mt)) := by
    unfold sSt
    by_cases c1 : v1 = 0 <;> by_cases c2 : st = -1 <;> simp [c1, c2]
  rw [hs]
  generalize sSt v1 st t = st1
  simp only [Option.bind_some, r0, r1, r2, r3, w0, w1, gI_zn hne, k4, bI_0]
  have hy : (if stay = false then some (zset h R (rL (x + v1) (y + pace) v1 t f1 st1 mt)) else some (zset h R (rL (x + v1) y v1 t f1 st1 mt))) = some (zset h R (rL (x + v1) (if stay = true then y else y + pace) v1 t f1 st1 mt)) := by
    cases stay <;> simp
  rw [hy]
  generalize (if stay = true then y else y + pace) = y1
  simp only [Option.bind_some, r0, r1, r2, r3, w3, w6]
  generalize x + v1 = x1
  unfold sMt
  have e1 : (v1 ≤ 0) = ¬ (0 < v1) := by simp
  by_cases c1 : 0 < v1 <;> by_cases c2 : 0 ≤ x1 ∧ x1 ≤ 40 <;> by_cases c3 : -8 ≤ y1 ∧ y1 ≤ 8 <;> simp [e1, c1, c2, c3]
