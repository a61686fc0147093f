/-! the class's methods that change what is tracked -/
def yn (C P Q : Prop) : Prop := (C → P) ∧ (¬ C → Q)
theorem yn_y {C P Q : Prop} (c : C) (p : P) : yn C P Q := ⟨fun _ => p, fun q => absurd c q⟩
theorem yn_n {C P Q : Prop} (c : ¬ C) (q : Q) : yn C P Q := ⟨fun p => absurd p c, fun _ => q⟩
def yOK (v now : Int32) : Prop := (0 ≤ v ∧ v ≤ 30) ∧ now + v ≤ 30
def vOK (v now : Int32) : Prop := 0 ≤ v ∧ v ≤ now
def mOK (v1 v2 v3 v4 v5 v6 v7 now c : Int32) : Prop := ((-9999 ≤ v2 ∧ v2 ≤ -1) ∧ (1 ≤ v3 ∧ v3 ≤ 300) ∧ (0 ≤ v4 ∧ v4 ≤ 5)) ∧ ((-999 ≤ v5 ∧ v5 ≤ -1) ∧ (1 ≤ v6 ∧ v6 ≤ 60) ∧ (0 ≤ v7 ∧ v7 ≤ 5)) ∧ (0 ≤ v1 ∧ v1 ≤ now) ∧ c < 40
def rOK (v c r : Int32) : Prop := (0 ≤ v ∧ v < c) ∧ r < 80
def voOK (v c : Int32) : Prop := (1 ≤ v ∧ v ≤ 9999) ∧ c < 8
def coOK (v1 v2 v3 v4 : Int32) : Prop := (0 ≤ v1 ∧ v1 ≤ 7) ∧ (0 ≤ v2 ∧ v2 ≤ 30) ∧ (v3 = -1 ∨ (0 ≤ v3 ∧ v3 ≤ 9999) ∧ (0 ≤ v4 ∧ v4 ≤ 99999))
def stOK (v1 v2 v3 v4 v5 v6 : Int32) : Prop := (0 ≤ v1 ∧ v1 ≤ 7) ∧ ((0 ≤ v2 ∧ v2 ≤ 7) ∧ (0 ≤ v3 ∧ v3 ≤ 7) ∧ ¬ v2 = v3) ∧ ((0 ≤ v4 ∧ v4 ≤ 999) ∧ (0 ≤ v5 ∧ v5 ≤ 999) ∧ (0 ≤ v6 ∧ v6 ≤ 999))
def trOK (v1 v2 c : Int32) : Prop := (0 ≤ v1 ∧ v1 ≤ 7) ∧ (0 ≤ v2 ∧ v2 ≤ 7) ∧ ¬ v1 = v2 ∧ c < 8
def byc (v : Int64) (v3 : Int32) : Int32 := (((v.toUInt64 >>> (v3.toInt64.toUInt64 &&& Int64.toUInt64 63)).toInt64).toInt32) &&& 255
/-- as the reference takes it -/
def byr (v : Int64) (v3 : Int32) : Int32 := ((v >>> (v3.toInt64 &&& 63)).toInt32) &&& 255
theorem bit255 : ∀ i : Nat, i < 32 → 8 ≤ i → (255 : Int32).toBitVec.getLsbD i = false := by decide
theorem by_aux (x y : Int32) (h : ∀ i, i < 8 → x.toBitVec.getLsbD i = y.toBitVec.getLsbD i) : x &&& 255 = y &&& 255 := by
  apply Int32.toBitVec_inj.mp
  rw [Int32.toBitVec_and, Int32.toBitVec_and]
  apply BitVec.eq_of_getLsbD_eq
  intro i hi
  rw [BitVec.getLsbD_and, BitVec.getLsbD_and]
  by_cases h8 : i < 8
  · rw [h i h8]
  · rw [bit255 i hi (by omega), Bool.and_false, Bool.and_false]
theorem by_sh (v : Int64) (k : Nat) (hk : k + 8 ≤ 64) (a : UInt64) (c : Int64) (ha : (a.toBitVec % 64).toNat = k) (hc : (c.toBitVec.smod 64).toNat = k) : ((v.toUInt64 >>> a).toInt64).toInt32 &&& 255 = (v >>> c).toInt32 &&& 255 := by
  apply by_aux
  intro i hi
  rw [Int64.toBitVec_toInt32, Int64.toBitVec_toInt32, UInt64.toBitVec_toInt64, UInt64.toBitVec_shiftRight, Int64.toBitVec_toUInt64, Int64.toBitVec_shiftRight, BitVec.getLsbD_signExtend, BitVec.getLsbD_signExtend, BitVec.sshiftRight_eq']
  have e1 : v.toBitVec >>> (a.toBitVec % 64) = v.toBitVec >>> k := by
    show v.toBitVec >>> (a.toBitVec % 64).toNat = _
    rw [ha]
  have e2 : decide (i < 64) = true := by simp; omega
  rw [if_pos (by omega), if_pos (by omega)]
  congr 1
  rw [e1, hc, BitVec.getLsbD_ushiftRight, BitVec.getLsbD_sshiftRight]
  have q1 : ¬ 64 ≤ i := by omega
  have q2 : k + i < 64 := by omega
  simp [q1, q2]
theorem by_eq (v : Int64) (j : Nat) (hj : j < 8) : byc v (nI (8 * j)) = byr v (nI (8 * j)) := by
  unfold byc byr
  match j, hj with
  | 0, _ => exact by_sh v 0 (by decide) _ _ (by decide) (by decide)
  | 1, _ => exact by_sh v 8 (by decide) _ _ (by decide) (by decide)
  | 2, _ => exact by_sh v 16 (by decide) _ _ (by decide) (by decide)
  | 3, _ => exact by_sh v 24 (by decide) _ _ (by decide) (by decide)
  | 4, _ => exact by_sh v 32 (by decide) _ _ (by decide) (by decide)
  | 5, _ => exact by_sh v 40 (by decide) _ _ (by decide) (by decide)
  | 6, _ => exact by_sh v 48 (by decide) _ _ (by decide) (by decide)
  | 7, _ => exact by_sh v 56 (by decide) _ _ (by decide) (by decide)
  | j + 8, hj => omega


theorem b8_id {x : Int32} (h0 : 0 ≤ x) (h1 : x ≤ 126) : x.toInt8.toInt32 = x := by
  have key : ∀ m : Fin 127, (Int32.ofNat m.1).toInt8.toInt32 = Int32.ofNat m.1 := by decide +kernel
  have q := (i32_clamp (i := x) h0 (N := 127) (by decide) (by show x < 127; lia)).2
  have e' : Int32.ofNat x.toNatClampNeg = x := i32_nI h0
  have k := key ⟨x.toNatClampNeg, q⟩
  rw [e'] at k
  exact k
theorem sh8 (j : Nat) : nI (8 * (j + 1)) - 8 = nI (8 * j) := by
  rw [show 8 * (j + 1) = 8 * j + 8 by omega, ← nI_add]
  exact Int32.add_sub_cancel _ _
theorem sh8' (x : Int32) : x + (-8) = x - 8 := by rw [Int32.sub_eq_add_neg]
/-- how many signs the tape has behind some bytes more -/
def fz (v : Int64) : Nat → Int32 → Int32
  | 0, s => s
  | j + 1, s => fz v j (if (byc v (nI (8 * j)) = 10 ∨ 32 ≤ byc v (nI (8 * j)) ∧ byc v (nI (8 * j)) ≤ 126) ∧ ¬ 1000 ≤ s then s + 1 else s)
def gF (g : zGh) (s : Int32) (f : Nat → Int32) : zGh := gsA (gset g 3 2 s) 4 f
theorem gF_s (g : zGh) (s x : Int32) (f : Nat → Int32) : gset (gF g s f) 3 2 x = gF g x f := by
  show ((gset (gset g 3 2 s) 3 2 x).1, _) = ((gset g 3 2 x).1, _)
  rw [gset_over]
  rfl
theorem gF_f (g : zGh) (s : Int32) (f f' : Nat → Int32) : gsA (gF g s f) 4 f' = gF g s f' := by
  refine Prod.ext rfl (Prod.ext ?_ rfl)
  funext p
  show (if p = 4 then f' else if p = 4 then f else _) = (if p = 4 then f' else _)
  by_cases e : p = 4 <;> simp [e]
theorem gF_id (g : zGh) : gF g (g.1 3 2) (g.2.1 4) = g := by
  unfold gF
  rw [gset_id]
  refine Prod.ext rfl (Prod.ext ?_ rfl)
  funext p
  show (if p = 4 then _ else _) = _
  by_cases e : p = 4 <;> simp [e]
section CLS
variable {n b L : Nat} {xs : Nat → Int32} {τ : Nat → Nat} {g : zGh} {h : zH}
theorem u_X11_years {v : Int32} (w : WT n b L xs τ g h) : wp (f_X11_years 10000 n v h) (fun r => yn (yOK v (g.1 0 11)) (r.1 = g.1 0 11 + v ∧ WT n b L xs τ (gset g 0 11 (g.1 0 11 + v)) r.2) (r.1 = -1 ∧ WT n b L xs τ g r.2)) := by
  unfold f_X11_years
  have r := gr_0_11 w
  refine in11 (fun c => wp_some (yn_n (fun q => c q.1) ⟨rfl, w⟩)) (fun c => ?_)
  refine wp_eq (E_0_11 w) ?_
  refine wp_ite (fun c2 => ?_) (fun c2 => wp_some (yn_n (fun q => c2 q.2) ⟨rfl, w⟩))
  refine wp_eq (E_0_11 w) ?_
  refine wp_bind (pI_0_11 w (x := g.1 0 11 + v) (by lia) c2) fun h5 w5 => ?_
  refine wp_eq (E_0_11 w5) ?_
  exact wp_some (yn_y ⟨c, c2⟩ ⟨rfl, w5⟩)
theorem u_X11_view {v : Int32} (w : WT n b L xs τ g h) : wp (f_X11_view 10000 n v h) (fun r => yn (vOK v (g.1 0 11)) (r.1 = 1 ∧ WT n b L xs τ (gset g 0 12 (if v = g.1 0 11 then -1 else v)) r.2) (r.1 = 0 ∧ WT n b L xs τ g r.2)) := by
  unfold f_X11_view
  have r := gr_0_11 w
  refine wp_eq (E_0_11 w) ?_
  refine in11 (fun c => wp_some (yn_n (fun q => c q) ⟨rfl, w⟩)) (fun c => ?_)
  refine wp_eq (E_0_11 w) ?_
  refine wp_ite (fun c2 => ?_) (fun c2 => ?_)
  · refine wp_bind (pI_0_12 w (x := -1) (by decide) (by decide)) fun h5 w5 => wp_some (yn_y c ⟨rfl, ?_⟩)
    rw [if_pos c2]
    exact w5
  · refine wp_bind (pI_0_12 w (x := v) (by lia) (by lia)) fun h5 w5 => wp_some (yn_y c ⟨rfl, ?_⟩)
    rw [if_neg c2]
    exact w5
theorem u_mOf_y {v : Int32} (w : WT n b L xs τ g h) (e1 : g.1 1 0 = g.1 0 10) (c0 : 0 ≤ v) (c1 : v < g.1 0 10) : ∃ a, f_X11_meetingOf 10000 n v h = some (some a) ∧ τ a = 1 := by
  unfold f_X11_meetingOf
  have r := gr_0_10 w
  rw [if_neg (Int32.not_lt.mpr c0), E_0_10 w]
  show ∃ a, (if g.1 0 10 ≤ v then some none else _) = _ ∧ _
  rw [if_neg (Int32.not_le.mpr c1), if_neg (by lia), gR_0_0 w]
  obtain ⟨x, e, p1, p2⟩ := aQ_1 w c0 (by lia : v < 40)
  obtain ⟨a, rfl⟩ := p2 (by rw [e1]; exact c1)
  refine ⟨a, ?_, p1 a rfl⟩
  show (aQ h (n + 1) v).bind _ = _
  rw [e]
  rfl
theorem u_mOf_n {v : Int32} (w : WT n b L xs τ g h) (c : ¬ (0 ≤ v ∧ v < g.1 0 10)) : f_X11_meetingOf 10000 n v h = some none := by
  unfold f_X11_meetingOf
  by_cases c0 : v < 0
  · rw [if_pos c0]
  · rw [if_neg c0, E_0_10 w]
    show (if g.1 0 10 ≤ v then some none else _) = _
    rw [if_pos (by lia)]
def mCell (v2 v3 v4 v5 v6 lk kd : Int32) : zE := .inr (6, [.int v2, .int v3, .int v4, .int v5, .int v6, .int lk, .int kd, .int 0, .int 0, .int 0, .int 50, .int 0, .int 0, .int 0, .int 0, .int 0])
theorem u_X6_init {v1 v2 v3 v4 v5 v6 : Int32} : wp (f_X6_init 10000 h.1.1 v1 v2 v3 v4 v5 v6 (znew h (.inr (6, [.int 0, .int 0, .int 0, .int 0, .int 0, .int 0, .int 0, .int 0, .int 0, .int 0, .int 0, .int 0, .int 0, .int 0, .int 0, .int 0])))) (fun r => ∃ lk, r = znew h (mCell v1 v2 v3 v4 v5 lk (v6 >>> (1 &&& 31)))) := by
  unfold f_X6_init
  refine wp_eq (pF_new (Nat.le_of_ble_eq_true rfl)) ?_
  refine wp_eq (pF_new (Nat.le_of_ble_eq_true rfl)) ?_
  refine wp_eq (pF_new (Nat.le_of_ble_eq_true rfl)) ?_
  refine wp_eq (pF_new (Nat.le_of_ble_eq_true rfl)) ?_
  refine wp_eq (pF_new (Nat.le_of_ble_eq_true rfl)) ?_
  refine wp_eq (pF_new (Nat.le_of_ble_eq_true rfl)) ?_
  refine wp_bind (R := fun r => r = 0 ∨ r = 1) ?_ (fun m7 p7 => ?_)
  · exact wp_ite (fun _ => wp_some (Or.inl rfl)) (fun _ => wp_some (Or.inr rfl))
  refine wp_eq (pZ_new p7 (Nat.le_of_ble_eq_true rfl)) ?_
  refine wp_eq (pF_new (Nat.le_of_ble_eq_true rfl)) ?_
  exact wp_some ⟨m7, rfl⟩
set_option maxHeartbeats 4000000 in
theorem u_X11_meeting {v1 v2 v3 v4 v5 v6 v7 : Int32} (w : WT n b L xs τ g h) (e1 : g.1 1 0 = g.1 0 10) : wp (f_X11_meeting 10000 n v1 v2 v3 v4 v5 v6 v7 h) (fun r => yn (mOK v1 v2 v3 v4 v5 v6 v7 (g.1 0 11) (g.1 0 10)) (r.1 = g.1 0 10 ∧ ∃ τ', WT n b L xs τ' (gset (gset g 1 0 (g.1 0 10 + 1)) 0 10 (g.1 0 10 + 1)) r.2) (r.1 = -1 ∧ WT n b L xs τ g r.2)) := by
  unfold f_X11_meeting
  have rr := gr_0_10 w
  refine wp_bind (R := fun r => (r = 0 ∧ ¬ ((-9999 ≤ v2 ∧ v2 ≤ -1) ∧ (1 ≤ v3 ∧ v3 ≤ 300) ∧ (0 ≤ v4 ∧ v4 ≤ 5))) ∨ (r = 1 ∧ ((-9999 ≤ v2 ∧ v2 ≤ -1) ∧ (1 ≤ v3 ∧ v3 ≤ 300) ∧ (0 ≤ v4 ∧ v4 ≤ 5)))) ?_ (fun m1 p1 => ?_)
  · refine in11 (fun c => wp_some (Or.inl ⟨rfl, fun q => c q.1⟩)) (fun c => ?_)
    refine in11 (fun c2 => wp_some (Or.inl ⟨rfl, fun q => c2 q.2.1⟩)) (fun c2 => ?_)
    exact in11 (fun c3 => wp_some (Or.inl ⟨rfl, fun q => c3 q.2.2⟩)) (fun c3 => wp_some (Or.inr ⟨rfl, c, c2, c3⟩))
  refine wp_bind (R := fun r => (r = 0 ∧ ¬ ((-999 ≤ v5 ∧ v5 ≤ -1) ∧ (1 ≤ v6 ∧ v6 ≤ 60) ∧ (0 ≤ v7 ∧ v7 ≤ 5))) ∨ (r = 1 ∧ ((-999 ≤ v5 ∧ v5 ≤ -1) ∧ (1 ≤ v6 ∧ v6 ≤ 60) ∧ (0 ≤ v7 ∧ v7 ≤ 5)))) ?_ (fun m5 p5 => ?_)
  · refine in11 (fun c => wp_some (Or.inl ⟨rfl, fun q => c q.1⟩)) (fun c => ?_)
    refine in11 (fun c2 => wp_some (Or.inl ⟨rfl, fun q => c2 q.2.1⟩)) (fun c2 => ?_)
    exact in11 (fun c3 => wp_some (Or.inl ⟨rfl, fun q => c3 q.2.2⟩)) (fun c3 => wp_some (Or.inr ⟨rfl, c, c2, c3⟩))
  refine wp_eq (E_0_11 w) ?_
  refine in11 (fun c => wp_some (yn_n (fun q => c q.2.2.1) ⟨rfl, w⟩)) (fun c => ?_)
  refine wp_ite (fun c1 => wp_some (yn_n (fun q => ?_) ⟨rfl, w⟩)) (fun c1 => ?_)
  · rcases p1 with p1 | p1
    · exact p1.2 q.1
    · rw [c1] at p1
      exact absurd p1.1 (by decide)
  have q1 := (p1.resolve_left (fun z => c1 z.1)).2
  refine wp_ite (fun c5 => wp_some (yn_n (fun q => ?_) ⟨rfl, w⟩)) (fun c5 => ?_)
  · rcases p5 with p5 | p5
    · exact p5.2 q.2.1
    · rw [c5] at p5
      exact absurd p5.1 (by decide)
  have q5 := (p5.resolve_left (fun z => c5 z.1)).2
  refine wp_eq (E_0_10 w) ?_
  refine wp_ite (fun c9 => ?_) (fun c9 => wp_some (yn_n (fun q => c9 q.2.2.2) ⟨rfl, w⟩))
  refine wp_zlet ?_
  refine wp_bind u_X6_init fun h16 p16 => ?_
  obtain ⟨lk, rfl⟩ := p16
  have big := w.big
  have t0 := τ_new w (Nat.le_refl h.1.1)
  have w2 : WT n b L xs (tu τ h.1.1 1) g (znew h (mCell v2 v3 v4 v5 v6 lk (v7 >>> (1 &&& 31)))) := by
    refine w.new.ext big (Nat.lt_succ_self _) t0 (zn_same _ _) ?_
    exact ⟨fun k => ([v2, v3, v4, v5, v6, lk, v7 >>> (1 &&& 31), 0, 0, 0, 50, 0, 0, 0, 0, 0] : List Int32).getD k 0, rfl, q1.2.1.1, q1.2.1.2, (by decide : (0 : Int32) ≤ 0), (by decide : (0 : Int32) ≤ 2), (by decide : (-1 : Int32) ≤ 0), (by decide : (0 : Int32) ≤ 60)⟩
  have t1 : tu τ h.1.1 1 h.1.1 = 1 := tu_same _ _ _
  generalize znew h (mCell v2 v3 v4 v5 v6 lk (v7 >>> (1 &&& 31))) = h2 at w2
  refine wp_eq (gR_0_1 w2) ?_
  refine wp_zif (ob_2 w2) ?_
  refine wp_bind (t_X8_settle w2 t1) fun h19 w19 => ?_
  refine wp_eq (gR_0_0 w19) ?_
  refine wp_eq (E_0_10 w19) ?_
  refine wp_bind (sQ_1 w19 rr.1 c9 t1 e1) fun h22 w22 => ?_
  refine wp_eq (E_0_10 w22) ?_
  have ee : (gset g 1 0 (g.1 0 10 + 1)).1 0 10 = g.1 0 10 := rfl
  rw [ee]
  refine wp_bind (pI_0_10 w22 (x := g.1 0 10 + 1) (by lia) (by lia)) fun h24 w24 => ?_
  refine wp_eq (E_0_10 w24) ?_
  refine wp_some (yn_y ⟨q1, q5, c, c9⟩ ⟨?_, _, w24⟩)
  show g.1 0 10 + 1 - 1 = g.1 0 10
  lia
theorem u_X0_add {v2 v3 : Int32} {a : Nat} (w : WT n b L xs τ g h) (ta : τ a = 1) (h3 : v3 = 0 ∨ v3 = 1) : wp (f_X0_add 10000 (n + 14) a v2 v3 h) (fun r => yn (g.1 14 5 < 80) (r.1 = 1 ∧ WT n b L xs τ (gset g 14 5 (g.1 14 5 + 1)) r.2) (r.1 = 0 ∧ WT n b L xs τ g r.2)) := by
  unfold f_X0_add
  have rr := gr_14_5 w
  refine wp_eq (E_14_5 w) ?_
  refine wp_ite (fun c => ?_) (fun c => wp_some (yn_n c ⟨rfl, w⟩))
  refine wp_eq (gR_14_0 w) ?_
  refine wp_eq (E_14_5 w) ?_
  refine wp_bind (sQ_15 w rr.1 c ta) fun h5 w5 => ?_
  refine wp_eq (gR_14_1 w5) ?_
  refine wp_eq (E_14_5 w5) ?_
  refine wp_bind (sI_16 w5 rr.1 c) fun h8 w8 => ?_
  refine wp_eq (gR_14_2 w8) ?_
  refine wp_eq (E_14_5 w8) ?_
  refine wp_bind (sZ_17 w8 rr.1 c h3) fun h11 w11 => ?_
  refine wp_eq (E_14_5 w11) ?_
  refine wp_bind (pI_14_5 w11 (x := g.1 14 5 + 1) (by lia) (by lia)) fun h13 w13 => wp_some (yn_y c ⟨rfl, w13⟩)
theorem u_X11_ruling {v1 v2 : Int32} (w : WT n b L xs τ g h) (e1 : g.1 1 0 = g.1 0 10) (h2 : v2 = 0 ∨ v2 = 1) : wp (f_X11_ruling 10000 n v1 v2 h) (fun r => yn (rOK v1 (g.1 0 10) (g.1 14 5)) (r.1 = 1 ∧ WT n b L xs τ (gset g 14 5 (g.1 14 5 + 1)) r.2) (r.1 = 0 ∧ WT n b L xs τ g r.2)) := by
  unfold f_X11_ruling
  refine wp_zif (ob_0 w) ?_
  by_cases c : 0 ≤ v1 ∧ v1 < g.1 0 10
  · obtain ⟨a, e, ta⟩ := u_mOf_y w e1 c.1 c.2
    refine wp_eq e ?_
    show wp (Option.bind (gR h n 11 5) _) _
    refine wp_eq (gR_0_5 w) ?_
    refine wp_eq (E_0_11 w) ?_
    refine wp_zif (ob_14 w) ?_
    refine wp_bind (u_X0_add w ta h2) fun q8 p8 => ?_
    by_cases c8 : g.1 14 5 < 80
    · have z := p8.1 c8
      rw [if_neg (by rw [z.1]; decide)]
      exact wp_some (yn_y ⟨c, c8⟩ ⟨rfl, z.2⟩)
    · have z := p8.2 c8
      rw [if_pos z.1]
      exact wp_some (yn_n (fun q => c8 q.2) ⟨rfl, z.2⟩)
  · refine wp_eq (u_mOf_n w c) ?_
    exact wp_some (yn_n (fun q => c q.1) ⟨rfl, w⟩)
theorem u_X11_voters {v : Int32} (w : WT n b L xs τ g h) : wp (f_X11_voters 10000 n v h) (fun r => yn (voOK v (g.1 25 6)) (r.1 = g.1 25 6 ∧ WT n b L xs τ (gset (gset (gset (gsA g 26 (upd (g.2.1 26) (g.1 25 6).toNatClampNeg v)) 25 5 (g.1 25 5 + v)) 25 6 (g.1 25 6 + 1)) 25 4 1) r.2) (r.1 = -1 ∧ WT n b L xs τ g r.2)) := by
  unfold f_X11_voters
  have rr := gr_25_6 w
  refine in11 (fun c => wp_some (yn_n (fun q => c q.1) ⟨rfl, w⟩)) (fun c => ?_)
  refine wp_eq (gR_0_7 w) ?_
  refine wp_zif (ob_25 w) ?_
  unfold f_X3_add
  refine wp_assoc ?_
  refine wp_eq (E_25_6 w) ?_
  refine wp_bite (fun c2 => ?_) (fun c2 => wp_bsome (wp_some (yn_n (fun q => c2 q.2) ⟨rfl, w⟩)))
  refine wp_assoc ?_
  refine wp_eq (gR_25_0 w) ?_
  refine wp_assoc ?_
  refine wp_eq (E_25_6 w) ?_
  refine wp_assoc ?_
  refine wp_bind (sI_26 w rr.1 c2) fun h5 w5 => ?_
  refine wp_assoc ?_
  refine wp_eq (E_25_5 w5) ?_
  refine wp_assoc ?_
  refine wp_bind (pI_25_5 w5 (x := g.1 25 5 + v)) fun h7 w7 => ?_
  refine wp_assoc ?_
  refine wp_eq (E_25_6 w7) ?_
  refine wp_assoc ?_
  refine wp_bind (pI_25_6 w7 (x := g.1 25 6 + 1) (by lia) (by lia)) fun h9 w9 => ?_
  refine wp_assoc ?_
  refine wp_bind (pZ_25_4 w9 (x := 1) (Or.inr rfl)) fun h10 w10 => ?_
  refine wp_assoc ?_
  refine wp_eq (E_25_6 w10) ?_
  refine wp_bsome (wp_some (yn_y ⟨c, c2⟩ ⟨?_, w10⟩))
  show g.1 25 6 + 1 - 1 = g.1 25 6
  lia
theorem u_X11_trip {v1 v2 : Int32} (w : WT n b L xs τ g h) : wp (f_X11_trip 10000 n v1 v2 h) (fun r => yn (trOK v1 v2 (g.1 33 10)) (r.1 = g.1 33 10 ∧ WT n b L xs τ (gset g 33 10 (g.1 33 10 + 1)) r.2) (r.1 = -1 ∧ WT n b L xs τ g r.2)) := by
  unfold f_X11_trip
  have rr := gr_33_10 w
  refine in11 (fun c => wp_some (yn_n (fun q => c q.1) ⟨rfl, w⟩)) (fun c => ?_)
  refine in11 (fun c2 => wp_some (yn_n (fun q => c2 q.2.1) ⟨rfl, w⟩)) (fun c2 => ?_)
  refine wp_ite (fun c3 => wp_some (yn_n (fun q => q.2.2.1 c3) ⟨rfl, w⟩)) (fun c3 => ?_)
  refine wp_eq (gR_0_9 w) ?_
  refine wp_zif (ob_33 w) ?_
  unfold f_X10_addTrip
  refine wp_assoc ?_
  refine wp_eq (E_33_10 w) ?_
  refine wp_bite (fun c4 => ?_) (fun c4 => wp_bsome (wp_some (yn_n (fun q => c4 q.2.2.2) ⟨rfl, w⟩)))
  refine wp_assoc ?_
  refine wp_eq (gR_33_2 w) ?_
  refine wp_assoc ?_
  refine wp_eq (E_33_10 w) ?_
  refine wp_assoc ?_
  refine wp_bind (sI_36 w rr.1 c4) fun h5 w5 => ?_
  refine wp_assoc ?_
  refine wp_eq (gR_33_3 w5) ?_
  refine wp_assoc ?_
  refine wp_eq (E_33_10 w5) ?_
  refine wp_assoc ?_
  refine wp_bind (sI_37 w5 rr.1 c4) fun h8 w8 => ?_
  refine wp_assoc ?_
  refine wp_eq (E_33_10 w8) ?_
  refine wp_assoc ?_
  refine wp_bind (pI_33_10 w8 (x := g.1 33 10 + 1) (by lia) (by lia)) fun h10 w10 => ?_
  refine wp_assoc ?_
  refine wp_bind (pZ_33_8 w10 (Or.inr rfl)) fun h11 w11 => ?_
  refine wp_assoc ?_
  refine wp_eq (E_33_10 w11) ?_
  refine wp_bsome (wp_some (yn_y ⟨c, c2, c3, c4⟩ ⟨?_, w11⟩))
  show g.1 33 10 + 1 - 1 = g.1 33 10
  lia
theorem u_X11_counted {v1 v2 v3 v4 : Int32} (w : WT n b L xs τ g h) : wp (f_X11_counted 10000 n v1 v2 v3 v4 h) (fun r => yn (coOK v1 v2 v3 v4) (r.1 = 1 ∧ WT n b L xs τ (gsA (gsA g 31 (upd (g.2.1 31) (v1 * 31 + v2).toNatClampNeg v3)) 32 (upd (g.2.1 32) (v1 * 31 + v2).toNatClampNeg v4)) r.2) (r.1 = 0 ∧ WT n b L xs τ g r.2)) := by
  unfold f_X11_counted
  refine wp_bind (R := fun r => (r = 0 ∧ ¬ (v3 = -1 ∨ (0 ≤ v3 ∧ v3 ≤ 9999) ∧ (0 ≤ v4 ∧ v4 ≤ 99999))) ∨ (r = 1 ∧ (v3 = -1 ∨ (0 ≤ v3 ∧ v3 ≤ 9999) ∧ (0 ≤ v4 ∧ v4 ≤ 99999)))) ?_ (fun m1 p1 => ?_)
  · refine wp_ite (fun c => wp_some (Or.inr ⟨rfl, Or.inl c⟩)) (fun c => ?_)
    refine in11 (fun c2 => wp_some (Or.inl ⟨rfl, fun q => q.elim c (fun q => c2 q.1)⟩)) (fun c2 => ?_)
    exact in11 (fun c3 => wp_some (Or.inl ⟨rfl, fun q => q.elim c (fun q => c3 q.2)⟩)) (fun c3 => wp_some (Or.inr ⟨rfl, Or.inr ⟨c2, c3⟩⟩))
  refine in11 (fun c => wp_some (yn_n (fun q => c q.1) ⟨rfl, w⟩)) (fun c => ?_)
  refine in11 (fun c2 => wp_some (yn_n (fun q => c2 q.2.1) ⟨rfl, w⟩)) (fun c2 => ?_)
  refine wp_ite (fun c1 => wp_some (yn_n (fun q => ?_) ⟨rfl, w⟩)) (fun c1 => ?_)
  · rcases p1 with p1 | p1
    · exact p1.2 q.2.2
    · rw [c1] at p1
      exact absurd p1.1 (by decide)
  have q1 := (p1.resolve_left (fun z => c1 z.1)).2
  refine wp_eq (gR_0_8 w) ?_
  refine wp_zif (ob_30 w) ?_
  unfold f_X5_write
  refine wp_bzletE fun x1 e1 => ?_
  have k0 : 0 ≤ x1 := by lia
  have k1 : x1 < 248 := by lia
  refine wp_bite (fun c5 => absurd c5 (by lia)) (fun c5 => ?_)
  refine wp_assoc ?_
  refine wp_eq (gR_30_0 w) ?_
  refine wp_assoc ?_
  refine wp_eq (aN_31 w) ?_
  refine wp_bite (fun c6 => absurd c6 (by lia)) (fun c6 => ?_)
  refine wp_assoc ?_
  refine wp_eq (gR_30_1 w) ?_
  refine wp_assoc ?_
  refine wp_eq (aN_32 w) ?_
  refine wp_bite (fun c7 => absurd c7 (by lia)) (fun c7 => ?_)
  refine wp_assoc ?_
  refine wp_eq (gR_30_0 w) ?_
  refine wp_assoc ?_
  refine wp_bind (sI_31 w k0 k1) fun h10 w10 => ?_
  refine wp_assoc ?_
  refine wp_eq (gR_30_1 w10) ?_
  refine wp_assoc ?_
  refine wp_bind (sI_32 w10 k0 k1) fun h12 w12 => ?_
  subst e1
  exact wp_bsome (wp_some (yn_y ⟨c, c2, q1⟩ ⟨rfl, w12⟩))
theorem u_X11_street {v1 v2 v3 v4 v5 v6 : Int32} (w : WT n b L xs τ g h) : wp (f_X11_street 10000 n v1 v2 v3 v4 v5 v6 h) (fun r => yn (stOK v1 v2 v3 v4 v5 v6) (r.1 = 1 ∧ ∃ x, WT n b L xs τ (gset g 33 9 x) r.2) (r.1 = 0 ∧ WT n b L xs τ g r.2)) := by
  unfold f_X11_street
  refine wp_bind (R := fun r => (r = 0 ∧ ¬ ((0 ≤ v2 ∧ v2 ≤ 7) ∧ (0 ≤ v3 ∧ v3 ≤ 7) ∧ ¬ v2 = v3)) ∨ (r = 1 ∧ ((0 ≤ v2 ∧ v2 ≤ 7) ∧ (0 ≤ v3 ∧ v3 ≤ 7) ∧ ¬ v2 = v3))) ?_ (fun m1 p1 => ?_)
  · refine in11 (fun c => wp_some (Or.inl ⟨rfl, fun q => c q.1⟩)) (fun c => ?_)
    refine in11 (fun c2 => wp_some (Or.inl ⟨rfl, fun q => c2 q.2.1⟩)) (fun c2 => ?_)
    exact wp_ite (fun c3 => wp_some (Or.inl ⟨rfl, fun q => q.2.2 c3⟩)) (fun c3 => wp_some (Or.inr ⟨rfl, c, c2, c3⟩))
  refine wp_bind (R := fun r => (r = 0 ∧ ¬ ((0 ≤ v4 ∧ v4 ≤ 999) ∧ (0 ≤ v5 ∧ v5 ≤ 999) ∧ (0 ≤ v6 ∧ v6 ≤ 999))) ∨ (r = 1 ∧ ((0 ≤ v4 ∧ v4 ≤ 999) ∧ (0 ≤ v5 ∧ v5 ≤ 999) ∧ (0 ≤ v6 ∧ v6 ≤ 999)))) ?_ (fun m5 p5 => ?_)
  · refine in11 (fun c => wp_some (Or.inl ⟨rfl, fun q => c q.1⟩)) (fun c => ?_)
    refine in11 (fun c2 => wp_some (Or.inl ⟨rfl, fun q => c2 q.2.1⟩)) (fun c2 => ?_)
    exact in11 (fun c3 => wp_some (Or.inl ⟨rfl, fun q => c3 q.2.2⟩)) (fun c3 => wp_some (Or.inr ⟨rfl, c, c2, c3⟩))
  refine in11 (fun c => wp_some (yn_n (fun q => c q.1) ⟨rfl, w⟩)) (fun c => ?_)
  refine wp_ite (fun c1 => wp_some (yn_n (fun q => ?_) ⟨rfl, w⟩)) (fun c1 => ?_)
  · rcases p1 with p1 | p1
    · exact p1.2 q.2.1
    · rw [c1] at p1
      exact absurd p1.1 (by decide)
  have q1 := (p1.resolve_left (fun z => c1 z.1)).2
  refine wp_ite (fun c5 => wp_some (yn_n (fun q => ?_) ⟨rfl, w⟩)) (fun c5 => ?_)
  · rcases p5 with p5 | p5
    · exact p5.2 q.2.2
    · rw [c5] at p5
      exact absurd p5.1 (by decide)
  have q5 := (p5.resolve_left (fun z => c5 z.1)).2
  refine wp_eq (gR_0_9 w) ?_
  refine wp_zif (ob_33 w) ?_
  refine wp_bind (R := fun r => ∃ x, WT n b L xs τ (gset g 33 9 x) r) ?_ (fun h14 p14 => ?_)
  · unfold f_X10_lay
    refine in11 (fun z => absurd c z) (fun _ => ?_)
    refine wp_eq (gR_33_0 w) ?_
    refine wp_bind (sI_34 w (by lia) (by lia)) fun h3 w3 => ?_
    refine wp_eq (gR_33_0 w3) ?_
    refine wp_bind (sI_34 w3 (by lia) (by lia)) fun h5 w5 => ?_
    refine wp_bind (gI_33_9 w5) fun x6 _ => ?_
    refine wp_bind (pI_33_9 w5) fun h7 w7 => ?_
    refine wp_bind (pZ_33_8 w7 (Or.inr rfl)) fun h8 w8 => wp_some ⟨_, w8⟩
  obtain ⟨x, w14⟩ := p14
  refine wp_eq (gR_0_9 w14) ?_
  refine wp_zif (ob_33 w14) ?_
  refine wp_bind (R := fun r => WT n b L xs τ (gset g 33 9 x) r) ?_ (fun h17 w17 => wp_some (yn_y ⟨c, q1, q5⟩ ⟨rfl, x, w17⟩))
  unfold f_X10_tellHurt
  refine in11 (fun z => absurd c z) (fun _ => ?_)
  refine wp_eq (gR_33_1 w14) ?_
  refine wp_bind (sI_35 w14 (by lia) (by lia)) fun h3 w3 => ?_
  refine wp_eq (gR_33_1 w3) ?_
  refine wp_bind (sI_35 w3 (by lia) (by lia)) fun h5 w5 => ?_
  refine wp_eq (gR_33_1 w5) ?_
  refine wp_bind (sI_35 w5 (by lia) (by lia)) fun h7 w7 => ?_
  refine wp_bind (pZ_33_8 w7 (Or.inr rfl)) fun h8 w8 => wp_some w8
end CLS
